/-! more questions -/
section Ask2
variable {σ τ σ' τ' υ φ : mm_M} {t : Nat → Nat} {n : Nat} {l : Ln} {many : Nat} {cs : Nat → Int32} {w K : Nat} {b : List (Nat × Nat)} {d : Nat} {R S : Option mm_R}
/-- a joke or a person alone -/
theorem op_g1 {gC gM mc mr : Nat} {cnt : Ln → Nat} {x : Int32} {asc asm : List Value} {f g : mm_M → Option mm_R} {A : Int32 → mm_M → Option mm_R}
    (hgc : ∀ σ l many cs, CX σ l many cs → LnOK l → (inN x (cnt l) → ev (d + 29) gC [.ref 0, .int x] σ = some (.inl uv, σ)) ∧ (¬ inN x (cnt l) → ev (d + 29) gC [.ref 0, .int x] σ = some (.inr 1, exC σ 1)))
    (hgm : ∀ σ l many cs [Decidable (inN x (cnt l))], MX σ l many cs → LnOK l → ev (d + 30) gM [.ref 53, .int x] σ = some (.inl (.int (i01 (inN x (cnt l)))), σ))
    (hc : ∀ σ, Sh σ → ev (d + 30) mc asc σ = cV (ev (d + 29) gC [.ref 0, .int x] σ) f)
    (hm : ∀ σ, Sh σ → ev (d + 31) mr asm σ = sI σ 12 53 0 0 fun σ1 => cI (ev (d + 30) gM [.ref 53, .int x] σ1) fun r3 σ2 => if r3 = 0 then A 1 σ2 else A 0 σ2)
    (hA : ∀ c σ, A c σ = cI (ev (d + 30) 165 [.ref 53, .int c, .int 1, .int 0] σ) fun r2 σ1 => if r2 = 0 then g σ1 else some (Sum.inl (Value.int (nar 0 0)), σ1))
    (H : ∀ σ τ t n l many cs w K b, B2 σ τ t n l many cs w K b → ∀ p, p < cnt l → x = nI p → Two σ τ (f σ) (g τ)) : OpQ (d + 30) mc asc (d + 31) mr asm [(1, 1)] := by
  intro σ t n l many cs w K b h
  have hw := h.1
  haveI := Classical.propDecidable (inN x (cnt l))
  obtain ⟨c1, c2⟩ := hgc σ l many cs hw.cx hw.ok.1
  rw [hc σ hw.sh]
  by_cases q1 : inN x (cnt l)
  · left
    rw [c1 q1, cV_ok]
    refine two_q h (fun τ g' s => ?_)
    have g2 := g'.th
    obtain ⟨p, hp, ep⟩ := q1
    have bb : B2 σ (wI τ 53 0 0) t n l many cs w K b := ⟨h, g2, s.th, th0 τ⟩
    rw [hm τ g'.1.sh, xs_53 g'.1.sh, hgm _ l many cs g2.1.mx g2.1.ok.1, cI_ok, i01_p (show inN x (cnt l) from ⟨p, hp, ep⟩), if_neg (by decide), hA, m_bad0 g2.1.sh (th0 τ), cI_ok, if_pos rfl]
    exact (H σ _ t n l many cs w K b bb p hp ep).after (Ag.refl _ _) (AgM.th τ)
  · right
    rw [c2 q1]
    refine ⟨1, 1, σ, Or.inl rfl, rfl, by decide, Ag.refl _ _, rfl, fun τ g' => ?_⟩
    have g2 := g'.th
    rw [hm τ g'.sh, xs_53 g'.sh, hgm _ l many cs g2.mx g2.ok.1, cI_ok, i01_n q1, if_pos rfl, hA, m_bx0 g'.sh (by decide), cI_ok, if_neg (by decide), nar0]
/-- a number up to M alone -/
theorem op_r1 {mc mr M : Nat} {x : Int32} {asc asm : List Value} {f g : mm_M → Option mm_R} {A : Int32 → mm_M → Option mm_R} (hM : M < 1000)
    (hc : ∀ σ, Sh σ → ev (d + 30) mc asc σ = cI (ev (d + 29) 155 [.ref 0, .int x, .int 0, .int (nI M)] σ) fun _ σ2 => f σ2)
    (hm : ∀ σ, Sh σ → ev (d + 31) mr asm σ = sI σ 12 53 0 0 fun σ1 => cI1 (ev (d + 30) 166 [.int x, .int 0, .int (nI M)] σ1) fun r3 σ2 => if r3 = 0 then A 1 σ2 else A 0 σ2)
    (hA : ∀ c σ, A c σ = cI (ev (d + 30) 165 [.ref 53, .int c, .int 1, .int 1] σ) fun r2 σ1 => if r2 = 0 then g σ1 else some (Sum.inl (Value.int (nar 0 0)), σ1))
    (H : ∀ σ τ t n l many cs w K b, B2 σ τ t n l many cs w K b → ∀ k, k ≤ M → x = nI k → Two σ τ (f σ) (g τ)) : OpQ (d + 30) mc asc (d + 31) mr asm [(2, 1)] := by
  intro σ t n l many cs w K b h
  have hw := h.1
  obtain ⟨c3, c4⟩ := c_needR (d := d + 29) hw.sh x (m := M) (by omega)
  have mi : ∀ τ : mm_M, ev (d + 30) 166 [.int x, .int 0, .int (nI M)] τ = some (.inl (.int (@i01 (inN x (M + 1)) (Classical.propDecidable _))), τ) := fun τ => by
    rw [m_in, @i01_if _ (inN x (M + 1)) _ (Classical.propDecidable _) (inN_r (by omega))]
  rw [hc σ hw.sh]
  by_cases q2 : inN x (M + 1)
  · left
    rw [c3 q2, cI_ok]
    refine two_q h (fun τ g' s => ?_)
    have g2 := g'.th
    obtain ⟨k, hk, ek⟩ := q2
    have bb : B2 σ (wI τ 53 0 0) t n l many cs w K b := ⟨h, g2, s.th, th0 τ⟩
    rw [hm τ g'.1.sh, xs_53 g'.1.sh, mi, cI1_ok, @i01_p _ (Classical.propDecidable _) (show inN x (M + 1) from ⟨k, hk, ek⟩), if_neg (by decide), hA, m_bad0 g2.1.sh (th0 τ), cI_ok, if_pos rfl]
    exact (H σ _ t n l many cs w K b bb k (by omega) ek).after (Ag.refl _ _) (AgM.th τ)
  · right
    rw [c4 q2]
    refine ⟨2, 1, σ, Or.inr rfl, rfl, by decide, Ag.refl _ _, rfl, fun τ g' => ?_⟩
    have g2 := g'.th
    rw [hm τ g'.sh, xs_53 g'.sh, mi, cI1_ok, @i01_n _ (Classical.propDecidable _) q2, if_pos rfl, hA, m_bx1 g'.sh (by decide), cI_ok, if_neg (by decide), nar0]
/-- no guard -/
theorem op_n {mc mr : Nat} {asc asm : List Value} {g : mm_M → Option mm_R} (hm : ∀ σ, Sh σ → ev (d + 31) mr asm σ = sI σ 12 53 0 0 g)
    (H : ∀ σ τ t n l many cs w K b, B2 σ τ t n l many cs w K b → Two σ τ (ev (d + 31) mc asc σ) (g τ)) : OpN (d + 31) mc asc (d + 31) mr asm := by
  refine opn (fun σ t n l many cs w K b h => two_q h (fun τ g' s => ?_))
  rw [hm τ g'.1.sh, xs_53 g'.1.sh]
  exact (H σ _ t n l many cs w K b ⟨h, g'.th, s.th, th0 τ⟩).after (Ag.refl _ _) (AgM.th τ)
/-- the counts of the land, on both sides -/
theorem B2.p (h : B2 σ τ t n l many cs w K b) (k : Int32 → Option mm_R) (k' : Int32 → Option mm_R) : (gR σ 0 0 1 fun r1 => gR σ 2 r1 1 fun r2 => gI σ 3 r2 7 k) = k (nI (nP l)) ∧ (gR τ 12 53 12 fun r1 => aI τ r1 0 k') = k' (nI (nP l)) := by
  have hw := h.1.1
  have hg := h.2.1.1
  exact ⟨by rw [xr_0_1 hw.sh, xr_3_1 hw.sh, xg_ld hw.sh hw.sh.ld, hw.cx.2.1.1.1], by rw [xr_53_12 hg.sh, show (0 : Int32) = nI 0 from rfl, xa_57 hg.sh (by decide), hg.mx.2.1.1.1]⟩
theorem B2.j (h : B2 σ τ t n l many cs w K b) (k : Int32 → Option mm_R) (k' : Int32 → Option mm_R) : (gR σ 0 0 1 fun r1 => gR σ 2 r1 1 fun r2 => gI σ 3 r2 8 k) = k (nI (nJ l)) ∧ (gR τ 12 53 12 fun r1 => aI τ r1 1 k') = k' (nI (nJ l)) := by
  have hw := h.1.1
  have hg := h.2.1.1
  exact ⟨by rw [xr_0_1 hw.sh, xr_3_1 hw.sh, xg_ld hw.sh hw.sh.ld, hw.cx.2.1.1.2.1], by rw [xr_53_12 hg.sh, show (1 : Int32) = nI 1 from rfl, xa_57 hg.sh (by decide), hg.mx.2.1.1.2.1]⟩
theorem or_0 (x : Int32) : x ||| 0 = x := i_or0 x
theorem solemn_loop {j : Nat} (hj : j < nJ l) : ∀ m p x2 σ τ, B2 σ τ t n l many cs w K b → nP l - p = m → p ≤ nP l →
    Two σ τ (rn (d + 30) 145 9 [.ref 0, .int (nI j), .int x2, .int (nI p)] [] σ) (rn (d + 31) 262 33 [.ref 53, .int (nI j), .int x2, .int (nI p)] [] τ)
  | 0, p, x2, σ, τ, h, hm, hp => by
    have hP := h.1.1.ok.1.1
    rw [e_W_solemn_9, (h.p _ (fun _ => none)).1, if_pos (nI_le (by omega) (by omega)), e_M_solemn_33, (h.p (fun _ => none) _).2, if_pos (nI_le (by omega) (by omega)), nar0]
    exact Two.ok h.2.2.2 _
  | m + 1, p, x2, σ, τ, h, hm, hp => by
    have hP := h.1.1.ok.1.1
    have hw := h.1.1
    have hg := h.2.1.1
    obtain ⟨v, σ', τ', r1, r2, r3, r4, r5⟩ := b2_laugh (dc := d + 26) (dm := d + 25) h hj (p := p) (by omega)
    rw [e_W_solemn_9, (h.p _ (fun _ => none)).1, if_neg (nI_ge (by omega) (by omega)), xr_0_1 hw.sh, xr_0_3 hw.sh, r1, cI1_ok, e_M_solemn_33, (h.p (fun _ => none) _).2, if_neg (nI_ge (by omega) (by omega)), xr_53_29 hg.sh, r2, cI_ok]
    by_cases q : v = 0
    · rw [if_pos q, if_pos q, e_W_solemn_45, e_M_solemn_64, nI_1]
      exact (solemn_loop hj m (p + 1) _ σ' τ' r5 (by omega) (by omega)).after r3 r4
    · rw [if_neg q, if_neg q, e_W_solemn_45, e_M_solemn_64, nI_1, or_0]
      exact (solemn_loop hj m (p + 1) _ σ' τ' r5 (by omega) (by omega)).after r3 r4
theorem op_solemn (x : Int32) : OpQ (d + 30) 145 [.ref 0, .int x] (d + 31) 262 [.ref 53, .int x] [(1, 1)] :=
  op_g1 (cnt := nJ) (A := fun c σ => rn (d + 31) 262 19 [.ref 53, .int x, uv, uv] [.int c, .ref 53] σ)
    (fun σ l many cs h ok => c_needJ h ok x) (fun σ l many cs _ h ok => m_isJ h ok x) (fun σ h => e_W_solemn (d + 29) 0 x σ (by rw [k_0 h])) (fun σ h => e_M_solemn (d + 30) 53 x σ (by rw [k_53 h])) (fun c σ => e_M_solemn_19 (d + 30) 53 x c 53 σ)
    (fun σ τ t n l many cs w K b h p hp ex => by subst ex; exact solemn_loop hp _ 0 _ σ τ h rfl (Nat.zero_le _))
/-- thirst of p, on both sides -/
theorem B2.th (h : B2 σ τ t n l many cs w K b) {p : Nat} (hp : p < 7) : mI σ 22 (10 + p) = mI τ 533 (7 + p) ∧ mI σ 22 (3 + p) = mI τ 533 p ∧ mI σ 22 (17 + p) = mI τ 533 (21 + p) ∧ mI σ 22 (24 + p) = mI τ 533 (28 + p) := by
  have := h.1.1.row.1.1.2.2.1 p hp
  rw [h.r]
  exact ⟨this.2.1, this.1, this.2.2.1, this.2.2.2⟩
theorem driest_loop (x : Int32) : ∀ m p x2 x3 σ τ, B2 σ τ t n l many cs w K b → nP l - p = m → p ≤ nP l →
    Two σ τ (rn (d + 30) 146 15 [.ref 0, .int x, .int x2, .int x3, .int (nI p)] [] σ) (rn (d + 31) 263 37 [.ref 53, .int x, .int x2, .int x3, .int (nI p)] [] τ)
  | 0, p, x2, x3, σ, τ, h, hm, hp => by
    have hP := h.1.1.ok.1.1
    rw [e_W_driest_15, (h.p _ (fun _ => none)).1, if_pos (nI_le (by omega) (by omega)), e_M_driest_37, (h.p (fun _ => none) _).2, if_pos (nI_le (by omega) (by omega))]
    by_cases q : x = 0
    · rw [if_pos q, if_pos q, e_W_driest_71, e_M_driest_94, e_W_driest_76, e_M_driest_99, nar0]; exact Two.ok h.2.2.2 _
    · rw [if_neg q, if_neg q]
      by_cases q2 : x2 = -1
      · rw [if_pos q2, if_pos q2, e_W_driest_71, e_M_driest_94, e_W_driest_76, e_M_driest_99, nar0]; exact Two.ok h.2.2.2 _
      · rw [if_neg q2, if_neg q2, e_W_driest_76, e_M_driest_99, nar0]; exact Two.ok h.2.2.2 _
  | m + 1, p, x2, x3, σ, τ, h, hm, hp => by
    have hP := h.1.1.ok.1.1
    have hw := h.1.1
    have hg := h.2.1.1
    have th := (h.th (p := p) (by omega)).1
    rw [e_W_driest_15, (h.p _ (fun _ => none)).1, if_neg (nI_ge (by omega) (by omega)), xr_0_3 hw.sh, c_thirstOf hw.sh da21 (by omega), cI1_ok, show mI σ (21 + 1) = mI σ 22 from rfl, th, e_M_driest_37, (h.p (fun _ => none) _).2, if_neg (nI_ge (by omega) (by omega)), xr_53_29 hg.sh, show (7 : Int32) + nI p = nI (7 + p) from nI_add 7 p, xa_533 hg.sh (by omega)]
    by_cases q : mI τ 533 (7 + p) ≤ x3
    · rw [if_pos q, if_neg (fun z => i_lt_nle z q), e_W_driest_56, e_M_driest_79, nI_1]
      exact driest_loop x m (p + 1) _ _ σ τ h (by omega) (by omega)
    · rw [if_neg q, if_pos (by rw [← Int32.not_le]; exact q), xr_0_3 hw.sh, c_thirstOf hw.sh da21 (by omega), cI1_ok, show mI σ (21 + 1) = mI σ 22 from rfl, th, xr_53_29 hg.sh, xa_533 hg.sh (by omega), e_W_driest_56, e_M_driest_79, nI_1]
      exact driest_loop x m (p + 1) _ _ σ τ h (by omega) (by omega)
theorem op_driest (x : Int32) : OpQ (d + 30) 146 [.ref 0, .int x] (d + 31) 263 [.ref 53, .int x] [(2, 1)] :=
  op_r1 (M := 1) (A := fun c σ => rn (d + 31) 263 20 [.ref 53, .int x, uv, uv, uv] [.int c, .ref 53] σ) (by decide)
    (fun σ h => e_W_driest (d + 29) 0 x σ (by rw [k_0 h])) (fun σ h => e_M_driest (d + 30) 53 x σ (by rw [k_53 h])) (fun c σ => e_M_driest_20 (d + 30) 53 x c 53 σ)
    (fun σ τ t n l many cs w K b h k hk ex => driest_loop x _ 0 _ _ σ τ h rfl (Nat.zero_le _))
end Ask2
