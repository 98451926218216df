/-! both sides, step by step -/
def B2 (σ τ : mm_M) (t : Nat → Nat) (n : Nat) (l : Ln) (many : Nat) (cs : Nat → Int32) (w K : Nat) (b : List (Nat × Nat)) : Prop := Iv σ t n l many cs w K b ∧ Iv τ t n l many cs w K b ∧ Same σ τ ∧ mI τ 53 0 = 0
def Two (σ τ : mm_M) (R S : Option mm_R) : Prop := ∃ v υ φ, R = some (.inl (.int v), υ) ∧ S = some (.inl (.int v), φ) ∧ Ag qc σ υ ∧ AgM qm qF τ φ ∧ mI φ 53 0 = 0
section TwoV
variable {σ τ σ' τ' υ φ : mm_M} {t : Nat → Nat} {n : Nat} {l : Ln} {many : Nat} {cs : Nat → Int32} {w K : Nat} {b : List (Nat × Nat)} {d : Nat} {R S : Option mm_R}
theorem Two.after (a : Ag qc σ σ') (c : AgM qm qF τ τ') (h : Two σ' τ' R S) : Two σ τ R S := by
  obtain ⟨v, υ, φ, h1, h2, h3, h4, h5⟩ := h
  exact ⟨v, υ, φ, h1, h2, a.trans h3, c.trans h4, h5⟩
theorem Two.ok (e0 : mI τ 53 0 = 0) (v : Int32) : Two σ τ (some (.inl (.int v), σ)) (some (.inl (.int v), τ)) := ⟨v, σ, τ, rfl, rfl, Ag.refl _ _, AgM.refl _ _ _, e0⟩
theorem Same.go (s : Same σ τ) (a : Ag qc σ σ') (c : AgM qm qF τ τ') : Same σ' τ' := by
  refine ⟨fun x f => ?_, ?_, fun i hi => ?_, ?_⟩
  · rw [a.at (fun q => q.1 f), c.at (fun e => by rw [e] at f; unfold fpI fxC at f; omega) (fun q => q.1 f)]; exact s.1 x f
  · rw [a.at (fun q => by have := q.2.2; omega), c.at (by decide) (fun q => q.2.1 rfl)]; exact s.2.1
  · rw [a.at (fun q => by have := q.2.2; omega), c.f (fun q => by rcases hi with hi | hi; exact q.1 hi; exact q.2 hi)]; exact s.2.2.1 i hi
  · rw [a.at (fun q => q.2.1 rfl), c.at (by decide) (fun q => by have := q.2.2.1; omega)]; exact s.2.2.2
theorem B2.go (h : B2 σ τ t n l many cs w K b) (a : Ag qc σ σ') (c : AgM qm qF τ τ') (e : mI τ' 53 0 = 0) : B2 σ' τ' t n l many cs w K b := ⟨h.1.qc a, h.2.1.qm c, h.2.2.1.go a c, e⟩
theorem two_q {f : mm_M → Option mm_R} (h : Iv σ t n l many cs w K b) (q : ∀ τ, Iv τ t n l many cs w K b → Same σ τ → Two σ τ R (f τ)) : ∃ v, CQu σ R v ∧ ∀ τ, Iv τ t n l many cs w K b → Same σ τ → MQu τ (f τ) v := by
  obtain ⟨v, υ, φ, h1, h2, h3, h4, h5⟩ := q σ h ⟨fun _ _ => rfl, rfl, fun _ _ => rfl, rfl⟩
  refine ⟨v, ⟨υ, h1, h3⟩, fun τ g s => ?_⟩
  obtain ⟨v', υ', φ', g1, g2, g3, g4, g5⟩ := q τ g s
  rw [h1] at g1
  cases g1
  exact ⟨φ', g2, g4, g5⟩
theorem B2.r (h : B2 σ τ t n l many cs w K b) : mI τ 533 = mI σ 533 := h.2.2.1.1 533 f533
theorem b2_laugh {dc dm : Nat} (h : B2 σ τ t n l many cs w K b) {j p : Nat} (hj : j < nJ l) (hp : p < nP l) : ∃ v σ' τ', ev (dc + 3) 72 [.ref 3, .ref 21, .int (nI j), .int (nI p)] σ = some (.inl (.int v), σ') ∧ ev (dm + 5) 214 [.ref 53, .ref 533, .int (nI j), .int (nI p)] τ = some (.inl (.int v), τ') ∧ Ag qc σ σ' ∧ AgM qm qF τ τ' ∧ B2 σ' τ' t n l many cs w K b := by
  have hw := h.1.1
  have g := h.2.1.1
  obtain ⟨υ, c1, c2⟩ := c_laughOf (d := dc) hw.sh hw.cx.2.1 hw.ok.1 hw.ok.2 hw.cx.2.2 da21 hw.row.1 hw.row.2 hj hp
  obtain ⟨φ, c3, c4⟩ := m_laughOf (d := dm) g.sh g.mx.2.1 g.ok.1 g.ok.2 g.mx.2.2 rw533 hj hp
  rw [h.r] at c3
  have a := c2.mono sc_qc
  have c : AgM qm qF τ φ := AgM.of c4 sc_qm (by unfold scM; omega)
  exact ⟨_, υ, φ, c1, c3, a, c, h.go a c (by rw [c4.at (by unfold scM; omega)]; exact h.2.2.2)⟩
/-- a joke or a person, then a number up to M -/
theorem op_gr {gC gM mc mr M : Nat} {cnt : Ln → Nat} {x y : Int32} {f g : mm_M → Option mm_R} {A B : Int32 → mm_M → Option mm_R} {Z : mm_M → Option mm_R} (hM : M < 1000)
    (hgc : ∀ σ l many cs, CX σ l many cs → LnOK l → (inN x (cnt l) → ev (d + 29) gC [.ref 0, .int x] σ = some (.inl uv, σ)) ∧ (¬ inN x (cnt l) → ev (d + 29) gC [.ref 0, .int x] σ = some (.inr 1, exC σ 1)))
    (hgm : ∀ σ l many cs [Decidable (inN x (cnt l))], MX σ l many cs → LnOK l → ev (d + 30) gM [.ref 53, .int x] σ = some (.inl (.int (i01 (inN x (cnt l)))), σ))
    (hc : ∀ σ, Sh σ → ev (d + 30) mc [.ref 0, .int x, .int y] σ = cV (ev (d + 29) gC [.ref 0, .int x] σ) fun σ1 => cI (ev (d + 29) 155 [.ref 0, .int y, .int 0, .int (nI M)] σ1) fun _ σ2 => f σ2)
    (hm : ∀ σ, Sh σ → ev (d + 31) mr [.ref 53, .int x, .int y] σ = sI σ 12 53 0 0 fun σ1 => cI (ev (d + 30) gM [.ref 53, .int x] σ1) fun r3 σ2 => if r3 = 0 then A 1 σ2 else A 0 σ2)
    (hA : ∀ c σ, A c σ = cI (ev (d + 30) 165 [.ref 53, .int c, .int 1, .int 0] σ) fun r2 σ1 => if r2 = 0 then cI1 (ev (d + 30) 166 [.int y, .int 0, .int (nI M)] σ1) fun r4 σ3 => if r4 = 0 then B 1 σ3 else B 0 σ3 else Z σ1)
    (hB : ∀ c σ, B c σ = cI (ev (d + 30) 165 [.ref 53, .int c, .int 2, .int 1] σ) fun r2 σ1 => if r2 = 0 then g σ1 else Z σ1)
    (hZ : ∀ σ, Z σ = some (.inl (.int 0), σ))
    (H : ∀ σ τ t n l many cs w K b, B2 σ τ t n l many cs w K b → ∀ p k, p < cnt l → k ≤ M → x = nI p → y = nI k → Two σ τ (f σ) (g τ)) : OpQ (d + 30) mc [.ref 0, .int x, .int y] (d + 31) mr [.ref 53, .int x, .int y] [(1, 1), (2, 2)] := by
  intro σ t n l many cs w K b h
  have hw := h.1
  haveI := Classical.propDecidable (inN x (cnt l))
  obtain ⟨c1, c2⟩ := hgc σ l many cs hw.cx hw.ok.1
  obtain ⟨c3, c4⟩ := c_needR (d := d + 29) hw.sh y (m := M) (by omega)
  have mi : ∀ τ : mm_M, ev (d + 30) 166 [.int y, .int 0, .int (nI M)] τ = some (.inl (.int (@i01 (inN y (M + 1)) (Classical.propDecidable _))), τ) := fun τ => by
    rw [m_in, @i01_if _ (inN y (M + 1)) _ (Classical.propDecidable _) (inN_r (by omega))]
  rw [hc σ hw.sh]
  by_cases q1 : inN x (cnt l)
  · rw [c1 q1, cV_ok]
    by_cases q2 : inN y (M + 1)
    · left
      rw [c3 q2, cI_ok]
      refine two_q h (fun τ g' s => ?_)
      have g2 := g'.th
      obtain ⟨p, hp, ep⟩ := q1
      obtain ⟨k, hk, ek⟩ := q2
      have bb : B2 σ (wI τ 53 0 0) t n l many cs w K b := ⟨h, g2, s.th, th0 τ⟩
      rw [hm τ g'.1.sh, xs_53 g'.1.sh, hgm _ l many cs g2.1.mx g2.1.ok.1, cI_ok, i01_p (show inN x (cnt l) from ⟨p, hp, ep⟩), if_neg (by decide), hA, m_bad0 g2.1.sh (th0 τ), cI_ok, if_pos rfl, mi, cI1_ok, @i01_p _ (Classical.propDecidable _) (show inN y (M + 1) from ⟨k, hk, ek⟩), if_neg (by decide), hB, m_bad0 g2.1.sh (th0 τ), cI_ok, if_pos rfl]
      exact (H σ _ t n l many cs w K b bb p k hp (by omega) ep ek).after (Ag.refl _ _) (AgM.th τ)
    · right
      rw [c4 q2]
      refine ⟨2, 2, σ, Or.inr rfl, rfl, by decide, Ag.refl _ _, rfl, fun τ g' => ?_⟩
      have g2 := g'.th
      rw [hm τ g'.sh, xs_53 g'.sh, hgm _ l many cs g2.mx g2.ok.1, cI_ok, i01_p q1, if_neg (by decide), hA, m_bad0 g2.sh (th0 τ), cI_ok, if_pos rfl, mi, cI1_ok, @i01_n _ (Classical.propDecidable _) q2, if_pos rfl, hB, m_bx1 g'.sh (by decide), cI_ok, if_neg (by decide), hZ]
  · right
    rw [c2 q1]
    refine ⟨1, 1, σ, Or.inl rfl, rfl, by decide, Ag.refl _ _, rfl, fun τ g' => ?_⟩
    have g2 := g'.th
    rw [hm τ g'.sh, xs_53 g'.sh, hgm _ l many cs g2.mx g2.ok.1, cI_ok, i01_n q1, if_pos rfl, hA, m_bx0 g'.sh (by decide), cI_ok, if_neg (by decide), hZ]
theorem likes_loop {p : Nat} (hp : p < nP l) (y : Int32) : ∀ m j x3 x4 v6 v7 σ τ, B2 σ τ t n l many cs w K b → nJ l - j = m → j ≤ nJ l →
    Two σ τ (rn (d + 30) 144 21 [.ref 0, .int (nI p), .int y, .int x3, .int x4, .int (nI j), v6] [] σ) (rn (d + 31) 261 60 [.ref 53, .int (nI p), .int y, .int x3, .int x4, .int (nI j), v7] [] τ)
  | 0, j, x3, x4, v6, v7, σ, τ, h, hm, hj => by
    have hw := h.1.1
    have hg := h.2.1.1
    have hJ := hw.ok.1.2.1
    rw [e_W_likes_21, xr_0_1 hw.sh, xr_3_1 hw.sh, xg_ld hw.sh hw.sh.ld, hw.cx.2.1.1.2.1, if_pos (nI_le (by omega) (by omega)), e_M_likes_60, xr_53_12 hg.sh, show (1 : Int32) = nI 1 from rfl, xa_57 hg.sh (by decide), hg.mx.2.1.1.2.1, if_pos (nI_le (by omega) (by omega))]
    by_cases q : y = 0
    · rw [if_pos q, if_pos q, e_W_likes_82, e_M_likes_117, nar0]; exact Two.ok h.2.2.2 _
    · rw [if_neg q, if_neg q, e_W_likes_82, e_M_likes_117, nar0]; exact Two.ok h.2.2.2 _
  | m + 1, j, x3, x4, v6, v7, σ, τ, h, hm, hj => by
    have hw := h.1.1
    have hg := h.2.1.1
    have hJ := hw.ok.1.2.1
    obtain ⟨v, σ', τ', r1, r2, r3, r4, r5⟩ := b2_laugh (dc := d + 26) (dm := d + 25) h (j := j) (p := p) (by omega) hp
    rw [e_W_likes_21, xr_0_1 hw.sh, xr_3_1 hw.sh, xg_ld hw.sh hw.sh.ld, hw.cx.2.1.1.2.1, if_neg (nI_ge (by omega) (by omega)), xr_0_1 hw.sh, xr_0_3 hw.sh, r1, cI1_ok, e_M_likes_60, xr_53_12 hg.sh, show (1 : Int32) = nI 1 from rfl, xa_57 hg.sh (by decide), hg.mx.2.1.1.2.1, if_neg (nI_ge (by omega) (by omega)), xr_53_29 hg.sh, r2, cI_ok]
    by_cases q : v ≤ x4
    · rw [if_pos q, if_neg (fun z => i_lt_nle z q), e_W_likes_66, e_M_likes_101, nI_1]
      exact (likes_loop hp y m (j + 1) _ _ _ _ σ' τ' r5 (by omega) (by omega)).after r3 r4
    · rw [if_neg q, if_pos (by rw [← Int32.not_le]; exact q), e_W_likes_66, e_M_likes_101, nI_1]
      exact (likes_loop hp y m (j + 1) _ _ _ _ σ' τ' r5 (by omega) (by omega)).after r3 r4
theorem op_likes (x y : Int32) : OpQ (d + 30) 144 [.ref 0, .int x, .int y] (d + 31) 261 [.ref 53, .int x, .int y] [(1, 1), (2, 2)] :=
  op_gr (M := 1) (cnt := nP) (A := fun c σ => rn (d + 31) 261 19 [.ref 53, .int x, .int y, uv, uv, uv, uv] [.int c, .ref 53] σ) (B := fun c σ => rn (d + 31) 261 42 [.ref 53, .int x, .int y, uv, uv, uv, uv] [.int c, .ref 53] σ) (Z := fun σ => rn (d + 31) 261 50 [.ref 53, .int x, .int y, uv, uv, uv, uv] [] σ) (by decide)
    (fun σ l many cs h ok => c_needP h ok x) (fun σ l many cs _ h ok => m_isP h ok x) (fun σ h => e_W_likes (d + 29) 0 x y σ (by rw [k_0 h])) (fun σ h => e_M_likes (d + 30) 53 x y σ (by rw [k_53 h])) (fun c σ => e_M_likes_19 (d + 30) 53 x y c 53 σ) (fun c σ => e_M_likes_42 (d + 30) 53 x y c 53 σ) (fun σ => by rw [e_M_likes_50, nar0])
    (fun σ τ t n l many cs w K b h p k hp hk ex ey => by subst ex; exact likes_loop hp y _ 0 _ _ _ _ σ τ h rfl (Nat.zero_le _))
end TwoV
