/-! days to come; ways; comfort -/
def B3 (σ τ : mm_M) (t : Nat → Nat) (n : Nat) (l : Ln) (many : Nat) (cs : Nat → Int32) (w K : Nat) (b : List (Nat × Nat)) : Prop := B2 σ τ t n l many cs w K b ∧ RP (nP l) (mI σ 24) (mI τ 534)
/-- those of x, and those near them -/
def nrs (l : Ln) (x : Int32) : Int32 := fo (nP l) (fun p s => if bt x p = 0 then s else s ||| near l (nI p)) x
section Ask6
variable {σ τ σ' τ' υ φ : mm_M} {t : Nat → Nat} {n : Nat} {l : Ln} {many : Nat} {cs : Nat → Int32} {w K : Nat} {b : List (Nat × Nat)} {d : Nat} {R S : Option mm_R}
theorem da23 : isDa 23 := Or.inr rfl
theorem rw534 : isRw 534 := Or.inr rfl
theorem qc24 : qc 24 := by unfold qc fpI fxC; omega
theorem qm534 : qm 534 := by unfold qm fpI fxC; omega
theorem b3_start {dc dm : Nat} (h : B2 σ τ t n l many cs w K b) : ∃ σ' τ', ev dc 26 [.ref 23, .ref 21] σ = some (.inl uv, σ') ∧ ev dm 193 [.ref 533, .ref 534] τ = some (.inl uv, τ') ∧ Ag qc σ σ' ∧ AgM qm qF τ τ' ∧ B3 σ' τ' t n l many cs w K b := by
  have hw := h.1.1
  have hg := h.2.1.1
  have a := (Ag.refl qc σ).wA qc24 (fun j => if j < 79 then mI σ (21 + 1) j else mI σ (23 + 1) j)
  have c := (AgM.refl qm qF τ).wA qm534 (by decide) (fun j => if j < 79 then mI τ 533 j else mI τ 534 j)
  refine ⟨_, _, c_copy hw.sh da23 da21 (by decide), m_copies (k_533 hg.sh) (k_534 hg.sh) (by decide), a, c, h.go a c (by rw [rA_o (by decide)]; exact h.2.2.2), ?_⟩
  rw [rA_a, rA_a]
  exact hw.row.as hw.ok.1.1 (fun k hk => if_pos hk) (fun k hk => by rw [if_pos hk, h.r])
theorem b3_day {dc dm : Nat} (h : B3 σ τ t n l many cs w K b) : ∃ σ' τ', ev (dc + 1) 45 [.ref 23, .ref (ldA σ)] σ = some (.inl uv, σ') ∧ ev (dm + 1) 218 [.ref 53, .ref 534] τ = some (.inl uv, τ') ∧ Ag qc σ σ' ∧ AgM qm qF τ τ' ∧ B3 σ' τ' t n l many cs w K b := by
  have hw := h.1.1.1
  have hg := h.1.2.1.1
  have h7 := hw.ok.1.1
  have a := (Ag.refl qc σ).wA qc24 (dayC (nP l) (mI σ (ldA σ) 11) (mI σ (23 + 1)))
  have c := (AgM.refl qm qF τ).wA qm534 (by decide) (rDay (nP l) (mI τ 57 4) (mI τ 534))
  refine ⟨_, _, c_passDay hw.sh da23 hw.sh.ld h7 hw.cx.2.1.1.1, m_dayEnds hg.sh rw534 h7 hg.mx.2.1.1.1, a, c, h.1.go a c (by rw [rA_o (by decide)]; exact h.1.2.2.2), ?_⟩
  rw [rA_a, rA_a, hw.cx.2.1.1.2.2.2.2, hg.mx.2.1.1.2.2.2.2]
  exact ⟨day_ok h.2.1.1 h7, rDay_ROK h.2.2 h7 hw.ok.1.2.2.2.2.2.2.2⟩
theorem dry_loop : ∀ m i σ τ, B3 σ τ t n l many cs w K b → 100 - i = m → i ≤ 100 → Two σ τ (rn (d + 31) 140 13 [.ref 0, .int (nI i)] [] σ) (rn (d + 31) 236 18 [.ref 53, .int (nI i)] [] τ)
  | 0, i, σ, τ, h, hm, hi => by
    rw [e_W_dry_13, if_pos (show (99 : Int32) < nI i from nI_lt (a := 99) (by omega) (by omega)), e_M_dry_18, if_pos (show (99 : Int32) < nI i from nI_lt (a := 99) (by omega) (by omega))]
    exact Two.ok h.1.2.2.2 _
  | m + 1, i, σ, τ, h, hm, hi => by
    have hw := h.1.1.1
    have hg := h.1.2.1.1
    have h7 := hw.ok.1.1
    have r3 := (row_all h7 h.2).2.2
    rw [e_W_dry_13, if_neg (show ¬ (99 : Int32) < nI i from nI_nlt (a := 99) (by omega) (by omega)), xr_0_4 hw.sh, c_thirsty hw.sh da23, cI1_ok, show mI σ (23 + 1) = mI σ 24 from rfl, r3, e_M_dry_18, if_neg (show ¬ (99 : Int32) < nI i from nI_nlt (a := 99) (by omega) (by omega)), xr_53_30 hg.sh, show ev (d + 30) 211 [.ref 53, .ref 534, .int 7] τ = _ from m_whoHas (f := 7) hg.sh (k_534 hg.sh) h7 hg.mx.2.1.1.1 (by decide), cI_ok]
    by_cases q : whoB (nP l) (fun p => mI τ 534 (7 + p)) = 0
    · obtain ⟨σ', τ', s1, s2, s3, s4, s5⟩ := b3_day (dc := d + 29) (dm := d + 29) h
      rw [if_pos q, if_pos q, xr_0_4 hw.sh, xr_0_1 hw.sh, xr_3_1 hw.sh, s1, cV1_ok, xr_53_30 hg.sh, s2, cV_ok, nI_1]
      exact (dry_loop m (i + 1) σ' τ' s5 (by omega) (by omega)).after s3 s4
    · rw [if_neg q, if_neg q]
      exact Two.ok h.1.2.2.2 _
theorem op_dry : OpN (d + 31) 140 [.ref 0] (d + 31) 236 [.ref 53] :=
  op_n (fun σ h => e_M_dry (d + 30) 53 σ (by rw [k_53 h])) (fun σ τ t n l many cs w K b h => by
    have hw := h.1.1
    have hg := h.2.1.1
    obtain ⟨σ', τ', s1, s2, s3, s4, s5⟩ := b3_start (dc := d + 30) (dm := d + 30) h
    rw [e_W_dry (d + 30) 0 σ (by rw [k_0 hw.sh]), xr_0_4 hw.sh, xr_0_3 hw.sh, s1, cV1_ok, xr_53_29 hg.sh, xr_53_30 hg.sh, s2, cV1_ok]
    exact (dry_loop _ 0 σ' τ' s5 rfl (by decide)).after s3 s4)
theorem ahead_loop {a k : Nat} (ha : a ≤ 99) (hk : k ≤ 2) : ∀ m i σ τ, B3 σ τ t n l many cs w K b → a - i = m → i ≤ a → Two σ τ (rn (d + 30) 130 30 [.ref 0, .int (nI a), .int (nI k), .int (nI i)] [] σ) (rn (d + 31) 235 53 [.ref 53, .int (nI a), .int (nI k), .int (nI i)] [] τ)
  | 0, i, σ, τ, h, hm, hi => by
    have hw := h.1.1.1
    have hg := h.1.2.1.1
    have h7 := hw.ok.1.1
    obtain ⟨r1, r2, r3⟩ := row_all h7 h.2
    rw [e_W_ahead_30, if_pos (nI_le (by omega) (by omega)), e_M_ahead_53, if_pos (nI_le (by omega) (by omega))]
    rcases (show k = 0 ∨ k = 1 ∨ k = 2 by omega) with rfl | rfl | rfl
    · rw [show swL 56 44 #[(0, 28), (1, 36)] (nI 0) = 84 by decide, e_W_ahead_84, xr_0_4 hw.sh, c_jugWater hw.sh da23, cI1_ok, show mI σ (23 + 1) = mI σ 24 from rfl, h.2.1.1.2.1, if_pos (show nI 0 = (0 : Int32) from rfl), xr_53_30 hg.sh, show aI τ 534 77 = aI τ 534 (nI 77) from rfl, xa_534 hg.sh (by decide), e_M_ahead_114]
      exact Two.ok h.1.2.2.2 _
    · rw [show swL 56 44 #[(0, 28), (1, 36)] (nI 1) = 92 by decide, e_W_ahead_92, xr_0_4 hw.sh, c_thirsty hw.sh da23, cI1_ok, show mI σ (23 + 1) = mI σ 24 from rfl, r3, if_neg (show ¬ nI 1 = (0 : Int32) by decide), if_pos (show nI 1 = (1 : Int32) from rfl), xr_53_30 hg.sh, show ev (d + 30) 211 [.ref 53, .ref 534, .int 7] τ = _ from m_whoHas (f := 7) hg.sh (k_534 hg.sh) h7 hg.mx.2.1.1.1 (by decide), cI_ok, e_M_ahead_114]
      exact Two.ok h.1.2.2.2 _
    · rw [show swL 56 44 #[(0, 28), (1, 36)] (nI 2) = 100 by decide, e_W_ahead_100, xr_0_4 hw.sh, c_allThirst hw.sh da23, cI1_ok, show mI σ (23 + 1) = mI σ 24 from rfl, r1, if_neg (show ¬ nI 2 = (0 : Int32) by decide), if_neg (show ¬ nI 2 = (1 : Int32) by decide), xr_53_30 hg.sh, show ev (d + 30) 223 [.ref 53, .ref 534, .int 7] τ = _ from m_sumOf (f := 7) hg.sh (k_534 hg.sh) h7 hg.mx.2.1.1.1 (by decide), cI_ok, e_M_ahead_114]
      exact Two.ok h.1.2.2.2 _
  | m + 1, i, σ, τ, h, hm, hi => by
    have hw := h.1.1.1
    have hg := h.1.2.1.1
    obtain ⟨σ', τ', s1, s2, s3, s4, s5⟩ := b3_day (dc := d + 28) (dm := d + 29) h
    rw [e_W_ahead_30, if_neg (nI_ge (by omega) (by omega)), xr_0_4 hw.sh, xr_0_1 hw.sh, xr_3_1 hw.sh, s1, cV1_ok, e_M_ahead_53, if_neg (nI_ge (by omega) (by omega)), xr_53_30 hg.sh, s2, cV_ok, nI_1]
    exact (ahead_loop ha hk m (i + 1) σ' τ' s5 (by omega) (by omega)).after s3 s4
theorem op_ahead (x y : Int32) : OpQ (d + 30) 130 [.ref 0, .int x, .int y] (d + 31) 235 [.ref 53, .int x, .int y] [(2, 1)] := by
  refine op_x (e1 := 2) (e2 := 2) (c1 := 1) (c2 := 1) (P := fun _ => inN x 100) (Q := fun _ => inN y 3)
    (f := fun σ3 => gR σ3 0 0 4 fun r5 => gR σ3 0 0 3 fun r6 => cV1 (ev (d + 29) 26 [.ref r5, .ref r6] σ3) fun σ7 => rn (d + 30) 130 30 [.ref 0, .int x, .int y, .int 0] [] σ7)
    (g := fun σ1 => gR σ1 12 53 29 fun r3 => gR σ1 12 53 30 fun r4 => cV1 (ev (d + 30) 193 [.ref r3, .ref r4] σ1) fun σ5 => rn (d + 31) 235 53 [.ref 53, .int x, .int y, .int 0] [] σ5) ⟨Or.inr rfl, rfl, by decide⟩ ⟨Or.inr rfl, rfl, by decide⟩ ?_ ?_ ?_
  · intro σ t n l many cs w K b hw
    obtain ⟨c1, c2⟩ := c_needR (d := d + 29) hw.sh x (m := 99) (by decide)
    obtain ⟨c3, c4⟩ := c_needR (d := d + 29) hw.sh y (m := 2) (by decide)
    rw [e_W_ahead (d + 29) 0 x y σ (by rw [k_0 hw.sh])]
    refine ⟨fun p q => ?_, fun p => ?_, fun p q => ?_⟩
    · rw [show (ev (d + 29) 155 [.ref 0, .int x, .int 0, .int 99] σ) = _ from c1 p, cI_ok, show (ev (d + 29) 155 [.ref 0, .int y, .int 0, .int 2] σ) = _ from c3 q, cI_ok]
    · rw [show (ev (d + 29) 155 [.ref 0, .int x, .int 0, .int 99] σ) = _ from c2 p]; rfl
    · rw [show (ev (d + 29) 155 [.ref 0, .int x, .int 0, .int 99] σ) = _ from c1 p, cI_ok, show (ev (d + 29) 155 [.ref 0, .int y, .int 0, .int 2] σ) = _ from c4 q]; rfl
  · intro σ t n l many cs w K b hw hg
    rw [e_M_ahead (d + 30) 53 x y σ (by rw [k_53 hw.sh]), xs_53 hw.sh, show (ev (d + 30) 166 [.int x, .int 0, .int 99] (wI σ 53 0 0)) = _ from m_inN (m := 99) (by decide) x, cI1_ok]
    refine ⟨fun p q => ?_, fun p => ?_, fun p q => ?_⟩
    · rw [@i01_p _ (Classical.propDecidable _) p, if_neg (show ¬ (1 : Int32) = 0 by decide), show (ev (d + 30) 166 [.int y, .int 0, .int 2] (wI σ 53 0 0)) = _ from m_inN (m := 2) (by decide) y, cI1_ok, @i01_p _ (Classical.propDecidable _) q, if_neg (show ¬ (1 : Int32) = 0 by decide), e_M_ahead_30, m_bad0 hg.sh (th0 σ), cI_ok, if_pos (show (0 : Int32) = 0 from rfl)]
    · rw [@i01_n _ (Classical.propDecidable _) p, if_pos (show (0 : Int32) = 0 from rfl), e_M_ahead_25, e_M_ahead_30, m_bx1 hw.sh (by decide), cI_ok, if_neg (show ¬ (1 : Int32) = 0 by decide), nar0]
    · rw [@i01_p _ (Classical.propDecidable _) p, if_neg (show ¬ (1 : Int32) = 0 by decide), show (ev (d + 30) 166 [.int y, .int 0, .int 2] (wI σ 53 0 0)) = _ from m_inN (m := 2) (by decide) y, cI1_ok, @i01_n _ (Classical.propDecidable _) q, if_pos (show (0 : Int32) = 0 from rfl), e_M_ahead_25, e_M_ahead_30, m_bx1 hw.sh (by decide), cI_ok, if_neg (show ¬ (1 : Int32) = 0 by decide), nar0]
  · intro σ τ t n l many cs w K b h p q
    obtain ⟨a, ha, rfl⟩ := p
    obtain ⟨k, hk, rfl⟩ := q
    have hw := h.1.1
    have hg := h.2.1.1
    obtain ⟨σ', τ', s1, s2, s3, s4, s5⟩ := b3_start (dc := d + 29) (dm := d + 30) h
    rw [xr_0_4 hw.sh, xr_0_3 hw.sh, s1, cV1_ok, xr_53_29 hg.sh, xr_53_30 hg.sh, s2, cV1_ok]
    exact (ahead_loop (by omega) (by omega) _ 0 σ' τ' s5 rfl (Nat.zero_le _)).after s3 s4
/-- near ones, both sides -/
theorem c_withNear (h : CX σ l many cs) (ok : LnOK l) (x : Int32) : ev d 55 [.ref (ldA σ), .int x] σ = some (.inl (.int (nrs l x)), σ) := by
  have hs := h.1
  have h7 := ok.1
  have e7 := h.2.1.1.1
  rw [e_Land_withNear d (ldA σ) x σ (by rw [k_ld0 hs hs.ld])]
  refine (lp (F := fun i s => rn d 55 4 [.ref (ldA σ), .int x, .int s, .int (nI i)] [] σ) (n := nP l) (st := fun p s => if bt x p = 0 then s else s ||| near l (nI p)) (fun i s hi => ?_) x).trans ?_
  · show rn d 55 4 [.ref (ldA σ), .int x, .int s, .int (nI i)] [] σ = _
    rw [e_Land_withNear_4, xg_ld hs hs.ld, e7, if_neg (nI_ge (by omega) (by omega))]
    show (if bt x i = 0 then _ else _) = _
    by_cases q : bt x i = 0
    · rw [if_pos q, if_pos q, e_Land_withNear_29, nI_1]
    · rw [if_neg q, if_neg q, xr_ld2 hs hs.ld, xa_ld3 hs hs.ld (by omega), (h.2.1.2.1 i hi).2.2, e_Land_withNear_29, nI_1]
  · show rn d 55 4 [.ref (ldA σ), .int x, .int _, .int (nI (nP l))] [] σ = _
    rw [e_Land_withNear_4, xg_ld hs hs.ld, e7, if_pos (nI_le (by omega) (by omega))]
    rfl
theorem m_further (h : MX σ l many cs) (ok : LnOK l) (x : Int32) : ev (d + 1) 252 [.ref 53, .int x] σ = some (.inl (.int (nrs l x)), σ) := by
  have hs := h.1
  have h7 := ok.1
  have e7 := h.2.1.1.1
  rw [e_M_further d 53 x σ (by rw [k_53 hs])]
  refine (lp (F := fun i s => rn (d + 1) 252 4 [.ref 53, .int x, .int s, .int (nI i)] [] σ) (n := nP l) (st := fun p s => if bt x p = 0 then s else s ||| near l (nI p)) (fun i s hi => ?_) x).trans ?_
  · show rn (d + 1) 252 4 [.ref 53, .int x, .int s, .int (nI i)] [] σ = _
    rw [e_M_further_4, xr_53_12 hs, show aI σ 57 0 = aI σ 57 (nI 0) from rfl, xa_57 hs (by decide), e7, if_neg (nI_ge (by omega) (by omega)), m_has, cI1_ok]
    by_cases q : bt x i = 0
    · rw [if_pos q, if_pos q, e_M_further_32, nI_1, or_0]
    · rw [if_neg q, if_neg q, m_nearTo hs h.2.1 ok, cI_ok, e_M_further_32, nI_1]
  · show rn (d + 1) 252 4 [.ref 53, .int x, .int _, .int (nI (nP l))] [] σ = _
    rw [e_M_further_4, xr_53_12 hs, show aI σ 57 0 = aI σ 57 (nI 0) from rfl, xa_57 hs (by decide), e7, if_pos (nI_le (by omega) (by omega))]
    rfl
theorem way_loop {p q : Nat} (h : B2 σ τ t n l many cs w K b) : ∀ m i x, nP l - i = m → i ≤ nP l → Two σ τ (rn (d + 29) 57 7 [.ref (ldA σ), .int (nI p), .int (nI q), .int x, .int (nI i)] [] σ) (rn (d + 31) 253 44 [.ref 53, .int (nI p), .int (nI q), .int x, .int (nI i)] [] τ)
  | 0, i, x, hm, hi => by
    have hw := h.1.1
    have hg := h.2.1.1
    have h7 := hw.ok.1.1
    rw [e_Land_streetsBetween_7, xg_ld hw.sh hw.sh.ld, hw.cx.2.1.1.1, if_pos (nI_le (by omega) (by omega)), e_M_way_44, (h.p (fun _ => none) _).2, if_pos (nI_le (by omega) (by omega))]
    exact Two.ok h.2.2.2 _
  | m + 1, i, x, hm, hi => by
    have hw := h.1.1
    have hg := h.2.1.1
    have h7 := hw.ok.1.1
    rw [e_Land_streetsBetween_7, xg_ld hw.sh hw.sh.ld, hw.cx.2.1.1.1, if_neg (nI_ge (by omega) (by omega)), e_M_way_44, (h.p (fun _ => none) _).2, if_neg (nI_ge (by omega) (by omega)), m_has, cI1_ok]
    show Two σ τ (if bt x q = 0 then _ else _) _
    by_cases z : bt x q = 0
    · rw [if_pos z, if_pos z, c_withNear hw.cx hw.ok.1, cI_ok, m_further hg.mx hg.ok.1, cI_ok, nI_1]
      exact way_loop h m (i + 1) _ (by omega) (by omega)
    · rw [if_neg z, if_neg z]
      exact Two.ok h.2.2.2 _
theorem Two.map {f g : Int32 → mm_M → Option mm_R} (h : Two σ τ R S) (hf : ∀ v υ, Ag qc σ υ → f v υ = some (.inl (.int v), υ)) (hg : ∀ v φ, AgM qm qF τ φ → g v φ = some (.inl (.int v), φ)) : Two σ τ (cI1 R f) (cI S g) := by
  obtain ⟨v, υ, φ, h1, h2, h3, h4, h5⟩ := h
  exact ⟨v, υ, φ, by rw [h1, cI1_ok, hf v υ h3], by rw [h2, cI_ok, hg v φ h4], h3, h4, h5⟩
theorem Two.mapC {f : Int32 → mm_M → Option mm_R} (h : Two σ τ R S) (hf : ∀ v υ, Ag qc σ υ → f v υ = some (.inl (.int v), υ)) : Two σ τ (cI1 R f) S := by
  obtain ⟨v, υ, φ, h1, h2, h3, h4, h5⟩ := h
  exact ⟨v, υ, φ, by rw [h1, cI1_ok, hf v υ h3], h2, h3, h4, h5⟩
theorem op_way (x y : Int32) : OpQ (d + 30) 139 [.ref 0, .int x, .int y] (d + 31) 253 [.ref 53, .int x, .int y] [(1, 1)] := by
  refine op_x (e1 := 1) (e2 := 1) (c1 := 1) (c2 := 1) (P := fun l => inN x (nP l)) (Q := fun l => inN y (nP l))
    (f := fun σ2 => gR σ2 0 0 1 fun r3 => gR σ2 2 r3 1 fun r4 => cI1 (ev (d + 29) 57 [.ref r4, .int x, .int y] σ2) fun r6 σ5 => some (Sum.inl (Value.int (nar 0 r6)), σ5))
    (g := fun σ1 => rn (d + 31) 253 44 [.ref 53, .int x, .int y, .int ((1 : Int32) <<< (x &&& 31)), .int 0] [] σ1) ⟨Or.inl rfl, rfl, by decide⟩ ⟨Or.inl rfl, rfl, by decide⟩ ?_ ?_ ?_
  · intro σ t n l many cs w K b hw
    obtain ⟨c1, c2⟩ := c_needP (d := d + 29) hw.cx hw.ok.1 x
    obtain ⟨c3, c4⟩ := c_needP (d := d + 29) hw.cx hw.ok.1 y
    rw [e_W_way (d + 29) 0 x y σ (by rw [k_0 hw.sh])]
    refine ⟨fun p q => by rw [c1 p, cV_ok, c3 q, cV_ok], fun p => by rw [c2 p]; rfl, fun p q => by rw [c1 p, cV_ok, c4 q]; rfl⟩
  · intro σ t n l many cs w K b hw hg
    haveI := Classical.propDecidable (inN x (nP l))
    haveI := Classical.propDecidable (inN y (nP l))
    rw [e_M_way (d + 30) 53 x y σ (by rw [k_53 hw.sh]), xs_53 hw.sh, m_isP hg.mx hg.ok.1 x, cI_ok]
    refine ⟨fun p q => ?_, fun p => ?_, fun p q => ?_⟩
    · rw [i01_p p, if_neg (show ¬ (1 : Int32) = 0 by decide), m_isP hg.mx hg.ok.1 y, cI_ok, i01_p q, if_neg (show ¬ (1 : Int32) = 0 by decide), e_M_way_27, m_bad0 hg.sh (th0 σ), cI_ok, if_pos (show (0 : Int32) = 0 from rfl)]
    · rw [i01_n p, if_pos (show (0 : Int32) = 0 from rfl), e_M_way_22, e_M_way_27, m_bx0 hw.sh (by decide), cI_ok, if_neg (show ¬ (1 : Int32) = 0 by decide), nar0]
    · rw [i01_p p, if_neg (show ¬ (1 : Int32) = 0 by decide), m_isP hg.mx hg.ok.1 y, cI_ok, i01_n q, if_pos (show (0 : Int32) = 0 from rfl), e_M_way_22, e_M_way_27, m_bx0 hw.sh (by decide), cI_ok, if_neg (show ¬ (1 : Int32) = 0 by decide), nar0]
  · intro σ τ t n l many cs w K b h p q
    obtain ⟨p, hp, rfl⟩ := p
    obtain ⟨q, hq, rfl⟩ := q
    have hw := h.1.1
    rw [xr_0_1 hw.sh, xr_3_1 hw.sh, e_Land_streetsBetween (d + 28) (ldA σ) (nI p) (nI q) σ (by rw [k_ld0 hw.sh hw.sh.ld])]
    exact Two.mapC (way_loop h _ 0 _ rfl (Nat.zero_le _)) (fun v υ _ => by rw [nar0])
end Ask6
