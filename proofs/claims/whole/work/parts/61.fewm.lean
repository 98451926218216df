/-! enough: the reference's search -/
section FewM
variable {σ τ : mm_M} {t : Nat → Nat} {n : Nat} {l : Ln} {many : Nat} {cs : Nat → Int32} {w K : Nat} {b : List (Nat × Nat)} {d : Nat}
/-- one set: what best becomes -/
theorem m_few1 (x tb : Int32) {s : Nat} {v : Int32} {v5 v6 : Value} {τ' : mm_M} (h : Iv τ' t n l many cs w K b) (a : AgM qm qF τ τ') (z : mI τ' 53 0 = 0) (hs : s < 2 ^ nP l) (iv : Mn (Qe (nP l) (mo l many cs (mI τ 533)) tb (mI τ 533 77) x) (s + 1) (2 ^ nP l) v) :
    ∃ u g v9 φ, rn (d + 31) 242 57 [.ref 53, .int x, .int v, .int tb, .int (nI s), v5, v6] [] τ' = rn (d + 31) 242 57 [.ref 53, .int x, .int u, .int tb, .int (nI s + (-1)), .int g, v9] [] φ ∧ AgM qm qF τ φ ∧ mI φ 53 0 = 0 ∧ Iv φ t n l many cs w K b ∧ Mn (Qe (nP l) (mo l many cs (mI τ 533)) tb (mI τ 533 77) x) s (2 ^ nP l) u := by
  have hg := h.1
  have h7 := hg.ok.1.1
  have p7 := pow7 h7
  have e5 : mI τ' 533 = mI τ 533 := a.at (by decide) (fun q => q.1 f533)
  obtain ⟨φ, k1, k2, k3⟩ := m_waterSet (d := d) (x1 := x) (x2 := v) (x3 := tb) (s := nI s) h z (mI τ 533 77)
  rw [e5] at k1
  have hf := (h.qm k2).1
  obtain ⟨o1, o2⟩ := on_ok s (by omega)
  rw [e_M_enough_57, if_neg (nI_pos (by omega)), xr_53_29 hg.sh, show aI τ' 533 77 = aI τ' 533 (nI 77) from rfl, xa_533 hg.sh (by decide), e5, k1, e_M_enough_74, xr_53_12 hf.sh, show aI φ 57 0 = aI φ 57 (nI 0) from rfl, xa_57 hf.sh (by decide), hf.mx.2.1.1.1, if_pos (nI_le (Nat.le_refl _) (by omega))]
  have A := a.trans k2
  by_cases q1 : (mI τ 533 77 + fo (nP l) (fun p a => a + (if bt (nI s) p = 0 then 0 else mo l many cs (mI τ 533) p)) 0) < x
  · rw [if_pos q1, e_M_enough_151, e_M_enough_152]
    exact ⟨v, _, _, φ, rfl, A, k3, h.qm k2, iv.skipD (fun k => absurd q1 k.2)⟩
  · rw [if_neg q1]
    by_cases q2 : (nI s &&& tb) = 0
    · rw [if_pos q2]
      rcases iv with ⟨i1, i2⟩ | ⟨c, i1, i2, i3, i4, i5⟩
      · rw [if_pos i1, e_M_enough_146, e_M_enough_152]
        exact ⟨nI s, _, _, φ, rfl, A, k3, h.qm k2, Mn.takeD ⟨q2, q1⟩ hs (fun c' g1 g2 g3 => absurd g3 (i2 c' (by omega) g2))⟩
      · obtain ⟨oc1, oc2⟩ := on_ok c (by omega)
        rw [if_neg (by rw [i3]; exact nI_m1 (by omega)), m_ones, cI1_ok, m_ones, cI1_ok, i3, oc1, o1]
        by_cases q3 : on c < on s
        · rw [if_pos (nI_lt q3 (by omega)), e_M_enough_151, e_M_enough_152]
          exact ⟨nI c, _, _, φ, rfl, A, k3, h.qm k2, Mn.skipD (Or.inr ⟨c, i1, i2, rfl, i4, i5⟩) (fun _ => ⟨c, rfl, by omega, i2, i4, q3, fun c' g1 g2 g3 => i5 c' (by omega) g2 g3⟩)⟩
        · rw [if_neg (nI_nlt (by omega) (by omega)), e_M_enough_146, e_M_enough_152]
          exact ⟨nI s, _, _, φ, rfl, A, k3, h.qm k2, Mn.takeD ⟨q2, q1⟩ hs (fun c' g1 g2 g3 => by have := i5 c' (by omega) g2 g3; omega)⟩
    · rw [if_neg q2, e_M_enough_151, e_M_enough_152]
      exact ⟨v, _, _, φ, rfl, A, k3, h.qm k2, iv.skipD (fun k => absurd k.1 q2)⟩
theorem m_few (x tb : Int32) : ∀ s v v5 v6 τ', Iv τ' t n l many cs w K b → AgM qm qF τ τ' → mI τ' 53 0 = 0 → s < 2 ^ nP l → Mn (Qe (nP l) (mo l many cs (mI τ 533)) tb (mI τ 533 77) x) (s + 1) (2 ^ nP l) v →
    ∃ v' φ, rn (d + 31) 242 57 [.ref 53, .int x, .int v, .int tb, .int (nI s), v5, v6] [] τ' = some (.inl (.int v'), φ) ∧ AgM qm qF τ φ ∧ mI φ 53 0 = 0 ∧ Mn (Qe (nP l) (mo l many cs (mI τ 533)) tb (mI τ 533 77) x) 0 (2 ^ nP l) v'
  | 0, v, v5, v6, τ', h, a, z, hs, iv => by
    obtain ⟨u, g, v9, φ, r1, r2, r3, hφ, r4⟩ := m_few1 (d := d) (v5 := v5) (v6 := v6) x tb h a z hs iv
    rw [r1, show nI 0 + (-1) = (-1 : Int32) by decide, e_M_enough_57, if_pos (show (-1 : Int32) < 0 by decide), nar0]
    exact ⟨u, φ, rfl, r2, r3, r4⟩
  | s + 1, v, v5, v6, τ', h, a, z, hs, iv => by
    have p7 := pow7 h.1.ok.1.1
    obtain ⟨u, g, v9, φ, r1, r2, r3, hφ, r4⟩ := m_few1 (d := d) (v5 := v5) (v6 := v6) x tb h a z hs iv
    rw [r1, show nI (s + 1) + (-1) = nI s by rw [show (-1 : Int32) = -(nI 1) by decide, ← Int32.sub_eq_add_neg]; exact pk_sub (b := 1) (by omega)]
    exact m_few x tb s u _ _ φ hφ r2 r3 (by omega) r4
theorem op_enough (x : Int32) : OpQ (d + 30) 133 [.ref 0, .int x] (d + 31) 242 [.ref 53, .int x] [(2, 1)] :=
  op_r1 (M := 999) (A := fun c σ => rn (d + 31) 242 22 [.ref 53, .int x, uv, uv, uv, uv, uv] [.int c, .ref 53] σ) (by decide)
    (fun σ h => e_W_enough (d + 29) 0 x σ (by rw [k_0 h])) (fun σ h => e_M_enough (d + 30) 53 x σ (by rw [k_53 h])) (fun c σ => e_M_enough_22 (d + 30) 53 x c 53 σ)
    (fun σ τ t n l many cs w K b h k hk ex => by
      have hw := h.1.1
      have hg := h.2.1.1
      have h7 := hw.ok.1.1
      have p7 := pow7 h7
      have pos : 1 ≤ 2 ^ nP l := Nat.one_le_two_pow
      obtain ⟨σ', c1, c2, c3⟩ := c_most (d := d) x _ 0 σ uv h.1 rfl (Nat.zero_le _) (fun q hq => absurd hq (Nat.not_lt_zero q))
      obtain ⟨v, f1, f2⟩ := c_few (d := d) (h.1.qc c2) c3 x _ 0 (-1) (nI 8) uv rfl (Nat.zero_le _) (Or.inl ⟨rfl, rfl, fun c hc => absurd hc (Nat.not_lt_zero c)⟩)
      have e22 : mI σ' 22 = mI σ 22 := c2.at (fun q => q.1 f22)
      rw [e22] at f2
      obtain ⟨v', φ, g1, g2, g3, g4⟩ := m_few (d := d) (τ := τ) x (mI σ 22 2) (2 ^ nP l - 1) (-1) uv uv τ h.2.1 (AgM.refl _ _ _) h.2.2.2 (by omega) (by rw [show 2 ^ nP l - 1 + 1 = 2 ^ nP l by omega]; exact Or.inl ⟨rfl, fun c h1 h2 => by omega⟩)
      rw [h.r, ← hw.row.1.1.2.1] at g4
      have ev_ := f2.uniq g4
      subst ev_
      rw [xr_0_6 hw.sh, xr_0_1 hw.sh, xr_0_3 hw.sh, e_Plan_fewestFor (d + 28) 29 3 21 x σ (by rw [k_29 hw.sh]), xr_3_1 hw.sh, show (rn (d + 28 + 1) 102 9 [.ref 29, .ref 3, .ref 21, .int x, .ref (ldA σ), .int 0, uv, uv, uv] [] σ) = _ from c1, show (rn (d + 29) 102 88 [.ref 29, .ref 3, .ref 21, .int x, .ref (ldA σ'), .int (-1), .int 8, .int 0, uv] [] σ') = _ from f1, cI1_ok, nar0, xr_53_29 hg.sh, show ev (d + 30) 211 [.ref 53, .ref 533, .int 14] τ = _ from m_whoHas (f := 14) hg.sh (k_533 hg.sh) h7 hg.mx.2.1.1.1 (by decide), cI_ok, (h.p (fun _ => none) _).2, allB _ h7, h.r, ← hw.row.1.2, g1]
      exact ⟨v, σ', φ, rfl, rfl, c2, g2, g3⟩)
end FewM
