/-! enough: the reference's search -/
section FewM
variable {σ τ : mm_M} {t : Nat → Nat} {n : Nat} {l : Ln} {many : Nat} {cs : Nat → Int32} {w K : Nat} {b : List (Nat × Nat)} {d : Nat}
/-- one set: what best becomes -/
theorem m_few1 (x tb : Int32) {s : Nat} {v : Int32} {v5 v6 : Value} {τ' : mm_M} (h : Iv τ' t n l many cs w K b) (a : AgM qm qF τ τ') (z : mI τ' 53 0 = 0) (hs : s < 2 ^ nP l) (iv : Mn (Qe (nP l) (mo l many cs (mI τ 533)) tb (mI τ 533 77) x) (s + 1) (2 ^ nP l) v) :
    ∃ u g v9 φ, rn (d + 31) 242 57 [.ref 53, .int x, .int v, .int tb, .int (nI s), v5, v6] [] τ' = rn (d + 31) 242 57 [.ref 53, .int x, .int u, .int tb, .int (nI s + (-1)), .int g, v9] [] φ ∧ AgM qm qF τ φ ∧ mI φ 53 0 = 0 ∧ Mn (Qe (nP l) (mo l many cs (mI τ 533)) tb (mI τ 533 77) x) s (2 ^ nP l) u := by
  have hg := h.1
  have h7 := hg.ok.1.1
  have p7 := pow7 h7
  have e5 : mI τ' 533 = mI τ 533 := a.at (by decide) (fun q => q.1 f533)
  obtain ⟨φ, k1, k2, k3⟩ := m_waterSet (d := d) (x1 := x) (x2 := v) (x3 := tb) (s := nI s) h z (mI τ 533 77)
  rw [e5] at k1
  have hf := (h.qm k2).1
  obtain ⟨o1, o2⟩ := on_ok s (by omega)
  rw [e_M_enough_57, if_neg (nI_pos (by omega)), xr_53_29 hg.sh, show aI τ' 533 77 = aI τ' 533 (nI 77) from rfl, xa_533 hg.sh (by decide), e5, k1, e_M_enough_74, xr_53_12 hf.sh, show aI φ 57 0 = aI φ 57 (nI 0) from rfl, xa_57 hf.sh (by decide), hf.mx.2.1.1.1, if_pos (nI_le (Nat.le_refl _) (by omega))]
  have A := a.trans k2
  by_cases q1 : (mI τ 533 77 + fo (nP l) (fun p a => a + (if bt (nI s) p = 0 then 0 else mo l many cs (mI τ 533) p)) 0) < x
  · rw [if_pos q1, e_M_enough_151, e_M_enough_152]
    exact ⟨v, _, _, φ, rfl, A, k3, iv.skipD (fun k => absurd q1 k.2)⟩
  · rw [if_neg q1]
    by_cases q2 : (nI s &&& tb) = 0
    · rw [if_pos q2]
      rcases iv with ⟨i1, i2⟩ | ⟨c, i1, i2, i3, i4, i5⟩
      · rw [if_pos i1, e_M_enough_146, e_M_enough_152]
        exact ⟨nI s, _, _, φ, rfl, A, k3, Mn.takeD ⟨q2, q1⟩ hs (fun c' g1 g2 g3 => absurd g3 (i2 c' (by omega) g2))⟩
      · obtain ⟨oc1, oc2⟩ := on_ok c (by omega)
        rw [if_neg (by rw [i3]; exact nI_m1 (by omega)), m_ones, cI1_ok, m_ones, cI1_ok, i3, oc1, o1]
        by_cases q3 : on c < on s
        · rw [if_pos (nI_lt q3 (by omega)), e_M_enough_151, e_M_enough_152]
          exact ⟨nI c, _, _, φ, rfl, A, k3, Mn.skipD (Or.inr ⟨c, i1, i2, rfl, i4, i5⟩) (fun _ => ⟨c, rfl, by omega, i2, i4, q3, fun c' g1 g2 g3 => i5 c' (by omega) g2 g3⟩)⟩
        · rw [if_neg (nI_nlt (by omega) (by omega)), e_M_enough_146, e_M_enough_152]
          exact ⟨nI s, _, _, φ, rfl, A, k3, Mn.takeD ⟨q2, q1⟩ hs (fun c' g1 g2 g3 => by have := i5 c' (by omega) g2 g3; omega)⟩
    · rw [if_neg q2, e_M_enough_151, e_M_enough_152]
      exact ⟨v, _, _, φ, rfl, A, k3, iv.skipD (fun k => absurd k.1 q2)⟩
end FewM
