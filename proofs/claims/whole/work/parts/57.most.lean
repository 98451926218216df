/-! the most water of each, by one joke -/
def mo (l : Ln) (many : Nat) (cs r : Nat → Int32) (p : Nat) : Int32 := fo (nJ l) (fun j s => mxx s (lgv many cs (gvs l r j p (lT l p) (r p) 0) * lD l p)) 0
section MostV
variable {σ τ σ' τ' υ φ : mm_M} {t : Nat → Nat} {n : Nat} {l : Ln} {many : Nat} {cs : Nat → Int32} {w K : Nat} {b : List (Nat × Nat)} {d : Nat}
theorem qc30 : qc 30 := by unfold qc fpI fxC; omega
theorem c_most_in {p : Nat} (hp : p < nP l) (x : Int32) : ∀ m j σ, Iv σ t n l many cs w K b → nJ l - j = m → j ≤ nJ l → mI σ 30 p = fo j (fun j s => mxx s (lgv many cs (gvs l (mI σ 533) j p (lT l p) (mI σ 533 p) 0) * lD l p)) 0 →
    ∃ σ', rn (d + 29) 102 30 [.ref 29, .ref 3, .ref 21, .int x, .ref (ldA σ), .int (nI p), .int (nI j), uv, uv] [] σ = rn (d + 29) 102 9 [.ref 29, .ref 3, .ref 21, .int x, .ref (ldA σ'), .int (nI (p + 1)), .int (nI (nJ l)), uv, uv] [] σ' ∧ Ag qc σ σ' ∧ mI σ' 30 p = mo l many cs (mI σ 533) p ∧ ∀ q, q ≠ p → mI σ' 30 q = mI σ 30 q
  | 0, j, σ, h, hm, hj, e => by
    have hw := h.1
    have h6 := hw.ok.1.2.1
    have : j = nJ l := by omega
    subst this
    rw [e_Plan_fewestFor_30, xg_ld hw.sh hw.sh.ld, hw.cx.2.1.1.2.1, if_pos (nI_le (Nat.le_refl _) (by omega)), nI_1]
    exact ⟨σ, rfl, Ag.refl _ _, e, fun _ _ => rfl⟩
  | m + 1, j, σ, h, hm, hj, e => by
    have hw := h.1
    have h6 := hw.ok.1.2.1
    have h7 := hw.ok.1.1
    obtain ⟨σ1, c1, c2⟩ := c_waterOf (d := d + 24) hw.sh hw.cx.2.1 hw.ok.1 hw.ok.2 hw.cx.2.2 da21 hw.row.1 hw.row.2 (j := j) (p := p) (by omega) hp
    have a1 := c2.mono sc_qc
    have s1 := a1.sh hw.sh
    have a2 := a1.wI qc30 p (mxx (mI σ 30 p) (lgv many cs (gvs l (mI σ 533) j p (lT l p) (mI σ 533 p) 0) * lD l p))
    have h2 := h.qc a2
    have e533 : mI (wI σ1 30 p (mxx (mI σ 30 p) (lgv many cs (gvs l (mI σ 533) j p (lT l p) (mI σ 533 p) 0) * lD l p))) 533 = mI σ 533 := by rw [rI_o (by decide), c2.at (by unfold scC; omega)]
    have key := c_most_in hp x m (j + 1) _ h2 (by omega) (by omega) (by rw [e533, rI_w, if_pos ⟨rfl, rfl⟩, e]; rfl)
    obtain ⟨σ', k1, k2, k3, k4⟩ := key
    rw [e533] at k3
    refine ⟨σ', ?_, a2.trans k2, k3, fun q hq => by rw [k4 q hq, rI_w, if_neg (fun z => hq z.2), c2.at (by unfold scC; omega)]⟩
    rw [e_Plan_fewestFor_30, xg_ld hw.sh hw.sh.ld, hw.cx.2.1.1.2.1, if_neg (nI_ge (by omega) (by omega)), xr_29_0 hw.sh, xr_29_0 hw.sh, xa_30 hw.sh (by omega), show ev (d + 28) 73 [.ref 3, .ref 21, .int (nI j), .int (nI p)] σ = _ from c1, cI1_ok, c_max, cI1_ok, xt_30 s1 (by omega), nI_1]
    rw [show ldA (wI σ1 30 p (mxx (mI σ 30 p) (lgv many cs (gvs l (mI σ 533) j p (lT l p) (mI σ 533 p) 0) * lD l p))) = ldA σ from a2.ld] at k1
    exact k1
theorem c_most (x : Int32) : ∀ m p σ v, Iv σ t n l many cs w K b → nP l - p = m → p ≤ nP l → (∀ q, q < p → mI σ 30 q = mo l many cs (mI σ 533) q) →
    ∃ σ', rn (d + 29) 102 9 [.ref 29, .ref 3, .ref 21, .int x, .ref (ldA σ), .int (nI p), v, uv, uv] [] σ = rn (d + 29) 102 88 [.ref 29, .ref 3, .ref 21, .int x, .ref (ldA σ'), .int (-1), .int 8, .int 0, uv] [] σ' ∧ Ag qc σ σ' ∧ ∀ q, q < nP l → mI σ' 30 q = mo l many cs (mI σ 533) q
  | 0, p, σ, v, h, hm, hp, e => by
    have hw := h.1
    have h7 := hw.ok.1.1
    rw [e_Plan_fewestFor_9, xg_ld hw.sh hw.sh.ld, hw.cx.2.1.1.1, if_pos (nI_le (by omega) (by omega))]
    exact ⟨σ, rfl, Ag.refl _ _, fun q hq => e q (by omega)⟩
  | m + 1, p, σ, v, h, hm, hp, e => by
    have hw := h.1
    have h7 := hw.ok.1.1
    have a0 := (Ag.refl qc σ).wI qc30 p 0
    have h0 := h.qc a0
    have e533 : mI (wI σ 30 p 0) 533 = mI σ 533 := rI_o (by decide)
    obtain ⟨σ1, c1, c2, c3, c4⟩ := c_most_in (d := d) (p := p) (by omega) x _ 0 (wI σ 30 p 0) h0 rfl (Nat.zero_le _) (by rw [rI_w, if_pos ⟨rfl, rfl⟩]; rfl)
    rw [e533] at c3
    have a1 := a0.trans c2
    have h1 := h.qc a1
    have e1 : mI σ1 533 = mI σ 533 := (c2.at (fun q => by have := q.2.2; omega)).trans e533
    obtain ⟨σ', k1, k2, k3⟩ := c_most x m (p + 1) σ1 (.int (nI (nJ l))) h1 (by omega) (by omega) (fun q hq => by
      rw [e1]
      by_cases z : q = p
      · rw [z]; exact c3
      · rw [c4 q z, rI_w, if_neg (fun y => z y.2)]; exact e q (by omega))
    rw [e1] at k3
    refine ⟨σ', ?_, a1.trans k2, k3⟩
    rw [e_Plan_fewestFor_9, xg_ld hw.sh hw.sh.ld, hw.cx.2.1.1.1, if_neg (nI_ge (by omega) (by omega)), xr_29_0 hw.sh, xt_30 hw.sh (by omega)]
    exact c1.trans k1
/-- the same by the reference, each time anew -/
theorem m_mostOfOne {p : Nat} (hp : p < nP l) (h : Iv τ t n l many cs w K b) (e0 : mI τ 53 0 = 0) : ∃ φ, ev (d + 9) 241 [.ref 53, .int (nI p)] τ = some (.inl (.int (mo l many cs (mI τ 533) p)), φ) ∧ AgM qm qF τ φ ∧ mI φ 53 0 = 0 := by
  have key : ∀ m j τ' s, Iv τ' t n l many cs w K b → AgM qm qF τ τ' → mI τ' 53 0 = 0 → nJ l - j = m → j ≤ nJ l → s = fo j (fun j s => mxx s (lgv many cs (gvs l (mI τ 533) j p (lT l p) (mI τ 533 p) 0) * lD l p)) 0 →
      ∃ φ, rn (d + 9) 241 4 [.ref 53, .int (nI p), .int s, .int (nI j)] [] τ' = some (.inl (.int (mo l many cs (mI τ 533) p)), φ) ∧ AgM qm qF τ φ ∧ mI φ 53 0 = 0 := by
    intro m
    induction m with
    | zero =>
      intro j τ' s h a z hm hj e
      have hg := h.1
      have h6 := hg.ok.1.2.1
      have : j = nJ l := by omega
      subst this
      rw [e_M_mostOfOne_4, xr_53_12 hg.sh, show aI τ' 57 1 = aI τ' 57 (nI 1) from rfl, xa_57 hg.sh (by decide), hg.mx.2.1.1.2.1, if_pos (nI_le (Nat.le_refl _) (by omega)), nar0, e]
      exact ⟨τ', rfl, a, z⟩
    | succ m ih =>
      intro j τ' s h a z hm hj e
      have hg := h.1
      have h6 := hg.ok.1.2.1
      obtain ⟨τ1, c1, c2⟩ := m_waterOf (d := d + 2) hg.sh hg.mx.2.1 hg.ok.1 hg.ok.2 hg.mx.2.2 rw533 (j := j) (p := p) (by omega) hp
      have e5 : mI τ' 533 = mI τ 533 := a.at (by decide) (fun q => q.1 f533)
      rw [e5] at c1
      have a1 : AgM qm qF τ' τ1 := AgM.of c2 sc_qm (by unfold scM; omega)
      rw [e_M_mostOfOne_4, xr_53_12 hg.sh, show aI τ' 57 1 = aI τ' 57 (nI 1) from rfl, xa_57 hg.sh (by decide), hg.mx.2.1.1.2.1, if_neg (nI_ge (by omega) (by omega)), xr_53_29 hg.sh, show ev (d + 8) 215 [.ref 53, .ref 533, .int (nI j), .int (nI p)] τ' = _ from c1, cI_ok, m_more, cI1_ok, nI_1]
      exact ih (j + 1) τ1 _ (h.qm a1) (a.trans a1) (by rw [c2.at (by unfold scM; omega)]; exact z) (by omega) (by omega) (by rw [e]; rfl)
  rw [e_M_mostOfOne (d + 8) 53 (nI p) τ (by rw [k_53 h.1.sh])]
  exact key _ 0 τ 0 h (AgM.refl _ _ _) e0 rfl (Nat.zero_le _) rfl
end MostV
