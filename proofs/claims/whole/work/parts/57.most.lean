/-! the most water of each, by one joke -/
def mo (l : Ln) (many : Nat) (cs r : Nat → Int32) (p : Nat) : Int32 := fo (nJ l) (fun j s => mxx s (lgv many cs (gvs l r j p (lT l p) (r p) 0) * lD l p)) 0
section MostV
variable {σ τ σ' τ' υ φ : mm_M} {t : Nat → Nat} {n : Nat} {l : Ln} {many : Nat} {cs : Nat → Int32} {w K : Nat} {b : List (Nat × Nat)} {d : Nat}
theorem qc30 : qc 30 := by unfold qc fpI fxC; omega
theorem c_most_in {p : Nat} (hp : p < nP l) (x : Int32) : ∀ m j σ, Iv σ t n l many cs w K b → nJ l - j = m → j ≤ nJ l → mI σ 30 p = fo j (fun j s => mxx s (lgv many cs (gvs l (mI σ 533) j p (lT l p) (mI σ 533 p) 0) * lD l p)) 0 →
    ∃ σ', rn (d + 29) 102 30 [.ref 29, .ref 3, .ref 21, .int x, .ref (ldA σ), .int (nI p), .int (nI j), uv, uv] [] σ = rn (d + 29) 102 9 [.ref 29, .ref 3, .ref 21, .int x, .ref (ldA σ'), .int (nI (p + 1)), .int (nI (nJ l)), uv, uv] [] σ' ∧ Ag qc σ σ' ∧ mI σ' 30 p = mo l many cs (mI σ 533) p ∧ ∀ q, q ≠ p → mI σ' 30 q = mI σ 30 q
  | 0, j, σ, h, hm, hj, e => by
    have hw := h.1
    have h6 := hw.ok.1.2.1
    have : j = nJ l := by omega
    subst this
    rw [e_Plan_fewestFor_30, xg_ld hw.sh hw.sh.ld, hw.cx.2.1.1.2.1, if_pos (nI_le (Nat.le_refl _) (by omega)), nI_1]
    exact ⟨σ, rfl, Ag.refl _ _, e, fun _ _ => rfl⟩
  | m + 1, j, σ, h, hm, hj, e => by
    have hw := h.1
    have h6 := hw.ok.1.2.1
    have h7 := hw.ok.1.1
    obtain ⟨σ1, c1, c2⟩ := c_waterOf (d := d + 24) hw.sh hw.cx.2.1 hw.ok.1 hw.ok.2 hw.cx.2.2 da21 hw.row.1 hw.row.2 (j := j) (p := p) (by omega) hp
    have a1 := c2.mono sc_qc
    have s1 := a1.sh hw.sh
    have a2 := a1.wI qc30 p (mxx (mI σ 30 p) (lgv many cs (gvs l (mI σ 533) j p (lT l p) (mI σ 533 p) 0) * lD l p))
    have h2 := h.qc a2
    have e533 : mI (wI σ1 30 p (mxx (mI σ 30 p) (lgv many cs (gvs l (mI σ 533) j p (lT l p) (mI σ 533 p) 0) * lD l p))) 533 = mI σ 533 := by rw [rI_o (by decide), c2.at (by unfold scC; omega)]
    have key := c_most_in hp x m (j + 1) _ h2 (by omega) (by omega) (by rw [e533, rI_w, if_pos ⟨rfl, rfl⟩, e]; rfl)
    obtain ⟨σ', k1, k2, k3, k4⟩ := key
    rw [e533] at k3
    refine ⟨σ', ?_, a2.trans k2, k3, fun q hq => by rw [k4 q hq, rI_w, if_neg (fun z => hq z.2), c2.at (by unfold scC; omega)]⟩
    rw [e_Plan_fewestFor_30, xg_ld hw.sh hw.sh.ld, hw.cx.2.1.1.2.1, if_neg (nI_ge (by omega) (by omega)), xr_29_0 hw.sh, xr_29_0 hw.sh, xa_30 hw.sh (by omega), show ev (d + 28) 73 [.ref 3, .ref 21, .int (nI j), .int (nI p)] σ = _ from c1, cI1_ok, c_max, cI1_ok, xt_30 s1 (by omega), nI_1]
    rw [show ldA (wI σ1 30 p (mxx (mI σ 30 p) (lgv many cs (gvs l (mI σ 533) j p (lT l p) (mI σ 533 p) 0) * lD l p))) = ldA σ from a2.ld] at k1
    exact k1
end MostV
