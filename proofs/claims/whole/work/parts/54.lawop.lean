/-! law -/
def swp (υ : mm_M) : mm_M := wR (wR υ 3 2 (59 - lwA υ)) 0 10 (lwA υ)
theorem rr_none : rr 3 2 = none ∧ rr 0 10 = none := by decide +kernel
theorem swp_lw (υ : mm_M) : lwA (swp υ) = 59 - lwA υ := rfl
theorem swp_ld (υ : mm_M) : ldA (swp υ) = ldA υ := rfl
theorem swp_bk (υ : mm_M) : bkA (swp υ) = bkA υ := rfl
theorem swp_r (υ : mm_M) {a i : Nat} (h1 : ¬ (a = 3 ∧ i = 2)) (h2 : ¬ (a = 0 ∧ i = 10)) : mR (swp υ) a i = mR υ a i := by
  show (if a = 0 ∧ i = 10 then some (lwA υ) else if a = 3 ∧ i = 2 then some (59 - lwA υ) else mR υ a i) = _
  rw [if_neg h2, if_neg h1]
theorem swp_sh {υ : mm_M} (h : Sh υ) : Sh (swp υ) := by
  obtain ⟨h1, h2, ⟨h3, h4, h5, h6, h7, h8⟩, h9, h10, h11, h12, h13⟩ := h
  have hw : lwA υ = 13 ∨ lwA υ = 46 := h11
  refine ⟨h1, fun a i v e => ?_, ⟨?_, ?_, ?_, ?_, ?_, ?_⟩, h9, h10, ?_, h12, fun a p q => ⟨(h13 a p q).1, ?_⟩⟩
  · rw [swp_r υ (fun z => by rw [z.1, z.2, rr_none.1] at e; cases e) (fun z => by rw [z.1, z.2, rr_none.2] at e; cases e)]
    exact h2 a i v e
  · rw [swp_r υ (by omega) (by omega), swp_ld]; exact h3
  · rfl
  · rw [swp_r υ (by omega) (by omega), swp_ld]; exact h5
  · show some (lwA υ) = some (59 - (59 - lwA υ))
    congr 1
    omega
  · rw [swp_r υ (by omega) (by omega), swp_bk]; exact h7
  · rw [swp_r υ (by omega) (by omega), swp_bk]; exact h8
  · rw [swp_lw]
    show 59 - lwA υ = 13 ∨ 59 - lwA υ = 46
    omega
  · funext i
    rw [swp_r υ (by omega) (by omega), (h13 a p q).2]
theorem sR_3_2 {σ : mm_M} (h : Sh σ) (v : Nat) (k : mm_M → Option mm_R) : sR σ 2 3 2 v k = k (wR σ 3 2 v) := by
  unfold sR
  rw [if_pos (by rw [k_3 h])]
theorem sR_0_10 {σ : mm_M} (h : mK σ 0 = (100, 0)) (v : Nat) (k : mm_M → Option mm_R) : sR σ 0 0 10 v k = k (wR σ 0 10 v) := by
  unfold sR
  rw [if_pos (by rw [h])]
