/-! comedians -/
def shF (v w a b : Int32) : Int32 := (if a ≤ b then (if a = b then v / 2 else 0) else v) - w * a
section Comed
variable {σ τ σ' τ' υ φ : mm_M} {t : Nat → Nat} {n : Nat} {l : Ln} {many : Nat} {cs : Nat → Int32} {w K : Nat} {b : List (Nat × Nat)} {d : Nat}
theorem c_shF (v x a c : Int32) (σ : mm_M) : ev d 160 [.int v, .int x, .int a, .int c] σ = some (.inl (.int (shF v x a c)), σ) := by
  rw [e_W_shareOfFame]
  unfold shF
  by_cases q : a ≤ c
  · rw [if_pos q, if_pos q]
    by_cases q2 : a = c
    · rw [if_pos q2, if_pos q2, if_neg (by decide), e_W_shareOfFame_21, nar0]
    · rw [if_neg q2, if_neg q2, e_W_shareOfFame_21, nar0]
  · rw [if_neg q, if_neg q, e_W_shareOfFame_21, nar0]
theorem m_shF (v x a c : Int32) (σ : mm_M) : ev d 255 [.int a, .int c, .int v, .int x] σ = some (.inl (.int (shF v x a c)), σ) := by
  rw [e_M_hasBy]
  unfold shF
  by_cases q : a ≤ c
  · rw [if_pos q, if_pos q]
    by_cases q2 : a = c
    · rw [if_pos q2, if_pos q2, if_neg (by decide), e_M_hasBy_21, nar0]
    · rw [if_neg q2, if_neg q2, e_M_hasBy_21, nar0]
  · rw [if_neg q, if_neg q, e_M_hasBy_21, nar0]
theorem stays_loop {dc dm N : Nat} (hN : N ≤ 6) (v x a c : Int32) : ∀ m i, N - i = m → i ≤ N → ∃ u, (u = 0 ∨ u = 1) ∧ (∀ σ, rn (dc + 1) 159 13 [.int v, .int x, .int (nI N), .int a, .int c, .int (shF v x a c), .int (nI i)] [] σ = some (.inl (.int u), σ)) ∧ ∀ σ, rn (dm + 1) 256 3 [.int a, .int c, .int v, .int x, .int (nI N), .int (nI i)] [] σ = some (.inl (.int u), σ)
  | 0, i, hm, hi => by
    refine ⟨1, Or.inr rfl, fun σ => ?_, fun σ => ?_⟩
    · rw [e_W_staysAt_13, if_pos (nI_le (by omega) (by omega)), nar1_1]
    · rw [e_M_isBest_3, if_pos (nI_le (by omega) (by omega)), nar1_1]
  | m + 1, i, hm, hi => by
    obtain ⟨u, h0, h1, h2⟩ := stays_loop (dc := dc) (dm := dm) hN v x a c m (i + 1) (by omega) (by omega)
    by_cases q : shF v x (nI i) c ≤ shF v x a c
    · refine ⟨u, h0, fun σ => ?_, fun σ => ?_⟩
      · rw [e_W_staysAt_13, if_neg (nI_ge (by omega) (by omega)), c_shF, cI1_ok, if_pos q, nI_1]; exact h1 σ
      · rw [e_M_isBest_3, if_neg (nI_ge (by omega) (by omega)), m_shF, cI1_ok, m_shF, cI1_ok, if_pos q, nI_1]; exact h2 σ
    · refine ⟨0, Or.inl rfl, fun σ => ?_, fun σ => ?_⟩
      · rw [e_W_staysAt_13, if_neg (nI_ge (by omega) (by omega)), c_shF, cI1_ok, if_neg q, nar1_0]
      · rw [e_M_isBest_3, if_neg (nI_ge (by omega) (by omega)), m_shF, cI1_ok, m_shF, cI1_ok, if_neg q, nar1_0]
theorem stays {dc dm N : Nat} (hN : N ≤ 6) (v x a c : Int32) : ∃ u, (u = 0 ∨ u = 1) ∧ (∀ σ, ev (dc + 1) 159 [.int v, .int x, .int (nI N), .int a, .int c] σ = some (.inl (.int u), σ)) ∧ ∀ σ, ev (dm + 1) 256 [.int a, .int c, .int v, .int x, .int (nI N)] σ = some (.inl (.int u), σ) := by
  obtain ⟨u, h0, h1, h2⟩ := stays_loop (dc := dc) (dm := dm) hN v x a c N 0 rfl (Nat.zero_le _)
  exact ⟨u, h0, fun σ => by rw [e_W_staysAt, c_shF, cI1_ok]; exact h1 σ, fun σ => by rw [e_M_isBest]; exact h2 σ⟩
end Comed
