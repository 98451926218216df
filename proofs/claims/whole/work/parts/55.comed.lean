/-! comedians -/
def shF (v w a b : Int32) : Int32 := (if a ≤ b then (if a = b then v / 2 else 0) else v) - w * a
section Comed
variable {σ τ σ' τ' υ φ : mm_M} {t : Nat → Nat} {n : Nat} {l : Ln} {many : Nat} {cs : Nat → Int32} {w K : Nat} {b : List (Nat × Nat)} {d : Nat}
theorem c_shF (v x a c : Int32) (σ : mm_M) : ev d 160 [.int v, .int x, .int a, .int c] σ = some (.inl (.int (shF v x a c)), σ) := by
  rw [e_W_shareOfFame]
  unfold shF
  by_cases q : a ≤ c
  · rw [if_pos q, if_pos q]
    by_cases q2 : a = c
    · rw [if_pos q2, if_pos q2, if_neg (by decide), e_W_shareOfFame_21, nar0]
    · rw [if_neg q2, if_neg q2, e_W_shareOfFame_21, nar0]
  · rw [if_neg q, if_neg q, e_W_shareOfFame_21, nar0]
theorem m_shF (v x a c : Int32) (σ : mm_M) : ev d 255 [.int a, .int c, .int v, .int x] σ = some (.inl (.int (shF v x a c)), σ) := by
  rw [e_M_hasBy]
  unfold shF
  by_cases q : a ≤ c
  · rw [if_pos q, if_pos q]
    by_cases q2 : a = c
    · rw [if_pos q2, if_pos q2, if_neg (by decide), e_M_hasBy_21, nar0]
    · rw [if_neg q2, if_neg q2, e_M_hasBy_21, nar0]
  · rw [if_neg q, if_neg q, e_M_hasBy_21, nar0]
theorem stays_loop {dc dm N : Nat} (hN : N ≤ 6) (v x a c : Int32) : ∀ m i, N - i = m → i ≤ N → ∃ u, (u = 0 ∨ u = 1) ∧ (∀ σ, rn (dc + 1) 159 13 [.int v, .int x, .int (nI N), .int a, .int c, .int (shF v x a c), .int (nI i)] [] σ = some (.inl (.int u), σ)) ∧ ∀ σ, rn (dm + 1) 256 3 [.int a, .int c, .int v, .int x, .int (nI N), .int (nI i)] [] σ = some (.inl (.int u), σ)
  | 0, i, hm, hi => by
    refine ⟨1, Or.inr rfl, fun σ => ?_, fun σ => ?_⟩
    · rw [e_W_staysAt_13, if_pos (nI_le (by omega) (by omega)), nar1_1]
    · rw [e_M_isBest_3, if_pos (nI_le (by omega) (by omega)), nar1_1]
  | m + 1, i, hm, hi => by
    obtain ⟨u, h0, h1, h2⟩ := stays_loop (dc := dc) (dm := dm) hN v x a c m (i + 1) (by omega) (by omega)
    by_cases q : shF v x (nI i) c ≤ shF v x a c
    · refine ⟨u, h0, fun σ => ?_, fun σ => ?_⟩
      · rw [e_W_staysAt_13, if_neg (nI_ge (by omega) (by omega)), c_shF, cI1_ok, if_pos q, nI_1]; exact h1 σ
      · rw [e_M_isBest_3, if_neg (nI_ge (by omega) (by omega)), m_shF, cI1_ok, m_shF, cI1_ok, if_pos q, nI_1]; exact h2 σ
    · refine ⟨0, Or.inl rfl, fun σ => ?_, fun σ => ?_⟩
      · rw [e_W_staysAt_13, if_neg (nI_ge (by omega) (by omega)), c_shF, cI1_ok, if_neg q, nar1_0]
      · rw [e_M_isBest_3, if_neg (nI_ge (by omega) (by omega)), m_shF, cI1_ok, m_shF, cI1_ok, if_neg q, nar1_0]
theorem stays {dc dm N : Nat} (hN : N ≤ 6) (v x a c : Int32) : ∃ u, (u = 0 ∨ u = 1) ∧ (∀ σ, ev (dc + 1) 159 [.int v, .int x, .int (nI N), .int a, .int c] σ = some (.inl (.int u), σ)) ∧ ∀ σ, ev (dm + 1) 256 [.int a, .int c, .int v, .int x, .int (nI N)] σ = some (.inl (.int u), σ) := by
  obtain ⟨u, h0, h1, h2⟩ := stays_loop (dc := dc) (dm := dm) hN v x a c N 0 rfl (Nat.zero_le _)
  exact ⟨u, h0, fun σ => by rw [e_W_staysAt, c_shF, cI1_ok]; exact h1 σ, fun σ => by rw [e_M_isBest]; exact h2 σ⟩
theorem dv : ∀ N, N < 7 → 1 ≤ N → ∀ k, k < 36 → nI k / nI N = nI (k / N) ∧ nI k - nI (k / N) * nI N = nI (k % N) := by decide +kernel
theorem sq : ∀ N, N < 7 → nI N * nI N = nI (N * N) := by decide
/-- the reference goes to the next pair -/
theorem ref_next {N k : Nat} (h1 : 1 ≤ N) (h6 : N ≤ 6) (hk : k < N * N) (v x y x5 x6 x7 : Int32) : rn (d + 1) 257 82 [.ref 53, .int v, .int x, .int (nI N), .int y, .int x5, .int x6, .int x7, .int (nI (k / N)), .int (nI (k % N + 1))] [] τ = if k + 1 < N * N then rn (d + 1) 257 82 [.ref 53, .int v, .int x, .int (nI N), .int y, .int x5, .int x6, .int x7, .int (nI ((k + 1) / N)), .int (nI ((k + 1) % N))] [] τ else rn (d + 1) 257 73 [.ref 53, .int v, .int x, .int (nI N), .int y, .int x5, .int x6, .int x7, .int (nI N), .int (nI N)] [] τ := by
  have kl : k % N < N := Nat.mod_lt _ h1
  have kd : N * (k / N) + k % N = k := Nat.div_add_mod k N
  have kq : k / N < N := Nat.div_lt_of_lt_mul hk
  by_cases q : k % N + 1 < N
  · have e1 : (k + 1) / N = k / N := by
      rw [show k + 1 = (k % N + 1) + N * (k / N) by omega, Nat.add_mul_div_left _ _ h1, Nat.div_eq_of_lt q, Nat.zero_add]
    have e2 : (k + 1) % N = k % N + 1 := by
      conv => lhs; rw [show k + 1 = (k % N + 1) + N * (k / N) by omega]
      rw [Nat.add_mul_mod_self_left, Nat.mod_eq_of_lt q]
    have lt : k + 1 < N * N := by
      have : N * (k / N) + N ≤ N * N := by
        rw [← Nat.mul_succ]; exact Nat.mul_le_mul_left N kq
      omega
    rw [if_pos lt, e1, e2]
  · have eN : k % N + 1 = N := by omega
    have ek : k + 1 = N * (k / N + 1) := by rw [Nat.mul_succ]; omega
    have e1 : (k + 1) / N = k / N + 1 := by rw [ek, Nat.mul_div_cancel_left _ h1]
    have e2 : (k + 1) % N = 0 := by rw [ek, Nat.mul_mod_right]
    rw [eN, e_M_comedians_82, if_pos (nI_le (Nat.le_refl _) (by omega)), nI_1]
    by_cases z : k + 1 < N * N
    · have lt : k / N + 1 < N := by
        rw [ek] at z
        exact Nat.lt_of_mul_lt_mul_left z
      rw [if_pos z, e1, e2, e_M_comedians_73, if_neg (nI_ge (by omega) (by omega))]
      rfl
    · have eq : k / N + 1 = N := by
        have : N * (k / N + 1) = N * N := by omega
        exact Nat.eq_of_mul_eq_mul_left h1 this
      rw [if_neg z, eq]
theorem com_end {N : Nat} (h6 : N ≤ 6) (h : B2 σ τ t n l many cs w K b) (v x y x5 x6 x7 : Int32) (v9 v10 v9' : Value) : Two σ τ (rn (d + 30) 141 48 [.ref 0, .int v, .int x, .int (nI N), .int y, .int x5, .int x6, .int x7, .int (nI (N * N)), v9, v10] [] σ) (rn (d + 31) 257 73 [.ref 53, .int v, .int x, .int (nI N), .int y, .int x5, .int x6, .int x7, .int (nI N), v9'] [] τ) := by
  rw [e_W_comedians_48, sq N (by omega), if_pos (nI_le (Nat.le_refl _) (by have : N * N ≤ 6 * 6 := Nat.mul_le_mul h6 h6; omega)), e_M_comedians_73, if_pos (nI_le (Nat.le_refl _) (by omega))]
  by_cases q : y = 0
  · rw [if_pos q, if_pos q, e_W_comedians_162, e_M_comedians_206]; exact Two.ok h.2.2.2 _
  · rw [if_neg q, if_neg q]
    by_cases q2 : y = 1
    · rw [if_pos q2, if_pos q2, e_W_comedians_162, e_M_comedians_206]; exact Two.ok h.2.2.2 _
    · rw [if_neg q2, if_neg q2, e_W_comedians_162, e_M_comedians_206]; exact Two.ok h.2.2.2 _
theorem com_loop {N : Nat} (h1 : 1 ≤ N) (h6 : N ≤ 6) (h : B2 σ τ t n l many cs w K b) (v x y : Int32) : ∀ m k x5 x6 x7 v9 v10, N * N - k = m → k < N * N → Two σ τ (rn (d + 30) 141 48 [.ref 0, .int v, .int x, .int (nI N), .int y, .int x5, .int x6, .int x7, .int (nI k), v9, v10] [] σ) (rn (d + 31) 257 82 [.ref 53, .int v, .int x, .int (nI N), .int y, .int x5, .int x6, .int x7, .int (nI (k / N)), .int (nI (k % N))] [] τ)
  | 0, k, x5, x6, x7, v9, v10, hm, hk => by omega
  | m + 1, k, x5, x6, x7, v9, v10, hm, hk => by
    have hNN : N * N ≤ 6 * 6 := Nat.mul_le_mul h6 h6
    have kl : k % N < N := Nat.mod_lt _ h1
    obtain ⟨d1, d2⟩ := dv N (by omega) h1 k (by omega)
    have nz : ¬ nI N = (0 : Int32) := fun z => by have := (nI_eq (a := N) (b := 0) (by omega) (by decide)).mp z; omega
    obtain ⟨u, u0, u1, u2⟩ := stays (dc := d + 28) (dm := d + 29) h6 v x (nI (k / N)) (nI (k % N))
    obtain ⟨u', u0', u1', u2'⟩ := stays (dc := d + 28) (dm := d + 29) h6 v x (nI (k % N)) (nI (k / N))
    have next : ∀ x5 x6 x7 v9 v10, Two σ τ (rn (d + 30) 141 48 [.ref 0, .int v, .int x, .int (nI N), .int y, .int x5, .int x6, .int x7, .int (nI (k + 1)), v9, v10] [] σ) (rn (d + 31) 257 82 [.ref 53, .int v, .int x, .int (nI N), .int y, .int x5, .int x6, .int x7, .int (nI (k / N)), .int (nI (k % N + 1))] [] τ) := by
      intro x5 x6 x7 v9 v10
      rw [ref_next h1 h6 hk]
      by_cases z : k + 1 < N * N
      · rw [if_pos z]
        exact com_loop h1 h6 h v x y m (k + 1) x5 x6 x7 v9 v10 (by omega) z
      · rw [if_neg z, show k + 1 = N * N by omega]
        exact com_end h6 h v x y x5 x6 x7 v9 v10 _
    rw [e_W_comedians_48, sq N (by omega), if_neg (nI_ge (by omega) (by omega)), if_neg nz, if_neg nz, d1, d2, u1, cI1_ok, e_M_comedians_82, if_neg (nI_ge (by omega) (by omega)), u2, cI1_ok]
    rcases u0 with rfl | rfl
    · rw [if_pos (show (0 : Int32) = 0 from rfl), if_pos (show (0 : Int32) = 0 from rfl), e_W_comedians_133, e_M_comedians_171, nI_1, nI_1]
      exact next _ _ _ _ _
    · rw [if_neg (show ¬ (1 : Int32) = 0 by decide), if_neg (show ¬ (1 : Int32) = 0 by decide), u1', cI1_ok, u2', cI1_ok]
      rcases u0' with rfl | rfl
      · rw [if_pos (show (0 : Int32) = 0 from rfl), if_pos (show (0 : Int32) = 0 from rfl), e_W_comedians_133, e_M_comedians_171, nI_1, nI_1]
        exact next _ _ _ _ _
      · rw [if_neg (show ¬ (1 : Int32) = 0 by decide), if_neg (show ¬ (1 : Int32) = 0 by decide)]
        by_cases q : x5 = 0
        · rw [if_pos q, if_pos q, c_shF, cI1_ok, c_shF, cI1_ok, m_shF, cI1_ok, m_shF, cI1_ok, e_W_comedians_130, e_W_comedians_133, e_M_comedians_146, if_pos q, e_M_comedians_166, e_M_comedians_171, nI_1, nI_1]
          exact next _ _ _ _ _
        · rw [if_neg q, if_neg q, e_W_comedians_130, e_W_comedians_133, e_M_comedians_146, if_neg q, e_M_comedians_166, e_M_comedians_171, nI_1, nI_1]
          exact next _ _ _ _ _
theorem op_comedians (x1 x2 x3 x4 : Int32) : OpQ (d + 30) 141 [.ref 0, .int x1, .int x2, .int x3, .int x4] (d + 31) 257 [.ref 53, .int x1, .int x2, .int x3, .int x4] [(2, 1)] := by
  refine op_x (e1 := 2) (e2 := 2) (c1 := 1) (c2 := 1) (P := fun _ => ((0 : Int32) ≤ x1 ∧ x1 ≤ 99) ∧ ((0 : Int32) ≤ x2 ∧ x2 ≤ 20) ∧ ((1 : Int32) ≤ x3 ∧ x3 ≤ 6) ∧ ((0 : Int32) ≤ x4 ∧ x4 ≤ 2)) (Q := fun _ => True)
    (f := fun σ7 => rn (d + 30) 141 48 [.ref 0, .int x1, .int x2, .int x3, .int x4, .int 0, .int (-1), .int 0, .int 0, uv, uv] [] σ7)
    (g := fun σ1 => rn (d + 31) 257 73 [.ref 53, .int x1, .int x2, .int x3, .int x4, .int 0, .int (-1), .int 0, .int 0, uv] [] σ1) ⟨Or.inr rfl, rfl, by decide⟩ ⟨Or.inr rfl, rfl, by decide⟩ ?_ ?_ ?_
  · intro σ t n l many cs w K b hw
    obtain ⟨a0, b0⟩ := c_rng (d := d + 29) hw.sh x1 0 99
    obtain ⟨a1, b1⟩ := c_rng (d := d + 29) hw.sh x2 0 20
    obtain ⟨a2, b2⟩ := c_rng (d := d + 29) hw.sh x3 1 6
    obtain ⟨a3, b3⟩ := c_rng (d := d + 29) hw.sh x4 0 2
    rw [e_W_comedians (d + 29) 0 x1 x2 x3 x4 σ (by rw [k_0 hw.sh])]
    refine ⟨fun p _ => by rw [a0 p.1, cI_ok, a1 p.2.1, cI_ok, a2 p.2.2.1, cI_ok, a3 p.2.2.2, cI_ok], fun p => ?_, fun _ q => absurd trivial q⟩
    by_cases q0 : (0 : Int32) ≤ x1 ∧ x1 ≤ 99
    · rw [a0 q0, cI_ok]
      by_cases q1 : (0 : Int32) ≤ x2 ∧ x2 ≤ 20
      · rw [a1 q1, cI_ok]
        by_cases q2 : (1 : Int32) ≤ x3 ∧ x3 ≤ 6
        · rw [a2 q2, cI_ok]
          rw [b3 (fun z => p ⟨q0, q1, q2, z⟩)]; rfl
        · rw [b2 q2]; rfl
      · rw [b1 q1]; rfl
    · rw [b0 q0]; rfl
  · intro σ t n l many cs w K b hw hg
    have bad : rn (d + 31) 257 51 [.ref 53, .int x1, .int x2, .int x3, .int x4, uv, uv, uv, uv, uv] [.int 1, .ref 53] (wI σ 53 0 0) = some (.inl (.int 0), exM σ 1 2) := by rw [e_M_comedians_51, m_bx1 hw.sh (by decide), cI_ok, if_neg (show ¬ (1 : Int32) = 0 by decide), nar0]
    rw [e_M_comedians (d + 30) 53 x1 x2 x3 x4 σ (by rw [k_53 hw.sh]), xs_53 hw.sh]
    refine ⟨fun p _ => by rw [m_in, cI1_ok, i01_p p.1, if_neg (show ¬ (1 : Int32) = 0 by decide), m_in, cI1_ok, i01_p p.2.1, if_neg (show ¬ (1 : Int32) = 0 by decide), m_in, cI1_ok, i01_p p.2.2.1, if_neg (show ¬ (1 : Int32) = 0 by decide), m_in, cI1_ok, i01_p p.2.2.2, if_neg (show ¬ (1 : Int32) = 0 by decide), e_M_comedians_51, m_bad0 hg.sh (th0 σ), cI_ok, if_pos (show (0 : Int32) = 0 from rfl)], fun p => ?_, fun _ q => absurd trivial q⟩
    by_cases q0 : (0 : Int32) ≤ x1 ∧ x1 ≤ 99
    · rw [m_in, cI1_ok, i01_p q0, if_neg (show ¬ (1 : Int32) = 0 by decide)]
      by_cases q1 : (0 : Int32) ≤ x2 ∧ x2 ≤ 20
      · rw [m_in, cI1_ok, i01_p q1, if_neg (show ¬ (1 : Int32) = 0 by decide)]
        by_cases q2 : (1 : Int32) ≤ x3 ∧ x3 ≤ 6
        · rw [m_in, cI1_ok, i01_p q2, if_neg (show ¬ (1 : Int32) = 0 by decide)]
          rw [m_in, cI1_ok, i01_n (show ¬ ((0 : Int32) ≤ x4 ∧ x4 ≤ 2) from fun z => p ⟨q0, q1, q2, z⟩), if_pos (show (0 : Int32) = 0 from rfl), e_M_comedians_46]; exact bad
        · rw [m_in, cI1_ok, i01_n q2, if_pos (show (0 : Int32) = 0 from rfl), e_M_comedians_46]; exact bad
      · rw [m_in, cI1_ok, i01_n q1, if_pos (show (0 : Int32) = 0 from rfl), e_M_comedians_46]; exact bad
    · rw [m_in, cI1_ok, i01_n q0, if_pos (show (0 : Int32) = 0 from rfl), e_M_comedians_46]; exact bad
  · intro σ τ t n l many cs w K b h p _
    have hN : inN x3 7 := by
      rw [inN_le (n := 6) (by decide)]
      refine ⟨fun z => ?_, p.2.2.1.2⟩
      have h1 := p.2.2.1.1
      rw [Int32.le_iff_toInt_le] at h1
      rw [Int32.lt_iff_toInt_lt] at z
      have h1 : (1 : Int) ≤ x3.toInt := h1
      have z : x3.toInt < 0 := z
      omega
    obtain ⟨N, hN7, rfl⟩ := hN
    have h1 : 1 ≤ N := (nI_leI (a := 1) (b := N) (by decide) (by omega)).mp p.2.2.1.1
    have hp : 0 < N * N := Nat.mul_pos h1 h1
    have := com_loop (d := d) h1 (by omega) h x1 x2 x4 _ 0 0 (-1) 0 uv uv rfl hp
    rw [Nat.zero_div, Nat.zero_mod] at this
    show Two σ τ _ (rn (d + 31) 257 73 [.ref 53, .int x1, .int x2, .int (nI N), .int x4, .int 0, .int (-1), .int 0, .int 0, uv] [] τ)
    rw [e_M_comedians_73, if_neg (show ¬ nI N ≤ (0 : Int32) from nI_ge (b := N) (a := 0) (by omega) (by omega))]
    exact this
end Comed
