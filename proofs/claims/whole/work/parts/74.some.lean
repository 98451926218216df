/-! some: how likely, as a fraction -/
def exN (q : Nat) : Nat → Nat → Nat
  | 0, i => if i = 0 then 1 else 0
  | e + 1, 0 => exN q e 0 * (16 - q)
  | e + 1, i + 1 => exN q e (i + 1) * (16 - q) + exN q e i * q
def cb : Nat → Nat → Nat
  | 0, 0 => 1
  | 0, _ + 1 => 0
  | n + 1, 0 => cb n 0
  | n + 1, i + 1 => cb n (i + 1) + cb n i
theorem cb_gt : ∀ n i, n < i → cb n i = 0
  | 0, 0, h => by omega
  | 0, i + 1, _ => rfl
  | n + 1, 0, h => by omega
  | n + 1, i + 1, h => by
    show cb n (i + 1) + cb n i = 0
    rw [cb_gt n (i + 1) (by omega), cb_gt n i (by omega)]
theorem ex_cb (q : Nat) : ∀ e i, exN q e i = cb e i * (q ^ i * (16 - q) ^ (e - i))
  | 0, 0 => by show 1 = 1 * (q ^ 0 * (16 - q) ^ 0); rw [Nat.pow_zero, Nat.pow_zero]
  | 0, i + 1 => by show 0 = 0 * _; rw [Nat.zero_mul]
  | e + 1, 0 => by
    show exN q e 0 * (16 - q) = cb e 0 * (q ^ 0 * (16 - q) ^ (e + 1))
    rw [ex_cb q e 0, Nat.pow_succ, Nat.sub_zero, Nat.mul_assoc, Nat.mul_assoc]
  | e + 1, i + 1 => by
    show exN q e (i + 1) * (16 - q) + exN q e i * q = (cb e (i + 1) + cb e i) * (q ^ (i + 1) * (16 - q) ^ (e + 1 - (i + 1)))
    rw [ex_cb q e (i + 1), ex_cb q e i, Nat.add_mul, show e + 1 - (i + 1) = e - i by omega]
    have e2 : cb e i * (q ^ i * (16 - q) ^ (e - i)) * q = cb e i * (q ^ (i + 1) * (16 - q) ^ (e - i)) := by
      rw [Nat.pow_succ, Nat.mul_assoc, Nat.mul_assoc, Nat.mul_comm ((16 - q) ^ (e - i)) q, Nat.mul_assoc]
    rw [e2]
    by_cases h : i + 1 ≤ e
    · have e1 : cb e (i + 1) * (q ^ (i + 1) * (16 - q) ^ (e - (i + 1))) * (16 - q) = cb e (i + 1) * (q ^ (i + 1) * (16 - q) ^ (e - i)) := by
        rw [show e - i = (e - (i + 1)) + 1 by omega, Nat.pow_succ (16 - q), Nat.mul_assoc, Nat.mul_assoc]
      rw [e1]
    · rw [cb_gt e (i + 1) (by omega), Nat.zero_mul, Nat.zero_mul, Nat.zero_mul]
theorem ex_gt (q : Nat) {e i : Nat} (h : e < i) : exN q e i = 0 := by rw [ex_cb, cb_gt e i h, Nat.zero_mul]
theorem ex_le {q : Nat} (hq : q ≤ 16) : ∀ e i, exN q e i ≤ 16 ^ e
  | 0, i => by
    show (if i = 0 then 1 else 0) ≤ 1
    split <;> omega
  | e + 1, 0 => by
    show exN q e 0 * (16 - q) ≤ 16 ^ e * 16
    exact Nat.mul_le_mul (ex_le hq e 0) (by omega)
  | e + 1, i + 1 => by
    show exN q e (i + 1) * (16 - q) + exN q e i * q ≤ 16 ^ e * 16
    have h1 := Nat.mul_le_mul (ex_le hq e (i + 1)) (Nat.le_refl (16 - q))
    have h2 := Nat.mul_le_mul (ex_le hq e i) (Nat.le_refl q)
    have h3 : 16 ^ e * (16 - q) + 16 ^ e * q = 16 ^ e * 16 := by rw [← Nat.mul_add, show 16 - q + q = 16 by omega]
    omega
theorem cb_next : ∀ n, n < 13 → ∀ i, i < 13 → i ≤ n → cb n i * (n - i) / (i + 1) = cb n (i + 1) ∧ cb n i * (n - i) < 100000 := by decide +kernel
/-- the sum from k on, up to m -/
def sgm (k : Nat) (f : Nat → Nat) (m : Nat) : Nat := fo m (fun i s => if k ≤ i then s + f i else s) 0
theorem sgm_0 {k : Nat} {f : Nat → Nat} : ∀ m, m ≤ k → sgm k f m = 0
  | 0, _ => rfl
  | m + 1, h => by
    show (if k ≤ m then sgm k f m + f m else sgm k f m) = 0
    rw [if_neg (by omega), sgm_0 m (by omega)]
theorem sgm_s (k : Nat) (f : Nat → Nat) (m : Nat) : sgm k f (m + 1) = if k ≤ m then sgm k f m + f m else sgm k f m := rfl
theorem sgm_cut {k : Nat} {f : Nat → Nat} {m : Nat} : ∀ j, (∀ i, m ≤ i → f i = 0) → sgm k f (m + j) = sgm k f m
  | 0, _ => rfl
  | j + 1, h => by
    show sgm k f (m + j + 1) = _
    rw [sgm_s, h (m + j) (by omega), Nat.add_zero, ite_self, sgm_cut j h]
theorem sgm_le {k B : Nat} {f : Nat → Nat} (h : ∀ i, f i ≤ B) : ∀ m, sgm k f m ≤ m * B
  | 0 => Nat.zero_le _
  | m + 1 => by
    have := sgm_le (k := k) h m
    have := h m
    rw [sgm_s, Nat.succ_mul]
    split <;> omega
section SomeV
variable {σ τ σ' τ' υ φ : mm_M} {t : Nat → Nat} {n : Nat} {l : Ln} {many : Nat} {cs : Nat → Int32} {w K : Nat} {b : List (Nat × Nat)} {d : Nat}
theorem cL1_ok (v : Int64) (τ : mm_M) (k : Int64 → mm_M → Option mm_R) : cL1 (some (.inl (.long v), τ)) k = k v τ := rfl
theorem c_power {q m : Nat} (hq : q ≤ 16) (hm : m ≤ 12) : ev d 161 [.int (nI q), .int (nI m)] σ = some (.inl (.long (lN (q ^ m))), σ) := by
  rw [e_W_power]
  have loop : ∀ k i, m - i = k → i ≤ m → rn d 161 5 [.int (nI q), .int (nI m), .long (lN (q ^ i)), uv, .int (nI i)] [] σ = some (.inl (.long (lN (q ^ m))), σ) := by
    intro k
    induction k with
    | zero =>
      intro i hk hi
      rw [e_W_power_5, if_pos (nI_le (by omega) (by omega)), show i = m by omega]
    | succ k ih =>
      intro i hk hi
      rw [e_W_power_5, if_neg (nI_ge (by omega) (by omega)), nI_l (by omega), lN_mul, nI_1, ← Nat.pow_succ]
      exact ih (i + 1) (by omega) (by omega)
  exact loop m 0 rfl (Nat.zero_le _)
theorem gcd_odd {a : Nat} (h : a % 2 = 1) (m : Nat) : Nat.gcd a (2 ^ m) = 1 := by
  have h2 : Nat.Coprime a 2 := by
    show Nat.gcd a 2 = 1
    rw [Nat.gcd_comm, Nat.gcd_rec, h]
    decide
  exact h2.pow_right m
theorem gcd_even (a m : Nat) (h : a % 2 = 0) : Nat.gcd a (2 ^ (m + 1)) = 2 * Nat.gcd (a / 2) (2 ^ m) := by
  have : a = 2 * (a / 2) := by omega
  conv => lhs; rw [this, Nat.pow_succ, Nat.mul_comm (2 ^ m) 2]
  exact Nat.gcd_mul_left 2 (a / 2) (2 ^ m)
/-- cutting both by 2 is cutting by all that they share -/
theorem c_halves {x1 x2 x3 x4 : Int32} {x7 : Int64} : ∀ m c a, m + c ≤ 48 → a < 2 ^ 60 → rn (d + 1) 142 116 [.ref 0, .int x1, .int x2, .int x3, .int x4, .long (lN a), uv, .long x7, uv, .long (lN (2 ^ m)), uv, .int (nI c)] [] σ = some (.inl (.long (if x4 = 0 then lN (a / Nat.gcd a (2 ^ m)) else lN (2 ^ m / Nat.gcd a (2 ^ m)))), σ) := by
  have fin : ∀ (A B : Int64) (c : Int32), rn (d + 1) 142 163 [.ref 0, .int x1, .int x2, .int x3, .int x4, .long A, uv, .long x7, uv, .long B, uv, .int c] [] σ = some (.inl (.long (if x4 = 0 then A else B)), σ) := by
    intro A B c
    rw [e_W_some_163]
    by_cases z : x4 = 0
    · rw [if_pos z, if_pos z, e_W_some_175]
    · rw [if_neg z, if_neg z, e_W_some_175]
  intro m
  induction m with
  | zero =>
    intro c a hc ha
    rw [e_W_some_116]
    have g : Nat.gcd a (2 ^ 0) = 1 := Nat.gcd_one_right a
    rw [g, Nat.div_one, Nat.div_one]
    by_cases z : (48 : Int32) ≤ nI c
    · rw [if_pos z, fin]
    · rw [if_neg z, if_pos (show lg_cmp (lN (2 ^ 0)) (Int64.ofNat 1) ≤ 0 by decide), fin]
  | succ m ih =>
    intro c a hc ha
    have p1 : 2 ^ (m + 1) ≤ 2 ^ 48 := Nat.pow_le_pow_right (by decide) (by omega)
    have p2 : 2 ^ 1 ≤ 2 ^ (m + 1) := Nat.pow_le_pow_right (by decide) (by omega)
    have n2 : ¬ (Int64.ofNat 2) = 0 := by decide
    rw [e_W_some_116, if_neg (show ¬ (48 : Int32) ≤ nI c from nI_ge (b := 48) (by omega) (by omega)), if_neg (show ¬ lg_cmp (lN (2 ^ (m + 1))) (Int64.ofNat 1) ≤ 0 from fun z => by
      rw [lg_cmp_le] at z
      have := (pk_lLE (a := 2 ^ (m + 1)) (b := 1) (by omega) (by decide)).mp z
      omega), if_neg n2]
    have rem : lN a - lN a / Int64.ofNat 2 * Int64.ofNat 2 = lN (a % 2) := pk_lRem (a := a) (b := 2) (by omega) (by decide) (by decide)
    by_cases z : a % 2 = 0
    · have dv1 : lN a / Int64.ofNat 2 = lN (a / 2) := pk_lDiv (a := a) (b := 2) (by omega) (by decide) (by decide)
      have dv2 : lN (2 ^ (m + 1)) / Int64.ofNat 2 = lN (2 ^ m) := by
        have := pk_lDiv (a := 2 ^ (m + 1)) (b := 2) (by omega) (by decide) (by decide)
        rw [Nat.pow_succ, Nat.mul_div_cancel _ (by decide)] at this
        rw [Nat.pow_succ]; exact this
      rw [if_pos (show lg_cmp (lN a - lN a / Int64.ofNat 2 * Int64.ofNat 2) (Int64.ofNat 0) = 0 by rw [rem, z, lg_cmp_eq]; rfl), if_neg n2, if_neg n2, dv1, dv2, nI_1, ih (c + 1) (a / 2) (by omega) (by omega), gcd_even a m z]
      have e1 : a / (2 * Nat.gcd (a / 2) (2 ^ m)) = a / 2 / Nat.gcd (a / 2) (2 ^ m) := (Nat.div_div_eq_div_mul _ _ _).symm
      have e2 : 2 ^ (m + 1) / (2 * Nat.gcd (a / 2) (2 ^ m)) = 2 ^ m / Nat.gcd (a / 2) (2 ^ m) := by
        rw [Nat.pow_succ, Nat.mul_comm (2 ^ m) 2]
        exact Nat.mul_div_mul_left _ _ (by decide)
      rw [e1, e2]
    · have z1 : a % 2 = 1 := by omega
      rw [if_neg (show ¬ lg_cmp (lN a - lN a / Int64.ofNat 2 * Int64.ofNat 2) (Int64.ofNat 0) = 0 from fun y => by
        rw [rem, z1, lg_cmp_eq] at y
        exact absurd y (by decide)), fin, gcd_odd z1, Nat.div_one, Nat.div_one]
/-- the class: what some answers -/
def smv (N k q : Nat) (x4 : Int32) : Int64 := if x4 = 0 then lN (sgm k (exN q N) 14 / Nat.gcd (sgm k (exN q N) 14) (2 ^ (4 * N))) else lN (2 ^ (4 * N) / Nat.gcd (sgm k (exN q N) 14) (2 ^ (4 * N)))
theorem sg_bound {N k q : Nat} (hN : N ≤ 12) (hq : q ≤ 16) (m : Nat) (hm : m ≤ 14) : sgm k (exN q N) m < 2 ^ 60 := by
  have h1 := sgm_le (k := k) (ex_le hq N) m
  have h2 : 16 ^ N ≤ 16 ^ 12 := Nat.pow_le_pow_right (by decide) hN
  have h3 : m * 16 ^ N ≤ 14 * 16 ^ 12 := Nat.mul_le_mul hm h2
  have h4 : 14 * 16 ^ 12 < 2 ^ 60 := by decide
  omega
theorem c_some_loop {N k q : Nat} (hN : N ≤ 12) (hk : k ≤ 13) (hq : q ≤ 16) (x4 : Int32) : ∀ m i, N + 1 - i = m → i ≤ N + 1 → rn (d + 1) 142 45 [.ref 0, .int (nI N), .int (nI k), .int (nI q), .int x4, .long (lN (sgm k (exN q N) i)), uv, .long (lN (cb N i)), uv, .int (nI i), uv, uv] [] σ = some (.inl (.long (smv N k q x4)), σ) := by
  intro m
  induction m with
  | zero =>
    intro i hm hi
    have ei : i = N + 1 := by omega
    subst ei
    have e14 : sgm k (exN q N) 14 = sgm k (exN q N) (N + 1) := by
      have := sgm_cut (k := k) (f := exN q N) (m := N + 1) (13 - N) (fun i hi => ex_gt q (by omega))
      rw [show N + 1 + (13 - N) = 14 by omega] at this
      exact this
    rw [e_W_some_45, if_pos (nI_lt (by omega) (by omega)), show ev d 161 [.int 16, .int (nI N)] σ = _ from c_power (q := 16) (by decide) hN, cL1_ok, show (16 : Nat) ^ N = 2 ^ (4 * N) from (Nat.pow_mul 2 4 N).symm]
    rw [show rn (d + 1) 142 116 [.ref 0, .int (nI N), .int (nI k), .int (nI q), .int x4, .long (lN (sgm k (exN q N) (N + 1))), uv, .long (lN (cb N (N + 1))), uv, .long (lN (2 ^ (4 * N))), uv, .int 0] [] σ = _ from c_halves (x7 := lN (cb N (N + 1))) (4 * N) 0 (sgm k (exN q N) (N + 1)) (by omega) (sg_bound hN hq (N + 1) (by omega))]
    unfold smv
    rw [e14]
  | succ m ih =>
    intro i hm hi
    obtain ⟨n1, n2⟩ := cb_next N (by omega) i (by omega) (by omega)
    have next : ∀ x5, rn (d + 1) 142 83 [.ref 0, .int (nI N), .int (nI k), .int (nI q), .int x4, .long x5, uv, .long (lN (cb N i)), uv, .int (nI i), uv, uv] [] σ = rn (d + 1) 142 45 [.ref 0, .int (nI N), .int (nI k), .int (nI q), .int x4, .long x5, uv, .long (lN (cb N (i + 1))), uv, .int (nI (i + 1)), uv, uv] [] σ := by
      intro x5
      rw [e_W_some_83, nI_1, nI_l (by omega), if_neg (fun z => by have := (pk_lEQ (a := i + 1) (b := 0) (by omega) (by decide)).mp z; omega), pk_sub (by omega), nI_l (by omega), lN_mul, pk_lDiv (by omega) (by omega) (by omega), n1]
    have ih' := ih (i + 1) (by omega) (by omega)
    rw [sgm_s] at ih'
    rw [e_W_some_45, if_neg (nI_nlt (by omega) (by omega))]
    by_cases z : k ≤ i
    · rw [if_pos z] at ih'
      rw [if_neg (nI_nlt (by omega) (by omega)), c_power hq (by omega), cL1_ok, show (16 : Int32) - nI q = nI (16 - q) from pk_sub (a := 16) hq, pk_sub (by omega), c_power (by omega) (by omega), cL1_ok, lN_mul, lN_mul, Nat.mul_assoc, ← ex_cb, lN_add, next]
      exact ih'
    · rw [if_neg z] at ih'
      rw [if_pos (nI_lt (by omega) (by omega)), next]
      exact ih'
end SomeV
