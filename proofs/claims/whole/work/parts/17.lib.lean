/-! contracts: the library's methods, Days, and the reference's small ones -/
def mnn (a b : Int32) : Int32 := if b < a then b else a
def mxx (a b : Int32) : Int32 := if a < b then b else a
def abz (x : Int32) : Int32 := if 0 ≤ x then x else -x
theorem i_le_lt {a b : Int32} (h : a ≤ b) (g : ¬ a < b) : a = b := by
  rw [Int32.le_iff_toInt_le] at h
  rw [Int32.lt_iff_toInt_lt] at g
  exact Int32.toInt_inj.mp (by omega)
theorem i_nlt {a b : Int32} (g : ¬ a < b) : b ≤ a := by
  rw [Int32.lt_iff_toInt_lt] at g
  rw [Int32.le_iff_toInt_le]
  omega
theorem i_nle {a b : Int32} (g : ¬ a ≤ b) : b < a := by
  rw [Int32.le_iff_toInt_le] at g
  rw [Int32.lt_iff_toInt_lt]
  omega
theorem i_lt_le {a b : Int32} (g : a < b) : a ≤ b := by
  rw [Int32.lt_iff_toInt_lt] at g
  rw [Int32.le_iff_toInt_le]
  omega
theorem i_lt_nle {a b : Int32} (g : a < b) : ¬ b ≤ a := by
  rw [Int32.lt_iff_toInt_lt] at g
  rw [Int32.le_iff_toInt_le]
  omega
theorem mnn_le (a b : Int32) : (if b ≤ a then b else a) = mnn a b := by
  unfold mnn
  by_cases h : b ≤ a
  · rw [if_pos h]
    by_cases g : b < a
    · rw [if_pos g]
    · rw [if_neg g, i_le_lt h g]
  · rw [if_neg h, if_neg (fun q => h (i_lt_le q))]
theorem mxx_le (a b : Int32) : (if a ≤ b then b else a) = mxx a b := by
  unfold mxx
  by_cases h : a ≤ b
  · rw [if_pos h]
    by_cases g : a < b
    · rw [if_pos g]
    · rw [if_neg g, i_le_lt h g]
  · rw [if_neg h, if_neg (fun q => h (i_lt_le q))]
theorem mnn_c (a b : Int32) : mnn a b = mnn b a := by
  rw [← mnn_le a b]
  unfold mnn
  by_cases h : b ≤ a
  · rw [if_pos h, if_neg (fun q => i_lt_nle q h)]
  · rw [if_neg h, if_pos (i_nle h)]
theorem mxx_c (a b : Int32) : mxx a b = mxx b a := by
  rw [← mxx_le a b]
  unfold mxx
  by_cases h : a ≤ b
  · rw [if_pos h, if_neg (fun q => i_lt_nle q h)]
  · rw [if_neg h, if_pos (i_nle h)]
section LibC
variable {σ : mm_M} {d : Nat}
theorem c_abs (x : Int32) : ev d 0 [.int x] σ = some (.inl (.int (abz x)), σ) := by
  rw [e_Ma_abs]
  unfold abz
  by_cases h : 0 ≤ x
  · rw [if_pos h, if_pos h, e_Ma_abs_10]; rfl
  · rw [if_neg h, if_neg h, e_Ma_abs_10]; rfl
theorem c_max (a b : Int32) : ev d 1 [.int a, .int b] σ = some (.inl (.int (mxx a b)), σ) := by
  rw [e_Ma_max]
  unfold mxx
  by_cases h : a < b
  · rw [if_pos h, if_pos h, e_Ma_max_10]; rfl
  · rw [if_neg h, if_neg h, e_Ma_max_10]; rfl
theorem c_min (a b : Int32) : ev d 2 [.int a, .int b] σ = some (.inl (.int (mnn a b)), σ) := by
  rw [e_Ma_min]
  unfold mnn
  by_cases h : b < a
  · rw [if_pos h, if_pos h, e_Ma_min_10]; rfl
  · rw [if_neg h, if_neg h, e_Ma_min_10]; rfl
theorem m_less (a b : Int32) : ev d 167 [.int a, .int b] σ = some (.inl (.int (mnn a b)), σ) := by
  rw [e_M_less, ← mnn_le]
  by_cases h : b ≤ a
  · rw [if_pos h, if_pos h, e_M_less_10]; rfl
  · rw [if_neg h, if_neg h, e_M_less_10]; rfl
theorem m_more (a b : Int32) : ev d 168 [.int a, .int b] σ = some (.inl (.int (mxx a b)), σ) := by
  rw [e_M_more, ← mxx_le]
  by_cases h : a ≤ b
  · rw [if_pos h, if_pos h, e_M_more_10]; rfl
  · rw [if_neg h, if_neg h, e_M_more_10]; rfl
/-- the p-th bit -/
def bt (x : Int32) (p : Nat) : Int32 := (x >>> (nI p &&& 31)) &&& 1
theorem and1 (x : Int32) : x &&& 1 = 0 ∨ x &&& 1 = 1 := by
  obtain ⟨j, hj, e⟩ := pk_andE x (m := 1) 1 (by decide)
  have h2 : j = 0 ∨ j = 1 := by omega
  rcases h2 with rfl | rfl
  · left; exact e
  · right; exact e
theorem bt01 (x : Int32) (p : Nat) : bt x p = 0 ∨ bt x p = 1 := and1 _
theorem bt_ne {x : Int32} {p : Nat} : bt x p = 1 ↔ ¬ bt x p = 0 := by
  rcases bt01 x p with h | h <;> rw [h] <;> decide
def i01 (b : Prop) [Decidable b] : Int32 := if b then 1 else 0
theorem m_has (x : Int32) (p : Nat) : ev d 169 [.int x, .int (nI p)] σ = some (.inl (.int (bt x p)), σ) := by
  rw [e_M_has]
  show (if bt x p = 1 then _ else _) = _
  rcases bt01 x p with h | h
  · rw [h, if_neg (by decide), e_M_has_14, nar1_0]
  · rw [h, if_pos rfl, e_M_has_14, nar1_1]
theorem m_in (v lo hi : Int32) : ev d 166 [.int v, .int lo, .int hi] σ = some (.inl (.int (i01 (lo ≤ v ∧ v ≤ hi))), σ) := by
  rw [e_M_in]
  unfold i01
  by_cases h : v < lo
  · rw [if_pos h, e_M_in_14, e_M_in_15, nar1_0, if_neg (fun q => i_lt_nle h q.1)]
  · rw [if_neg h]
    by_cases g : hi < v
    · rw [if_pos g, e_M_in_14, e_M_in_15, nar1_0, if_neg (fun q => i_lt_nle g q.2)]
    · rw [if_neg g, e_M_in_15, nar1_1, if_pos ⟨i_nlt h, i_nlt g⟩]
/-- how many of the first seven bits are there -/
def ones7 (x : Int32) : Int32 := fo 7 (fun k n => n + bt x k) 0
theorem m_ones (x : Int32) : ev d 209 [.int x] σ = some (.inl (.int (ones7 x)), σ) := by
  rw [e_M_ones]
  refine (lp (F := fun i b => rn d 209 4 [.int x, .int b, .int (nI i)] [] σ) (n := 7) (st := fun k n => n + bt x k) (fun i b hi => ?_) 0).trans ?_
  · show rn d 209 4 [.int x, .int b, .int (nI i)] [] σ = _
    rw [e_M_ones_4, if_neg (show ¬ (7 : Int32) ≤ nI i from nI_ge (b := 7) (a := i) (by omega) (by omega)), nI_1]
    rfl
  · show rn d 209 4 [.int x, .int _, .int (nI 7)] [] σ = _
    rw [e_M_ones_4, if_pos (show (7 : Int32) ≤ nI 7 from nI_le (a := 7) (b := 7) (by omega) (by omega))]
    rfl
def bc1 (x : Int32) : Int32 := x - (((Int32.toUInt32 x >>> (Int32.toUInt32 1 &&& Int32.toUInt32 31)).toInt32) &&& (1431655765 : Int32))
def bc2 (x : Int32) : Int32 := (x &&& (858993459 : Int32)) + (((Int32.toUInt32 x >>> (Int32.toUInt32 2 &&& Int32.toUInt32 31)).toInt32) &&& (858993459 : Int32))
def bc3 (x : Int32) : Int32 := (x + ((Int32.toUInt32 x >>> (Int32.toUInt32 4 &&& Int32.toUInt32 31)).toInt32)) &&& (252645135 : Int32)
def bc4 (x : Int32) : Int32 := (x + ((Int32.toUInt32 x >>> (Int32.toUInt32 8 &&& Int32.toUInt32 31)).toInt32)) + ((Int32.toUInt32 (x + ((Int32.toUInt32 x >>> (Int32.toUInt32 8 &&& Int32.toUInt32 31)).toInt32)) >>> (Int32.toUInt32 16 &&& Int32.toUInt32 31)).toInt32)
theorem bc_ok : ∀ s, s < 128 → (bc4 (bc3 (bc2 (bc1 (nI s))))) &&& 63 = ones7 (nI s) := by decide +kernel
theorem c_bitCount {s : Nat} (h : s < 128) : ev d 3 [.int (nI s)] σ = some (.inl (.int (ones7 (nI s))), σ) := by
  rw [← bc_ok s h, e_In_bitCount, e_In_bitCount_10, e_In_bitCount_24, e_In_bitCount_34, e_In_bitCount_48]
  rfl
theorem c_fill {a n : Nat} (h : mK σ a = (1, n)) (hn : n < 2147483648) (v : Int32) : ev d 4 [.ref a, .int v] σ = some (.inl uv, wA σ a (fun j => if j < n then v else mI σ a j)) := by
  rw [e_Ar_fill]
  unfold aN
  rw [h, if_pos (show 0 < 1 ∧ 1 < 100 by decide)]
  show rn d 4 5 [.ref a, .int v, .int (nI 0), .int (nI n)] [] σ = _
  have h0 : wA σ a (fun j => if j < 0 then v else mI σ a j) = σ := by
    have : (fun j => if j < 0 then v else mI σ a j) = mI σ a := funext fun j => if_neg (Nat.not_lt_zero j)
    rw [this, wA_id]
  have key := lp (α := Unit) (F := fun i _ => rn d 4 5 [.ref a, .int v, .int (nI i), .int (nI n)] [] (wA σ a (fun j => if j < i then v else mI σ a j))) (n := n) (st := fun _ u => u) (fun i b hi => by
    show rn d 4 5 [.ref a, .int v, .int (nI i), .int (nI n)] [] (wA σ a (fun j => if j < i then v else mI σ a j)) = rn d 4 5 [.ref a, .int v, .int (nI (i + 1)), .int (nI n)] [] (wA σ a (fun j => if j < i + 1 then v else mI σ a j))
    rw [e_Ar_fill_5, if_neg (show ¬ nI n ≤ nI i from nI_ge (b := n) (a := i) (by omega) (by omega)), tI_k (n := n) (by rw [mK_A]; exact h) hi hn, wI_wA, nI_1]
    have : (fun j => if j = i then v else if j < i then v else mI σ a j) = (fun j => if j < i + 1 then v else mI σ a j) := funext fun j => by
      by_cases h1 : j = i
      · rw [if_pos h1, if_pos (by omega)]
      · rw [if_neg h1]
        by_cases h2 : j < i
        · rw [if_pos h2, if_pos (by omega)]
        · rw [if_neg h2, if_neg (by omega)]
    rw [this]) ()
  try dsimp only at key
  rw [h0] at key
  rw [key, e_Ar_fill_5, if_pos (Int32.le_refl _)]
/-- the bit of a person -/
def b1 (p : Nat) : Int32 := (1 : Int32) <<< (nI p &&& 31)
/-- the persons p below n of whom f p is above 0 -/
def whoB (n : Nat) (f : Nat → Int32) : Int32 := fo n (fun p b => b ||| (if f p ≤ 0 then (0 : Int32) else b1 p)) 0
theorem i_or0 (x : Int32) : x ||| 0 = x := Int32.toBitVec_inj.mp (by simp)
theorem whoB_cut {n : Nat} {f : Nat → Int32} : ∀ k, (∀ p, n ≤ p → p < n + k → f p ≤ 0) → whoB (n + k) f = whoB n f
  | 0, _ => rfl
  | k + 1, h => by
    show whoB (n + k) f ||| (if f (n + k) ≤ 0 then (0 : Int32) else _) = _
    rw [if_pos (h _ (by omega) (by omega)), i_or0]
    exact whoB_cut k (fun p h1 h2 => h p h1 (by omega))
theorem whoB_as {n : Nat} {f g : Nat → Int32} (h : ∀ p, p < n → f p = g p) : whoB n f = whoB n g := fo_as n (fun i hi x => by rw [h i hi])
variable {a : Nat}
theorem c_dayNumber (h : Sh σ) (ha : isDa a) : ev d 27 [.ref a] σ = some (.inl (.int (mI σ (a + 1) 0)), σ) := by
  rw [e_Days_dayNumber d a σ (by rw [k_da0 h ha])]
  simp (disch := first | assumption | decide | (simp only [Sh_wI, Sh_wA, Sh_wL, Sh_mT, ldA_wI, lwA_wI, bkA_wI, ldA_wA, lwA_wA, bkA_wA]; assumption) | omega) only [xr_da0, xa_da1, al_0, al_1, al_2, al_3, al_4, al_5, al_6, al_7, al_8, al_9, al_10, al_11, al_12, al_13, al_14, al_15, al_16, al_17, al_18, al_19, al_20, al_21, al_24, al_28, al_31, al_35, al_37, al_38, al_40, al_41, al_60, al_77, al_78, al_79, al_80, al_96, al_99, al_100, al_127, al_128, al_150, al_160, al_200, al_400, al_600, al_999, al_1000, tl_0, tl_1, tl_2, tl_3, tl_4, tl_5, tl_6, tl_7, tl_8, tl_9, tl_10, tl_11, tl_12, tl_13, tl_14, tl_15, tl_16, tl_17, tl_18, tl_19, tl_20, tl_21, tl_24, tl_28, tl_31, tl_35, tl_37, tl_38, tl_40, tl_41, tl_60, tl_77, tl_78, tl_79, tl_80, tl_96, tl_99, tl_100, tl_127, tl_128, tl_150, tl_160, tl_200, tl_400, tl_600, tl_999, tl_1000, la_0, la_1, la_2, la_3, la_4, la_5, la_6, la_7, la_8, la_9, la_10, la_11, la_12, la_13, la_14, la_15, la_16, la_17, la_18, la_19, la_20, la_21, la_24, la_28, la_31, la_35, la_37, la_38, la_40, la_41, la_60, la_77, la_78, la_79, la_80, la_96, la_99, la_100, la_127, la_128, la_150, la_160, la_200, la_400, la_600, la_999, la_1000, lm_0, lm_1, lm_2, lm_3, lm_4, lm_5, lm_6, lm_7, lm_8, lm_9, lm_10, lm_11, lm_12, lm_13, lm_14, lm_15, lm_16, lm_17, lm_18, lm_19, lm_20, lm_21, lm_24, lm_28, lm_31, lm_35, lm_37, lm_38, lm_40, lm_41, lm_60, lm_77, lm_78, lm_79, lm_80, lm_96, lm_99, lm_100, lm_127, lm_128, lm_150, lm_160, lm_200, lm_400, lm_600, lm_999, lm_1000, rm_0, rm_1, rm_2, rm_3, rm_4, rm_5, rm_6, rm_7, rm_8, rm_9, rm_10, rm_11, rm_12, rm_13, rm_14, rm_15, rm_16, rm_17, rm_18, rm_19, rm_20, rm_21, rm_24, rm_28, rm_31, rm_35, rm_37, rm_38, rm_40, rm_41, rm_60, rm_77, rm_78, rm_79, rm_80, rm_96, rm_99, rm_100, rm_127, rm_128, rm_150, rm_160, rm_200, rm_400, rm_600, rm_999, rm_1000, nar0, nar1_0, nar1_1]
theorem c_jugWater (h : Sh σ) (ha : isDa a) : ev d 28 [.ref a] σ = some (.inl (.int (mI σ (a + 1) 1)), σ) := by
  rw [e_Days_jugWater d a σ (by rw [k_da0 h ha])]
  simp (disch := first | assumption | decide | (simp only [Sh_wI, Sh_wA, Sh_wL, Sh_mT, ldA_wI, lwA_wI, bkA_wI, ldA_wA, lwA_wA, bkA_wA]; assumption) | omega) only [xr_da0, xa_da1, al_0, al_1, al_2, al_3, al_4, al_5, al_6, al_7, al_8, al_9, al_10, al_11, al_12, al_13, al_14, al_15, al_16, al_17, al_18, al_19, al_20, al_21, al_24, al_28, al_31, al_35, al_37, al_38, al_40, al_41, al_60, al_77, al_78, al_79, al_80, al_96, al_99, al_100, al_127, al_128, al_150, al_160, al_200, al_400, al_600, al_999, al_1000, tl_0, tl_1, tl_2, tl_3, tl_4, tl_5, tl_6, tl_7, tl_8, tl_9, tl_10, tl_11, tl_12, tl_13, tl_14, tl_15, tl_16, tl_17, tl_18, tl_19, tl_20, tl_21, tl_24, tl_28, tl_31, tl_35, tl_37, tl_38, tl_40, tl_41, tl_60, tl_77, tl_78, tl_79, tl_80, tl_96, tl_99, tl_100, tl_127, tl_128, tl_150, tl_160, tl_200, tl_400, tl_600, tl_999, tl_1000, la_0, la_1, la_2, la_3, la_4, la_5, la_6, la_7, la_8, la_9, la_10, la_11, la_12, la_13, la_14, la_15, la_16, la_17, la_18, la_19, la_20, la_21, la_24, la_28, la_31, la_35, la_37, la_38, la_40, la_41, la_60, la_77, la_78, la_79, la_80, la_96, la_99, la_100, la_127, la_128, la_150, la_160, la_200, la_400, la_600, la_999, la_1000, lm_0, lm_1, lm_2, lm_3, lm_4, lm_5, lm_6, lm_7, lm_8, lm_9, lm_10, lm_11, lm_12, lm_13, lm_14, lm_15, lm_16, lm_17, lm_18, lm_19, lm_20, lm_21, lm_24, lm_28, lm_31, lm_35, lm_37, lm_38, lm_40, lm_41, lm_60, lm_77, lm_78, lm_79, lm_80, lm_96, lm_99, lm_100, lm_127, lm_128, lm_150, lm_160, lm_200, lm_400, lm_600, lm_999, lm_1000, rm_0, rm_1, rm_2, rm_3, rm_4, rm_5, rm_6, rm_7, rm_8, rm_9, rm_10, rm_11, rm_12, rm_13, rm_14, rm_15, rm_16, rm_17, rm_18, rm_19, rm_20, rm_21, rm_24, rm_28, rm_31, rm_35, rm_37, rm_38, rm_40, rm_41, rm_60, rm_77, rm_78, rm_79, rm_80, rm_96, rm_99, rm_100, rm_127, rm_128, rm_150, rm_160, rm_200, rm_400, rm_600, rm_999, rm_1000, nar0, nar1_0, nar1_1]
theorem c_toldBits (h : Sh σ) (ha : isDa a) : ev d 29 [.ref a] σ = some (.inl (.int (mI σ (a + 1) 2)), σ) := by
  rw [e_Days_toldBits d a σ (by rw [k_da0 h ha])]
  simp (disch := first | assumption | decide | (simp only [Sh_wI, Sh_wA, Sh_wL, Sh_mT, ldA_wI, lwA_wI, bkA_wI, ldA_wA, lwA_wA, bkA_wA]; assumption) | omega) only [xr_da0, xa_da1, al_0, al_1, al_2, al_3, al_4, al_5, al_6, al_7, al_8, al_9, al_10, al_11, al_12, al_13, al_14, al_15, al_16, al_17, al_18, al_19, al_20, al_21, al_24, al_28, al_31, al_35, al_37, al_38, al_40, al_41, al_60, al_77, al_78, al_79, al_80, al_96, al_99, al_100, al_127, al_128, al_150, al_160, al_200, al_400, al_600, al_999, al_1000, tl_0, tl_1, tl_2, tl_3, tl_4, tl_5, tl_6, tl_7, tl_8, tl_9, tl_10, tl_11, tl_12, tl_13, tl_14, tl_15, tl_16, tl_17, tl_18, tl_19, tl_20, tl_21, tl_24, tl_28, tl_31, tl_35, tl_37, tl_38, tl_40, tl_41, tl_60, tl_77, tl_78, tl_79, tl_80, tl_96, tl_99, tl_100, tl_127, tl_128, tl_150, tl_160, tl_200, tl_400, tl_600, tl_999, tl_1000, la_0, la_1, la_2, la_3, la_4, la_5, la_6, la_7, la_8, la_9, la_10, la_11, la_12, la_13, la_14, la_15, la_16, la_17, la_18, la_19, la_20, la_21, la_24, la_28, la_31, la_35, la_37, la_38, la_40, la_41, la_60, la_77, la_78, la_79, la_80, la_96, la_99, la_100, la_127, la_128, la_150, la_160, la_200, la_400, la_600, la_999, la_1000, lm_0, lm_1, lm_2, lm_3, lm_4, lm_5, lm_6, lm_7, lm_8, lm_9, lm_10, lm_11, lm_12, lm_13, lm_14, lm_15, lm_16, lm_17, lm_18, lm_19, lm_20, lm_21, lm_24, lm_28, lm_31, lm_35, lm_37, lm_38, lm_40, lm_41, lm_60, lm_77, lm_78, lm_79, lm_80, lm_96, lm_99, lm_100, lm_127, lm_128, lm_150, lm_160, lm_200, lm_400, lm_600, lm_999, lm_1000, rm_0, rm_1, rm_2, rm_3, rm_4, rm_5, rm_6, rm_7, rm_8, rm_9, rm_10, rm_11, rm_12, rm_13, rm_14, rm_15, rm_16, rm_17, rm_18, rm_19, rm_20, rm_21, rm_24, rm_28, rm_31, rm_35, rm_37, rm_38, rm_40, rm_41, rm_60, rm_77, rm_78, rm_79, rm_80, rm_96, rm_99, rm_100, rm_127, rm_128, rm_150, rm_160, rm_200, rm_400, rm_600, rm_999, rm_1000, nar0, nar1_0, nar1_1]
theorem c_wasTold (h : Sh σ) (ha : isDa a) (p : Nat) : ev d 30 [.ref a, .int (nI p)] σ = some (.inl (.int (bt (mI σ (a + 1) 2) p)), σ) := by
  rw [e_Days_wasTold d a (nI p) σ (by rw [k_da0 h ha])]
  simp (disch := first | assumption | decide | (simp only [Sh_wI, Sh_wA, Sh_wL, Sh_mT, ldA_wI, lwA_wI, bkA_wI, ldA_wA, lwA_wA, bkA_wA]; assumption) | omega) only [xr_da0, xa_da1, al_0, al_1, al_2, al_3, al_4, al_5, al_6, al_7, al_8, al_9, al_10, al_11, al_12, al_13, al_14, al_15, al_16, al_17, al_18, al_19, al_20, al_21, al_24, al_28, al_31, al_35, al_37, al_38, al_40, al_41, al_60, al_77, al_78, al_79, al_80, al_96, al_99, al_100, al_127, al_128, al_150, al_160, al_200, al_400, al_600, al_999, al_1000, tl_0, tl_1, tl_2, tl_3, tl_4, tl_5, tl_6, tl_7, tl_8, tl_9, tl_10, tl_11, tl_12, tl_13, tl_14, tl_15, tl_16, tl_17, tl_18, tl_19, tl_20, tl_21, tl_24, tl_28, tl_31, tl_35, tl_37, tl_38, tl_40, tl_41, tl_60, tl_77, tl_78, tl_79, tl_80, tl_96, tl_99, tl_100, tl_127, tl_128, tl_150, tl_160, tl_200, tl_400, tl_600, tl_999, tl_1000, la_0, la_1, la_2, la_3, la_4, la_5, la_6, la_7, la_8, la_9, la_10, la_11, la_12, la_13, la_14, la_15, la_16, la_17, la_18, la_19, la_20, la_21, la_24, la_28, la_31, la_35, la_37, la_38, la_40, la_41, la_60, la_77, la_78, la_79, la_80, la_96, la_99, la_100, la_127, la_128, la_150, la_160, la_200, la_400, la_600, la_999, la_1000, lm_0, lm_1, lm_2, lm_3, lm_4, lm_5, lm_6, lm_7, lm_8, lm_9, lm_10, lm_11, lm_12, lm_13, lm_14, lm_15, lm_16, lm_17, lm_18, lm_19, lm_20, lm_21, lm_24, lm_28, lm_31, lm_35, lm_37, lm_38, lm_40, lm_41, lm_60, lm_77, lm_78, lm_79, lm_80, lm_96, lm_99, lm_100, lm_127, lm_128, lm_150, lm_160, lm_200, lm_400, lm_600, lm_999, lm_1000, rm_0, rm_1, rm_2, rm_3, rm_4, rm_5, rm_6, rm_7, rm_8, rm_9, rm_10, rm_11, rm_12, rm_13, rm_14, rm_15, rm_16, rm_17, rm_18, rm_19, rm_20, rm_21, rm_24, rm_28, rm_31, rm_35, rm_37, rm_38, rm_40, rm_41, rm_60, rm_77, rm_78, rm_79, rm_80, rm_96, rm_99, rm_100, rm_127, rm_128, rm_150, rm_160, rm_200, rm_400, rm_600, rm_999, rm_1000, nar0, nar1_0, nar1_1]
  show (if bt (mI σ (a + 1) 2) p = 0 then _ else _) = _
  rcases bt01 (mI σ (a + 1) 2) p with q | q
  · rw [q, if_pos rfl, e_Days_wasTold_18, nar1_0]
  · rw [q, if_neg (by decide), e_Days_wasTold_18, nar1_1]
theorem c_griefOf (h : Sh σ) (ha : isDa a) {p : Nat} (hp : p < 7) : ev d 31 [.ref a, .int (nI p)] σ = some (.inl (.int (mI σ (a + 1) (3 + p))), σ) := by
  rw [e_Days_griefOf d a (nI p) σ (by rw [k_da0 h ha])]
  simp (disch := first | assumption | decide | (simp only [Sh_wI, Sh_wA, Sh_wL, Sh_mT, ldA_wI, lwA_wI, bkA_wI, ldA_wA, lwA_wA, bkA_wA]; assumption) | omega) only [xr_da0, xa_da1, al_0, al_1, al_2, al_3, al_4, al_5, al_6, al_7, al_8, al_9, al_10, al_11, al_12, al_13, al_14, al_15, al_16, al_17, al_18, al_19, al_20, al_21, al_24, al_28, al_31, al_35, al_37, al_38, al_40, al_41, al_60, al_77, al_78, al_79, al_80, al_96, al_99, al_100, al_127, al_128, al_150, al_160, al_200, al_400, al_600, al_999, al_1000, tl_0, tl_1, tl_2, tl_3, tl_4, tl_5, tl_6, tl_7, tl_8, tl_9, tl_10, tl_11, tl_12, tl_13, tl_14, tl_15, tl_16, tl_17, tl_18, tl_19, tl_20, tl_21, tl_24, tl_28, tl_31, tl_35, tl_37, tl_38, tl_40, tl_41, tl_60, tl_77, tl_78, tl_79, tl_80, tl_96, tl_99, tl_100, tl_127, tl_128, tl_150, tl_160, tl_200, tl_400, tl_600, tl_999, tl_1000, la_0, la_1, la_2, la_3, la_4, la_5, la_6, la_7, la_8, la_9, la_10, la_11, la_12, la_13, la_14, la_15, la_16, la_17, la_18, la_19, la_20, la_21, la_24, la_28, la_31, la_35, la_37, la_38, la_40, la_41, la_60, la_77, la_78, la_79, la_80, la_96, la_99, la_100, la_127, la_128, la_150, la_160, la_200, la_400, la_600, la_999, la_1000, lm_0, lm_1, lm_2, lm_3, lm_4, lm_5, lm_6, lm_7, lm_8, lm_9, lm_10, lm_11, lm_12, lm_13, lm_14, lm_15, lm_16, lm_17, lm_18, lm_19, lm_20, lm_21, lm_24, lm_28, lm_31, lm_35, lm_37, lm_38, lm_40, lm_41, lm_60, lm_77, lm_78, lm_79, lm_80, lm_96, lm_99, lm_100, lm_127, lm_128, lm_150, lm_160, lm_200, lm_400, lm_600, lm_999, lm_1000, rm_0, rm_1, rm_2, rm_3, rm_4, rm_5, rm_6, rm_7, rm_8, rm_9, rm_10, rm_11, rm_12, rm_13, rm_14, rm_15, rm_16, rm_17, rm_18, rm_19, rm_20, rm_21, rm_24, rm_28, rm_31, rm_35, rm_37, rm_38, rm_40, rm_41, rm_60, rm_77, rm_78, rm_79, rm_80, rm_96, rm_99, rm_100, rm_127, rm_128, rm_150, rm_160, rm_200, rm_400, rm_600, rm_999, rm_1000, nar0, nar1_0, nar1_1]
theorem c_thirstOf (h : Sh σ) (ha : isDa a) {p : Nat} (hp : p < 7) : ev d 32 [.ref a, .int (nI p)] σ = some (.inl (.int (mI σ (a + 1) (10 + p))), σ) := by
  rw [e_Days_thirstOf d a (nI p) σ (by rw [k_da0 h ha])]
  simp (disch := first | assumption | decide | (simp only [Sh_wI, Sh_wA, Sh_wL, Sh_mT, ldA_wI, lwA_wI, bkA_wI, ldA_wA, lwA_wA, bkA_wA]; assumption) | omega) only [xr_da0, xa_da1, al_0, al_1, al_2, al_3, al_4, al_5, al_6, al_7, al_8, al_9, al_10, al_11, al_12, al_13, al_14, al_15, al_16, al_17, al_18, al_19, al_20, al_21, al_24, al_28, al_31, al_35, al_37, al_38, al_40, al_41, al_60, al_77, al_78, al_79, al_80, al_96, al_99, al_100, al_127, al_128, al_150, al_160, al_200, al_400, al_600, al_999, al_1000, tl_0, tl_1, tl_2, tl_3, tl_4, tl_5, tl_6, tl_7, tl_8, tl_9, tl_10, tl_11, tl_12, tl_13, tl_14, tl_15, tl_16, tl_17, tl_18, tl_19, tl_20, tl_21, tl_24, tl_28, tl_31, tl_35, tl_37, tl_38, tl_40, tl_41, tl_60, tl_77, tl_78, tl_79, tl_80, tl_96, tl_99, tl_100, tl_127, tl_128, tl_150, tl_160, tl_200, tl_400, tl_600, tl_999, tl_1000, la_0, la_1, la_2, la_3, la_4, la_5, la_6, la_7, la_8, la_9, la_10, la_11, la_12, la_13, la_14, la_15, la_16, la_17, la_18, la_19, la_20, la_21, la_24, la_28, la_31, la_35, la_37, la_38, la_40, la_41, la_60, la_77, la_78, la_79, la_80, la_96, la_99, la_100, la_127, la_128, la_150, la_160, la_200, la_400, la_600, la_999, la_1000, lm_0, lm_1, lm_2, lm_3, lm_4, lm_5, lm_6, lm_7, lm_8, lm_9, lm_10, lm_11, lm_12, lm_13, lm_14, lm_15, lm_16, lm_17, lm_18, lm_19, lm_20, lm_21, lm_24, lm_28, lm_31, lm_35, lm_37, lm_38, lm_40, lm_41, lm_60, lm_77, lm_78, lm_79, lm_80, lm_96, lm_99, lm_100, lm_127, lm_128, lm_150, lm_160, lm_200, lm_400, lm_600, lm_999, lm_1000, rm_0, rm_1, rm_2, rm_3, rm_4, rm_5, rm_6, rm_7, rm_8, rm_9, rm_10, rm_11, rm_12, rm_13, rm_14, rm_15, rm_16, rm_17, rm_18, rm_19, rm_20, rm_21, rm_24, rm_28, rm_31, rm_35, rm_37, rm_38, rm_40, rm_41, rm_60, rm_77, rm_78, rm_79, rm_80, rm_96, rm_99, rm_100, rm_127, rm_128, rm_150, rm_160, rm_200, rm_400, rm_600, rm_999, rm_1000, nar0, nar1_0, nar1_1]
theorem c_timesOf (h : Sh σ) (ha : isDa a) {p : Nat} (hp : p < 7) : ev d 33 [.ref a, .int (nI p)] σ = some (.inl (.int (mI σ (a + 1) (17 + p))), σ) := by
  rw [e_Days_timesOf d a (nI p) σ (by rw [k_da0 h ha])]
  simp (disch := first | assumption | decide | (simp only [Sh_wI, Sh_wA, Sh_wL, Sh_mT, ldA_wI, lwA_wI, bkA_wI, ldA_wA, lwA_wA, bkA_wA]; assumption) | omega) only [xr_da0, xa_da1, al_0, al_1, al_2, al_3, al_4, al_5, al_6, al_7, al_8, al_9, al_10, al_11, al_12, al_13, al_14, al_15, al_16, al_17, al_18, al_19, al_20, al_21, al_24, al_28, al_31, al_35, al_37, al_38, al_40, al_41, al_60, al_77, al_78, al_79, al_80, al_96, al_99, al_100, al_127, al_128, al_150, al_160, al_200, al_400, al_600, al_999, al_1000, tl_0, tl_1, tl_2, tl_3, tl_4, tl_5, tl_6, tl_7, tl_8, tl_9, tl_10, tl_11, tl_12, tl_13, tl_14, tl_15, tl_16, tl_17, tl_18, tl_19, tl_20, tl_21, tl_24, tl_28, tl_31, tl_35, tl_37, tl_38, tl_40, tl_41, tl_60, tl_77, tl_78, tl_79, tl_80, tl_96, tl_99, tl_100, tl_127, tl_128, tl_150, tl_160, tl_200, tl_400, tl_600, tl_999, tl_1000, la_0, la_1, la_2, la_3, la_4, la_5, la_6, la_7, la_8, la_9, la_10, la_11, la_12, la_13, la_14, la_15, la_16, la_17, la_18, la_19, la_20, la_21, la_24, la_28, la_31, la_35, la_37, la_38, la_40, la_41, la_60, la_77, la_78, la_79, la_80, la_96, la_99, la_100, la_127, la_128, la_150, la_160, la_200, la_400, la_600, la_999, la_1000, lm_0, lm_1, lm_2, lm_3, lm_4, lm_5, lm_6, lm_7, lm_8, lm_9, lm_10, lm_11, lm_12, lm_13, lm_14, lm_15, lm_16, lm_17, lm_18, lm_19, lm_20, lm_21, lm_24, lm_28, lm_31, lm_35, lm_37, lm_38, lm_40, lm_41, lm_60, lm_77, lm_78, lm_79, lm_80, lm_96, lm_99, lm_100, lm_127, lm_128, lm_150, lm_160, lm_200, lm_400, lm_600, lm_999, lm_1000, rm_0, rm_1, rm_2, rm_3, rm_4, rm_5, rm_6, rm_7, rm_8, rm_9, rm_10, rm_11, rm_12, rm_13, rm_14, rm_15, rm_16, rm_17, rm_18, rm_19, rm_20, rm_21, rm_24, rm_28, rm_31, rm_35, rm_37, rm_38, rm_40, rm_41, rm_60, rm_77, rm_78, rm_79, rm_80, rm_96, rm_99, rm_100, rm_127, rm_128, rm_150, rm_160, rm_200, rm_400, rm_600, rm_999, rm_1000, nar0, nar1_0, nar1_1]
theorem c_laughedOf (h : Sh σ) (ha : isDa a) {p : Nat} (hp : p < 7) : ev d 34 [.ref a, .int (nI p)] σ = some (.inl (.int (mI σ (a + 1) (24 + p))), σ) := by
  rw [e_Days_laughedOf d a (nI p) σ (by rw [k_da0 h ha])]
  simp (disch := first | assumption | decide | (simp only [Sh_wI, Sh_wA, Sh_wL, Sh_mT, ldA_wI, lwA_wI, bkA_wI, ldA_wA, lwA_wA, bkA_wA]; assumption) | omega) only [xr_da0, xa_da1, al_0, al_1, al_2, al_3, al_4, al_5, al_6, al_7, al_8, al_9, al_10, al_11, al_12, al_13, al_14, al_15, al_16, al_17, al_18, al_19, al_20, al_21, al_24, al_28, al_31, al_35, al_37, al_38, al_40, al_41, al_60, al_77, al_78, al_79, al_80, al_96, al_99, al_100, al_127, al_128, al_150, al_160, al_200, al_400, al_600, al_999, al_1000, tl_0, tl_1, tl_2, tl_3, tl_4, tl_5, tl_6, tl_7, tl_8, tl_9, tl_10, tl_11, tl_12, tl_13, tl_14, tl_15, tl_16, tl_17, tl_18, tl_19, tl_20, tl_21, tl_24, tl_28, tl_31, tl_35, tl_37, tl_38, tl_40, tl_41, tl_60, tl_77, tl_78, tl_79, tl_80, tl_96, tl_99, tl_100, tl_127, tl_128, tl_150, tl_160, tl_200, tl_400, tl_600, tl_999, tl_1000, la_0, la_1, la_2, la_3, la_4, la_5, la_6, la_7, la_8, la_9, la_10, la_11, la_12, la_13, la_14, la_15, la_16, la_17, la_18, la_19, la_20, la_21, la_24, la_28, la_31, la_35, la_37, la_38, la_40, la_41, la_60, la_77, la_78, la_79, la_80, la_96, la_99, la_100, la_127, la_128, la_150, la_160, la_200, la_400, la_600, la_999, la_1000, lm_0, lm_1, lm_2, lm_3, lm_4, lm_5, lm_6, lm_7, lm_8, lm_9, lm_10, lm_11, lm_12, lm_13, lm_14, lm_15, lm_16, lm_17, lm_18, lm_19, lm_20, lm_21, lm_24, lm_28, lm_31, lm_35, lm_37, lm_38, lm_40, lm_41, lm_60, lm_77, lm_78, lm_79, lm_80, lm_96, lm_99, lm_100, lm_127, lm_128, lm_150, lm_160, lm_200, lm_400, lm_600, lm_999, lm_1000, rm_0, rm_1, rm_2, rm_3, rm_4, rm_5, rm_6, rm_7, rm_8, rm_9, rm_10, rm_11, rm_12, rm_13, rm_14, rm_15, rm_16, rm_17, rm_18, rm_19, rm_20, rm_21, rm_24, rm_28, rm_31, rm_35, rm_37, rm_38, rm_40, rm_41, rm_60, rm_77, rm_78, rm_79, rm_80, rm_96, rm_99, rm_100, rm_127, rm_128, rm_150, rm_160, rm_200, rm_400, rm_600, rm_999, rm_1000, nar0, nar1_0, nar1_1]
theorem c_toldOf (h : Sh σ) (ha : isDa a) {p : Nat} (hp : p < 6) : ev d 35 [.ref a, .int (nI p)] σ = some (.inl (.int (mI σ (a + 1) (31 + p))), σ) := by
  rw [e_Days_toldOf d a (nI p) σ (by rw [k_da0 h ha])]
  simp (disch := first | assumption | decide | (simp only [Sh_wI, Sh_wA, Sh_wL, Sh_mT, ldA_wI, lwA_wI, bkA_wI, ldA_wA, lwA_wA, bkA_wA]; assumption) | omega) only [xr_da0, xa_da1, al_0, al_1, al_2, al_3, al_4, al_5, al_6, al_7, al_8, al_9, al_10, al_11, al_12, al_13, al_14, al_15, al_16, al_17, al_18, al_19, al_20, al_21, al_24, al_28, al_31, al_35, al_37, al_38, al_40, al_41, al_60, al_77, al_78, al_79, al_80, al_96, al_99, al_100, al_127, al_128, al_150, al_160, al_200, al_400, al_600, al_999, al_1000, tl_0, tl_1, tl_2, tl_3, tl_4, tl_5, tl_6, tl_7, tl_8, tl_9, tl_10, tl_11, tl_12, tl_13, tl_14, tl_15, tl_16, tl_17, tl_18, tl_19, tl_20, tl_21, tl_24, tl_28, tl_31, tl_35, tl_37, tl_38, tl_40, tl_41, tl_60, tl_77, tl_78, tl_79, tl_80, tl_96, tl_99, tl_100, tl_127, tl_128, tl_150, tl_160, tl_200, tl_400, tl_600, tl_999, tl_1000, la_0, la_1, la_2, la_3, la_4, la_5, la_6, la_7, la_8, la_9, la_10, la_11, la_12, la_13, la_14, la_15, la_16, la_17, la_18, la_19, la_20, la_21, la_24, la_28, la_31, la_35, la_37, la_38, la_40, la_41, la_60, la_77, la_78, la_79, la_80, la_96, la_99, la_100, la_127, la_128, la_150, la_160, la_200, la_400, la_600, la_999, la_1000, lm_0, lm_1, lm_2, lm_3, lm_4, lm_5, lm_6, lm_7, lm_8, lm_9, lm_10, lm_11, lm_12, lm_13, lm_14, lm_15, lm_16, lm_17, lm_18, lm_19, lm_20, lm_21, lm_24, lm_28, lm_31, lm_35, lm_37, lm_38, lm_40, lm_41, lm_60, lm_77, lm_78, lm_79, lm_80, lm_96, lm_99, lm_100, lm_127, lm_128, lm_150, lm_160, lm_200, lm_400, lm_600, lm_999, lm_1000, rm_0, rm_1, rm_2, rm_3, rm_4, rm_5, rm_6, rm_7, rm_8, rm_9, rm_10, rm_11, rm_12, rm_13, rm_14, rm_15, rm_16, rm_17, rm_18, rm_19, rm_20, rm_21, rm_24, rm_28, rm_31, rm_35, rm_37, rm_38, rm_40, rm_41, rm_60, rm_77, rm_78, rm_79, rm_80, rm_96, rm_99, rm_100, rm_127, rm_128, rm_150, rm_160, rm_200, rm_400, rm_600, rm_999, rm_1000, nar0, nar1_0, nar1_1]
theorem c_wornOf (h : Sh σ) (ha : isDa a) {j p : Nat} (hj : j < 6) (hp : p < 7) : ev d 36 [.ref a, .int (nI j), .int (nI p)] σ = some (.inl (.int (mI σ (a + 1) (37 + j * 7 + p))), σ) := by
  rw [e_Days_wornOf d a (nI j) (nI p) σ (by rw [k_da0 h ha])]
  simp (disch := first | assumption | decide | (simp only [Sh_wI, Sh_wA, Sh_wL, Sh_mT, ldA_wI, lwA_wI, bkA_wI, ldA_wA, lwA_wA, bkA_wA]; assumption) | omega) only [xr_da0, xa_da1, al_0, al_1, al_2, al_3, al_4, al_5, al_6, al_7, al_8, al_9, al_10, al_11, al_12, al_13, al_14, al_15, al_16, al_17, al_18, al_19, al_20, al_21, al_24, al_28, al_31, al_35, al_37, al_38, al_40, al_41, al_60, al_77, al_78, al_79, al_80, al_96, al_99, al_100, al_127, al_128, al_150, al_160, al_200, al_400, al_600, al_999, al_1000, tl_0, tl_1, tl_2, tl_3, tl_4, tl_5, tl_6, tl_7, tl_8, tl_9, tl_10, tl_11, tl_12, tl_13, tl_14, tl_15, tl_16, tl_17, tl_18, tl_19, tl_20, tl_21, tl_24, tl_28, tl_31, tl_35, tl_37, tl_38, tl_40, tl_41, tl_60, tl_77, tl_78, tl_79, tl_80, tl_96, tl_99, tl_100, tl_127, tl_128, tl_150, tl_160, tl_200, tl_400, tl_600, tl_999, tl_1000, la_0, la_1, la_2, la_3, la_4, la_5, la_6, la_7, la_8, la_9, la_10, la_11, la_12, la_13, la_14, la_15, la_16, la_17, la_18, la_19, la_20, la_21, la_24, la_28, la_31, la_35, la_37, la_38, la_40, la_41, la_60, la_77, la_78, la_79, la_80, la_96, la_99, la_100, la_127, la_128, la_150, la_160, la_200, la_400, la_600, la_999, la_1000, lm_0, lm_1, lm_2, lm_3, lm_4, lm_5, lm_6, lm_7, lm_8, lm_9, lm_10, lm_11, lm_12, lm_13, lm_14, lm_15, lm_16, lm_17, lm_18, lm_19, lm_20, lm_21, lm_24, lm_28, lm_31, lm_35, lm_37, lm_38, lm_40, lm_41, lm_60, lm_77, lm_78, lm_79, lm_80, lm_96, lm_99, lm_100, lm_127, lm_128, lm_150, lm_160, lm_200, lm_400, lm_600, lm_999, lm_1000, rm_0, rm_1, rm_2, rm_3, rm_4, rm_5, rm_6, rm_7, rm_8, rm_9, rm_10, rm_11, rm_12, rm_13, rm_14, rm_15, rm_16, rm_17, rm_18, rm_19, rm_20, rm_21, rm_24, rm_28, rm_31, rm_35, rm_37, rm_38, rm_40, rm_41, rm_60, rm_77, rm_78, rm_79, rm_80, rm_96, rm_99, rm_100, rm_127, rm_128, rm_150, rm_160, rm_200, rm_400, rm_600, rm_999, rm_1000, nar0, nar1_0, nar1_1, nI_add]
theorem c_personsWith (h : Sh σ) (ha : isDa a) {c : Nat} (hc : c ≤ 72) : ev d 305 [.ref a, .int (nI c)] σ = some (.inl (.int (whoB 7 (fun p => mI σ (a + 1) (c + p)))), σ) := by
  rw [e_Days_personsWith d a (nI c) σ (by rw [k_da0 h ha])]
  refine (lp (F := fun i b => rn d 305 4 [.ref a, .int (nI c), .int b, .int (nI i)] [] σ) (n := 7) (st := fun p b => b ||| (if mI σ (a + 1) (c + p) ≤ 0 then (0 : Int32) else b1 p)) (fun i b hi => ?_) 0).trans ?_
  · show rn d 305 4 [.ref a, .int (nI c), .int b, .int (nI i)] [] σ = _
    rw [e_Days_personsWith_4, if_neg (show ¬ (7 : Int32) ≤ nI i from nI_ge (b := 7) (a := i) (by omega) (by omega))]
    simp (disch := first | assumption | decide | (simp only [Sh_wI, Sh_wA, Sh_wL, Sh_mT, ldA_wI, lwA_wI, bkA_wI, ldA_wA, lwA_wA, bkA_wA]; assumption) | omega) only [xr_da0, xa_da1, al_0, al_1, al_2, al_3, al_4, al_5, al_6, al_7, al_8, al_9, al_10, al_11, al_12, al_13, al_14, al_15, al_16, al_17, al_18, al_19, al_20, al_21, al_24, al_28, al_31, al_35, al_37, al_38, al_40, al_41, al_60, al_77, al_78, al_79, al_80, al_96, al_99, al_100, al_127, al_128, al_150, al_160, al_200, al_400, al_600, al_999, al_1000, tl_0, tl_1, tl_2, tl_3, tl_4, tl_5, tl_6, tl_7, tl_8, tl_9, tl_10, tl_11, tl_12, tl_13, tl_14, tl_15, tl_16, tl_17, tl_18, tl_19, tl_20, tl_21, tl_24, tl_28, tl_31, tl_35, tl_37, tl_38, tl_40, tl_41, tl_60, tl_77, tl_78, tl_79, tl_80, tl_96, tl_99, tl_100, tl_127, tl_128, tl_150, tl_160, tl_200, tl_400, tl_600, tl_999, tl_1000, la_0, la_1, la_2, la_3, la_4, la_5, la_6, la_7, la_8, la_9, la_10, la_11, la_12, la_13, la_14, la_15, la_16, la_17, la_18, la_19, la_20, la_21, la_24, la_28, la_31, la_35, la_37, la_38, la_40, la_41, la_60, la_77, la_78, la_79, la_80, la_96, la_99, la_100, la_127, la_128, la_150, la_160, la_200, la_400, la_600, la_999, la_1000, lm_0, lm_1, lm_2, lm_3, lm_4, lm_5, lm_6, lm_7, lm_8, lm_9, lm_10, lm_11, lm_12, lm_13, lm_14, lm_15, lm_16, lm_17, lm_18, lm_19, lm_20, lm_21, lm_24, lm_28, lm_31, lm_35, lm_37, lm_38, lm_40, lm_41, lm_60, lm_77, lm_78, lm_79, lm_80, lm_96, lm_99, lm_100, lm_127, lm_128, lm_150, lm_160, lm_200, lm_400, lm_600, lm_999, lm_1000, rm_0, rm_1, rm_2, rm_3, rm_4, rm_5, rm_6, rm_7, rm_8, rm_9, rm_10, rm_11, rm_12, rm_13, rm_14, rm_15, rm_16, rm_17, rm_18, rm_19, rm_20, rm_21, rm_24, rm_28, rm_31, rm_35, rm_37, rm_38, rm_40, rm_41, rm_60, rm_77, rm_78, rm_79, rm_80, rm_96, rm_99, rm_100, rm_127, rm_128, rm_150, rm_160, rm_200, rm_400, rm_600, rm_999, rm_1000, nar0, nar1_0, nar1_1, nI_add]
    by_cases q : mI σ (a + 1) (c + i) ≤ 0
    · rw [if_pos q, if_pos q, e_Days_personsWith_29, nI_1]
    · rw [if_neg q, if_neg q, e_Days_personsWith_29, nI_1]
      rfl
  · show rn d 305 4 [.ref a, .int (nI c), .int _, .int (nI 7)] [] σ = _
    rw [e_Days_personsWith_4, if_pos (show (7 : Int32) ≤ nI 7 from nI_le (a := 7) (b := 7) (by omega) (by omega))]
    rfl
theorem c_grieving (h : Sh σ) (ha : isDa a) : ev (d + 1) 37 [.ref a] σ = some (.inl (.int (whoB 7 (fun p => mI σ (a + 1) (3 + p)))), σ) := by
  rw [e_Days_grieving d a σ (by rw [k_da0 h ha]), show ev d 305 [.ref a, .int 3] σ = some (.inl (.int (whoB 7 (fun p => mI σ (a + 1) (3 + p)))), σ) from c_personsWith (c := 3) h ha (by decide)]
  rfl
theorem c_thirsty (h : Sh σ) (ha : isDa a) : ev (d + 1) 38 [.ref a] σ = some (.inl (.int (whoB 7 (fun p => mI σ (a + 1) (10 + p)))), σ) := by
  rw [e_Days_thirsty d a σ (by rw [k_da0 h ha]), show ev d 305 [.ref a, .int 10] σ = some (.inl (.int (whoB 7 (fun p => mI σ (a + 1) (10 + p)))), σ) from c_personsWith (c := 10) h ha (by decide)]
  rfl
/-- thirst of those in the bits ps, each at most b -/
def thU (ps b : Int32) (f : Nat → Int32) : Int32 := fo 7 (fun p s => if bt ps p = 0 then s else s + mnn (f p) b) 0
theorem c_thirstUpTo (h : Sh σ) (ha : isDa a) (ps b : Int32) : ev (d + 1) 40 [.ref a, .int ps, .int b] σ = some (.inl (.int (thU ps b (fun p => mI σ (a + 1) (10 + p)))), σ) := by
  rw [e_Days_thirstUpTo d a ps b σ (by rw [k_da0 h ha])]
  refine (lp (F := fun i s => rn (d + 1) 40 5 [.ref a, .int ps, .int b, .int s, .int (nI i)] [] σ) (n := 7) (st := fun p s => if bt ps p = 0 then s else s + mnn (mI σ (a + 1) (10 + p)) b) (fun i s hi => ?_) 0).trans ?_
  · show rn (d + 1) 40 5 [.ref a, .int ps, .int b, .int s, .int (nI i)] [] σ = _
    rw [e_Days_thirstUpTo_5, if_neg (show ¬ (7 : Int32) ≤ nI i from nI_ge (b := 7) (a := i) (by omega) (by omega))]
    show (if bt ps i = 0 then _ else _) = _
    by_cases q : bt ps i = 0
    · rw [if_pos q, if_pos q, e_Days_thirstUpTo_38, nI_1]
    · rw [if_neg q, if_neg q]
      simp (disch := first | assumption | decide | (simp only [Sh_wI, Sh_wA, Sh_wL, Sh_mT, ldA_wI, lwA_wI, bkA_wI, ldA_wA, lwA_wA, bkA_wA]; assumption) | omega) only [xr_da0, xa_da1, al_0, al_1, al_2, al_3, al_4, al_5, al_6, al_7, al_8, al_9, al_10, al_11, al_12, al_13, al_14, al_15, al_16, al_17, al_18, al_19, al_20, al_21, al_24, al_28, al_31, al_35, al_37, al_38, al_40, al_41, al_60, al_77, al_78, al_79, al_80, al_96, al_99, al_100, al_127, al_128, al_150, al_160, al_200, al_400, al_600, al_999, al_1000, tl_0, tl_1, tl_2, tl_3, tl_4, tl_5, tl_6, tl_7, tl_8, tl_9, tl_10, tl_11, tl_12, tl_13, tl_14, tl_15, tl_16, tl_17, tl_18, tl_19, tl_20, tl_21, tl_24, tl_28, tl_31, tl_35, tl_37, tl_38, tl_40, tl_41, tl_60, tl_77, tl_78, tl_79, tl_80, tl_96, tl_99, tl_100, tl_127, tl_128, tl_150, tl_160, tl_200, tl_400, tl_600, tl_999, tl_1000, la_0, la_1, la_2, la_3, la_4, la_5, la_6, la_7, la_8, la_9, la_10, la_11, la_12, la_13, la_14, la_15, la_16, la_17, la_18, la_19, la_20, la_21, la_24, la_28, la_31, la_35, la_37, la_38, la_40, la_41, la_60, la_77, la_78, la_79, la_80, la_96, la_99, la_100, la_127, la_128, la_150, la_160, la_200, la_400, la_600, la_999, la_1000, lm_0, lm_1, lm_2, lm_3, lm_4, lm_5, lm_6, lm_7, lm_8, lm_9, lm_10, lm_11, lm_12, lm_13, lm_14, lm_15, lm_16, lm_17, lm_18, lm_19, lm_20, lm_21, lm_24, lm_28, lm_31, lm_35, lm_37, lm_38, lm_40, lm_41, lm_60, lm_77, lm_78, lm_79, lm_80, lm_96, lm_99, lm_100, lm_127, lm_128, lm_150, lm_160, lm_200, lm_400, lm_600, lm_999, lm_1000, rm_0, rm_1, rm_2, rm_3, rm_4, rm_5, rm_6, rm_7, rm_8, rm_9, rm_10, rm_11, rm_12, rm_13, rm_14, rm_15, rm_16, rm_17, rm_18, rm_19, rm_20, rm_21, rm_24, rm_28, rm_31, rm_35, rm_37, rm_38, rm_40, rm_41, rm_60, rm_77, rm_78, rm_79, rm_80, rm_96, rm_99, rm_100, rm_127, rm_128, rm_150, rm_160, rm_200, rm_400, rm_600, rm_999, rm_1000, nar0, nar1_0, nar1_1, c_min, cI1]
      rw [e_Days_thirstUpTo_38, nI_1]
  · show rn (d + 1) 40 5 [.ref a, .int ps, .int b, .int _, .int (nI 7)] [] σ = _
    rw [e_Days_thirstUpTo_5, if_pos (show (7 : Int32) ≤ nI 7 from nI_le (a := 7) (b := 7) (by omega) (by omega))]
    rfl
theorem c_allThirst (h : Sh σ) (ha : isDa a) : ev (d + 2) 39 [.ref a] σ = some (.inl (.int (thU 127 99 (fun p => mI σ (a + 1) (10 + p)))), σ) := by
  rw [e_Days_allThirst (d + 1) a σ (by rw [k_da0 h ha]), c_thirstUpTo h ha]
  rfl
/-- the row that copies make -/
theorem c_copy (h : Sh σ) (ha : isDa a) {b : Nat} (hb : isDa b) (hab : a ≠ b) : ev d 26 [.ref a, .ref b] σ = some (.inl uv, wA σ (a + 1) (fun j => if j < 79 then mI σ (b + 1) j else mI σ (a + 1) j)) := by
  rw [e_Days_copy d a b σ (by rw [k_da0 h ha])]
  simp (disch := first | assumption | decide | (simp only [Sh_wI, Sh_wA, Sh_wL, Sh_mT, ldA_wI, lwA_wI, bkA_wI, ldA_wA, lwA_wA, bkA_wA]; assumption) | omega) only [xr_da0]
  unfold cpy
  rw [k_da1 h ha, k_da1 h hb, if_pos ⟨Or.inl rfl, rfl, by omega, by decide, by decide, by decide⟩]
  have : va_cpy (mI σ (b + 1)) (mI σ (a + 1)) (ix 0) (ix 0) (ix 79) = (fun j => if j < 79 then mI σ (b + 1) j else mI σ (a + 1) j) := funext fun j => by
    show (if 0 ≤ j ∧ j < 0 + 79 then mI σ (b + 1) (0 + (j - 0)) else mI σ (a + 1) j) = _
    by_cases q : j < 79
    · rw [if_pos ⟨by omega, by omega⟩, if_pos q]
      congr 1; omega
    · rw [if_neg (by omega), if_neg q]
  rw [this]
theorem c_begin (h : Sh σ) (ha : isDa a) (v : Int32) : ev (d + 1) 25 [.ref a, .int v] σ = some (.inl uv, wA σ (a + 1) (fun j => if j = 1 then v else if j < 79 then 0 else mI σ (a + 1) j)) := by
  rw [e_Days_begin d a v σ (by rw [k_da0 h ha])]
  simp (disch := first | assumption | decide | (simp only [Sh_wI, Sh_wA, Sh_wL, Sh_mT, ldA_wI, lwA_wI, bkA_wI, ldA_wA, lwA_wA, bkA_wA]; assumption) | omega) only [xr_da0]
  rw [c_fill (k_da1 h ha) (by decide)]
  dsimp only [cV1, uv]
  rw [xr_da0 (σ := wA σ (a + 1) _) h ha, tl_1, xt_da1 (σ := wA σ (a + 1) _) h ha (by decide), wI_wA]
end LibC
