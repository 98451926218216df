/-! the LAW's value: a row of codes over a pile -/
theorem lpE {β R : Type} {F : Nat → β → R} {n : Nat} {I : Nat → β → Prop} (h : ∀ i b, i < n → I i b → ∃ b', I (i + 1) b' ∧ F i b = F (i + 1) b') (b : β) (h0 : I 0 b) : ∃ b', I n b' ∧ F 0 b = F n b' := by
  have key : ∀ i, i ≤ n → ∃ b', I i b' ∧ F 0 b = F i b' := by
    intro i
    induction i with
    | zero => exact fun _ => ⟨b, h0, rfl⟩
    | succ i ih =>
      intro hi
      obtain ⟨b1, g1, e1⟩ := ih (by omega)
      obtain ⟨b2, g2, e2⟩ := h i b1 (by omega) g1
      exact ⟨b2, g2, e1.trans e2⟩
  exact key n (Nat.le_refl n)
theorem div_m1 (x : Int32) : x / (-1) = -x := Int32.toInt_inj.mp (by
  have : (-1 : Int32).toInt = -1 := by decide
  rw [Int32.toInt_div, this, Int.tdiv_neg, Int.tdiv_one, Int32.toInt_neg])
theorem rem_m1 (x : Int32) : x - x / (-1) * (-1) = 0 := by
  rw [div_m1, Int32.neg_mul_neg, Int32.mul_one, Int32.sub_self]
def joinC (c x y : Int32) : Int32 := if c = 1010 then x + y else if c = 1011 then x - y else if c = 1012 then x * y else if c = 1013 then (if y = 0 then 0 else x / y) else if c = 1014 then (if y = 0 then 0 else x - x / y * y) else if c = 1015 then mnn x y else mxx x y
section LawV
variable {σ : mm_M} {d : Nat}
theorem c_joined {k : Nat} (hk : k < 7) (x y : Int32) : ev d 68 [.int (nI (1010 + k)), .int x, .int y] σ = some (.inl (.int (joinC (nI (1010 + k)) x y)), σ) := by
  rw [e_Law_joined]
  have hc : k = 0 ∨ k = 1 ∨ k = 2 ∨ k = 3 ∨ k = 4 ∨ k = 5 ∨ k = 6 := by omega
  rcases hc with rfl | rfl | rfl | rfl | rfl | rfl | rfl
  · exact e_Law_joined_40 d _ x y σ
  · exact e_Law_joined_44 d _ x y σ
  · exact e_Law_joined_48 d _ x y σ
  · refine (e_Law_joined_52 d _ x y σ).trans ?_
    show _ = some (Sum.inl (Value.int (if y = 0 then 0 else x / y)), σ)
    by_cases h : y = 0
    · rw [if_pos h, if_pos h, e_Law_joined_63]; rfl
    · rw [if_neg h, if_neg h, if_neg h, e_Law_joined_63]; rfl
  · refine (e_Law_joined_64 d _ x y σ).trans ?_
    show _ = some (Sum.inl (Value.int (if y = 0 then 0 else x - x / y * y)), σ)
    by_cases h : y = 0
    · rw [if_pos h, if_pos h, e_Law_joined_75]; rfl
    · rw [if_neg h, if_neg h, if_neg h, e_Law_joined_75]; rfl
  · refine (e_Law_joined_76 d _ x y σ).trans ?_
    show _ = some (Sum.inl (Value.int (mnn x y)), σ)
    rw [← mnn_le]
    by_cases h : y ≤ x
    · rw [if_pos h, if_pos h, e_Law_joined_86]; rfl
    · rw [if_neg h, if_neg h, e_Law_joined_86]; rfl
  · refine (e_Law_joined_87 d _ x y σ).trans ?_
    show _ = some (Sum.inl (Value.int (mxx x y)), σ)
    rw [← mxx_le]
    by_cases h : x ≤ y
    · rw [if_pos h, if_pos h, e_Law_joined_97]; rfl
    · rw [if_neg h, if_neg h, e_Law_joined_97]; rfl
theorem m_by {k : Nat} (hk : k < 7) (x y : Int32) : ev (d + 1) 202 [.int (nI (2 + k)), .int x, .int y] σ = some (.inl (.int (joinC (nI (1010 + k)) x y)), σ) := by
  rw [e_M_by]
  have hc : k = 0 ∨ k = 1 ∨ k = 2 ∨ k = 3 ∨ k = 4 ∨ k = 5 ∨ k = 6 := by omega
  rcases hc with rfl | rfl | rfl | rfl | rfl | rfl | rfl
  · exact e_M_by_40 d _ x y σ
  · exact e_M_by_44 d _ x y σ
  · exact e_M_by_48 d _ x y σ
  · refine (e_M_by_52 d _ x y σ).trans ?_
    show _ = some (Sum.inl (Value.int (if y = 0 then 0 else x / y)), σ)
    by_cases h : y = 0
    · rw [if_pos h, if_pos h, e_M_by_73]; rfl
    · rw [if_neg h, if_neg h]
      by_cases g : y = -1
      · rw [if_pos g, e_M_by_73, g, div_m1]; rfl
      · rw [if_neg g, if_neg h, e_M_by_73]; rfl
  · refine (e_M_by_74 d _ x y σ).trans ?_
    show _ = some (Sum.inl (Value.int (if y = 0 then 0 else x - x / y * y)), σ)
    by_cases h : y = 0
    · rw [if_pos h, if_pos h, e_M_by_83, e_M_by_90]; rfl
    · rw [if_neg h, if_neg h]
      by_cases g : y = -1
      · rw [if_pos g, e_M_by_83, e_M_by_90, g, rem_m1]; rfl
      · rw [if_neg g, if_neg h, e_M_by_90]; rfl
  · refine (e_M_by_91 d _ x y σ).trans ?_
    rw [m_less]; rfl
  · refine (e_M_by_97 d _ x y σ).trans ?_
    rw [m_more]; rfl
/-- one code over the pile (its top first), by what is known -/
def lstep (g : Nat → Int32) (c : Int32) (st : List Int32) : List Int32 := if c < 1010 then (if 1000 ≤ c then g (ix (c - 1000)) else c) :: st else match st with
  | y :: x :: t => joinC c x y :: t
  | _ => st
def lrun (cs : Nat → Int32) (g : Nat → Int32) (n : Nat) : List Int32 := fo n (fun i st => lstep g (cs i) st) []
def hgt (cs : Nat → Int32) (n : Nat) : Nat := fo n (fun i h => if cs i < 1010 then h + 1 else h - 1) 0
/-- good codes: numbers, names, and joins that find two values -/
def LOK (cs : Nat → Int32) (len : Nat) : Prop := len ≤ 150 ∧ (∀ i, i < len → ∃ k, k ≤ 1016 ∧ cs i = nI k ∧ (1010 ≤ k → 2 ≤ hgt cs i)) ∧ hgt cs len = 1
theorem c_lt {k : Nat} (h : k < 1010) : nI k < (1010 : Int32) := nI_lt (b := 1010) h (by decide)
theorem c_nlt {k : Nat} (h : 1010 ≤ k) (h2 : k ≤ 1016) : ¬ nI k < (1010 : Int32) := nI_nlt (b := 1010) h (by omega)
theorem hgt_le (cs : Nat → Int32) : ∀ n, hgt cs n ≤ n
  | 0 => Nat.le_refl 0
  | n + 1 => by
    have := hgt_le cs n
    show (if cs n < 1010 then hgt cs n + 1 else hgt cs n - 1) ≤ n + 1
    split <;> omega
theorem lrun_len {cs : Nat → Int32} {len : Nat} (h : LOK cs len) (g : Nat → Int32) : ∀ i, i ≤ len → (lrun cs g i).length = hgt cs i
  | 0, _ => rfl
  | i + 1, hi => by
    have ih := lrun_len h g i (by omega)
    obtain ⟨k, hk, e, h2⟩ := h.2.1 i (by omega)
    show (lstep g (cs i) (lrun cs g i)).length = (if cs i < 1010 then hgt cs i + 1 else hgt cs i - 1)
    unfold lstep
    by_cases q : cs i < 1010
    · rw [if_pos q, if_pos q, List.length_cons, ih]
    · rw [if_neg q, if_neg q]
      have hk' : 1010 ≤ k := by
        rcases Nat.lt_or_ge k 1010 with r | r
        · exact absurd (by rw [e]; exact c_lt r) q
        · exact r
      have h3 := h2 hk'
      generalize lrun cs g i = st at ih ⊢
      match st, ih with
      | [], ih => simp at ih; omega
      | [_], ih => simp at ih; omega
      | y :: x :: t, ih => simp at ih ⊢; omega
/-- f holds the pile, its top at length - 1 -/
def PL (f : Nat → Int32) (st : List Int32) : Prop := ∀ q, q < st.length → f (st.length - 1 - q) = st.getD q 0
theorem PL_push {f : Nat → Int32} {st : List Int32} (h : PL f st) (v : Int32) : PL (up f st.length v) (v :: st) := by
  intro q hq
  cases q with
  | zero => exact up_e f st.length v
  | succ q =>
    simp only [List.length_cons] at hq ⊢
    rw [show st.length + 1 - 1 - (q + 1) = st.length - 1 - q by omega, up_n (by omega), h q (by omega)]
    rfl
theorem PL_join {f : Nat → Int32} {x y : Int32} {t : List Int32} (h : PL f (y :: x :: t)) (v : Int32) : f (t.length + 1) = y ∧ f t.length = x ∧ PL (up f t.length v) (v :: t) := by
  have h0 := h 0 (by simp)
  have h1 := h 1 (by simp)
  refine ⟨h0, h1, fun q hq => ?_⟩
  cases q with
  | zero => exact up_e f t.length v
  | succ q =>
    simp only [List.length_cons] at hq ⊢
    have h2 := h (q + 2) (by simp only [List.length_cons]; omega)
    simp only [List.length_cons] at h2
    rw [show t.length + 1 - 1 - (q + 1) = t.length + 1 + 1 - 1 - (q + 2) by omega, up_n (by omega), h2]
    rfl
def lval (cs : Nat → Int32) (len : Nat) (g : Nat → Int32) : Int32 := (lrun cs g len).getD 0 0
def clp (v : Int32) : Int32 := mxx 0 (mnn v 40)
theorem clp_m (v : Int32) : mnn 40 (mxx 0 v) = clp v := by
  have h0 : (0 : Int32).toInt = 0 := by decide
  have h4 : (40 : Int32).toInt = 40 := by decide
  unfold clp mnn mxx
  by_cases h1 : 0 < v
  · rw [if_pos h1]
    by_cases h2 : v < 40
    · rw [if_pos h2, if_neg (show ¬ 40 < v by rw [Int32.lt_iff_toInt_lt] at *; omega), if_pos h1]
    · rw [if_neg h2]
      by_cases h3 : 40 < v
      · rw [if_pos h3, if_pos (by decide)]
      · rw [if_neg h3, if_pos h1]
        rw [Int32.lt_iff_toInt_lt] at *
        exact Int32.toInt_inj.mp (by omega)
  · rw [if_neg h1, if_pos (by decide), if_neg (show ¬ 40 < v by rw [Int32.lt_iff_toInt_lt] at *; omega), if_neg h1]
/-- the value's bounds -/
theorem clp_in (v : Int32) : ∃ k, k ≤ 40 ∧ clp v = nI k := by
  have h0 : (0 : Int32).toInt = 0 := by decide
  have h4 : (40 : Int32).toInt = 40 := by decide
  have key : 0 ≤ (clp v).toInt ∧ (clp v).toInt ≤ 40 := by
    unfold clp mnn mxx
    by_cases h3 : 40 < v
    · rw [if_pos h3, if_pos (by decide)]; omega
    · rw [if_neg h3]
      by_cases h1 : 0 < v
      · rw [if_pos h1]; rw [Int32.lt_iff_toInt_lt] at *; omega
      · rw [if_neg h1]; omega
  refine ⟨(clp v).toInt.toNat, by omega, Int32.toInt_inj.mp ?_⟩
  rw [nI_toInt (by omega)]
  omega
theorem yt_lw2 (h : Sh σ) {w : Nat} (e : isLw w) {p : Nat} (hp : p < 150) (v : Int32) (k : mm_M → Option mm_R) : tI σ (w + 2) (nI p) v k = k (wA σ (w + 2) (up (mI σ (w + 2)) p v)) := by rw [xt_lw2 h e hp, w_up]
theorem lt0 (σ : mm_M) (a n : Nat) (k : Int32 → Option mm_R) (hn : 1000 ≤ n) : aI σ a (nI n - (1000 : Int32)) k = aI σ a (nI (n - 1000)) k := by
  rw [show nI n - (1000 : Int32) = nI (n - 1000) from pk_sub (b := 1000) hn]
theorem c_valueBy (h : Sh σ) {w len : Nat} {cs : Nat → Int32} (hw : isLw w) (hl : LOK cs len) (el : mI σ w 2 = nI len) (ec : ∀ i, i < len → mI σ (w + 1) i = cs i) : ∃ f, ev (d + 1) 67 [.ref w, .ref 4] σ = some (.inl (.int (lval cs len (mI σ 4))), wA σ (w + 2) f) := by
  rw [e_Law_valueBy d w 4 σ (by rw [k_lw0 h hw])]
  have hw' : w = 13 ∨ w = 46 := hw
  have n1 : w ≠ w + 2 := by omega
  have n2 : w + 1 ≠ w + 2 := by omega
  have n3 : 4 ≠ w + 2 := by omega
  have hle : len ≤ 150 := hl.1
  obtain ⟨⟨f, v⟩, hI, e⟩ := lpE (F := fun i (b : (Nat → Int32) × Value) => rn (d + 1) 67 4 [.ref w, .ref 4, .int (nI (lrun cs (mI σ 4) i).length), .int (nI i), b.2] [] (wA σ (w + 2) b.1)) (n := len) (I := fun i b => PL b.1 (lrun cs (mI σ 4) i)) (fun i b hi hI => by
    obtain ⟨f, v⟩ := b
    dsimp only at hI ⊢
    obtain ⟨k, hk, ek, h2⟩ := hl.2.1 i hi
    have hlen := lrun_len hl (mI σ 4) i (by omega)
    have hh := hgt_le cs i
    have eci := ec i hi
    rw [e_Law_valueBy_4]
    simp (disch := first | assumption | decide | (simp only [Sh_wI, Sh_wA, Sh_wL, Sh_mT, ldA_wI, lwA_wI, bkA_wI, ldA_wA, lwA_wA, bkA_wA]; assumption) | omega) only [xg_lw, xr_lw0, xr_lw1, xa_lw1, rA_o, el, al_0, al_1, al_2, al_3, al_4, al_5, al_6, al_7, al_8, al_9, al_10, al_11, al_12, al_13, al_14, al_15, al_16, al_17, al_18, al_19, al_20, al_21, al_24, al_28, al_31, al_35, al_37, al_38, al_40, al_41, al_60, al_77, al_78, al_79, al_80, al_96, al_99, al_100, al_127, al_128, al_150, al_160, al_200, al_400, al_600, al_999, al_1000, tl_0, tl_1, tl_2, tl_3, tl_4, tl_5, tl_6, tl_7, tl_8, tl_9, tl_10, tl_11, tl_12, tl_13, tl_14, tl_15, tl_16, tl_17, tl_18, tl_19, tl_20, tl_21, tl_24, tl_28, tl_31, tl_35, tl_37, tl_38, tl_40, tl_41, tl_60, tl_77, tl_78, tl_79, tl_80, tl_96, tl_99, tl_100, tl_127, tl_128, tl_150, tl_160, tl_200, tl_400, tl_600, tl_999, tl_1000, la_0, la_1, la_2, la_3, la_4, la_5, la_6, la_7, la_8, la_9, la_10, la_11, la_12, la_13, la_14, la_15, la_16, la_17, la_18, la_19, la_20, la_21, la_24, la_28, la_31, la_35, la_37, la_38, la_40, la_41, la_60, la_77, la_78, la_79, la_80, la_96, la_99, la_100, la_127, la_128, la_150, la_160, la_200, la_400, la_600, la_999, la_1000, lm_0, lm_1, lm_2, lm_3, lm_4, lm_5, lm_6, lm_7, lm_8, lm_9, lm_10, lm_11, lm_12, lm_13, lm_14, lm_15, lm_16, lm_17, lm_18, lm_19, lm_20, lm_21, lm_24, lm_28, lm_31, lm_35, lm_37, lm_38, lm_40, lm_41, lm_60, lm_77, lm_78, lm_79, lm_80, lm_96, lm_99, lm_100, lm_127, lm_128, lm_150, lm_160, lm_200, lm_400, lm_600, lm_999, lm_1000, rm_0, rm_1, rm_2, rm_3, rm_4, rm_5, rm_6, rm_7, rm_8, rm_9, rm_10, rm_11, rm_12, rm_13, rm_14, rm_15, rm_16, rm_17, rm_18, rm_19, rm_20, rm_21, rm_24, rm_28, rm_31, rm_35, rm_37, rm_38, rm_40, rm_41, rm_60, rm_77, rm_78, rm_79, rm_80, rm_96, rm_99, rm_100, rm_127, rm_128, rm_150, rm_160, rm_200, rm_400, rm_600, rm_999, rm_1000, nar0, nar1_0, nar1_1]
    rw [if_neg (show ¬ nI len ≤ nI i from nI_ge (b := len) (a := i) (by omega) (by omega)), eci, ek]
    have estep : lrun cs (mI σ 4) (i + 1) = lstep (mI σ 4) (cs i) (lrun cs (mI σ 4) i) := rfl
    by_cases q : k < 1010
    · rw [if_pos (c_lt q), if_neg (show ¬ (150 : Int32) ≤ nI (lrun cs (mI σ 4) i).length from nI_ge (b := 150) (by omega) (by omega))]
      by_cases q2 : 1000 ≤ k
      · rw [if_pos (show (1000 : Int32) ≤ nI k from nI_le (a := 1000) q2 (by omega)), lt0 _ _ _ _ q2, xa_4 (σ := wA σ (w + 2) f) h (by omega), e_Law_valueBy_101]
        rw [yt_lw2 (σ := wA σ (w + 2) f) h hw (by omega), rA_a, wA_wA, rA_o n3, e_Law_valueBy_105]
        refine ⟨(up f (lrun cs (mI σ 4) i).length (mI σ 4 (k - 1000)), .int (nI k)), ?_, ?_⟩
        · dsimp only
          rw [estep, ek]
          unfold lstep
          rw [if_pos (c_lt q), if_pos (show (1000 : Int32) ≤ nI k from nI_le (a := 1000) q2 (by omega)), show nI k - (1000 : Int32) = nI (k - 1000) from pk_sub (b := 1000) q2, ix_nI (by omega)]
          exact PL_push hI _
        · dsimp only
          have : (lrun cs (mI σ 4) (i + 1)).length = (lrun cs (mI σ 4) i).length + 1 := by
            rw [estep, ek]
            unfold lstep
            rw [if_pos (c_lt q), List.length_cons]
          rw [this, nI_1, nI_1]
      · rw [if_neg (show ¬ (1000 : Int32) ≤ nI k from nI_ge (b := 1000) (by omega) (by omega)), e_Law_valueBy_101]
        rw [yt_lw2 (σ := wA σ (w + 2) f) h hw (by omega), rA_a, wA_wA, e_Law_valueBy_105]
        refine ⟨(up f (lrun cs (mI σ 4) i).length (nI k), .int (nI k)), ?_, ?_⟩
        · dsimp only
          rw [estep, ek]
          unfold lstep
          rw [if_pos (c_lt q), if_neg (show ¬ (1000 : Int32) ≤ nI k from nI_ge (b := 1000) (by omega) (by omega))]
          exact PL_push hI _
        · dsimp only
          have : (lrun cs (mI σ 4) (i + 1)).length = (lrun cs (mI σ 4) i).length + 1 := by
            rw [estep, ek]
            unfold lstep
            rw [if_pos (c_lt q), List.length_cons]
          rw [this, nI_1, nI_1]
    · have h3 := h2 (by omega)
      rw [if_neg (c_nlt (by omega) hk)]
      have estep2 : ∃ y x t, lrun cs (mI σ 4) i = y :: x :: t ∧ lrun cs (mI σ 4) (i + 1) = joinC (nI k) x y :: t := by
        rw [estep, ek]
        unfold lstep
        rw [if_neg (c_nlt (by omega) hk)]
        generalize lrun cs (mI σ 4) i = st at hlen ⊢
        match st, hlen with
        | [], hlen => simp at hlen; omega
        | [_], hlen => simp at hlen; omega
        | y :: x :: t, hlen => exact ⟨y, x, t, rfl, rfl⟩
      obtain ⟨y, x, t, e1, e2⟩ := estep2
      rw [e1] at hI hlen ⊢
      simp only [List.length_cons] at hlen ⊢
      obtain ⟨p1, p2, p3⟩ := PL_join hI (joinC (nI k) x y)
      rw [if_neg (show ¬ nI (t.length + 1 + 1) < (2 : Int32) from nI_nlt (b := 2) (by omega) (by omega)), show nI (t.length + 1 + 1) - (2 : Int32) = nI t.length from pk_sub (b := 2) (by omega), show nI (t.length + 1 + 1) - (1 : Int32) = nI (t.length + 1) from pk_sub (b := 1) (by omega)]
      rw [xa_lw2 (σ := wA σ (w + 2) f) h hw (by omega), xa_lw2 (σ := wA σ (w + 2) f) h hw (by omega), rA_a, p1, p2, show nI k = nI (1010 + (k - 1010)) by rw [Nat.add_sub_cancel' (by omega)], c_joined (by omega)]
      dsimp only [cI1]
      rw [yt_lw2 (σ := wA σ (w + 2) f) h hw (by omega), rA_a, wA_wA, e_Law_valueBy_105, show 1010 + (k - 1010) = k by omega]
      refine ⟨(up f t.length (joinC (nI k) x y), .int (nI k)), ?_, ?_⟩
      · dsimp only
        rw [e2]
        exact p3
      · dsimp only
        rw [e2, List.length_cons, pk_m1, nI_1]) (mI σ (w + 2), uv) (fun q hq => absurd hq (Nat.not_lt_zero q))
  dsimp only at e hI
  rw [wA_id] at e
  have hlen := lrun_len hl (mI σ 4) len (Nat.le_refl _)
  rw [hl.2.2] at hlen
  refine ⟨f, ?_⟩
  show rn (d + 1) 67 4 [.ref w, .ref 4, .int (nI 0), .int (nI 0), uv] [] σ = _
  refine e.trans ?_
  rw [e_Law_valueBy_4]
  simp (disch := first | assumption | decide | (simp only [Sh_wI, Sh_wA, Sh_wL, Sh_mT, ldA_wI, lwA_wI, bkA_wI, ldA_wA, lwA_wA, bkA_wA]; assumption) | omega) only [xg_lw, xr_lw1, rA_o, el, al_0, al_1, al_2, al_3, al_4, al_5, al_6, al_7, al_8, al_9, al_10, al_11, al_12, al_13, al_14, al_15, al_16, al_17, al_18, al_19, al_20, al_21, al_24, al_28, al_31, al_35, al_37, al_38, al_40, al_41, al_60, al_77, al_78, al_79, al_80, al_96, al_99, al_100, al_127, al_128, al_150, al_160, al_200, al_400, al_600, al_999, al_1000, tl_0, tl_1, tl_2, tl_3, tl_4, tl_5, tl_6, tl_7, tl_8, tl_9, tl_10, tl_11, tl_12, tl_13, tl_14, tl_15, tl_16, tl_17, tl_18, tl_19, tl_20, tl_21, tl_24, tl_28, tl_31, tl_35, tl_37, tl_38, tl_40, tl_41, tl_60, tl_77, tl_78, tl_79, tl_80, tl_96, tl_99, tl_100, tl_127, tl_128, tl_150, tl_160, tl_200, tl_400, tl_600, tl_999, tl_1000, la_0, la_1, la_2, la_3, la_4, la_5, la_6, la_7, la_8, la_9, la_10, la_11, la_12, la_13, la_14, la_15, la_16, la_17, la_18, la_19, la_20, la_21, la_24, la_28, la_31, la_35, la_37, la_38, la_40, la_41, la_60, la_77, la_78, la_79, la_80, la_96, la_99, la_100, la_127, la_128, la_150, la_160, la_200, la_400, la_600, la_999, la_1000, lm_0, lm_1, lm_2, lm_3, lm_4, lm_5, lm_6, lm_7, lm_8, lm_9, lm_10, lm_11, lm_12, lm_13, lm_14, lm_15, lm_16, lm_17, lm_18, lm_19, lm_20, lm_21, lm_24, lm_28, lm_31, lm_35, lm_37, lm_38, lm_40, lm_41, lm_60, lm_77, lm_78, lm_79, lm_80, lm_96, lm_99, lm_100, lm_127, lm_128, lm_150, lm_160, lm_200, lm_400, lm_600, lm_999, lm_1000, rm_0, rm_1, rm_2, rm_3, rm_4, rm_5, rm_6, rm_7, rm_8, rm_9, rm_10, rm_11, rm_12, rm_13, rm_14, rm_15, rm_16, rm_17, rm_18, rm_19, rm_20, rm_21, rm_24, rm_28, rm_31, rm_35, rm_37, rm_38, rm_40, rm_41, rm_60, rm_77, rm_78, rm_79, rm_80, rm_96, rm_99, rm_100, rm_127, rm_128, rm_150, rm_160, rm_200, rm_400, rm_600, rm_999, rm_1000, nar0, nar1_0, nar1_1]
  rw [if_pos (Int32.le_refl _), xa_lw2 (σ := wA σ (w + 2) f) h hw (by omega), rA_a]
  have := hI 0 (by omega)
  rw [hlen] at this
  unfold lval
  rw [← this]
theorem c_laughAsGiven (h : Sh σ) {len : Nat} {cs : Nat → Int32} (hl : LOK cs len) (el : mI σ (lwA σ) 2 = nI len) (ec : ∀ i, i < len → mI σ (lwA σ + 1) i = cs i) : ∃ f, ev (d + 2) 70 [.ref 3] σ = some (.inl (.int (clp (lval cs len (mI σ 4)))), wA σ (lwA σ + 2) f) := by
  rw [e_Scene_laughAsGiven (d + 1) 3 σ (by rw [k_3 h]), xr_3_2 h, xr_3_0 h]
  obtain ⟨f, e⟩ := c_valueBy (d := d) h h.lw hl el ec
  refine ⟨f, ?_⟩
  rw [e]
  dsimp only [cI1]
  rw [c_min]
  dsimp only [cI1]
  rw [c_max]
  rfl
end LawV
