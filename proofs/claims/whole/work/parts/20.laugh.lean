/-! LAUGH: the reference's value of the LAW, the land, what is given to the LAW -/
theorem lstep_as {g g' : Nat → Int32} (hg : ∀ k, k < 10 → g k = g' k) {k : Nat} (hk : k ≤ 1016) (st : List Int32) : lstep g (nI k) st = lstep g' (nI k) st := by
  unfold lstep
  by_cases q : k < 1010
  · rw [if_pos (c_lt q), if_pos (c_lt q)]
    by_cases q2 : 1000 ≤ k
    · rw [if_pos (show (1000 : Int32) ≤ nI k from nI_le (a := 1000) q2 (by omega)), if_pos (show (1000 : Int32) ≤ nI k from nI_le (a := 1000) q2 (by omega)), show nI k - (1000 : Int32) = nI (k - 1000) from pk_sub (b := 1000) q2, ix_nI (by omega), hg _ (by omega)]
    · rw [if_neg (show ¬ (1000 : Int32) ≤ nI k from nI_ge (b := 1000) (by omega) (by omega)), if_neg (show ¬ (1000 : Int32) ≤ nI k from nI_ge (b := 1000) (by omega) (by omega))]
  · rw [if_neg (c_nlt (by omega) hk), if_neg (c_nlt (by omega) hk)]
theorem lval_as {cs : Nat → Int32} {len : Nat} (h : LOK cs len) {g g' : Nat → Int32} (hg : ∀ k, k < 10 → g k = g' k) : lval cs len g = lval cs len g' := by
  have : lrun cs g len = lrun cs g' len := fo_as len (fun i hi st => by
    obtain ⟨k, hk, e, -⟩ := h.2.1 i hi
    rw [e]
    exact lstep_as hg hk st)
  unfold lval
  rw [this]
/-- many = 0: no LAW was told -/
def lvalM (many : Nat) (cs g : Nat → Int32) : Int32 := if many = 0 then g 0 - 2 * g 1 - 3 * g 2 - g 5 else lval cs many g
def LWOK (many : Nat) (cs : Nat → Int32) : Prop := many = 0 ∨ LOK cs many
theorem lvalM_as {many : Nat} {cs : Nat → Int32} (h : LWOK many cs) {g g' : Nat → Int32} (hg : ∀ k, k < 10 → g k = g' k) : lvalM many cs g = lvalM many cs g' := by
  unfold lvalM
  by_cases q : many = 0
  · rw [if_pos q, if_pos q, hg 0 (by omega), hg 1 (by omega), hg 2 (by omega), hg 5 (by omega)]
  · rw [if_neg q, if_neg q]
    rcases h with h | h
    · exact absurd h q
    · exact lval_as h hg
theorem std_ok : LOK stdI 11 := by
  refine ⟨by decide, ?_, by decide +kernel⟩
  have h : ∀ i, i < 11 → (stdI i).toInt.toNat ≤ 1016 ∧ stdI i = nI (stdI i).toInt.toNat ∧ (1010 ≤ (stdI i).toInt.toNat → 2 ≤ hgt stdI i) := by decide +kernel
  exact fun i hi => ⟨_, h i hi⟩
theorem lval_std (g : Nat → Int32) : lval stdI 11 g = g 0 - 2 * g 1 - 3 * g 2 - g 5 := by
  rw [Int32.mul_comm 2, Int32.mul_comm 3]
  rfl
/-- the class's LAW in use -/
def CLw (σ : mm_M) (many : Nat) (cs : Nat → Int32) : Prop := mI σ (lwA σ) 2 = nI (if many = 0 then 11 else many) ∧ ∀ i, i < (if many = 0 then 11 else many) → mI σ (lwA σ + 1) i = if many = 0 then stdI i else cs i
/-- the code c as the reference has it: x, y -/
def MEn (c x y : Int32) : Prop := ∃ k, k ≤ 1016 ∧ c = nI k ∧ ((k < 1000 ∧ x = 0 ∧ y = nI k) ∨ (1000 ≤ k ∧ k < 1010 ∧ x = 1 ∧ y = nI (k - 1000)) ∨ (1010 ≤ k ∧ x = nI (2 + (k - 1010))))
def MLw (σ : mm_M) (many : Nat) (cs : Nat → Int32) : Prop := mI σ 53 19 = nI many ∧ ∀ i, i < many → MEn (cs i) (mI σ (115 + i) 0) (mI σ (115 + i) 1)
section LghV
variable {σ : mm_M} {d : Nat}
theorem c_lawLaugh (h : Sh σ) {many : Nat} {cs : Nat → Int32} (ok : LWOK many cs) (hc : CLw σ many cs) : ∃ f, ev (d + 2) 70 [.ref 3] σ = some (.inl (.int (clp (lvalM many cs (mI σ 4)))), wA σ (lwA σ + 2) f) := by
  unfold lvalM
  obtain ⟨h1, h2⟩ := hc
  by_cases q : many = 0
  · simp only [if_pos q] at h1 h2 ⊢
    rw [← lval_std]
    exact c_laughAsGiven h std_ok h1 h2
  · simp only [if_neg q] at h1 h2 ⊢
    rcases ok with ok | ok
    · exact absurd ok q
    · exact c_laughAsGiven h ok h1 h2
theorem yt_450 (h : Sh σ) {p : Nat} (hp : p < 160) (v : Int32) (k : mm_M → Option mm_R) : tI σ 450 (nI p) v k = k (wA σ 450 (up (mI σ 450) p v)) := by rw [xt_450 h hp, w_up]
theorem yt_451 (h : Sh σ) {p : Nat} (hp : p < 10) (v : Int32) (k : mm_M → Option mm_R) : tI σ 451 (nI p) v k = k (wA σ 451 (up (mI σ 451) p v)) := by rw [xt_451 h hp, w_up]
theorem m_byLaw (h : Sh σ) {many : Nat} {cs : Nat → Int32} (ok : LWOK many cs) (hm : MLw σ many cs) : ∃ f, ev (d + 2) 203 [.ref 53] σ = some (.inl (.int (clp (lvalM many cs (mI σ 451)))), wA σ 450 f) := by
  rw [e_M_byLaw (d + 1) 53 σ (by rw [k_53 h])]
  simp (disch := first | assumption | decide | (simp only [Sh_wI, Sh_wA, Sh_wL, Sh_mT, ldA_wI, lwA_wI, bkA_wI, ldA_wA, lwA_wA, bkA_wA]; assumption) | omega) only [xr_53_25, xr_53_26, xa_451, yt_450, al_0, al_1, al_2, al_3, al_4, al_5, al_6, al_7, al_8, al_9, al_10, al_11, al_12, al_13, al_14, al_15, al_16, al_17, al_18, al_19, al_20, al_21, al_24, al_28, al_31, al_35, al_37, al_38, al_40, al_41, al_60, al_77, al_78, al_79, al_80, al_96, al_99, al_100, al_127, al_128, al_150, al_160, al_200, al_400, al_600, al_999, al_1000, tl_0, tl_1, tl_2, tl_3, tl_4, tl_5, tl_6, tl_7, tl_8, tl_9, tl_10, tl_11, tl_12, tl_13, tl_14, tl_15, tl_16, tl_17, tl_18, tl_19, tl_20, tl_21, tl_24, tl_28, tl_31, tl_35, tl_37, tl_38, tl_40, tl_41, tl_60, tl_77, tl_78, tl_79, tl_80, tl_96, tl_99, tl_100, tl_127, tl_128, tl_150, tl_160, tl_200, tl_400, tl_600, tl_999, tl_1000, la_0, la_1, la_2, la_3, la_4, la_5, la_6, la_7, la_8, la_9, la_10, la_11, la_12, la_13, la_14, la_15, la_16, la_17, la_18, la_19, la_20, la_21, la_24, la_28, la_31, la_35, la_37, la_38, la_40, la_41, la_60, la_77, la_78, la_79, la_80, la_96, la_99, la_100, la_127, la_128, la_150, la_160, la_200, la_400, la_600, la_999, la_1000, lm_0, lm_1, lm_2, lm_3, lm_4, lm_5, lm_6, lm_7, lm_8, lm_9, lm_10, lm_11, lm_12, lm_13, lm_14, lm_15, lm_16, lm_17, lm_18, lm_19, lm_20, lm_21, lm_24, lm_28, lm_31, lm_35, lm_37, lm_38, lm_40, lm_41, lm_60, lm_77, lm_78, lm_79, lm_80, lm_96, lm_99, lm_100, lm_127, lm_128, lm_150, lm_160, lm_200, lm_400, lm_600, lm_999, lm_1000, rm_0, rm_1, rm_2, rm_3, rm_4, rm_5, rm_6, rm_7, rm_8, rm_9, rm_10, rm_11, rm_12, rm_13, rm_14, rm_15, rm_16, rm_17, rm_18, rm_19, rm_20, rm_21, rm_24, rm_28, rm_31, rm_35, rm_37, rm_38, rm_40, rm_41, rm_60, rm_77, rm_78, rm_79, rm_80, rm_96, rm_99, rm_100, rm_127, rm_128, rm_150, rm_160, rm_200, rm_400, rm_600, rm_999, rm_1000, nar0, nar1_0, nar1_1]
  obtain ⟨em, en⟩ := hm
  have fin : ∀ (f : Nat → Int32) (n : Nat), rn (d + 2) 203 41 [.ref 53, .int (nI n), .int (nI many)] [] (wA σ 450 f) = some (.inl (.int (clp (f 0))), wA σ 450 f) := by
    intro f n
    rw [e_M_byLaw_41]
    simp (disch := first | assumption | decide | (simp only [Sh_wI, Sh_wA, Sh_wL, Sh_mT, ldA_wI, lwA_wI, bkA_wI, ldA_wA, lwA_wA, bkA_wA]; assumption) | omega) only [xg_53, xr_53_25, xa_450, rA_a, rA_o, em, al_0, al_1, al_2, al_3, al_4, al_5, al_6, al_7, al_8, al_9, al_10, al_11, al_12, al_13, al_14, al_15, al_16, al_17, al_18, al_19, al_20, al_21, al_24, al_28, al_31, al_35, al_37, al_38, al_40, al_41, al_60, al_77, al_78, al_79, al_80, al_96, al_99, al_100, al_127, al_128, al_150, al_160, al_200, al_400, al_600, al_999, al_1000, tl_0, tl_1, tl_2, tl_3, tl_4, tl_5, tl_6, tl_7, tl_8, tl_9, tl_10, tl_11, tl_12, tl_13, tl_14, tl_15, tl_16, tl_17, tl_18, tl_19, tl_20, tl_21, tl_24, tl_28, tl_31, tl_35, tl_37, tl_38, tl_40, tl_41, tl_60, tl_77, tl_78, tl_79, tl_80, tl_96, tl_99, tl_100, tl_127, tl_128, tl_150, tl_160, tl_200, tl_400, tl_600, tl_999, tl_1000, la_0, la_1, la_2, la_3, la_4, la_5, la_6, la_7, la_8, la_9, la_10, la_11, la_12, la_13, la_14, la_15, la_16, la_17, la_18, la_19, la_20, la_21, la_24, la_28, la_31, la_35, la_37, la_38, la_40, la_41, la_60, la_77, la_78, la_79, la_80, la_96, la_99, la_100, la_127, la_128, la_150, la_160, la_200, la_400, la_600, la_999, la_1000, lm_0, lm_1, lm_2, lm_3, lm_4, lm_5, lm_6, lm_7, lm_8, lm_9, lm_10, lm_11, lm_12, lm_13, lm_14, lm_15, lm_16, lm_17, lm_18, lm_19, lm_20, lm_21, lm_24, lm_28, lm_31, lm_35, lm_37, lm_38, lm_40, lm_41, lm_60, lm_77, lm_78, lm_79, lm_80, lm_96, lm_99, lm_100, lm_127, lm_128, lm_150, lm_160, lm_200, lm_400, lm_600, lm_999, lm_1000, rm_0, rm_1, rm_2, rm_3, rm_4, rm_5, rm_6, rm_7, rm_8, rm_9, rm_10, rm_11, rm_12, rm_13, rm_14, rm_15, rm_16, rm_17, rm_18, rm_19, rm_20, rm_21, rm_24, rm_28, rm_31, rm_35, rm_37, rm_38, rm_40, rm_41, rm_60, rm_77, rm_78, rm_79, rm_80, rm_96, rm_99, rm_100, rm_127, rm_128, rm_150, rm_160, rm_200, rm_400, rm_600, rm_999, rm_1000, nar0, nar1_0, nar1_1, m_more, m_less, cI1, clp_m]
    rw [if_pos (Int32.le_refl _)]
  unfold lvalM
  by_cases q : many = 0
  · subst q
    rw [if_pos rfl]
    refine ⟨up (mI σ 450) 0 (mI σ 451 0 - 2 * mI σ 451 1 - 3 * mI σ 451 2 - mI σ 451 5), (fin _ 0).trans ?_⟩
    rw [up_e]
  · rw [if_neg q]
    have hl : LOK cs many := by
      rcases ok with ok | ok
      · exact absurd ok q
      · exact ok
    have hle : many ≤ 150 := hl.1
    obtain ⟨f, hI, e⟩ := lpE (F := fun i (f : Nat → Int32) => rn (d + 2) 203 41 [.ref 53, .int (nI (lrun cs (mI σ 451) i).length), .int (nI i)] [] (wA σ 450 f)) (n := many) (I := fun i f => PL f (lrun cs (mI σ 451) i)) (fun i f hi hI => by
      obtain ⟨k, hk, ek, h2⟩ := hl.2.1 i hi
      obtain ⟨k', hk', ek', hx⟩ := en i hi
      have ekk : k' = k := (nI_eq (by omega) (by omega)).mp (ek'.symm.trans ek)
      subst ekk
      have hlen := lrun_len hl (mI σ 451) i (by omega)
      have hh := hgt_le cs i
      have n1 : 115 + i ≠ 450 := by omega
      have hi2 : i < 160 := by omega
      have estep : lrun cs (mI σ 451) (i + 1) = lstep (mI σ 451) (cs i) (lrun cs (mI σ 451) i) := rfl
      rw [e_M_byLaw_41]
      simp (disch := first | assumption | decide | (simp only [Sh_wI, Sh_wA, Sh_wL, Sh_mT, ldA_wI, lwA_wI, bkA_wI, ldA_wA, lwA_wA, bkA_wA]; assumption) | omega) only [xg_53, xr_53_21, xr_53_25, xr_53_26, xR_114, xa_r114, rA_o, em, al_0, al_1, al_2, al_3, al_4, al_5, al_6, al_7, al_8, al_9, al_10, al_11, al_12, al_13, al_14, al_15, al_16, al_17, al_18, al_19, al_20, al_21, al_24, al_28, al_31, al_35, al_37, al_38, al_40, al_41, al_60, al_77, al_78, al_79, al_80, al_96, al_99, al_100, al_127, al_128, al_150, al_160, al_200, al_400, al_600, al_999, al_1000, tl_0, tl_1, tl_2, tl_3, tl_4, tl_5, tl_6, tl_7, tl_8, tl_9, tl_10, tl_11, tl_12, tl_13, tl_14, tl_15, tl_16, tl_17, tl_18, tl_19, tl_20, tl_21, tl_24, tl_28, tl_31, tl_35, tl_37, tl_38, tl_40, tl_41, tl_60, tl_77, tl_78, tl_79, tl_80, tl_96, tl_99, tl_100, tl_127, tl_128, tl_150, tl_160, tl_200, tl_400, tl_600, tl_999, tl_1000, la_0, la_1, la_2, la_3, la_4, la_5, la_6, la_7, la_8, la_9, la_10, la_11, la_12, la_13, la_14, la_15, la_16, la_17, la_18, la_19, la_20, la_21, la_24, la_28, la_31, la_35, la_37, la_38, la_40, la_41, la_60, la_77, la_78, la_79, la_80, la_96, la_99, la_100, la_127, la_128, la_150, la_160, la_200, la_400, la_600, la_999, la_1000, lm_0, lm_1, lm_2, lm_3, lm_4, lm_5, lm_6, lm_7, lm_8, lm_9, lm_10, lm_11, lm_12, lm_13, lm_14, lm_15, lm_16, lm_17, lm_18, lm_19, lm_20, lm_21, lm_24, lm_28, lm_31, lm_35, lm_37, lm_38, lm_40, lm_41, lm_60, lm_77, lm_78, lm_79, lm_80, lm_96, lm_99, lm_100, lm_127, lm_128, lm_150, lm_160, lm_200, lm_400, lm_600, lm_999, lm_1000, rm_0, rm_1, rm_2, rm_3, rm_4, rm_5, rm_6, rm_7, rm_8, rm_9, rm_10, rm_11, rm_12, rm_13, rm_14, rm_15, rm_16, rm_17, rm_18, rm_19, rm_20, rm_21, rm_24, rm_28, rm_31, rm_35, rm_37, rm_38, rm_40, rm_41, rm_60, rm_77, rm_78, rm_79, rm_80, rm_96, rm_99, rm_100, rm_127, rm_128, rm_150, rm_160, rm_200, rm_400, rm_600, rm_999, rm_1000, nar0, nar1_0, nar1_1]
      rw [if_neg (show ¬ nI many ≤ nI i from nI_ge (b := many) (a := i) (by omega) (by omega))]
      rcases hx with ⟨q1, x0, y0⟩ | ⟨q1, q2, x0, y0⟩ | ⟨q1, x0⟩
      · rw [x0, if_neg (show ¬ (2 : Int32) ≤ 0 by decide), if_pos rfl, y0, e_M_byLaw_101, yt_450 (σ := wA σ 450 f) h (by omega), rA_a, wA_wA, e_M_byLaw_144]
        refine ⟨up f (lrun cs (mI σ 451) i).length (nI k'), ?_, ?_⟩
        · rw [estep, ek]
          unfold lstep
          rw [if_pos (c_lt (by omega)), if_neg (show ¬ (1000 : Int32) ≤ nI k' from nI_ge (b := 1000) (by omega) (by omega))]
          exact PL_push hI _
        · have : (lrun cs (mI σ 451) (i + 1)).length = (lrun cs (mI σ 451) i).length + 1 := by
            rw [estep, ek]
            unfold lstep
            rw [if_pos (c_lt (by omega)), List.length_cons]
          rw [this, nI_1, nI_1]
      · rw [x0, if_neg (show ¬ (2 : Int32) ≤ 1 by decide), if_neg (show ¬ (1 : Int32) = 0 by decide), y0, xa_451 (σ := wA σ 450 f) h (by omega), rA_o (by decide), e_M_byLaw_101, yt_450 (σ := wA σ 450 f) h (by omega), rA_a, wA_wA, e_M_byLaw_144]
        refine ⟨up f (lrun cs (mI σ 451) i).length (mI σ 451 (k' - 1000)), ?_, ?_⟩
        · rw [estep, ek]
          unfold lstep
          rw [if_pos (c_lt (by omega)), if_pos (show (1000 : Int32) ≤ nI k' from nI_le (a := 1000) q1 (by omega)), show nI k' - (1000 : Int32) = nI (k' - 1000) from pk_sub (b := 1000) q1, ix_nI (by omega)]
          exact PL_push hI _
        · have : (lrun cs (mI σ 451) (i + 1)).length = (lrun cs (mI σ 451) i).length + 1 := by
            rw [estep, ek]
            unfold lstep
            rw [if_pos (c_lt (by omega)), List.length_cons]
          rw [this, nI_1, nI_1]
      · have h3 := h2 (by omega)
        rw [x0, if_pos (show (2 : Int32) ≤ nI (2 + (k' - 1010)) from nI_le (a := 2) (by omega) (by omega))]
        have estep2 : ∃ y x t, lrun cs (mI σ 451) i = y :: x :: t ∧ lrun cs (mI σ 451) (i + 1) = joinC (nI k') x y :: t := by
          rw [estep, ek]
          unfold lstep
          rw [if_neg (c_nlt (by omega) hk)]
          generalize lrun cs (mI σ 451) i = st at hlen ⊢
          match st, hlen with
          | [], hlen => simp at hlen; omega
          | [_], hlen => simp at hlen; omega
          | y :: x :: t, hlen => exact ⟨y, x, t, rfl, rfl⟩
        obtain ⟨y, x, t, e1, e2⟩ := estep2
        rw [e1] at hI hlen ⊢
        simp only [List.length_cons] at hlen ⊢
        obtain ⟨p1, p2, p3⟩ := PL_join hI (joinC (nI k') x y)
        rw [pk_m1, show nI (t.length + 1) - (1 : Int32) = nI t.length from pk_sub (b := 1) (by omega)]
        rw [xa_450 (σ := wA σ 450 f) h (by omega), xa_450 (σ := wA σ 450 f) h (by omega), rA_a, p1, p2, m_by (by omega)]
        dsimp only [cI1]
        rw [yt_450 (σ := wA σ 450 f) h (by omega), rA_a, wA_wA, e_M_byLaw_144, show 1010 + (k' - 1010) = k' by omega]
        refine ⟨up f t.length (joinC (nI k') x y), ?_, ?_⟩
        · rw [e2]
          exact p3
        · rw [e2, List.length_cons, nI_1]) (up (mI σ 450) 0 (mI σ 451 0 - 2 * mI σ 451 1 - 3 * mI σ 451 2 - mI σ 451 5)) (fun q hq => absurd hq (Nat.not_lt_zero q))
    have hlen := lrun_len hl (mI σ 451) many (Nat.le_refl _)
    rw [hl.2.2] at hlen
    refine ⟨f, ?_⟩
    refine (show _ = _ from e).trans ?_
    try dsimp only
    rw [fin]
    have := hI 0 (by omega)
    rw [hlen] at this
    unfold lval
    rw [← this]
def gvl (l : List Int32) (k : Nat) : Int32 := l.getD k 0
/-- LAUGH by the LAW for ten numbers -/
def lgv (many : Nat) (cs : Nat → Int32) (l : List Int32) : Int32 := clp (lvalM many cs (gvl l))
theorem lgv_in (many : Nat) (cs : Nat → Int32) (l : List Int32) : ∃ k, k ≤ 40 ∧ lgv many cs l = nI k := clp_in _
theorem m_laughBy (h : Sh σ) {many : Nat} {cs : Nat → Int32} (ok : LWOK many cs) (hm : MLw σ many cs) (x0 x1 x2 x3 x4 x5 x6 x7 x8 x9 : Int32) : ∃ g f, ev (d + 3) 208 [.ref 53, .int x0, .int x1, .int x2, .int x3, .int x4, .int x5, .int x6, .int x7, .int x8, .int x9] σ = some (.inl (.int (lgv many cs [x0, x1, x2, x3, x4, x5, x6, x7, x8, x9])), wA (wA σ 451 g) 450 f) := by
  rw [e_M_laughBy (d + 2) 53 x0 x1 x2 x3 x4 x5 x6 x7 x8 x9 σ (by rw [k_53 h])]
  simp (disch := first | assumption | decide | (simp only [Sh_wI, Sh_wA, Sh_wL, Sh_mT, ldA_wI, lwA_wI, bkA_wI, ldA_wA, lwA_wA, bkA_wA]; assumption) | omega) only [xr_53_26, yt_451, rA_a, wA_wA, al_0, al_1, al_2, al_3, al_4, al_5, al_6, al_7, al_8, al_9, al_10, al_11, al_12, al_13, al_14, al_15, al_16, al_17, al_18, al_19, al_20, al_21, al_24, al_28, al_31, al_35, al_37, al_38, al_40, al_41, al_60, al_77, al_78, al_79, al_80, al_96, al_99, al_100, al_127, al_128, al_150, al_160, al_200, al_400, al_600, al_999, al_1000, tl_0, tl_1, tl_2, tl_3, tl_4, tl_5, tl_6, tl_7, tl_8, tl_9, tl_10, tl_11, tl_12, tl_13, tl_14, tl_15, tl_16, tl_17, tl_18, tl_19, tl_20, tl_21, tl_24, tl_28, tl_31, tl_35, tl_37, tl_38, tl_40, tl_41, tl_60, tl_77, tl_78, tl_79, tl_80, tl_96, tl_99, tl_100, tl_127, tl_128, tl_150, tl_160, tl_200, tl_400, tl_600, tl_999, tl_1000, la_0, la_1, la_2, la_3, la_4, la_5, la_6, la_7, la_8, la_9, la_10, la_11, la_12, la_13, la_14, la_15, la_16, la_17, la_18, la_19, la_20, la_21, la_24, la_28, la_31, la_35, la_37, la_38, la_40, la_41, la_60, la_77, la_78, la_79, la_80, la_96, la_99, la_100, la_127, la_128, la_150, la_160, la_200, la_400, la_600, la_999, la_1000, lm_0, lm_1, lm_2, lm_3, lm_4, lm_5, lm_6, lm_7, lm_8, lm_9, lm_10, lm_11, lm_12, lm_13, lm_14, lm_15, lm_16, lm_17, lm_18, lm_19, lm_20, lm_21, lm_24, lm_28, lm_31, lm_35, lm_37, lm_38, lm_40, lm_41, lm_60, lm_77, lm_78, lm_79, lm_80, lm_96, lm_99, lm_100, lm_127, lm_128, lm_150, lm_160, lm_200, lm_400, lm_600, lm_999, lm_1000, rm_0, rm_1, rm_2, rm_3, rm_4, rm_5, rm_6, rm_7, rm_8, rm_9, rm_10, rm_11, rm_12, rm_13, rm_14, rm_15, rm_16, rm_17, rm_18, rm_19, rm_20, rm_21, rm_24, rm_28, rm_31, rm_35, rm_37, rm_38, rm_40, rm_41, rm_60, rm_77, rm_78, rm_79, rm_80, rm_96, rm_99, rm_100, rm_127, rm_128, rm_150, rm_160, rm_200, rm_400, rm_600, rm_999, rm_1000, nar0, nar1_0, nar1_1]
  generalize hg : up (up (up (up (up (up (up (up (up (up (mI σ 451) 0 x0) 1 x1) 2 x2) 3 x3) 4 x4) 5 x5) 6 x6) 7 x7) 8 x8) 9 x9 = g
  have hm' : MLw (wA σ 451 g) many cs := by
    refine ⟨by rw [rA_o (by decide)]; exact hm.1, fun i hi => ?_⟩
    have hle : i < 150 := by
      rcases ok with ok | ok
      · omega
      · have := ok.1; omega
    rw [rA_o (by omega)]
    exact hm.2 i hi
  obtain ⟨f, e⟩ := m_byLaw (d := d) (σ := wA σ 451 g) h ok hm'
  refine ⟨g, f, ?_⟩
  rw [e]
  dsimp only [cI]
  rw [rA_a]
  unfold lgv
  rw [lvalM_as ok (g := g) (g' := gvl [x0, x1, x2, x3, x4, x5, x6, x7, x8, x9]) (fun k hk => by
    subst hg
    match k, hk with
    | 0, _ => rfl
    | 1, _ => rfl
    | 2, _ => rfl
    | 3, _ => rfl
    | 4, _ => rfl
    | 5, _ => rfl
    | 6, _ => rfl
    | 7, _ => rfl
    | 8, _ => rfl
    | 9, _ => rfl
    | k + 10, hk => omega)]
end LghV
