/-! the LAND, and LAUGH of a PERSON at a JOKE, on both sides -/
/-- PERSONS, JOKES, STREETS; by 0 D, 1 T, 2 K, 3 S, 4 A, 5 B, 6 the jug and what one drinks -/
abbrev Ln : Type := Nat × Nat × Nat × (Nat → Nat → Int32)
def nP (l : Ln) : Nat := l.1
def nJ (l : Ln) : Nat := l.2.1
def nS (l : Ln) : Nat := l.2.2.1
def lD (l : Ln) (p : Nat) : Int32 := l.2.2.2 0 p
def lT (l : Ln) (p : Nat) : Int32 := l.2.2.2 1 p
def lK (l : Ln) (j : Nat) : Int32 := l.2.2.2 2 j
def lS (l : Ln) (j : Nat) : Int32 := l.2.2.2 3 j
def lA (l : Ln) (i : Nat) : Int32 := l.2.2.2 4 i
def lB (l : Ln) (i : Nat) : Int32 := l.2.2.2 5 i
def lJ (l : Ln) : Int32 := l.2.2.2 6 0
def lW (l : Ln) : Int32 := l.2.2.2 6 1
def bI (x : Int32) : Int32 := (1 : Int32) <<< (x &&& 31)
/-- PERSONS to whom a STREET leads -/
def near (l : Ln) (x : Int32) : Int32 := fo (nS l) (fun i b => b ||| (if lA l i = x then bI (lB l i) else if lB l i = x then bI (lA l i) else 0)) 0
def LnOK (l : Ln) : Prop := nP l ≤ 7 ∧ nJ l ≤ 6 ∧ nS l ≤ 12 ∧ (∀ p, p < nP l → (∃ x, x ≤ 3 ∧ lD l p = nI x) ∧ ∃ x, x ≤ 9 ∧ lT l p = nI x) ∧ (∀ j, j < nJ l → (∃ x, x ≤ 9 ∧ lK l j = nI x) ∧ ∃ x, 1 ≤ x ∧ x ≤ 20 ∧ lS l j = nI x) ∧
  (∀ i, i < nS l → ∃ x y, x < nP l ∧ y < nP l ∧ x ≠ y ∧ lA l i = nI x ∧ lB l i = nI y) ∧ (∃ x, x ≤ 200 ∧ lJ l = nI x) ∧ ∃ x, x ≤ 9 ∧ lW l = nI x
theorem near_small {l : Ln} (h : LnOK l) (x : Int32) : ∃ s, s < 128 ∧ near l x = nI s := by
  have hs : ∀ i, i < nS l → ∃ x y, x < 7 ∧ y < 7 ∧ lA l i = nI x ∧ lB l i = nI y := fun i hi => by
    obtain ⟨x, y, h1, h2, -, h3, h4⟩ := h.2.2.2.2.2.1 i hi
    have := h.1
    exact ⟨x, y, by omega, by omega, h3, h4⟩
  unfold near
  generalize nS l = n at hs
  induction n with
  | zero => exact ⟨0, by decide, rfl⟩
  | succ n ih =>
    obtain ⟨s, hs1, e⟩ := ih (fun i hi => hs i (by omega))
    obtain ⟨a, b, ha, hb, ea, eb⟩ := hs n (by omega)
    rw [fo_s, e, ea, eb]
    by_cases q : nI a = x
    · rw [if_pos q]
      exact ⟨s ||| 2 ^ b, (or_small s hs1 b hb).2, (or_small s hs1 b hb).1⟩
    · rw [if_neg q]
      by_cases q2 : nI b = x
      · rw [if_pos q2]
        exact ⟨s ||| 2 ^ a, (or_small s hs1 a ha).2, (or_small s hs1 a ha).1⟩
      · rw [if_neg q2, i_or0]
        exact ⟨s, hs1, rfl⟩
/-- the reference's land -/
def MLn (σ : mm_M) (l : Ln) : Prop := (mI σ 57 0 = nI (nP l) ∧ mI σ 57 1 = nI (nJ l) ∧ mI σ 57 2 = nI (nS l) ∧ mI σ 57 3 = lJ l ∧ mI σ 57 4 = lW l) ∧ (∀ p, p < nP l → mI σ (67 + p) 0 = lD l p ∧ mI σ (67 + p) 1 = lT l p) ∧
  (∀ j, j < nJ l → mI σ (82 + j) 0 = lK l j ∧ mI σ (82 + j) 1 = lS l j) ∧ ∀ i, i < nS l → mI σ (102 + i) 0 = lA l i ∧ mI σ (102 + i) 1 = lB l i
/-- a land of the class -/
def CLn (σ : mm_M) (a : Nat) (l : Ln) : Prop := (mI σ a 7 = nI (nP l) ∧ mI σ a 8 = nI (nJ l) ∧ mI σ a 9 = nI (nS l) ∧ mI σ a 10 = lJ l ∧ mI σ a 11 = lW l) ∧ (∀ p, p < nP l → mI σ (a + 1) p = lD l p ∧ mI σ (a + 2) p = lT l p ∧ mI σ (a + 3) p = near l (nI p)) ∧
  (∀ j, j < nJ l → mI σ (a + 4) j = lK l j ∧ mI σ (a + 5) j = lS l j) ∧ ∀ i, i < nS l → mI σ (a + 6) i = lA l i ∧ mI σ (a + 7) i = lB l i
/-- what is given to the LAW -/
def gvs (l : Ln) (r : Nat → Int32) (j p : Nat) (ta gr mo : Int32) : List Int32 := [lS l j, mxx (ta - lK l j) (lK l j - ta), r (35 + 7 * j + p) + mo, tS (nP l) r j + mo, lD l p, gr, ones7 (near l (nI p) &&& whoB (nP l) (fun q => r q)), r (7 + p), r 78, nI p]
theorem abz_ok : ∀ t, t ≤ 9 → ∀ k, k ≤ 9 → mxx (nI t - nI k) (nI k - nI t) = abz (nI t - nI k) := by decide +kernel
def scC (a : Nat) : Prop := a = 4 ∨ a = 15 ∨ a = 48
def scM (a : Nat) : Prop := a = 450 ∨ a = 451
section LandV
variable {σ : mm_M} {d : Nat} {l : Ln} {many : Nat} {cs : Nat → Int32}
theorem m_nearTo (h : Sh σ) (hm : MLn σ l) (ok : LnOK l) (x : Int32) : ev d 210 [.ref 53, .int x] σ = some (.inl (.int (near l x)), σ) := by
  rw [e_M_nearTo d 53 x σ (by rw [k_53 h])]
  have hS : nS l ≤ 12 := ok.2.2.1
  have en := hm.1.2.2.1
  refine (lp (F := fun i b => rn d 210 4 [.ref 53, .int x, .int b, .int (nI i)] [] σ) (n := nS l) (st := fun i b => b ||| (if lA l i = x then bI (lB l i) else if lB l i = x then bI (lA l i) else 0)) (fun i b hi => ?_) 0).trans ?_
  · show rn d 210 4 [.ref 53, .int x, .int b, .int (nI i)] [] σ = _
    obtain ⟨e1, e2⟩ := hm.2.2.2 i hi
    have hi2 : i < 12 := by omega
    rw [e_M_nearTo_4]
    simp (disch := first | assumption | decide | (simp only [Sh_wI, Sh_wA, Sh_wL, Sh_mT, ldA_wI, lwA_wI, bkA_wI, ldA_wA, lwA_wA, bkA_wA]; assumption) | omega) only [xr_53_12, xr_53_18, xa_57, xR_101, xa_r101, al_0, al_1, al_2, al_3, al_4, al_5, al_6, al_7, al_8, al_9, al_10, al_11, al_12, al_13, al_14, al_15, al_16, al_17, al_18, al_19, al_20, al_21, al_24, al_28, al_31, al_35, al_37, al_38, al_40, al_41, al_60, al_77, al_78, al_79, al_80, al_96, al_99, al_100, al_127, al_128, al_150, al_160, al_200, al_400, al_600, al_999, al_1000, tl_0, tl_1, tl_2, tl_3, tl_4, tl_5, tl_6, tl_7, tl_8, tl_9, tl_10, tl_11, tl_12, tl_13, tl_14, tl_15, tl_16, tl_17, tl_18, tl_19, tl_20, tl_21, tl_24, tl_28, tl_31, tl_35, tl_37, tl_38, tl_40, tl_41, tl_60, tl_77, tl_78, tl_79, tl_80, tl_96, tl_99, tl_100, tl_127, tl_128, tl_150, tl_160, tl_200, tl_400, tl_600, tl_999, tl_1000, la_0, la_1, la_2, la_3, la_4, la_5, la_6, la_7, la_8, la_9, la_10, la_11, la_12, la_13, la_14, la_15, la_16, la_17, la_18, la_19, la_20, la_21, la_24, la_28, la_31, la_35, la_37, la_38, la_40, la_41, la_60, la_77, la_78, la_79, la_80, la_96, la_99, la_100, la_127, la_128, la_150, la_160, la_200, la_400, la_600, la_999, la_1000, lm_0, lm_1, lm_2, lm_3, lm_4, lm_5, lm_6, lm_7, lm_8, lm_9, lm_10, lm_11, lm_12, lm_13, lm_14, lm_15, lm_16, lm_17, lm_18, lm_19, lm_20, lm_21, lm_24, lm_28, lm_31, lm_35, lm_37, lm_38, lm_40, lm_41, lm_60, lm_77, lm_78, lm_79, lm_80, lm_96, lm_99, lm_100, lm_127, lm_128, lm_150, lm_160, lm_200, lm_400, lm_600, lm_999, lm_1000, rm_0, rm_1, rm_2, rm_3, rm_4, rm_5, rm_6, rm_7, rm_8, rm_9, rm_10, rm_11, rm_12, rm_13, rm_14, rm_15, rm_16, rm_17, rm_18, rm_19, rm_20, rm_21, rm_24, rm_28, rm_31, rm_35, rm_37, rm_38, rm_40, rm_41, rm_60, rm_77, rm_78, rm_79, rm_80, rm_96, rm_99, rm_100, rm_127, rm_128, rm_150, rm_160, rm_200, rm_400, rm_600, rm_999, rm_1000, nar0, nar1_0, nar1_1, en, e1, e2]
    rw [if_neg (show ¬ nI (nS l) ≤ nI i from nI_ge (b := (nS l)) (a := i) (by omega) (by omega))]
    by_cases q : lA l i = x
    · rw [if_pos q, if_pos q, e_M_nearTo_66, nI_1]; rfl
    · rw [if_neg q, if_neg q]
      by_cases q2 : lB l i = x
      · rw [if_pos q2, if_pos q2, e_M_nearTo_66, nI_1]; rfl
      · rw [if_neg q2, if_neg q2, e_M_nearTo_66, nI_1]
  · show rn d 210 4 [.ref 53, .int x, .int _, .int (nI (nS l))] [] σ = _
    rw [e_M_nearTo_4]
    simp (disch := first | assumption | decide | (simp only [Sh_wI, Sh_wA, Sh_wL, Sh_mT, ldA_wI, lwA_wI, bkA_wI, ldA_wA, lwA_wA, bkA_wA]; assumption) | omega) only [xr_53_12, xa_57, al_0, al_1, al_2, al_3, al_4, al_5, al_6, al_7, al_8, al_9, al_10, al_11, al_12, al_13, al_14, al_15, al_16, al_17, al_18, al_19, al_20, al_21, al_24, al_28, al_31, al_35, al_37, al_38, al_40, al_41, al_60, al_77, al_78, al_79, al_80, al_96, al_99, al_100, al_127, al_128, al_150, al_160, al_200, al_400, al_600, al_999, al_1000, tl_0, tl_1, tl_2, tl_3, tl_4, tl_5, tl_6, tl_7, tl_8, tl_9, tl_10, tl_11, tl_12, tl_13, tl_14, tl_15, tl_16, tl_17, tl_18, tl_19, tl_20, tl_21, tl_24, tl_28, tl_31, tl_35, tl_37, tl_38, tl_40, tl_41, tl_60, tl_77, tl_78, tl_79, tl_80, tl_96, tl_99, tl_100, tl_127, tl_128, tl_150, tl_160, tl_200, tl_400, tl_600, tl_999, tl_1000, la_0, la_1, la_2, la_3, la_4, la_5, la_6, la_7, la_8, la_9, la_10, la_11, la_12, la_13, la_14, la_15, la_16, la_17, la_18, la_19, la_20, la_21, la_24, la_28, la_31, la_35, la_37, la_38, la_40, la_41, la_60, la_77, la_78, la_79, la_80, la_96, la_99, la_100, la_127, la_128, la_150, la_160, la_200, la_400, la_600, la_999, la_1000, lm_0, lm_1, lm_2, lm_3, lm_4, lm_5, lm_6, lm_7, lm_8, lm_9, lm_10, lm_11, lm_12, lm_13, lm_14, lm_15, lm_16, lm_17, lm_18, lm_19, lm_20, lm_21, lm_24, lm_28, lm_31, lm_35, lm_37, lm_38, lm_40, lm_41, lm_60, lm_77, lm_78, lm_79, lm_80, lm_96, lm_99, lm_100, lm_127, lm_128, lm_150, lm_160, lm_200, lm_400, lm_600, lm_999, lm_1000, rm_0, rm_1, rm_2, rm_3, rm_4, rm_5, rm_6, rm_7, rm_8, rm_9, rm_10, rm_11, rm_12, rm_13, rm_14, rm_15, rm_16, rm_17, rm_18, rm_19, rm_20, rm_21, rm_24, rm_28, rm_31, rm_35, rm_37, rm_38, rm_40, rm_41, rm_60, rm_77, rm_78, rm_79, rm_80, rm_96, rm_99, rm_100, rm_127, rm_128, rm_150, rm_160, rm_200, rm_400, rm_600, rm_999, rm_1000, nar0, nar1_0, nar1_1, en]
    rw [if_pos (Int32.le_refl _)]
    rfl
theorem m_laughWith (h : Sh σ) (hm : MLn σ l) (ok : LnOK l) (lok : LWOK many cs) (hw : MLw σ many cs) {b j p : Nat} (hb : isRw b) (hj : j < nJ l) (hp : p < nP l) (ta gr mo : Int32) :
    ∃ τ, ev (d + 4) 213 [.ref 53, .ref b, .int (nI j), .int (nI p), .int ta, .int gr, .int mo] σ = some (.inl (.int (lgv many cs (gvs l (mI σ b) j p ta gr mo))), τ) ∧ Ag scM σ τ := by
  have hP : nP l ≤ 7 := ok.1
  have hJ : nJ l ≤ 6 := ok.2.1
  have hj2 : j < 6 := by omega
  have hp2 : p < 7 := by omega
  have e1 := hm.2.2.1 j hj
  have e2 := hm.2.1 p hp
  have kb : mK σ b = (1, 79) := k_rw0 h hb
  have e0 : ∀ τ : mm_M, ∀ k : Int32 → Option mm_R, aI τ b ((7 : Int32) + nI p) k = aI τ b (nI (7 + p)) k := fun τ k => by rw [la_7]
  have en : mI σ 57 0 = nI (nP l) := hm.1.1
  have z : ev (d + 3) 211 [.ref 53, .ref b, .int 0] σ = some (.inl (.int (whoB (nP l) (fun q => mI σ b q))), σ) := by
    have := m_whoHas (d := d + 3) h kb hP en (show 0 ≤ 28 by decide)
    rw [show (fun p => mI σ b (0 + p)) = (fun q => mI σ b q) from funext fun q => by rw [Nat.zero_add]] at this
    exact this
  obtain ⟨g, f, e⟩ := m_laughBy (d := d) h lok hw (lS l j) (mxx (ta - lK l j) (lK l j - ta)) (mI σ b (35 + 7 * j + p) + mo) (tS (nP l) (mI σ b) j + mo) (lD l p) gr (ones7 (near l (nI p) &&& whoB (nP l) (fun q => mI σ b q))) (mI σ b (7 + p)) (mI σ b 78) (nI p)
  refine ⟨wA (wA σ 451 g) 450 f, ?_, ((Ag.refl scM σ).wA (Or.inr rfl) g).wA (Or.inl rfl) f⟩
  rw [e_M_laughWith (d + 3) 53 b (nI j) (nI p) ta gr mo σ (by rw [k_53 h])]
  simp (disch := first | assumption | decide | (simp only [Sh_wI, Sh_wA, Sh_wL, Sh_mT, ldA_wI, lwA_wI, bkA_wI, ldA_wA, lwA_wA, bkA_wA]; assumption) | omega) only [xr_53_16, xr_53_14, xR_81, xR_66, xa_r81, xa_r66, xa_rw0, e1.1, e1.2, e2.1, m_more, m_toldIn h kb hP en hj2, m_nearTo h hm ok, z, m_ones, cI1, cI, al_0, al_1, al_2, al_3, al_4, al_5, al_6, al_7, al_8, al_9, al_10, al_11, al_12, al_13, al_14, al_15, al_16, al_17, al_18, al_19, al_20, al_21, al_24, al_28, al_31, al_35, al_37, al_38, al_40, al_41, al_60, al_77, al_78, al_79, al_80, al_96, al_99, al_100, al_127, al_128, al_150, al_160, al_200, al_400, al_600, al_999, al_1000, tl_0, tl_1, tl_2, tl_3, tl_4, tl_5, tl_6, tl_7, tl_8, tl_9, tl_10, tl_11, tl_12, tl_13, tl_14, tl_15, tl_16, tl_17, tl_18, tl_19, tl_20, tl_21, tl_24, tl_28, tl_31, tl_35, tl_37, tl_38, tl_40, tl_41, tl_60, tl_77, tl_78, tl_79, tl_80, tl_96, tl_99, tl_100, tl_127, tl_128, tl_150, tl_160, tl_200, tl_400, tl_600, tl_999, tl_1000, la_0, la_1, la_2, la_3, la_4, la_5, la_6, la_7, la_8, la_9, la_10, la_11, la_12, la_13, la_14, la_15, la_16, la_17, la_18, la_19, la_20, la_21, la_24, la_28, la_31, la_35, la_37, la_38, la_40, la_41, la_60, la_77, la_78, la_79, la_80, la_96, la_99, la_100, la_127, la_128, la_150, la_160, la_200, la_400, la_600, la_999, la_1000, lm_0, lm_1, lm_2, lm_3, lm_4, lm_5, lm_6, lm_7, lm_8, lm_9, lm_10, lm_11, lm_12, lm_13, lm_14, lm_15, lm_16, lm_17, lm_18, lm_19, lm_20, lm_21, lm_24, lm_28, lm_31, lm_35, lm_37, lm_38, lm_40, lm_41, lm_60, lm_77, lm_78, lm_79, lm_80, lm_96, lm_99, lm_100, lm_127, lm_128, lm_150, lm_160, lm_200, lm_400, lm_600, lm_999, lm_1000, rm_0, rm_1, rm_2, rm_3, rm_4, rm_5, rm_6, rm_7, rm_8, rm_9, rm_10, rm_11, rm_12, rm_13, rm_14, rm_15, rm_16, rm_17, rm_18, rm_19, rm_20, rm_21, rm_24, rm_28, rm_31, rm_35, rm_37, rm_38, rm_40, rm_41, rm_60, rm_77, rm_78, rm_79, rm_80, rm_96, rm_99, rm_100, rm_127, rm_128, rm_150, rm_160, rm_200, rm_400, rm_600, rm_999, rm_1000, nar0, nar1_0, nar1_1, nI_add]
  rw [e]
  rfl
theorem m_laughOf (h : Sh σ) (hm : MLn σ l) (ok : LnOK l) (lok : LWOK many cs) (hw : MLw σ many cs) {b j p : Nat} (hb : isRw b) (hj : j < nJ l) (hp : p < nP l) :
    ∃ τ, ev (d + 5) 214 [.ref 53, .ref b, .int (nI j), .int (nI p)] σ = some (.inl (.int (lgv many cs (gvs l (mI σ b) j p (lT l p) (mI σ b p) 0))), τ) ∧ Ag scM σ τ := by
  have hP : nP l ≤ 7 := ok.1
  have hp2 : p < 7 := by omega
  have e2 := hm.2.1 p hp
  obtain ⟨τ, e, a⟩ := m_laughWith (d := d) h hm ok lok hw hb hj hp (lT l p) (mI σ b p) 0
  refine ⟨τ, ?_, a⟩
  rw [e_M_laughOf (d + 4) 53 b (nI j) (nI p) σ (by rw [k_53 h])]
  simp (disch := first | assumption | decide | (simp only [Sh_wI, Sh_wA, Sh_wL, Sh_mT, ldA_wI, lwA_wI, bkA_wI, ldA_wA, lwA_wA, bkA_wA]; assumption) | omega) only [xr_53_14, xR_66, xa_r66, xa_rw0, e2.2, al_0, al_1, al_2, al_3, al_4, al_5, al_6, al_7, al_8, al_9, al_10, al_11, al_12, al_13, al_14, al_15, al_16, al_17, al_18, al_19, al_20, al_21, al_24, al_28, al_31, al_35, al_37, al_38, al_40, al_41, al_60, al_77, al_78, al_79, al_80, al_96, al_99, al_100, al_127, al_128, al_150, al_160, al_200, al_400, al_600, al_999, al_1000, tl_0, tl_1, tl_2, tl_3, tl_4, tl_5, tl_6, tl_7, tl_8, tl_9, tl_10, tl_11, tl_12, tl_13, tl_14, tl_15, tl_16, tl_17, tl_18, tl_19, tl_20, tl_21, tl_24, tl_28, tl_31, tl_35, tl_37, tl_38, tl_40, tl_41, tl_60, tl_77, tl_78, tl_79, tl_80, tl_96, tl_99, tl_100, tl_127, tl_128, tl_150, tl_160, tl_200, tl_400, tl_600, tl_999, tl_1000, la_0, la_1, la_2, la_3, la_4, la_5, la_6, la_7, la_8, la_9, la_10, la_11, la_12, la_13, la_14, la_15, la_16, la_17, la_18, la_19, la_20, la_21, la_24, la_28, la_31, la_35, la_37, la_38, la_40, la_41, la_60, la_77, la_78, la_79, la_80, la_96, la_99, la_100, la_127, la_128, la_150, la_160, la_200, la_400, la_600, la_999, la_1000, lm_0, lm_1, lm_2, lm_3, lm_4, lm_5, lm_6, lm_7, lm_8, lm_9, lm_10, lm_11, lm_12, lm_13, lm_14, lm_15, lm_16, lm_17, lm_18, lm_19, lm_20, lm_21, lm_24, lm_28, lm_31, lm_35, lm_37, lm_38, lm_40, lm_41, lm_60, lm_77, lm_78, lm_79, lm_80, lm_96, lm_99, lm_100, lm_127, lm_128, lm_150, lm_160, lm_200, lm_400, lm_600, lm_999, lm_1000, rm_0, rm_1, rm_2, rm_3, rm_4, rm_5, rm_6, rm_7, rm_8, rm_9, rm_10, rm_11, rm_12, rm_13, rm_14, rm_15, rm_16, rm_17, rm_18, rm_19, rm_20, rm_21, rm_24, rm_28, rm_31, rm_35, rm_37, rm_38, rm_40, rm_41, rm_60, rm_77, rm_78, rm_79, rm_80, rm_96, rm_99, rm_100, rm_127, rm_128, rm_150, rm_160, rm_200, rm_400, rm_600, rm_999, rm_1000, nar0, nar1_0, nar1_1, Nat.zero_add]
  rw [e]
  rfl
theorem m_waterOf (h : Sh σ) (hm : MLn σ l) (ok : LnOK l) (lok : LWOK many cs) (hw : MLw σ many cs) {b j p : Nat} (hb : isRw b) (hj : j < nJ l) (hp : p < nP l) :
    ∃ τ, ev (d + 6) 215 [.ref 53, .ref b, .int (nI j), .int (nI p)] σ = some (.inl (.int (lgv many cs (gvs l (mI σ b) j p (lT l p) (mI σ b p) 0) * lD l p)), τ) ∧ Ag scM σ τ := by
  have hP : nP l ≤ 7 := ok.1
  have hp2 : p < 7 := by omega
  have e2 := hm.2.1 p hp
  obtain ⟨τ, e, a⟩ := m_laughOf (d := d) h hm ok lok hw hb hj hp
  refine ⟨τ, ?_, a⟩
  rw [e_M_waterOf (d + 5) 53 b (nI j) (nI p) σ (by rw [k_53 h]), e]
  have hs := a.sh h
  have e3 : mI τ (67 + p) = mI σ (67 + p) := a.at (by unfold scM; omega)
  dsimp only [cI]
  simp (disch := first | assumption | decide | (simp only [Sh_wI, Sh_wA, Sh_wL, Sh_mT, ldA_wI, lwA_wI, bkA_wI, ldA_wA, lwA_wA, bkA_wA]; assumption) | omega) only [xr_53_14, xR_66, xa_r66, e3, e2.1, al_0, al_1, al_2, al_3, al_4, al_5, al_6, al_7, al_8, al_9, al_10, al_11, al_12, al_13, al_14, al_15, al_16, al_17, al_18, al_19, al_20, al_21, al_24, al_28, al_31, al_35, al_37, al_38, al_40, al_41, al_60, al_77, al_78, al_79, al_80, al_96, al_99, al_100, al_127, al_128, al_150, al_160, al_200, al_400, al_600, al_999, al_1000, tl_0, tl_1, tl_2, tl_3, tl_4, tl_5, tl_6, tl_7, tl_8, tl_9, tl_10, tl_11, tl_12, tl_13, tl_14, tl_15, tl_16, tl_17, tl_18, tl_19, tl_20, tl_21, tl_24, tl_28, tl_31, tl_35, tl_37, tl_38, tl_40, tl_41, tl_60, tl_77, tl_78, tl_79, tl_80, tl_96, tl_99, tl_100, tl_127, tl_128, tl_150, tl_160, tl_200, tl_400, tl_600, tl_999, tl_1000, la_0, la_1, la_2, la_3, la_4, la_5, la_6, la_7, la_8, la_9, la_10, la_11, la_12, la_13, la_14, la_15, la_16, la_17, la_18, la_19, la_20, la_21, la_24, la_28, la_31, la_35, la_37, la_38, la_40, la_41, la_60, la_77, la_78, la_79, la_80, la_96, la_99, la_100, la_127, la_128, la_150, la_160, la_200, la_400, la_600, la_999, la_1000, lm_0, lm_1, lm_2, lm_3, lm_4, lm_5, lm_6, lm_7, lm_8, lm_9, lm_10, lm_11, lm_12, lm_13, lm_14, lm_15, lm_16, lm_17, lm_18, lm_19, lm_20, lm_21, lm_24, lm_28, lm_31, lm_35, lm_37, lm_38, lm_40, lm_41, lm_60, lm_77, lm_78, lm_79, lm_80, lm_96, lm_99, lm_100, lm_127, lm_128, lm_150, lm_160, lm_200, lm_400, lm_600, lm_999, lm_1000, rm_0, rm_1, rm_2, rm_3, rm_4, rm_5, rm_6, rm_7, rm_8, rm_9, rm_10, rm_11, rm_12, rm_13, rm_14, rm_15, rm_16, rm_17, rm_18, rm_19, rm_20, rm_21, rm_24, rm_28, rm_31, rm_35, rm_37, rm_38, rm_40, rm_41, rm_60, rm_77, rm_78, rm_79, rm_80, rm_96, rm_99, rm_100, rm_127, rm_128, rm_150, rm_160, rm_200, rm_400, rm_600, rm_999, rm_1000, nar0, nar1_0, nar1_1]
theorem yt_4 (h : Sh σ) {p : Nat} (hp : p < 10) (v : Int32) (k : mm_M → Option mm_R) : tI σ 4 (nI p) v k = k (wA σ 4 (up (mI σ 4) p v)) := by rw [xt_4 h hp, w_up]
theorem c_giveAll (h : Sh σ) (hc : CLn σ (ldA σ) l) (ok : LnOK l) {a j p : Nat} {r : Nat → Int32} (ha : isDa a) (hr : CRc (mI σ (a + 1)) (nP l) r) (rok : ROK (nP l) r) (hj : j < nJ l) (hp : p < nP l) :
    ∃ g, ev (d + 2) 71 [.ref 3, .ref a, .int (nI j), .int (nI p)] σ = some (.inl uv, wA σ 4 g) ∧ ∀ k, k < 10 → g k = gvl (gvs l r j p (lT l p) (r p) 0) k := by
  have hP : nP l ≤ 7 := ok.1
  have hJ : nJ l ≤ 6 := ok.2.1
  have hj2 : j < 6 := by omega
  have hp2 : p < 7 := by omega
  have hld : isLd (ldA σ) := h.ld
  have hl' : ldA σ = 5 ∨ ldA σ = 38 := hld
  have ha' : a = 21 ∨ a = 23 := ha
  obtain ⟨e1, e2, e3⟩ := hc.2.1 p hp
  obtain ⟨e4, e5⟩ := hc.2.2.1 j hj
  obtain ⟨⟨r1, r2, r3, r4⟩, r5⟩ := hr
  have ew : whoB 7 (fun q => mI σ (a + 1) (3 + q)) = whoB (nP l) (fun q => r q) := by
    rw [whoB_as (g := fun q => r q) (fun q hq => (r3 q hq).1)]
    have := whoB_cut (n := nP l) (f := fun q => r q) (7 - nP l) (fun q h1 h2 => by
      show r q ≤ 0
      rw [(rok.1 q h1 (by omega)).1]
      decide)
    rw [show nP l + (7 - nP l) = 7 by omega] at this
    exact this
  have hbc : ∀ τ : mm_M, ev (d + 1) 3 [.int (near l (nI p) &&& whoB (nP l) (fun q => r q))] τ = some (.inl (.int (ones7 (near l (nI p) &&& whoB (nP l) (fun q => r q)))), τ) := by
    intro τ
    obtain ⟨s, hs, es⟩ := near_small ok (nI p)
    obtain ⟨t, ht, et⟩ := who_small (f := fun q => r q) (nP l) hP
    rw [es, et, (and_small s hs t ht).1]
    exact c_bitCount (and_small s hs t ht).2
  have q1 : mI σ (a + 1) (37 + j * 7 + p) = r (35 + 7 * j + p) := (r4 j hj2).2 p hp2
  have q2 : mI σ (a + 1) (31 + j) = tS (nP l) r j := (r4 j hj2).1
  have q3 := (r3 p hp2).1
  have q4 := (r3 p hp2).2.1
  have key : ∃ g, ev (d + 2) 71 [.ref 3, .ref a, .int (nI j), .int (nI p)] σ = some (.inl uv, wA σ 4 g) ∧ g = up (up (up (up (up (up (up (up (up (up (mI σ 4) 0 (lS l j)) 1 (abz (lT l p - lK l j))) 2 (r (35 + 7 * j + p))) 3 (tS (nP l) r j)) 4 (lD l p)) 5 (r p)) 6 (ones7 (near l (nI p) &&& whoB (nP l) (fun q => r q)))) 7 (r (7 + p))) 8 (r 78)) 9 (nI p) := by
    refine ⟨_, ?_, rfl⟩
    rw [e_Scene_giveAll (d + 1) 3 a (nI j) (nI p) σ (by rw [k_3 h])]
    simp (disch := first | assumption | decide | (simp only [Sh_wI, Sh_wA, Sh_wL, Sh_mT, ldA_wI, lwA_wI, bkA_wI, ldA_wA, lwA_wA, bkA_wA]; assumption) | omega) only [xr_3_0, xr_3_1, xr_ld0, xr_ld1, xr_ld2, xr_ld3, xr_ld4, xa_ld1, xa_ld2, xa_ld3, xa_ld4, xa_ld5, yt_4, rA_a, rA_o, wA_wA, ldA_wA, e1, e2, e3, e4, e5, c_abs, c_wornOf, c_toldOf, c_griefOf, c_grieving, c_thirstOf, c_dayNumber, cI1, q1, q2, q3, q4, r1, ew, hbc, al_0, al_1, al_2, al_3, al_4, al_5, al_6, al_7, al_8, al_9, al_10, al_11, al_12, al_13, al_14, al_15, al_16, al_17, al_18, al_19, al_20, al_21, al_24, al_28, al_31, al_35, al_37, al_38, al_40, al_41, al_60, al_77, al_78, al_79, al_80, al_96, al_99, al_100, al_127, al_128, al_150, al_160, al_200, al_400, al_600, al_999, al_1000, tl_0, tl_1, tl_2, tl_3, tl_4, tl_5, tl_6, tl_7, tl_8, tl_9, tl_10, tl_11, tl_12, tl_13, tl_14, tl_15, tl_16, tl_17, tl_18, tl_19, tl_20, tl_21, tl_24, tl_28, tl_31, tl_35, tl_37, tl_38, tl_40, tl_41, tl_60, tl_77, tl_78, tl_79, tl_80, tl_96, tl_99, tl_100, tl_127, tl_128, tl_150, tl_160, tl_200, tl_400, tl_600, tl_999, tl_1000, la_0, la_1, la_2, la_3, la_4, la_5, la_6, la_7, la_8, la_9, la_10, la_11, la_12, la_13, la_14, la_15, la_16, la_17, la_18, la_19, la_20, la_21, la_24, la_28, la_31, la_35, la_37, la_38, la_40, la_41, la_60, la_77, la_78, la_79, la_80, la_96, la_99, la_100, la_127, la_128, la_150, la_160, la_200, la_400, la_600, la_999, la_1000, lm_0, lm_1, lm_2, lm_3, lm_4, lm_5, lm_6, lm_7, lm_8, lm_9, lm_10, lm_11, lm_12, lm_13, lm_14, lm_15, lm_16, lm_17, lm_18, lm_19, lm_20, lm_21, lm_24, lm_28, lm_31, lm_35, lm_37, lm_38, lm_40, lm_41, lm_60, lm_77, lm_78, lm_79, lm_80, lm_96, lm_99, lm_100, lm_127, lm_128, lm_150, lm_160, lm_200, lm_400, lm_600, lm_999, lm_1000, rm_0, rm_1, rm_2, rm_3, rm_4, rm_5, rm_6, rm_7, rm_8, rm_9, rm_10, rm_11, rm_12, rm_13, rm_14, rm_15, rm_16, rm_17, rm_18, rm_19, rm_20, rm_21, rm_24, rm_28, rm_31, rm_35, rm_37, rm_38, rm_40, rm_41, rm_60, rm_77, rm_78, rm_79, rm_80, rm_96, rm_99, rm_100, rm_127, rm_128, rm_150, rm_160, rm_200, rm_400, rm_600, rm_999, rm_1000, nar0, nar1_0, nar1_1]
  obtain ⟨g, e, eg⟩ := key
  refine ⟨g, e, fun k hk => ?_⟩
  obtain ⟨x, hx, ex⟩ := (ok.2.2.2.2.1 j hj).1
  obtain ⟨y, hy, ey⟩ := (ok.2.2.2.1 p hp).2
  have ab : mxx (lT l p - lK l j) (lK l j - lT l p) = abz (lT l p - lK l j) := by rw [ey, ex]; exact abz_ok y hy x hx
  subst eg
  match k, hk with
  | 0, _ => rfl
  | 1, _ => exact ab.symm
  | 2, _ => exact (Int32.add_zero _).symm
  | 3, _ => exact (Int32.add_zero _).symm
  | 4, _ => rfl
  | 5, _ => rfl
  | 6, _ => rfl
  | 7, _ => rfl
  | 8, _ => rfl
  | 9, _ => rfl
  | k + 10, hk => omega
theorem CLw_o (hc : CLw σ many cs) {τ : mm_M} (hl : lwA τ = lwA σ) (e1 : mI τ (lwA σ) = mI σ (lwA σ)) (e2 : mI τ (lwA σ + 1) = mI σ (lwA σ + 1)) : CLw τ many cs := by
  unfold CLw at hc ⊢
  rw [hl, e1, e2]
  exact hc
/-- LAUGH as given, by any list that the row given holds -/
theorem c_lawBy (h : Sh σ) (lok : LWOK many cs) (hw : CLw σ many cs) {gl : List Int32} (hg : ∀ k, k < 10 → mI σ 4 k = gvl gl k) : ∃ τ, ev (d + 2) 70 [.ref 3] σ = some (.inl (.int (lgv many cs gl)), τ) ∧ Ag (fun a => a = 15 ∨ a = 48) σ τ := by
  obtain ⟨f, e⟩ := c_lawLaugh (d := d) h lok hw
  have hl : lwA σ = 13 ∨ lwA σ = 46 := h.lw
  refine ⟨wA σ (lwA σ + 2) f, ?_, (Ag.refl _ σ).wA (by show lwA σ + 2 = 15 ∨ lwA σ + 2 = 48; omega) f⟩
  rw [e]
  unfold lgv
  rw [lvalM_as lok hg]
theorem c_laughOf (h : Sh σ) (hc : CLn σ (ldA σ) l) (ok : LnOK l) (lok : LWOK many cs) (hw : CLw σ many cs) {a j p : Nat} {r : Nat → Int32} (ha : isDa a) (hr : CRc (mI σ (a + 1)) (nP l) r) (rok : ROK (nP l) r) (hj : j < nJ l) (hp : p < nP l) :
    ∃ τ, ev (d + 3) 72 [.ref 3, .ref a, .int (nI j), .int (nI p)] σ = some (.inl (.int (lgv many cs (gvs l r j p (lT l p) (r p) 0))), τ) ∧ Ag scC σ τ := by
  obtain ⟨g, e, hg⟩ := c_giveAll (d := d) h hc ok ha hr rok hj hp
  have hl : lwA σ = 13 ∨ lwA σ = 46 := h.lw
  obtain ⟨τ, e2, a2⟩ := c_lawBy (σ := wA σ 4 g) (d := d) h lok (CLw_o hw rfl (rA_o (by omega)) (rA_o (by omega))) (gl := gvs l r j p (lT l p) (r p) 0) (fun k hk => by rw [rA_a]; exact hg k hk)
  refine ⟨τ, ?_, ((Ag.refl scC σ).wA (Or.inl rfl) g).trans (a2.mono (fun q hq => Or.inr hq))⟩
  rw [e_Scene_laughOf (d + 2) 3 a (nI j) (nI p) σ (by rw [k_3 h]), e]
  dsimp only [cV, uv]
  rw [e2]
  rfl
theorem c_waterOf (h : Sh σ) (hc : CLn σ (ldA σ) l) (ok : LnOK l) (lok : LWOK many cs) (hw : CLw σ many cs) {a j p : Nat} {r : Nat → Int32} (ha : isDa a) (hr : CRc (mI σ (a + 1)) (nP l) r) (rok : ROK (nP l) r) (hj : j < nJ l) (hp : p < nP l) :
    ∃ τ, ev (d + 4) 73 [.ref 3, .ref a, .int (nI j), .int (nI p)] σ = some (.inl (.int (lgv many cs (gvs l r j p (lT l p) (r p) 0) * lD l p)), τ) ∧ Ag scC σ τ := by
  have hP : nP l ≤ 7 := ok.1
  have hp2 : p < 7 := by omega
  obtain ⟨τ, e, a2⟩ := c_laughOf (d := d) h hc ok lok hw ha hr rok hj hp
  refine ⟨τ, ?_, a2⟩
  rw [e_Scene_waterOf (d + 3) 3 a (nI j) (nI p) σ (by rw [k_3 h]), e]
  have hs := a2.sh h
  have hld : isLd (ldA τ) := hs.ld
  have hl' : ldA σ = 5 ∨ ldA σ = 38 := h.ld
  have e3 : mI τ (ldA τ + 1) = mI σ (ldA σ + 1) := by rw [a2.ld]; exact a2.at (by unfold scC; omega)
  dsimp only [cI]
  simp (disch := first | assumption | decide | (simp only [Sh_wI, Sh_wA, Sh_wL, Sh_mT, ldA_wI, lwA_wI, bkA_wI, ldA_wA, lwA_wA, bkA_wA]; assumption) | omega) only [xr_3_1, xr_ld0, xa_ld1, e3, (hc.2.1 p hp).1, al_0, al_1, al_2, al_3, al_4, al_5, al_6, al_7, al_8, al_9, al_10, al_11, al_12, al_13, al_14, al_15, al_16, al_17, al_18, al_19, al_20, al_21, al_24, al_28, al_31, al_35, al_37, al_38, al_40, al_41, al_60, al_77, al_78, al_79, al_80, al_96, al_99, al_100, al_127, al_128, al_150, al_160, al_200, al_400, al_600, al_999, al_1000, tl_0, tl_1, tl_2, tl_3, tl_4, tl_5, tl_6, tl_7, tl_8, tl_9, tl_10, tl_11, tl_12, tl_13, tl_14, tl_15, tl_16, tl_17, tl_18, tl_19, tl_20, tl_21, tl_24, tl_28, tl_31, tl_35, tl_37, tl_38, tl_40, tl_41, tl_60, tl_77, tl_78, tl_79, tl_80, tl_96, tl_99, tl_100, tl_127, tl_128, tl_150, tl_160, tl_200, tl_400, tl_600, tl_999, tl_1000, la_0, la_1, la_2, la_3, la_4, la_5, la_6, la_7, la_8, la_9, la_10, la_11, la_12, la_13, la_14, la_15, la_16, la_17, la_18, la_19, la_20, la_21, la_24, la_28, la_31, la_35, la_37, la_38, la_40, la_41, la_60, la_77, la_78, la_79, la_80, la_96, la_99, la_100, la_127, la_128, la_150, la_160, la_200, la_400, la_600, la_999, la_1000, lm_0, lm_1, lm_2, lm_3, lm_4, lm_5, lm_6, lm_7, lm_8, lm_9, lm_10, lm_11, lm_12, lm_13, lm_14, lm_15, lm_16, lm_17, lm_18, lm_19, lm_20, lm_21, lm_24, lm_28, lm_31, lm_35, lm_37, lm_38, lm_40, lm_41, lm_60, lm_77, lm_78, lm_79, lm_80, lm_96, lm_99, lm_100, lm_127, lm_128, lm_150, lm_160, lm_200, lm_400, lm_600, lm_999, lm_1000, rm_0, rm_1, rm_2, rm_3, rm_4, rm_5, rm_6, rm_7, rm_8, rm_9, rm_10, rm_11, rm_12, rm_13, rm_14, rm_15, rm_16, rm_17, rm_18, rm_19, rm_20, rm_21, rm_24, rm_28, rm_31, rm_35, rm_37, rm_38, rm_40, rm_41, rm_60, rm_77, rm_78, rm_79, rm_80, rm_96, rm_99, rm_100, rm_127, rm_128, rm_150, rm_160, rm_200, rm_400, rm_600, rm_999, rm_1000, nar0, nar1_0, nar1_1]
end LandV
