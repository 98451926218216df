/-! LAND as a text: what has been read of it -/
def uF (F : Nat → Nat → Int32) (i j : Nat) (v : Int32) : Nat → Nat → Int32 := fun x y => if x = i ∧ y = j then v else F x y
theorem uF_e (F : Nat → Nat → Int32) (i j : Nat) (v : Int32) : uF F i j v i j = v := if_pos ⟨rfl, rfl⟩
theorem uF_n {F : Nat → Nat → Int32} {i j x y : Nat} {v : Int32} (h : ¬ (x = i ∧ y = j)) : uF F i j v x y = F x y := if_neg h
def addP (l : Ln) (D T : Nat) : Ln := (nP l + 1, nJ l, nS l, uF (uF l.2.2.2 0 (nP l) (nI D)) 1 (nP l) (nI T))
def addJ (l : Ln) (D T : Nat) : Ln := (nP l, nJ l + 1, nS l, uF (uF l.2.2.2 2 (nJ l) (nI D)) 3 (nJ l) (nI T))
def addS (l : Ln) (D T : Nat) : Ln := (nP l, nJ l, nS l + 1, uF (uF l.2.2.2 4 (nS l) (nI D)) 5 (nS l) (nI T))
def setJ (l : Ln) (D : Nat) : Ln := (nP l, nJ l, nS l, uF l.2.2.2 6 0 (nI D))
def setW (l : Ln) (D : Nat) : Ln := (nP l, nJ l, nS l, uF l.2.2.2 6 1 (nI D))
theorem near_as {l l' : Ln} (h : nS l' = nS l) (hA : ∀ i, i < nS l → lA l' i = lA l i) (hB : ∀ i, i < nS l → lB l' i = lB l i) (x : Int32) : near l' x = near l x := by
  unfold near
  rw [h]
  exact fo_as _ (fun i hi y => by rw [hA i hi, hB i hi])
theorem addP_near (l : Ln) (D T : Nat) (x : Int32) : near (addP l D T) x = near l x := near_as rfl (fun i _ => by
  show uF (uF l.2.2.2 0 (nP l) (nI D)) 1 (nP l) (nI T) 4 i = _
  rw [uF_n (by omega), uF_n (by omega)]; rfl) (fun i _ => by
  show uF (uF l.2.2.2 0 (nP l) (nI D)) 1 (nP l) (nI T) 5 i = _
  rw [uF_n (by omega), uF_n (by omega)]; rfl) x
theorem addJ_near (l : Ln) (D T : Nat) (x : Int32) : near (addJ l D T) x = near l x := near_as rfl (fun i _ => by
  show uF (uF l.2.2.2 2 (nJ l) (nI D)) 3 (nJ l) (nI T) 4 i = _
  rw [uF_n (by omega), uF_n (by omega)]; rfl) (fun i _ => by
  show uF (uF l.2.2.2 2 (nJ l) (nI D)) 3 (nJ l) (nI T) 5 i = _
  rw [uF_n (by omega), uF_n (by omega)]; rfl) x
theorem setJ_near (l : Ln) (D : Nat) (x : Int32) : near (setJ l D) x = near l x := near_as rfl (fun i _ => by
  show uF l.2.2.2 6 0 (nI D) 4 i = _
  rw [uF_n (by omega)]; rfl) (fun i _ => by
  show uF l.2.2.2 6 0 (nI D) 5 i = _
  rw [uF_n (by omega)]; rfl) x
theorem setW_near (l : Ln) (D : Nat) (x : Int32) : near (setW l D) x = near l x := near_as rfl (fun i _ => by
  show uF l.2.2.2 6 1 (nI D) 4 i = _
  rw [uF_n (by omega)]; rfl) (fun i _ => by
  show uF l.2.2.2 6 1 (nI D) 5 i = _
  rw [uF_n (by omega)]; rfl) x
theorem addS_A (l : Ln) (D T i : Nat) : lA (addS l D T) i = if i = nS l then nI D else lA l i := by
  show uF (uF l.2.2.2 4 (nS l) (nI D)) 5 (nS l) (nI T) 4 i = _
  rw [uF_n (by omega)]
  by_cases e : i = nS l
  · rw [if_pos e, e, uF_e]
  · rw [if_neg e, uF_n (by omega)]; rfl
theorem addS_B (l : Ln) (D T i : Nat) : lB (addS l D T) i = if i = nS l then nI T else lB l i := by
  show uF (uF l.2.2.2 4 (nS l) (nI D)) 5 (nS l) (nI T) 5 i = _
  by_cases e : i = nS l
  · rw [if_pos e, e, uF_e]
  · rw [if_neg e, uF_n (by omega), uF_n (by omega)]; rfl
theorem addS_near (l : Ln) (D T : Nat) (x : Int32) : near (addS l D T) x = near l x ||| (if nI D = x then bI (nI T) else if nI T = x then bI (nI D) else 0) := by
  unfold near
  show fo (nS l + 1) _ 0 = _
  rw [fo_s, addS_A, addS_B, if_pos rfl, if_pos rfl]
  congr 1
  exact fo_as _ (fun i hi y => by rw [addS_A, addS_B, if_neg (show ¬ i = nS l by omega), if_neg (show ¬ i = nS l by omega)])
theorem addP_D (l : Ln) (D T i : Nat) : lD (addP l D T) i = if i = nP l then nI D else lD l i := by
  show uF (uF l.2.2.2 0 (nP l) (nI D)) 1 (nP l) (nI T) 0 i = _
  rw [uF_n (by omega)]
  by_cases e : i = nP l
  · rw [if_pos e, e, uF_e]
  · rw [if_neg e, uF_n (by omega)]; rfl
theorem addP_T (l : Ln) (D T i : Nat) : lT (addP l D T) i = if i = nP l then nI T else lT l i := by
  show uF (uF l.2.2.2 0 (nP l) (nI D)) 1 (nP l) (nI T) 1 i = _
  by_cases e : i = nP l
  · rw [if_pos e, e, uF_e]
  · rw [if_neg e, uF_n (by omega), uF_n (by omega)]; rfl
theorem addJ_K (l : Ln) (D T i : Nat) : lK (addJ l D T) i = if i = nJ l then nI D else lK l i := by
  show uF (uF l.2.2.2 2 (nJ l) (nI D)) 3 (nJ l) (nI T) 2 i = _
  rw [uF_n (by omega)]
  by_cases e : i = nJ l
  · rw [if_pos e, e, uF_e]
  · rw [if_neg e, uF_n (by omega)]; rfl
theorem addJ_S (l : Ln) (D T i : Nat) : lS (addJ l D T) i = if i = nJ l then nI T else lS l i := by
  show uF (uF l.2.2.2 2 (nJ l) (nI D)) 3 (nJ l) (nI T) 3 i = _
  by_cases e : i = nJ l
  · rw [if_pos e, e, uF_e]
  · rw [if_neg e, uF_n (by omega), uF_n (by omega)]; rfl
/-- the parts that stay -/
theorem addP_o (l : Ln) (D T : Nat) : (∀ i, lK (addP l D T) i = lK l i) ∧ (∀ i, lS (addP l D T) i = lS l i) ∧ (∀ i, lA (addP l D T) i = lA l i) ∧ (∀ i, lB (addP l D T) i = lB l i) ∧ lJ (addP l D T) = lJ l ∧ lW (addP l D T) = lW l := by
  have k : ∀ x y, 2 ≤ x → uF (uF l.2.2.2 0 (nP l) (nI D)) 1 (nP l) (nI T) x y = l.2.2.2 x y := fun x y h => by rw [uF_n (by omega), uF_n (by omega)]
  exact ⟨fun i => k 2 i (by omega), fun i => k 3 i (by omega), fun i => k 4 i (by omega), fun i => k 5 i (by omega), k 6 0 (by omega), k 6 1 (by omega)⟩
theorem addJ_o (l : Ln) (D T : Nat) : (∀ i, lD (addJ l D T) i = lD l i) ∧ (∀ i, lT (addJ l D T) i = lT l i) ∧ (∀ i, lA (addJ l D T) i = lA l i) ∧ (∀ i, lB (addJ l D T) i = lB l i) ∧ lJ (addJ l D T) = lJ l ∧ lW (addJ l D T) = lW l := by
  have k : ∀ x y, x ≠ 2 → x ≠ 3 → uF (uF l.2.2.2 2 (nJ l) (nI D)) 3 (nJ l) (nI T) x y = l.2.2.2 x y := fun x y h h' => by rw [uF_n (by omega), uF_n (by omega)]
  exact ⟨fun i => k 0 i (by omega) (by omega), fun i => k 1 i (by omega) (by omega), fun i => k 4 i (by omega) (by omega), fun i => k 5 i (by omega) (by omega), k 6 0 (by omega) (by omega), k 6 1 (by omega) (by omega)⟩
theorem addS_o (l : Ln) (D T : Nat) : (∀ i, lD (addS l D T) i = lD l i) ∧ (∀ i, lT (addS l D T) i = lT l i) ∧ (∀ i, lK (addS l D T) i = lK l i) ∧ (∀ i, lS (addS l D T) i = lS l i) ∧ lJ (addS l D T) = lJ l ∧ lW (addS l D T) = lW l := by
  have k : ∀ x y, x ≠ 4 → x ≠ 5 → uF (uF l.2.2.2 4 (nS l) (nI D)) 5 (nS l) (nI T) x y = l.2.2.2 x y := fun x y h h' => by rw [uF_n (by omega), uF_n (by omega)]
  exact ⟨fun i => k 0 i (by omega) (by omega), fun i => k 1 i (by omega) (by omega), fun i => k 2 i (by omega) (by omega), fun i => k 3 i (by omega) (by omega), k 6 0 (by omega) (by omega), k 6 1 (by omega) (by omega)⟩
theorem setJ_o (l : Ln) (D : Nat) : (∀ i, lD (setJ l D) i = lD l i) ∧ (∀ i, lT (setJ l D) i = lT l i) ∧ (∀ i, lK (setJ l D) i = lK l i) ∧ (∀ i, lS (setJ l D) i = lS l i) ∧ (∀ i, lA (setJ l D) i = lA l i) ∧ (∀ i, lB (setJ l D) i = lB l i) ∧ lJ (setJ l D) = nI D ∧ lW (setJ l D) = lW l := by
  have k : ∀ x y, ¬ (x = 6 ∧ y = 0) → uF l.2.2.2 6 0 (nI D) x y = l.2.2.2 x y := fun x y h => by rw [uF_n h]
  exact ⟨fun i => k 0 i (by omega), fun i => k 1 i (by omega), fun i => k 2 i (by omega), fun i => k 3 i (by omega), fun i => k 4 i (by omega), fun i => k 5 i (by omega), uF_e l.2.2.2 6 0 (nI D), k 6 1 (by omega)⟩
theorem setW_o (l : Ln) (D : Nat) : (∀ i, lD (setW l D) i = lD l i) ∧ (∀ i, lT (setW l D) i = lT l i) ∧ (∀ i, lK (setW l D) i = lK l i) ∧ (∀ i, lS (setW l D) i = lS l i) ∧ (∀ i, lA (setW l D) i = lA l i) ∧ (∀ i, lB (setW l D) i = lB l i) ∧ lJ (setW l D) = lJ l ∧ lW (setW l D) = nI D := by
  have k : ∀ x y, ¬ (x = 6 ∧ y = 1) → uF l.2.2.2 6 1 (nI D) x y = l.2.2.2 x y := fun x y h => by rw [uF_n h]
  exact ⟨fun i => k 0 i (by omega), fun i => k 1 i (by omega), fun i => k 2 i (by omega), fun i => k 3 i (by omega), fun i => k 4 i (by omega), fun i => k 5 i (by omega), k 6 0 (by omega), uF_e l.2.2.2 6 1 (nI D)⟩
theorem addP_ok {l : Ln} (h : LnOK l) {D T : Nat} (hf : nP l < 7) (hD : D ≤ 3) (hT : T ≤ 9) : LnOK (addP l D T) := by
  obtain ⟨h1, h2, h3, h4, h5, h6, h7, h8⟩ := h
  obtain ⟨o1, o2, o3, o4, o5, o6⟩ := addP_o l D T
  refine ⟨by show nP l + 1 ≤ 7; omega, h2, h3, fun p hp => ?_, fun j hj => ?_, fun i hi => ?_, by rw [o5]; exact h7, by rw [o6]; exact h8⟩
  · rw [addP_D, addP_T]
    by_cases e : p = nP l
    · rw [if_pos e, if_pos e]; exact ⟨⟨D, hD, rfl⟩, T, hT, rfl⟩
    · rw [if_neg e, if_neg e]; exact h4 p (by have hp : p < nP l + 1 := hp; omega)
  · rw [o1, o2]; exact h5 j hj
  · obtain ⟨x, y, a1, a2, a3, a4, a5⟩ := h6 i hi
    exact ⟨x, y, by show x < nP l + 1; omega, by show y < nP l + 1; omega, a3, by rw [o3]; exact a4, by rw [o4]; exact a5⟩
theorem addJ_ok {l : Ln} (h : LnOK l) {D T : Nat} (hf : nJ l < 6) (hD : D ≤ 9) (hT0 : 1 ≤ T) (hT : T ≤ 20) : LnOK (addJ l D T) := by
  obtain ⟨h1, h2, h3, h4, h5, h6, h7, h8⟩ := h
  obtain ⟨o1, o2, o3, o4, o5, o6⟩ := addJ_o l D T
  refine ⟨h1, by show nJ l + 1 ≤ 6; omega, h3, fun p hp => ?_, fun j hj => ?_, fun i hi => ?_, by rw [o5]; exact h7, by rw [o6]; exact h8⟩
  · rw [o1, o2]; exact h4 p hp
  · rw [addJ_K, addJ_S]
    by_cases e : j = nJ l
    · rw [if_pos e, if_pos e]; exact ⟨⟨D, hD, rfl⟩, T, hT0, hT, rfl⟩
    · rw [if_neg e, if_neg e]; exact h5 j (by have hj : j < nJ l + 1 := hj; omega)
  · obtain ⟨x, y, a1, a2, a3, a4, a5⟩ := h6 i hi
    exact ⟨x, y, a1, a2, a3, by rw [o3]; exact a4, by rw [o4]; exact a5⟩
theorem addS_ok {l : Ln} (h : LnOK l) {D T : Nat} (hf : nS l < 12) (hD : D < nP l) (hT : T < nP l) (ne : D ≠ T) : LnOK (addS l D T) := by
  obtain ⟨h1, h2, h3, h4, h5, h6, h7, h8⟩ := h
  obtain ⟨o1, o2, o3, o4, o5, o6⟩ := addS_o l D T
  refine ⟨h1, h2, by show nS l + 1 ≤ 12; omega, fun p hp => ?_, fun j hj => ?_, fun i hi => ?_, by rw [o5]; exact h7, by rw [o6]; exact h8⟩
  · rw [o1, o2]; exact h4 p hp
  · rw [o3, o4]; exact h5 j hj
  · rw [addS_A, addS_B]
    by_cases e : i = nS l
    · rw [if_pos e, if_pos e]; exact ⟨D, T, hD, hT, ne, rfl, rfl⟩
    · rw [if_neg e, if_neg e]; exact h6 i (by have hi : i < nS l + 1 := hi; omega)
theorem setJ_ok {l : Ln} (h : LnOK l) {D : Nat} (hD : D ≤ 200) : LnOK (setJ l D) := by
  obtain ⟨h1, h2, h3, h4, h5, h6, h7, h8⟩ := h
  obtain ⟨o1, o2, o3, o4, o5, o6, o7, o8⟩ := setJ_o l D
  refine ⟨h1, h2, h3, fun p hp => by rw [o1, o2]; exact h4 p hp, fun j hj => by rw [o3, o4]; exact h5 j hj, fun i hi => by rw [o5, o6]; exact h6 i hi, ⟨D, hD, o7⟩, by rw [o8]; exact h8⟩
theorem setW_ok {l : Ln} (h : LnOK l) {D : Nat} (hD : D ≤ 9) : LnOK (setW l D) := by
  obtain ⟨h1, h2, h3, h4, h5, h6, h7, h8⟩ := h
  obtain ⟨o1, o2, o3, o4, o5, o6, o7, o8⟩ := setW_o l D
  refine ⟨h1, h2, h3, fun p hp => by rw [o1, o2]; exact h4 p hp, fun j hj => by rw [o3, o4]; exact h5 j hj, fun i hi => by rw [o5, o6]; exact h6 i hi, by rw [o7]; exact h7, ⟨D, hD, o8⟩⟩
/-- is it a STREET already -/
def isSt (l : Ln) (a b : Nat) : Prop := ∃ i, i < nS l ∧ ((lA l i = nI a ∧ lB l i = nI b) ∨ (lA l i = nI b ∧ lB l i = nI a))
theorem bI_b1 (p : Nat) : bI (nI p) = b1 p := rfl
theorem near_bit {l : Ln} (ok : LnOK l) {a b : Nat} (ha : a < 7) (hb : b < 7) : bt (near l (nI a)) b = 1 ↔ isSt l a b := by
  have hs := ok.2.2.2.2.2.1
  have P7 := ok.1
  have key : ∀ n, n ≤ nS l → (bt (fo n (fun i b => b ||| (if lA l i = nI a then bI (lB l i) else if lB l i = nI a then bI (lA l i) else 0)) 0) b = 1 ↔ ∃ i, i < n ∧ ((lA l i = nI a ∧ lB l i = nI b) ∨ (lA l i = nI b ∧ lB l i = nI a))) := by
    intro n
    induction n with
    | zero => exact fun _ => ⟨fun h => by rw [fo_z, bt_0] at h; exact absurd h (by decide), fun ⟨i, h, _⟩ => absurd h (Nat.not_lt_zero i)⟩
    | succ n ih =>
      intro hn
      obtain ⟨x, y, h1, h2, h3, h4, h5⟩ := hs n (by omega)
      rw [fo_s, bt_or1, ih (by omega), h4, h5]
      have ea : ∀ z, z < 7 → (nI z = nI a ↔ z = a) := fun z hz => nI_eq (by omega) (by omega)
      have eb : ∀ z, z < 7 → (nI z = nI b ↔ z = b) := fun z hz => nI_eq (by omega) (by omega)
      have e2 : bt (if nI x = nI a then bI (nI y) else if nI y = nI a then bI (nI x) else 0) b = 1 ↔ (x = a ∧ y = b) ∨ (x = b ∧ y = a) := by
        by_cases z : x = a
        · rw [if_pos ((ea x (by omega)).mpr z), bI_b1, bt_one y (by omega) b hb]
          by_cases w : b = y
          · rw [if_pos w]; exact ⟨fun _ => Or.inl ⟨z, w.symm⟩, fun _ => rfl⟩
          · rw [if_neg w]; exact ⟨fun q => absurd q (by decide), fun q => by omega⟩
        · rw [if_neg (fun q => z ((ea x (by omega)).mp q))]
          by_cases w : y = a
          · rw [if_pos ((ea y (by omega)).mpr w), bI_b1, bt_one x (by omega) b hb]
            by_cases v : b = x
            · rw [if_pos v]; exact ⟨fun _ => Or.inr ⟨v.symm, w⟩, fun _ => rfl⟩
            · rw [if_neg v]; exact ⟨fun q => absurd q (by decide), fun q => by omega⟩
          · rw [if_neg (fun q => w ((ea y (by omega)).mp q)), bt_0]
            exact ⟨fun q => absurd q (by decide), fun q => by omega⟩
      rw [e2]
      refine ⟨fun q => ?_, fun q => ?_⟩
      · rcases q with ⟨i, hi, q⟩ | q
        · exact ⟨i, by omega, q⟩
        · refine ⟨n, by omega, ?_⟩
          rw [h4, h5]
          rcases q with ⟨rfl, rfl⟩ | ⟨rfl, rfl⟩
          · exact Or.inl ⟨rfl, rfl⟩
          · exact Or.inr ⟨rfl, rfl⟩
      · obtain ⟨i, hi, q⟩ := q
        by_cases z : i = n
        · subst z
          rw [h4, h5, ea x (by omega), eb y (by omega), eb x (by omega), ea y (by omega)] at q
          exact Or.inr q
        · exact Or.inl ⟨i, by omega, q⟩
  exact key (nS l) (Nat.le_refl _)
/-- the class's spare land, the reference's lists -/
def LzC (σ : mm_M) (a : Nat) (l : Ln) : Prop := (mI σ a 7 = nI (nP l) ∧ mI σ a 8 = nI (nJ l) ∧ mI σ a 9 = nI (nS l) ∧ mI σ a 10 = lJ l ∧ mI σ a 11 = lW l) ∧ (∀ p, p < nP l → mI σ (a + 1) p = lD l p ∧ mI σ (a + 2) p = lT l p) ∧ (∀ p, p < 7 → mI σ (a + 3) p = near l (nI p)) ∧
  (∀ j, j < nJ l → mI σ (a + 4) j = lK l j ∧ mI σ (a + 5) j = lS l j) ∧ ∀ i, i < nS l → mI σ (a + 6) i = lA l i ∧ mI σ (a + 7) i = lB l i
def LzT (σ : mm_M) (P J S : Nat) (l : Ln) : Prop := (mI σ 56 0 = nI P ∧ mI σ 56 1 = nI J ∧ mI σ 56 2 = nI S ∧ mI σ 56 3 = lJ l ∧ mI σ 56 4 = lW l) ∧ (∀ p, p < nP l → mI σ (59 + p) 0 = lD l p ∧ mI σ (59 + p) 1 = lT l p) ∧
  (∀ j, j < nJ l → mI σ (75 + j) 0 = lK l j ∧ mI σ (75 + j) 1 = lS l j) ∧ ∀ i, i < nS l → mI σ (89 + i) 0 = lA l i ∧ mI σ (89 + i) 1 = lB l i
def lzS (L a : Nat) : Prop := a = 1 ∨ (L ≤ a ∧ a ≤ L + 7)
def lzM (a : Nat) : Prop := a = 56 ∨ (59 ≤ a ∧ a ≤ 65) ∨ (75 ≤ a ∧ a ≤ 80) ∨ (89 ≤ a ∧ a ≤ 100)
def lzF (i : Nat) : Prop := i = 4 ∨ i = 5 ∨ i = 6 ∨ i = 7
section LandL
variable {σ τ σ' τ' υ φ : mm_M} {t : Nat → Nat} {m s : Nat} {d : Nat} {l : Ln}
theorem LzC_o {L : Nat} (h : LzC σ L l) (e : ∀ k, k ≤ 7 → mI υ (L + k) = mI σ (L + k)) : LzC υ L l := by
  obtain ⟨h1, h2, h3, h4, h5⟩ := h
  have e0 : mI υ L = mI σ L := e 0 (by omega)
  refine ⟨by rw [e0]; exact h1, fun p hp => by rw [e 1 (by omega), e 2 (by omega)]; exact h2 p hp, fun p hp => by rw [e 3 (by omega)]; exact h3 p hp, fun j hj => by rw [e 4 (by omega), e 5 (by omega)]; exact h4 j hj, fun i hi => by rw [e 6 (by omega), e 7 (by omega)]; exact h5 i hi⟩
theorem LzT_o {P J S : Nat} (ok : LnOK l) (h : LzT τ P J S l) (e : ∀ x, lzM x → mI υ x = mI τ x) : LzT υ P J S l := by
  obtain ⟨h1, h2, h3, h4⟩ := h
  have a1 := ok.1
  have a2 := ok.2.1
  have a3 := ok.2.2.1
  refine ⟨by rw [e 56 (by unfold lzM; omega)]; exact h1, fun p hp => by rw [e (59 + p) (by unfold lzM; omega)]; exact h2 p hp, fun j hj => by rw [e (75 + j) (by unfold lzM; omega)]; exact h3 j hj, fun i hi => by rw [e (89 + i) (by unfold lzM; omega)]; exact h4 i hi⟩
theorem m_isRS {P J S : Nat} (h : Sh τ) (hl : LzT τ P J S l) (hS : S = nS l) (ok : LnOK l) {a b : Nat} : (isSt l a b → ev d 189 [.ref 53, .int (nI a), .int (nI b)] τ = some (.inl (.int 1), τ)) ∧ (¬ isSt l a b → ev d 189 [.ref 53, .int (nI a), .int (nI b)] τ = some (.inl (.int 0), τ)) := by
  have s12 := ok.2.2.1
  have e2 := hl.1.2.2.1
  rw [hS] at e2
  have key : ∀ k i, nS l - i = k → i ≤ nS l → ((∃ j, i ≤ j ∧ j < nS l ∧ ((lA l j = nI a ∧ lB l j = nI b) ∨ (lA l j = nI b ∧ lB l j = nI a))) → rn d 189 2 [.ref 53, .int (nI a), .int (nI b), .int (nI i)] [] τ = some (.inl (.int 1), τ)) ∧ (¬ (∃ j, i ≤ j ∧ j < nS l ∧ ((lA l j = nI a ∧ lB l j = nI b) ∨ (lA l j = nI b ∧ lB l j = nI a))) → rn d 189 2 [.ref 53, .int (nI a), .int (nI b), .int (nI i)] [] τ = some (.inl (.int 0), τ)) := by
    intro k
    induction k with
    | zero =>
      intro i hk hi
      refine ⟨fun ⟨j, h1, h2, _⟩ => absurd h2 (by omega), fun _ => ?_⟩
      rw [e_M_isReadStreet_2, xr_53_11 h, show aI τ 56 2 = aI τ 56 (nI 2) from rfl, xa_56 h (by decide), e2, if_pos (nI_le (by omega) (by omega)), nar1_0]
    | succ k ih =>
      intro i hk hi
      obtain ⟨ih1, ih2⟩ := ih (i + 1) (by omega) (by omega)
      have iS : i < nS l := by omega
      obtain ⟨r0, r1⟩ := hl.2.2.2 i iS
      have i12 : i < 12 := by omega
      have e60 : rn d 189 60 [.ref 53, .int (nI a), .int (nI b), .int (nI i)] [] τ = some (.inl (.int 1), τ) := by rw [e_M_isReadStreet_60, nar1_1]
      have e36 : rn d 189 36 [.ref 53, .int (nI a), .int (nI b), .int (nI i)] [] τ = if lA l i = nI b then (if lB l i = nI a then rn d 189 60 [.ref 53, .int (nI a), .int (nI b), .int (nI i)] [] τ else rn d 189 2 [.ref 53, .int (nI a), .int (nI b), .int (nI (i + 1))] [] τ) else rn d 189 2 [.ref 53, .int (nI a), .int (nI b), .int (nI (i + 1))] [] τ := by
        rw [e_M_isReadStreet_36, xr_53_17 h, xR_88 h i12, show aI τ (89 + i) 0 = aI τ (89 + i) (nI 0) from rfl, xa_r88 h i12 (by decide), r0, xr_53_17 h, xR_88 h i12, show aI τ (89 + i) 1 = aI τ (89 + i) (nI 1) from rfl, xa_r88 h i12 (by decide), r1, e_M_isReadStreet_62, nI_1]
      have st : rn d 189 2 [.ref 53, .int (nI a), .int (nI b), .int (nI i)] [] τ = if lA l i = nI a then (if lB l i = nI b then rn d 189 60 [.ref 53, .int (nI a), .int (nI b), .int (nI i)] [] τ else rn d 189 36 [.ref 53, .int (nI a), .int (nI b), .int (nI i)] [] τ) else rn d 189 36 [.ref 53, .int (nI a), .int (nI b), .int (nI i)] [] τ := by
        rw [e_M_isReadStreet_2, xr_53_11 h, show aI τ 56 2 = aI τ 56 (nI 2) from rfl, xa_56 h (by decide), e2, if_neg (nI_ge iS (by omega)), xr_53_17 h, xR_88 h i12, show aI τ (89 + i) 0 = aI τ (89 + i) (nI 0) from rfl, xa_r88 h i12 (by decide), r0, xr_53_17 h, xR_88 h i12, show aI τ (89 + i) 1 = aI τ (89 + i) (nI 1) from rfl, xa_r88 h i12 (by decide), r1]
      rw [st, e36, e60]
      refine ⟨fun q => ?_, fun q => ?_⟩
      · by_cases z1 : lA l i = nI a ∧ lB l i = nI b
        · rw [if_pos z1.1, if_pos z1.2]
        · by_cases z2 : lA l i = nI b ∧ lB l i = nI a
          · rw [if_pos z2.1, if_pos z2.2]
            split
            · split <;> rfl
            · rfl
          · have go := ih1 (by
              obtain ⟨j, q1, q2, q3⟩ := q
              refine ⟨j, ?_, q2, q3⟩
              by_cases z : j = i
              · subst z
                exact absurd q3 (fun y => y.elim z1 z2)
              · omega)
            have e36' : (if lA l i = nI b then (if lB l i = nI a then some (.inl (.int 1), τ) else rn d 189 2 [.ref 53, .int (nI a), .int (nI b), .int (nI (i + 1))] [] τ) else rn d 189 2 [.ref 53, .int (nI a), .int (nI b), .int (nI (i + 1))] [] τ) = some (.inl (.int 1), τ) := by
              split
              · split
                · rfl
                · exact go
              · exact go
            rw [e36']
            split
            · split <;> rfl
            · rfl
      · have go := ih2 (fun ⟨j, q1, q2, q3⟩ => q ⟨j, by omega, q2, q3⟩)
        have z1 : ¬ (lA l i = nI a ∧ lB l i = nI b) := fun y => q ⟨i, Nat.le_refl _, iS, Or.inl y⟩
        have z2 : ¬ (lA l i = nI b ∧ lB l i = nI a) := fun y => q ⟨i, Nat.le_refl _, iS, Or.inr y⟩
        have e36' : (if lA l i = nI b then (if lB l i = nI a then some (.inl (.int 1), τ) else rn d 189 2 [.ref 53, .int (nI a), .int (nI b), .int (nI (i + 1))] [] τ) else rn d 189 2 [.ref 53, .int (nI a), .int (nI b), .int (nI (i + 1))] [] τ) = some (.inl (.int 0), τ) := by
          by_cases y1 : lA l i = nI b
          · rw [if_pos y1, if_neg (fun y2 => z2 ⟨y1, y2⟩)]; exact go
          · rw [if_neg y1]; exact go
        rw [e36']
        by_cases y1 : lA l i = nI a
        · rw [if_pos y1, if_neg (fun y2 => z1 ⟨y1, y2⟩)]
        · rw [if_neg y1]
  obtain ⟨k1, k2⟩ := key _ 0 rfl (Nat.zero_le _)
  rw [e_M_isReadStreet d 53 (nI a) (nI b) τ (by rw [k_53 h])]
  exact ⟨fun ⟨i, h1, h2⟩ => k1 ⟨i, Nat.zero_le _, h1, h2⟩, fun q => k2 (fun ⟨i, _, h1, h2⟩ => q ⟨i, h1, h2⟩)⟩
/-- the reference: a number into a place of a row -/
theorem m_numG {A k a hi : Nat} {x : Int32} {K : mm_M → Option mm_R} (hr : RM τ t m s) (kA : ∀ σ', Sh σ' → mK σ' A = (1, 2)) (nA : A ≠ 53 ∧ A ≠ 54) (hk : k < 2) (ha : a ≤ 1) (hm : isHi x hi) :
    (∀ V, pN t m s a hi = .inr V → ∃ υ, (cI (ev (d + 2) 176 [.ref 53, .int (nI a), .int x] τ) fun r4 σ3 => tI σ3 A (nI k) r4 K) = K υ ∧ RM υ t m (nxt t m s) ∧ mI υ A k = nI V ∧ (∀ i, i ≠ k → mI υ A i = mI τ A i) ∧ AgM (fun a => a = A) f4 τ υ) ∧
    (∀ e, pN t m s a hi = .inl e → ∃ υ, (cI (ev (d + 2) 176 [.ref 53, .int (nI a), .int x] τ) fun r4 σ3 => tI σ3 A (nI k) r4 K) = K υ ∧ MF (fun a => a = A) f456 τ υ e s) := by
  obtain ⟨n1, n2⟩ := u_number (d := d) hr ha hm
  refine ⟨fun V hV => ?_, fun e he => ?_⟩
  · obtain ⟨υ, c1, c2, c3⟩ := n1 V hV
    have ag : AgM (fun a => a = A) nS0 υ (wI υ A k (nI V)) := AgM.of (Ag.wI (S := fun a => a = A) (Ag.refl _ υ) rfl _ _) (fun _ q => q) (by omega)
    have ag4 : AgM (fun a => a = A) f4 υ (wI υ A k (nI V)) := ag.mono (fun _ q => q) (fun _ q => q.elim)
    refine ⟨wI υ A k (nI V), by rw [c1, cI_ok, tI_k (kA _ c2.1) hk (by decide)], c2.agm ag (by omega) (fun q => q) (fun q => q) (fun q => q), by rw [rI_w, if_pos ⟨rfl, rfl⟩], fun i hi => ?_, (c3.mono (fun _ q => q.elim) (fun _ q => q)).trans ag4⟩
    rw [rI_w, if_neg (fun z => hi z.2), c3.at nA.1 (fun q => q)]
  · obtain ⟨υ, c1, c2⟩ := n2 e he
    have s1 := c2.1.sh hr.1
    have ag : AgM (fun a => a = A) f456 υ (wI υ A k 0) := AgM.of (Ag.wI (S := fun a => a = A) (Ag.refl _ υ) rfl _ _) (fun _ q => q) (by omega)
    have f53 : mI (wI υ A k 0) 53 = mI υ 53 := rI_o (by omega)
    refine ⟨wI υ A k 0, by rw [c1, cI_ok, tI_k (kA _ s1) hk (by decide)], (c2.1.mono (fun _ q => q.elim) (fun _ q => q)).trans ag, by rw [f53]; exact c2.2.1, by rw [f53]; exact c2.2.2.1, by rw [f53]; exact c2.2.2.2⟩
theorem m_numGF {A k : Nat} {x y : Int32} {K : mm_M → Option mm_R} (h : Sh τ) (e5 : ¬ mI τ 53 5 = 0) (kA : mK τ A = (1, 2)) (hk : k < 2) : (cI (ev (d + 1) 176 [.ref 53, .int x, .int y] τ) fun r4 σ3 => tI σ3 A (nI k) r4 K) = K (wI τ A k 0) := by
  rw [u_numberF h e5, cI_ok, tI_k kA hk (by decide)]
theorem mf_wG {A k e p : Nat} {v : Int32} (nA : A ≠ 53) (h : MF (fun a => a = A) f456 τ υ e p) : MF (fun a => a = A) f456 τ (wI υ A k v) e p := by
  have f53 : mI (wI υ A k v) 53 = mI υ 53 := rI_o (by omega)
  exact ⟨h.1.trans (AgM.of (Ag.wI (S := fun a => a = A) (Ag.refl _ υ) rfl _ _) (fun _ q => q) (by omega)), by rw [f53]; exact h.2.1, by rw [f53]; exact h.2.2.1, by rw [f53]; exact h.2.2.2⟩
theorem mf_trG {A e p : Nat} (a : AgM (fun a => a = A) f4 τ υ) (h : MF (fun a => a = A) f456 υ φ e p) : MF (fun a => a = A) f456 τ φ e p := ⟨(a.mono (fun _ q => q) (fun _ q => Or.inl q)).trans h.1, h.2⟩
end LandL
