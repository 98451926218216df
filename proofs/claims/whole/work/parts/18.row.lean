/-! rows: what WORK changes, in the reference's order (r), and as the class holds it (c) -/
def up (f : Nat → Int32) (i : Nat) (v : Int32) : Nat → Int32 := fun j => if j = i then v else f j
theorem up_e (f : Nat → Int32) (i : Nat) (v : Int32) : up f i v i = v := if_pos rfl
theorem up_n {f : Nat → Int32} {i j : Nat} {v : Int32} (h : j ≠ i) : up f i v j = f j := if_neg h
theorem w_up (σ : mm_M) (a i : Nat) (v : Int32) : wI σ a i v = wA σ a (up (mI σ a) i v) := wI_row σ a i v
section Bits
theorem and_or1 (x y z : Int32) : (x ||| y) &&& z = (x &&& z) ||| (y &&& z) := Int32.toBitVec_inj.1 (by
  simp only [Int32.toBitVec_and, Int32.toBitVec_or]
  ext i hi
  simp only [BitVec.getElem_and, BitVec.getElem_or]
  exact Bool.and_or_distrib_right _ _ _)
theorem bt_or (x y : Int32) (p : Nat) : bt (x ||| y) p = bt x p ||| bt y p := by unfold bt; rw [Int32.shiftRight_or, and_or1]
theorem bt_0 (p : Nat) : bt 0 p = 0 := by unfold bt; rw [Int32.zero_shiftRight, Int32.zero_and]
theorem bt_one : ∀ q, q < 7 → ∀ p, p < 7 → bt (b1 q) p = if p = q then 1 else 0 := by decide +kernel
theorem bt_who {f : Nat → Int32} {p : Nat} (hp : p < 7) : ∀ n, n ≤ 7 → bt (whoB n f) p = if p < n ∧ ¬ f p ≤ 0 then 1 else 0
  | 0, _ => by rw [if_neg (by omega)]; exact bt_0 p
  | n + 1, hn => by
    show bt (whoB n f ||| (if f n ≤ 0 then (0 : Int32) else b1 n)) p = _
    rw [bt_or, bt_who hp n (by omega)]
    by_cases h1 : p = n
    · subst h1
      rw [if_neg (fun q => Nat.lt_irrefl _ q.1)]
      by_cases h2 : f p ≤ 0
      · rw [if_pos h2, bt_0, if_neg (fun q => q.2 h2)]; rfl
      · rw [if_neg h2, bt_one p hp p hp, if_pos rfl, if_pos ⟨by omega, h2⟩]; rfl
    · have e : bt (if f n ≤ 0 then (0 : Int32) else b1 n) p = 0 := by
        by_cases h2 : f n ≤ 0
        · rw [if_pos h2, bt_0]
        · rw [if_neg h2, bt_one n (by omega) p hp, if_neg h1]
      rw [e, i_or0]
      by_cases h3 : p < n ∧ ¬ f p ≤ 0
      · rw [if_pos h3, if_pos ⟨by omega, h3.2⟩]
      · rw [if_neg h3, if_neg (fun q => h3 ⟨by omega, q.2⟩)]
theorem who_set {f g : Nat → Int32} {p : Nat} (h0 : f p ≤ 0) (h1 : ¬ g p ≤ 0) : ∀ n, p < n → (∀ q, q < n → q ≠ p → g q = f q) → whoB n g = whoB n f ||| b1 p
  | 0, hp, _ => absurd hp (Nat.not_lt_zero p)
  | n + 1, hp, ho => by
    show whoB n g ||| (if g n ≤ 0 then (0 : Int32) else b1 n) = (whoB n f ||| (if f n ≤ 0 then (0 : Int32) else b1 n)) ||| _
    by_cases e : p = n
    · subst e
      rw [if_neg h1, if_pos h0, i_or0, whoB_as (fun q hq => ho q (by omega) (by omega))]
    · rw [who_set h0 h1 n (by omega) (fun q hq hn => ho q (by omega) hn), ho n (by omega) (fun q => e q.symm), Int32.or_assoc, Int32.or_assoc, Int32.or_comm (b1 p)]
theorem who_no {f : Nat → Int32} : ∀ n, (∀ p, p < n → f p ≤ 0) → whoB n f = 0
  | 0, _ => rfl
  | n + 1, h => by
    show whoB n f ||| (if f n ≤ 0 then (0 : Int32) else _) = _
    rw [if_pos (h n (by omega)), i_or0]
    exact who_no n (fun p hp => h p (by omega))
theorem or_small : ∀ s, s < 128 → ∀ q, q < 7 → nI s ||| b1 q = nI (s ||| 2 ^ q) ∧ s ||| 2 ^ q < 128 := by decide +kernel
theorem and_small : ∀ s, s < 128 → ∀ t, t < 128 → nI s &&& nI t = nI (s &&& t) ∧ s &&& t < 128 := by decide +kernel
theorem who_small {f : Nat → Int32} : ∀ n, n ≤ 7 → ∃ s, s < 128 ∧ whoB n f = nI s
  | 0, _ => ⟨0, by decide, rfl⟩
  | n + 1, hn => by
    obtain ⟨s, hs, e⟩ := who_small (f := f) n (by omega)
    show ∃ s, s < 128 ∧ (whoB n f ||| (if f n ≤ 0 then (0 : Int32) else b1 n)) = nI s
    by_cases h : f n ≤ 0
    · exact ⟨s, hs, by rw [if_pos h, i_or0, e]⟩
    · exact ⟨s ||| 2 ^ n, (or_small s hs n (by omega)).2, by rw [if_neg h, e]; exact (or_small s hs n (by omega)).1⟩
end Bits
/-- how often a joke was told to all -/
def tS (n : Nat) (r : Nat → Int32) (j : Nat) : Int32 := fo n (fun p s => s + r (35 + 7 * j + p)) 0
/-- the class's row c holds the reference's row r: all but the bits of those who were told one this day -/
def CRx (c : Nat → Int32) (n : Nat) (r : Nat → Int32) : Prop := c 0 = r 78 ∧ c 1 = r 77 ∧
  (∀ p, p < 7 → c (3 + p) = r p ∧ c (10 + p) = r (7 + p) ∧ c (17 + p) = r (21 + p) ∧ c (24 + p) = r (28 + p)) ∧
  (∀ j, j < 6 → c (31 + j) = tS n r j ∧ ∀ p, p < 7 → c (37 + j * 7 + p) = r (35 + 7 * j + p))
def CRc (c : Nat → Int32) (n : Nat) (r : Nat → Int32) : Prop := CRx c n r ∧ c 2 = whoB n (fun p => r (14 + p))
/-- what holds of every row -/
def ROK (n : Nat) (r : Nat → Int32) : Prop := (∀ p, n ≤ p → p < 7 → r p = 0 ∧ r (7 + p) = 0) ∧ (∀ p, p < 7 → r (14 + p) = 0 ∨ r (14 + p) = 1) ∧ (∀ p, p < 7 → ∃ t, t ≤ 99 ∧ r (7 + p) = nI t) ∧ ∃ g, g ≤ 999 ∧ r 77 = nI g
theorem tS_as {n : Nat} {r s : Nat → Int32} {j : Nat} (h : ∀ p, p < n → r (35 + 7 * j + p) = s (35 + 7 * j + p)) : tS n r j = tS n s j := fo_as n (fun i hi x => by rw [h i hi])
theorem tS_one {r s : Nat → Int32} {j p : Nat} (h1 : s (35 + 7 * j + p) = r (35 + 7 * j + p) + 1) : ∀ n, p < n → (∀ q, q < n → q ≠ p → s (35 + 7 * j + q) = r (35 + 7 * j + q)) → tS n s j = tS n r j + 1
  | 0, hp, _ => absurd hp (Nat.not_lt_zero p)
  | n + 1, hp, ho => by
    show tS n s j + s (35 + 7 * j + n) = (tS n r j + r (35 + 7 * j + n)) + 1
    by_cases e : p = n
    · subst e
      rw [h1, tS_as (fun q hq => ho q (by omega) (by omega)), Int32.add_assoc]
    · rw [tS_one h1 n (by omega) (fun q hq hn => ho q (by omega) hn), ho n (by omega) (fun q => e q.symm), Int32.add_assoc, Int32.add_assoc, Int32.add_comm 1]
/-- the row behind a joke that was told: laugh lg, water wt -/
def rHear (r : Nat → Int32) (j p : Nat) (lg wt : Int32) : Nat → Int32 :=
  let r1 := up r 77 (mnn 999 (r 77 + wt))
  let r2 := up r1 (14 + p) 1
  let r3 := up r2 (21 + p) (r2 (21 + p) + 1)
  let r4 := up r3 (28 + p) (r3 (28 + p) + lg)
  up r4 (35 + 7 * j + p) (r4 (35 + 7 * j + p) + 1)
def hearC (c : Nat → Int32) (j p : Nat) (lg wt : Int32) : Nat → Int32 :=
  let c1 := up c 2 (c 2 ||| b1 p)
  let c2 := up c1 (17 + p) (c1 (17 + p) + 1)
  let c3 := up c2 (24 + p) (c2 (24 + p) + lg)
  let c4 := up c3 (31 + j) (c3 (31 + j) + 1)
  let c5 := up c4 (37 + j * 7 + p) (c4 (37 + j * 7 + p) + 1)
  up c5 1 (mnn (c5 1 + wt) 999)
theorem hear_ok {c r : Nat → Int32} {n j p : Nat} {lg wt : Int32} (h : CRc c n r) (hn : n ≤ 7) (hj : j < 6) (hp : p < n) (h0 : r (14 + p) = 0) : CRc (hearC c j p lg wt) n (rHear r j p lg wt) := by
  obtain ⟨⟨a1, a2, a3, a4⟩, a5⟩ := h
  have U : ∀ (f : Nat → Int32) (i k : Nat) (v : Int32), k ≠ i → up f i v k = f k := fun f i k v h => up_n h
  refine ⟨⟨?_, ?_, fun q hq => ⟨?_, ?_, ?_, ?_⟩, fun i hi => ⟨?_, fun q hq => ?_⟩⟩, ?_⟩
  · unfold hearC rHear; simp (disch := omega) only [U, a1]
  · unfold hearC rHear; simp (disch := omega) only [U, up_e, a2, mnn_c]
  · unfold hearC rHear; simp (disch := omega) only [U, (a3 q hq).1]
  · unfold hearC rHear; simp (disch := omega) only [U, (a3 q hq).2.1]
  · by_cases e : q = p
    · subst e; unfold hearC rHear; simp (disch := omega) only [U, up_e, (a3 q hq).2.2.1]
    · unfold hearC rHear; simp (disch := omega) only [U, (a3 q hq).2.2.1]
  · by_cases e : q = p
    · subst e; unfold hearC rHear; simp (disch := omega) only [U, up_e, (a3 q hq).2.2.2]
    · unfold hearC rHear; simp (disch := omega) only [U, (a3 q hq).2.2.2]
  · by_cases e : i = j
    · subst e
      rw [tS_one (r := r) (p := p) (by unfold rHear; simp (disch := omega) only [U, up_e]) n hp (fun q hq hne => by unfold rHear; simp (disch := omega) only [U])]
      unfold hearC; simp (disch := omega) only [U, up_e, (a4 i hi).1]
    · rw [tS_as (s := r) (fun q hq => by unfold rHear; simp (disch := omega) only [U])]
      unfold hearC; simp (disch := omega) only [U, (a4 i hi).1]
  · by_cases e : i = j ∧ q = p
    · obtain ⟨rfl, rfl⟩ := e
      unfold hearC rHear; simp (disch := omega) only [U, up_e, (a4 i hi).2 q hq]
    · unfold hearC rHear; simp (disch := omega) only [U, (a4 i hi).2 q hq]
  · rw [who_set (f := fun p => r (14 + p)) (p := p) (by show r (14 + p) ≤ 0; rw [h0]; decide) (by unfold rHear; simp (disch := omega) only [U, up_e]; decide) n hp (fun q hq hne => by unfold rHear; simp (disch := omega) only [U])]
    unfold hearC; simp (disch := omega) only [U, up_e, a5]
/-- one person's share of a day that goes by -/
def rDay1 (dk : Int32) (p : Nat) (r : Nat → Int32) : Nat → Int32 :=
  let hd := mnn dk (r 77)
  let r1 := up r 77 (r 77 - hd)
  let r2 := up r1 (7 + p) (if hd = dk then 0 else mnn 99 (r1 (7 + p) + dk - hd))
  let r3 := up r2 p (mxx 0 (r2 p - 1))
  up r3 (14 + p) 0
def rDay (n : Nat) (dk : Int32) (r : Nat → Int32) : Nat → Int32 :=
  let s := fo n (rDay1 dk) r
  up s 78 (s 78 + 1)
def dayC1 (dk : Int32) (p : Nat) (c : Nat → Int32) : Nat → Int32 :=
  let hd := mnn (c 1) dk
  let c1 := up c 1 (c 1 - hd)
  let c2 := up c1 (10 + p) (if hd = dk then 0 else mnn (c1 (10 + p) + dk - hd) 99)
  up c2 (3 + p) (mxx (c2 (3 + p) - 1) 0)
def dayC (n : Nat) (dk : Int32) (c : Nat → Int32) : Nat → Int32 :=
  let s := fo n (dayC1 dk) c
  let s1 := up s 2 0
  up s1 0 (s1 0 + 1)
theorem day1_ok {c r : Nat → Int32} {n p : Nat} {dk : Int32} (h : CRx c n r) (hn : n ≤ 7) (hp : p < 7) : CRx (dayC1 dk p c) n (rDay1 dk p r) := by
  obtain ⟨a1, a2, a3, a4⟩ := h
  have U : ∀ (f : Nat → Int32) (i k : Nat) (v : Int32), k ≠ i → up f i v k = f k := fun f i k v h => up_n h
  refine ⟨?_, ?_, fun q hq => ⟨?_, ?_, ?_, ?_⟩, fun i hi => ⟨?_, fun q hq => ?_⟩⟩
  · unfold dayC1 rDay1; simp (disch := omega) only [U, a1]
  · unfold dayC1 rDay1; simp (disch := omega) only [U, up_e, a2, mnn_c dk]
  · by_cases e : q = p
    · subst e; unfold dayC1 rDay1; simp (disch := omega) only [U, up_e, (a3 q hq).1, mxx_c 0]
    · unfold dayC1 rDay1; simp (disch := omega) only [U, (a3 q hq).1]
  · by_cases e : q = p
    · subst e; unfold dayC1 rDay1; simp (disch := omega) only [U, up_e, (a3 q hq).2.1, a2, mnn_c dk, mnn_c 99]
    · unfold dayC1 rDay1; simp (disch := omega) only [U, (a3 q hq).2.1]
  · unfold dayC1 rDay1; simp (disch := omega) only [U, (a3 q hq).2.2.1]
  · unfold dayC1 rDay1; simp (disch := omega) only [U, (a3 q hq).2.2.2]
  · rw [tS_as (s := r) (fun q hq => by unfold rDay1; simp (disch := omega) only [U])]
    unfold dayC1; simp (disch := omega) only [U, (a4 i hi).1]
  · unfold dayC1 rDay1; simp (disch := omega) only [U, (a4 i hi).2 q hq]
theorem dayN_ok {c r : Nat → Int32} {n : Nat} {dk : Int32} (h : CRx c n r) (hn : n ≤ 7) : ∀ k, k ≤ 7 → CRx (fo k (dayC1 dk) c) n (fo k (rDay1 dk) r)
  | 0, _ => h
  | k + 1, hk => day1_ok (dayN_ok h hn k (by omega)) hn (by omega)
theorem heard_no {r : Nat → Int32} {dk : Int32} : ∀ k, k ≤ 7 → ∀ p, p < k → fo k (rDay1 dk) r (14 + p) = 0
  | 0, _, p, hp => absurd hp (Nat.not_lt_zero p)
  | k + 1, hk, p, hp => by
    show rDay1 dk k (fo k (rDay1 dk) r) (14 + p) = 0
    have hh := heard_no (r := r) (dk := dk) k (by omega)
    generalize fo k (rDay1 dk) r = s at hh ⊢
    unfold rDay1
    by_cases e : p = k
    · subst e; exact up_e _ _ _
    · simp (disch := omega) only [up_n, hh p (by omega)]
theorem day_ok {c r : Nat → Int32} {n : Nat} {dk : Int32} (h : CRx c n r) (hn : n ≤ 7) : CRc (dayC n dk c) n (rDay n dk r) := by
  have g := dayN_ok (dk := dk) h hn n hn
  have hh := heard_no (r := r) (dk := dk) n hn
  unfold dayC rDay
  generalize fo n (dayC1 dk) c = c' at g ⊢
  generalize fo n (rDay1 dk) r = r' at g hh ⊢
  obtain ⟨a1, a2, a3, a4⟩ := g
  refine ⟨⟨?_, ?_, fun q hq => ⟨?_, ?_, ?_, ?_⟩, fun i hi => ⟨?_, fun q hq => ?_⟩⟩, ?_⟩
  · simp (disch := omega) only [up_n, up_e, a1]
  · simp (disch := omega) only [up_n, a2]
  · simp (disch := omega) only [up_n, (a3 q hq).1]
  · simp (disch := omega) only [up_n, (a3 q hq).2.1]
  · simp (disch := omega) only [up_n, (a3 q hq).2.2.1]
  · simp (disch := omega) only [up_n, (a3 q hq).2.2.2]
  · rw [tS_as (s := r') (fun q hq => by simp (disch := omega) only [up_n])]
    simp (disch := omega) only [up_n, (a4 i hi).1]
  · simp (disch := omega) only [up_n, (a4 i hi).2 q hq]
  · rw [who_no n (fun p hp => by rw [up_n (by omega), hh p hp]; decide)]
    simp (disch := omega) only [up_n, up_e]
/-! the methods over rows -/
theorem lpJ {α J R : Type} {F : Nat → α → J → R} {n : Nat} {st : Nat → α → α} (h : ∀ i b v, i < n → ∃ v', F i b v = F (i + 1) (st i b) v') (b : α) (v : J) : ∃ v', F 0 b v = F n (fo n st b) v' := by
  have key : ∀ i, i ≤ n → ∃ v', F 0 b v = F i (fo i st b) v' := by
    intro i
    induction i with
    | zero => exact fun _ => ⟨v, rfl⟩
    | succ i ih =>
      intro hi
      obtain ⟨v1, e1⟩ := ih (by omega)
      obtain ⟨v2, e2⟩ := h i (fo i st b) v1 (by omega)
      exact ⟨v2, e1.trans e2⟩
  exact key n (Nat.le_refl n)
section RowC
variable {σ : mm_M} {d a : Nat}
theorem yt_da1 (h : Sh σ) {a : Nat} (e : isDa a) {p : Nat} (hp : p < 79) (v : Int32) (k : mm_M → Option mm_R) : tI σ (a + 1) (nI p) v k = k (wA σ (a + 1) (up (mI σ (a + 1)) p v)) := by rw [xt_da1 h e hp, w_up]
theorem yt_row {b : Nat} (h : mK σ b = (1, 79)) {p : Nat} (hp : p < 79) (v : Int32) (k : mm_M → Option mm_R) : tI σ b (nI p) v k = k (wA σ b (up (mI σ b) p v)) := by rw [tI_k h hp (by decide), w_up]
theorem ya_row {b : Nat} (h : mK σ b = (1, 79)) {p : Nat} (hp : p < 79) (k : Int32 → Option mm_R) : aI σ b (nI p) k = k (mI σ b p) := aI_k h hp (by decide) k
theorem yt_rw (h : Sh σ) {b : Nat} (e : isRw b) {p : Nat} (hp : p < 79) (v : Int32) (k : mm_M → Option mm_R) : tI σ b (nI p) v k = k (wA σ b (up (mI σ b) p v)) := by rw [xt_rw0 h e hp, w_up]
theorem c_hear (h : Sh σ) (ha : isDa a) {j p : Nat} (hj : j < 6) (hp : p < 7) (lg wt : Int32) : ev (d + 1) 41 [.ref a, .int (nI j), .int (nI p), .int lg, .int wt] σ = some (.inl uv, wA σ (a + 1) (hearC (mI σ (a + 1)) j p lg wt)) := by
  rw [e_Days_hear d a (nI j) (nI p) lg wt σ (by rw [k_da0 h ha])]
  simp (disch := first | assumption | decide | (simp only [Sh_wI, Sh_wA, Sh_wL, Sh_mT, ldA_wI, lwA_wI, bkA_wI, ldA_wA, lwA_wA, bkA_wA]; assumption) | omega) only [xr_da0, xa_da1, yt_da1, rA_a, wA_wA, c_min, cI1, al_0, al_1, al_2, al_3, al_4, al_5, al_6, al_7, al_8, al_9, al_10, al_11, al_12, al_13, al_14, al_15, al_16, al_17, al_18, al_19, al_20, al_21, al_24, al_28, al_31, al_35, al_37, al_38, al_40, al_41, al_60, al_77, al_78, al_79, al_80, al_96, al_99, al_100, al_127, al_128, al_150, al_160, al_200, al_400, al_600, al_999, al_1000, tl_0, tl_1, tl_2, tl_3, tl_4, tl_5, tl_6, tl_7, tl_8, tl_9, tl_10, tl_11, tl_12, tl_13, tl_14, tl_15, tl_16, tl_17, tl_18, tl_19, tl_20, tl_21, tl_24, tl_28, tl_31, tl_35, tl_37, tl_38, tl_40, tl_41, tl_60, tl_77, tl_78, tl_79, tl_80, tl_96, tl_99, tl_100, tl_127, tl_128, tl_150, tl_160, tl_200, tl_400, tl_600, tl_999, tl_1000, la_0, la_1, la_2, la_3, la_4, la_5, la_6, la_7, la_8, la_9, la_10, la_11, la_12, la_13, la_14, la_15, la_16, la_17, la_18, la_19, la_20, la_21, la_24, la_28, la_31, la_35, la_37, la_38, la_40, la_41, la_60, la_77, la_78, la_79, la_80, la_96, la_99, la_100, la_127, la_128, la_150, la_160, la_200, la_400, la_600, la_999, la_1000, lm_0, lm_1, lm_2, lm_3, lm_4, lm_5, lm_6, lm_7, lm_8, lm_9, lm_10, lm_11, lm_12, lm_13, lm_14, lm_15, lm_16, lm_17, lm_18, lm_19, lm_20, lm_21, lm_24, lm_28, lm_31, lm_35, lm_37, lm_38, lm_40, lm_41, lm_60, lm_77, lm_78, lm_79, lm_80, lm_96, lm_99, lm_100, lm_127, lm_128, lm_150, lm_160, lm_200, lm_400, lm_600, lm_999, lm_1000, rm_0, rm_1, rm_2, rm_3, rm_4, rm_5, rm_6, rm_7, rm_8, rm_9, rm_10, rm_11, rm_12, rm_13, rm_14, rm_15, rm_16, rm_17, rm_18, rm_19, rm_20, rm_21, rm_24, rm_28, rm_31, rm_35, rm_37, rm_38, rm_40, rm_41, rm_60, rm_77, rm_78, rm_79, rm_80, rm_96, rm_99, rm_100, rm_127, rm_128, rm_150, rm_160, rm_200, rm_400, rm_600, rm_999, rm_1000, nar0, nar1_0, nar1_1, nI_add]
  rfl
theorem c_grieve (h : Sh σ) (ha : isDa a) {p : Nat} (hp : p < 7) (g : Int32) : ev d 42 [.ref a, .int (nI p), .int g] σ = if mI σ (a + 1) (3 + p) < g then some (.inl (.int 1), wA σ (a + 1) (up (mI σ (a + 1)) (3 + p) g)) else some (.inl (.int 0), σ) := by
  rw [e_Days_grieve d a (nI p) g σ (by rw [k_da0 h ha])]
  simp (disch := first | assumption | decide | (simp only [Sh_wI, Sh_wA, Sh_wL, Sh_mT, ldA_wI, lwA_wI, bkA_wI, ldA_wA, lwA_wA, bkA_wA]; assumption) | omega) only [xr_da0, xa_da1, yt_da1, al_0, al_1, al_2, al_3, al_4, al_5, al_6, al_7, al_8, al_9, al_10, al_11, al_12, al_13, al_14, al_15, al_16, al_17, al_18, al_19, al_20, al_21, al_24, al_28, al_31, al_35, al_37, al_38, al_40, al_41, al_60, al_77, al_78, al_79, al_80, al_96, al_99, al_100, al_127, al_128, al_150, al_160, al_200, al_400, al_600, al_999, al_1000, tl_0, tl_1, tl_2, tl_3, tl_4, tl_5, tl_6, tl_7, tl_8, tl_9, tl_10, tl_11, tl_12, tl_13, tl_14, tl_15, tl_16, tl_17, tl_18, tl_19, tl_20, tl_21, tl_24, tl_28, tl_31, tl_35, tl_37, tl_38, tl_40, tl_41, tl_60, tl_77, tl_78, tl_79, tl_80, tl_96, tl_99, tl_100, tl_127, tl_128, tl_150, tl_160, tl_200, tl_400, tl_600, tl_999, tl_1000, la_0, la_1, la_2, la_3, la_4, la_5, la_6, la_7, la_8, la_9, la_10, la_11, la_12, la_13, la_14, la_15, la_16, la_17, la_18, la_19, la_20, la_21, la_24, la_28, la_31, la_35, la_37, la_38, la_40, la_41, la_60, la_77, la_78, la_79, la_80, la_96, la_99, la_100, la_127, la_128, la_150, la_160, la_200, la_400, la_600, la_999, la_1000, lm_0, lm_1, lm_2, lm_3, lm_4, lm_5, lm_6, lm_7, lm_8, lm_9, lm_10, lm_11, lm_12, lm_13, lm_14, lm_15, lm_16, lm_17, lm_18, lm_19, lm_20, lm_21, lm_24, lm_28, lm_31, lm_35, lm_37, lm_38, lm_40, lm_41, lm_60, lm_77, lm_78, lm_79, lm_80, lm_96, lm_99, lm_100, lm_127, lm_128, lm_150, lm_160, lm_200, lm_400, lm_600, lm_999, lm_1000, rm_0, rm_1, rm_2, rm_3, rm_4, rm_5, rm_6, rm_7, rm_8, rm_9, rm_10, rm_11, rm_12, rm_13, rm_14, rm_15, rm_16, rm_17, rm_18, rm_19, rm_20, rm_21, rm_24, rm_28, rm_31, rm_35, rm_37, rm_38, rm_40, rm_41, rm_60, rm_77, rm_78, rm_79, rm_80, rm_96, rm_99, rm_100, rm_127, rm_128, rm_150, rm_160, rm_200, rm_400, rm_600, rm_999, rm_1000, nar0, nar1_0, nar1_1]
theorem c_cheer (h : Sh σ) (ha : isDa a) {p : Nat} (hp : p < 7) : ev d 43 [.ref a, .int (nI p)] σ = if mI σ (a + 1) (3 + p) = 0 then some (.inl (.int 0), σ) else some (.inl (.int 1), wA σ (a + 1) (up (mI σ (a + 1)) (3 + p) 0)) := by
  rw [e_Days_cheer d a (nI p) σ (by rw [k_da0 h ha])]
  simp (disch := first | assumption | decide | (simp only [Sh_wI, Sh_wA, Sh_wL, Sh_mT, ldA_wI, lwA_wI, bkA_wI, ldA_wA, lwA_wA, bkA_wA]; assumption) | omega) only [xr_da0, xa_da1, yt_da1, al_0, al_1, al_2, al_3, al_4, al_5, al_6, al_7, al_8, al_9, al_10, al_11, al_12, al_13, al_14, al_15, al_16, al_17, al_18, al_19, al_20, al_21, al_24, al_28, al_31, al_35, al_37, al_38, al_40, al_41, al_60, al_77, al_78, al_79, al_80, al_96, al_99, al_100, al_127, al_128, al_150, al_160, al_200, al_400, al_600, al_999, al_1000, tl_0, tl_1, tl_2, tl_3, tl_4, tl_5, tl_6, tl_7, tl_8, tl_9, tl_10, tl_11, tl_12, tl_13, tl_14, tl_15, tl_16, tl_17, tl_18, tl_19, tl_20, tl_21, tl_24, tl_28, tl_31, tl_35, tl_37, tl_38, tl_40, tl_41, tl_60, tl_77, tl_78, tl_79, tl_80, tl_96, tl_99, tl_100, tl_127, tl_128, tl_150, tl_160, tl_200, tl_400, tl_600, tl_999, tl_1000, la_0, la_1, la_2, la_3, la_4, la_5, la_6, la_7, la_8, la_9, la_10, la_11, la_12, la_13, la_14, la_15, la_16, la_17, la_18, la_19, la_20, la_21, la_24, la_28, la_31, la_35, la_37, la_38, la_40, la_41, la_60, la_77, la_78, la_79, la_80, la_96, la_99, la_100, la_127, la_128, la_150, la_160, la_200, la_400, la_600, la_999, la_1000, lm_0, lm_1, lm_2, lm_3, lm_4, lm_5, lm_6, lm_7, lm_8, lm_9, lm_10, lm_11, lm_12, lm_13, lm_14, lm_15, lm_16, lm_17, lm_18, lm_19, lm_20, lm_21, lm_24, lm_28, lm_31, lm_35, lm_37, lm_38, lm_40, lm_41, lm_60, lm_77, lm_78, lm_79, lm_80, lm_96, lm_99, lm_100, lm_127, lm_128, lm_150, lm_160, lm_200, lm_400, lm_600, lm_999, lm_1000, rm_0, rm_1, rm_2, rm_3, rm_4, rm_5, rm_6, rm_7, rm_8, rm_9, rm_10, rm_11, rm_12, rm_13, rm_14, rm_15, rm_16, rm_17, rm_18, rm_19, rm_20, rm_21, rm_24, rm_28, rm_31, rm_35, rm_37, rm_38, rm_40, rm_41, rm_60, rm_77, rm_78, rm_79, rm_80, rm_96, rm_99, rm_100, rm_127, rm_128, rm_150, rm_160, rm_200, rm_400, rm_600, rm_999, rm_1000, nar0, nar1_0, nar1_1]
theorem c_pour (h : Sh σ) (ha : isDa a) (w : Int32) : ev d 44 [.ref a, .int w] σ = if w ≤ mI σ (a + 1) 1 then some (.inl (.int 1), wA σ (a + 1) (up (mI σ (a + 1)) 1 (mI σ (a + 1) 1 - w))) else some (.inl (.int 0), σ) := by
  rw [e_Days_pour d a w σ (by rw [k_da0 h ha])]
  simp (disch := first | assumption | decide | (simp only [Sh_wI, Sh_wA, Sh_wL, Sh_mT, ldA_wI, lwA_wI, bkA_wI, ldA_wA, lwA_wA, bkA_wA]; assumption) | omega) only [xr_da0, xa_da1, yt_da1, al_0, al_1, al_2, al_3, al_4, al_5, al_6, al_7, al_8, al_9, al_10, al_11, al_12, al_13, al_14, al_15, al_16, al_17, al_18, al_19, al_20, al_21, al_24, al_28, al_31, al_35, al_37, al_38, al_40, al_41, al_60, al_77, al_78, al_79, al_80, al_96, al_99, al_100, al_127, al_128, al_150, al_160, al_200, al_400, al_600, al_999, al_1000, tl_0, tl_1, tl_2, tl_3, tl_4, tl_5, tl_6, tl_7, tl_8, tl_9, tl_10, tl_11, tl_12, tl_13, tl_14, tl_15, tl_16, tl_17, tl_18, tl_19, tl_20, tl_21, tl_24, tl_28, tl_31, tl_35, tl_37, tl_38, tl_40, tl_41, tl_60, tl_77, tl_78, tl_79, tl_80, tl_96, tl_99, tl_100, tl_127, tl_128, tl_150, tl_160, tl_200, tl_400, tl_600, tl_999, tl_1000, la_0, la_1, la_2, la_3, la_4, la_5, la_6, la_7, la_8, la_9, la_10, la_11, la_12, la_13, la_14, la_15, la_16, la_17, la_18, la_19, la_20, la_21, la_24, la_28, la_31, la_35, la_37, la_38, la_40, la_41, la_60, la_77, la_78, la_79, la_80, la_96, la_99, la_100, la_127, la_128, la_150, la_160, la_200, la_400, la_600, la_999, la_1000, lm_0, lm_1, lm_2, lm_3, lm_4, lm_5, lm_6, lm_7, lm_8, lm_9, lm_10, lm_11, lm_12, lm_13, lm_14, lm_15, lm_16, lm_17, lm_18, lm_19, lm_20, lm_21, lm_24, lm_28, lm_31, lm_35, lm_37, lm_38, lm_40, lm_41, lm_60, lm_77, lm_78, lm_79, lm_80, lm_96, lm_99, lm_100, lm_127, lm_128, lm_150, lm_160, lm_200, lm_400, lm_600, lm_999, lm_1000, rm_0, rm_1, rm_2, rm_3, rm_4, rm_5, rm_6, rm_7, rm_8, rm_9, rm_10, rm_11, rm_12, rm_13, rm_14, rm_15, rm_16, rm_17, rm_18, rm_19, rm_20, rm_21, rm_24, rm_28, rm_31, rm_35, rm_37, rm_38, rm_40, rm_41, rm_60, rm_77, rm_78, rm_79, rm_80, rm_96, rm_99, rm_100, rm_127, rm_128, rm_150, rm_160, rm_200, rm_400, rm_600, rm_999, rm_1000, nar0, nar1_0, nar1_1]
theorem c_passDay (h : Sh σ) (ha : isDa a) {l n : Nat} (hl : isLd l) (hn : n ≤ 7) (en : mI σ l 7 = nI n) : ev (d + 1) 45 [.ref a, .ref l] σ = some (.inl uv, wA σ (a + 1) (dayC n (mI σ l 11) (mI σ (a + 1)))) := by
  rw [e_Days_passDay d a l σ (by rw [k_da0 h ha])]
  have hal : l ≠ a + 1 := by
    have h1 : l = 5 ∨ l = 38 := hl
    have h2 : a = 21 ∨ a = 23 := ha
    omega
  obtain ⟨v, e⟩ := lpJ (F := fun i c (v : Value × Value) => rn (d + 1) 45 2 [.ref a, .ref l, .int (nI i), v.1, v.2] [] (wA σ (a + 1) c)) (n := n) (st := dayC1 (mI σ l 11)) (fun i c v hi => by
    try dsimp only
    rw [e_Days_passDay_2]
    simp (disch := first | assumption | decide | (simp only [Sh_wI, Sh_wA, Sh_wL, Sh_mT, ldA_wI, lwA_wI, bkA_wI, ldA_wA, lwA_wA, bkA_wA]; assumption) | omega) only [xg_ld, xr_da0, xa_da1, yt_da1, rA_a, rA_o, wA_wA, c_min, cI1, al_0, al_1, al_2, al_3, al_4, al_5, al_6, al_7, al_8, al_9, al_10, al_11, al_12, al_13, al_14, al_15, al_16, al_17, al_18, al_19, al_20, al_21, al_24, al_28, al_31, al_35, al_37, al_38, al_40, al_41, al_60, al_77, al_78, al_79, al_80, al_96, al_99, al_100, al_127, al_128, al_150, al_160, al_200, al_400, al_600, al_999, al_1000, tl_0, tl_1, tl_2, tl_3, tl_4, tl_5, tl_6, tl_7, tl_8, tl_9, tl_10, tl_11, tl_12, tl_13, tl_14, tl_15, tl_16, tl_17, tl_18, tl_19, tl_20, tl_21, tl_24, tl_28, tl_31, tl_35, tl_37, tl_38, tl_40, tl_41, tl_60, tl_77, tl_78, tl_79, tl_80, tl_96, tl_99, tl_100, tl_127, tl_128, tl_150, tl_160, tl_200, tl_400, tl_600, tl_999, tl_1000, la_0, la_1, la_2, la_3, la_4, la_5, la_6, la_7, la_8, la_9, la_10, la_11, la_12, la_13, la_14, la_15, la_16, la_17, la_18, la_19, la_20, la_21, la_24, la_28, la_31, la_35, la_37, la_38, la_40, la_41, la_60, la_77, la_78, la_79, la_80, la_96, la_99, la_100, la_127, la_128, la_150, la_160, la_200, la_400, la_600, la_999, la_1000, lm_0, lm_1, lm_2, lm_3, lm_4, lm_5, lm_6, lm_7, lm_8, lm_9, lm_10, lm_11, lm_12, lm_13, lm_14, lm_15, lm_16, lm_17, lm_18, lm_19, lm_20, lm_21, lm_24, lm_28, lm_31, lm_35, lm_37, lm_38, lm_40, lm_41, lm_60, lm_77, lm_78, lm_79, lm_80, lm_96, lm_99, lm_100, lm_127, lm_128, lm_150, lm_160, lm_200, lm_400, lm_600, lm_999, lm_1000, rm_0, rm_1, rm_2, rm_3, rm_4, rm_5, rm_6, rm_7, rm_8, rm_9, rm_10, rm_11, rm_12, rm_13, rm_14, rm_15, rm_16, rm_17, rm_18, rm_19, rm_20, rm_21, rm_24, rm_28, rm_31, rm_35, rm_37, rm_38, rm_40, rm_41, rm_60, rm_77, rm_78, rm_79, rm_80, rm_96, rm_99, rm_100, rm_127, rm_128, rm_150, rm_160, rm_200, rm_400, rm_600, rm_999, rm_1000, nar0, nar1_0, nar1_1, en, leI]
    rw [if_neg (by omega)]
    by_cases q : mnn (c 1) (mI σ l 11) = mI σ l 11
    · rw [if_pos q, e_Days_passDay_79]
      simp (disch := first | assumption | decide | (simp only [Sh_wI, Sh_wA, Sh_wL, Sh_mT, ldA_wI, lwA_wI, bkA_wI, ldA_wA, lwA_wA, bkA_wA]; assumption) | omega) only [xr_da0, xa_da1, yt_da1, rA_a, rA_o, wA_wA, c_max, cI1, al_0, al_1, al_2, al_3, al_4, al_5, al_6, al_7, al_8, al_9, al_10, al_11, al_12, al_13, al_14, al_15, al_16, al_17, al_18, al_19, al_20, al_21, al_24, al_28, al_31, al_35, al_37, al_38, al_40, al_41, al_60, al_77, al_78, al_79, al_80, al_96, al_99, al_100, al_127, al_128, al_150, al_160, al_200, al_400, al_600, al_999, al_1000, tl_0, tl_1, tl_2, tl_3, tl_4, tl_5, tl_6, tl_7, tl_8, tl_9, tl_10, tl_11, tl_12, tl_13, tl_14, tl_15, tl_16, tl_17, tl_18, tl_19, tl_20, tl_21, tl_24, tl_28, tl_31, tl_35, tl_37, tl_38, tl_40, tl_41, tl_60, tl_77, tl_78, tl_79, tl_80, tl_96, tl_99, tl_100, tl_127, tl_128, tl_150, tl_160, tl_200, tl_400, tl_600, tl_999, tl_1000, la_0, la_1, la_2, la_3, la_4, la_5, la_6, la_7, la_8, la_9, la_10, la_11, la_12, la_13, la_14, la_15, la_16, la_17, la_18, la_19, la_20, la_21, la_24, la_28, la_31, la_35, la_37, la_38, la_40, la_41, la_60, la_77, la_78, la_79, la_80, la_96, la_99, la_100, la_127, la_128, la_150, la_160, la_200, la_400, la_600, la_999, la_1000, lm_0, lm_1, lm_2, lm_3, lm_4, lm_5, lm_6, lm_7, lm_8, lm_9, lm_10, lm_11, lm_12, lm_13, lm_14, lm_15, lm_16, lm_17, lm_18, lm_19, lm_20, lm_21, lm_24, lm_28, lm_31, lm_35, lm_37, lm_38, lm_40, lm_41, lm_60, lm_77, lm_78, lm_79, lm_80, lm_96, lm_99, lm_100, lm_127, lm_128, lm_150, lm_160, lm_200, lm_400, lm_600, lm_999, lm_1000, rm_0, rm_1, rm_2, rm_3, rm_4, rm_5, rm_6, rm_7, rm_8, rm_9, rm_10, rm_11, rm_12, rm_13, rm_14, rm_15, rm_16, rm_17, rm_18, rm_19, rm_20, rm_21, rm_24, rm_28, rm_31, rm_35, rm_37, rm_38, rm_40, rm_41, rm_60, rm_77, rm_78, rm_79, rm_80, rm_96, rm_99, rm_100, rm_127, rm_128, rm_150, rm_160, rm_200, rm_400, rm_600, rm_999, rm_1000, nar0, nar1_0, nar1_1]
      refine ⟨(.int (mnn (c 1) (mI σ l 11)), .int (up c 1 (c 1 - mnn (c 1) (mI σ l 11)) (10 + i) + mI σ l 11 - mnn (c 1) (mI σ l 11))), ?_⟩
      unfold dayC1
      simp only [if_pos q]
      rw [nI_1]
    · rw [if_neg q, e_Days_passDay_79]
      simp (disch := first | assumption | decide | (simp only [Sh_wI, Sh_wA, Sh_wL, Sh_mT, ldA_wI, lwA_wI, bkA_wI, ldA_wA, lwA_wA, bkA_wA]; assumption) | omega) only [xr_da0, xa_da1, yt_da1, rA_a, rA_o, wA_wA, c_max, cI1, al_0, al_1, al_2, al_3, al_4, al_5, al_6, al_7, al_8, al_9, al_10, al_11, al_12, al_13, al_14, al_15, al_16, al_17, al_18, al_19, al_20, al_21, al_24, al_28, al_31, al_35, al_37, al_38, al_40, al_41, al_60, al_77, al_78, al_79, al_80, al_96, al_99, al_100, al_127, al_128, al_150, al_160, al_200, al_400, al_600, al_999, al_1000, tl_0, tl_1, tl_2, tl_3, tl_4, tl_5, tl_6, tl_7, tl_8, tl_9, tl_10, tl_11, tl_12, tl_13, tl_14, tl_15, tl_16, tl_17, tl_18, tl_19, tl_20, tl_21, tl_24, tl_28, tl_31, tl_35, tl_37, tl_38, tl_40, tl_41, tl_60, tl_77, tl_78, tl_79, tl_80, tl_96, tl_99, tl_100, tl_127, tl_128, tl_150, tl_160, tl_200, tl_400, tl_600, tl_999, tl_1000, la_0, la_1, la_2, la_3, la_4, la_5, la_6, la_7, la_8, la_9, la_10, la_11, la_12, la_13, la_14, la_15, la_16, la_17, la_18, la_19, la_20, la_21, la_24, la_28, la_31, la_35, la_37, la_38, la_40, la_41, la_60, la_77, la_78, la_79, la_80, la_96, la_99, la_100, la_127, la_128, la_150, la_160, la_200, la_400, la_600, la_999, la_1000, lm_0, lm_1, lm_2, lm_3, lm_4, lm_5, lm_6, lm_7, lm_8, lm_9, lm_10, lm_11, lm_12, lm_13, lm_14, lm_15, lm_16, lm_17, lm_18, lm_19, lm_20, lm_21, lm_24, lm_28, lm_31, lm_35, lm_37, lm_38, lm_40, lm_41, lm_60, lm_77, lm_78, lm_79, lm_80, lm_96, lm_99, lm_100, lm_127, lm_128, lm_150, lm_160, lm_200, lm_400, lm_600, lm_999, lm_1000, rm_0, rm_1, rm_2, rm_3, rm_4, rm_5, rm_6, rm_7, rm_8, rm_9, rm_10, rm_11, rm_12, rm_13, rm_14, rm_15, rm_16, rm_17, rm_18, rm_19, rm_20, rm_21, rm_24, rm_28, rm_31, rm_35, rm_37, rm_38, rm_40, rm_41, rm_60, rm_77, rm_78, rm_79, rm_80, rm_96, rm_99, rm_100, rm_127, rm_128, rm_150, rm_160, rm_200, rm_400, rm_600, rm_999, rm_1000, nar0, nar1_0, nar1_1]
      refine ⟨(.int (mnn (c 1) (mI σ l 11)), .int (up c 1 (c 1 - mnn (c 1) (mI σ l 11)) (10 + i) + mI σ l 11 - mnn (c 1) (mI σ l 11))), ?_⟩
      unfold dayC1
      simp only [if_neg q]
      rw [nI_1]) (mI σ (a + 1)) (uv, uv)
  try dsimp only at e
  rw [wA_id] at e
  refine e.trans ?_
  rw [e_Days_passDay_2]
  simp (disch := first | assumption | decide | (simp only [Sh_wI, Sh_wA, Sh_wL, Sh_mT, ldA_wI, lwA_wI, bkA_wI, ldA_wA, lwA_wA, bkA_wA]; assumption) | omega) only [xg_ld, xr_da0, xa_da1, yt_da1, rA_a, rA_o, wA_wA, al_0, al_1, al_2, al_3, al_4, al_5, al_6, al_7, al_8, al_9, al_10, al_11, al_12, al_13, al_14, al_15, al_16, al_17, al_18, al_19, al_20, al_21, al_24, al_28, al_31, al_35, al_37, al_38, al_40, al_41, al_60, al_77, al_78, al_79, al_80, al_96, al_99, al_100, al_127, al_128, al_150, al_160, al_200, al_400, al_600, al_999, al_1000, tl_0, tl_1, tl_2, tl_3, tl_4, tl_5, tl_6, tl_7, tl_8, tl_9, tl_10, tl_11, tl_12, tl_13, tl_14, tl_15, tl_16, tl_17, tl_18, tl_19, tl_20, tl_21, tl_24, tl_28, tl_31, tl_35, tl_37, tl_38, tl_40, tl_41, tl_60, tl_77, tl_78, tl_79, tl_80, tl_96, tl_99, tl_100, tl_127, tl_128, tl_150, tl_160, tl_200, tl_400, tl_600, tl_999, tl_1000, la_0, la_1, la_2, la_3, la_4, la_5, la_6, la_7, la_8, la_9, la_10, la_11, la_12, la_13, la_14, la_15, la_16, la_17, la_18, la_19, la_20, la_21, la_24, la_28, la_31, la_35, la_37, la_38, la_40, la_41, la_60, la_77, la_78, la_79, la_80, la_96, la_99, la_100, la_127, la_128, la_150, la_160, la_200, la_400, la_600, la_999, la_1000, lm_0, lm_1, lm_2, lm_3, lm_4, lm_5, lm_6, lm_7, lm_8, lm_9, lm_10, lm_11, lm_12, lm_13, lm_14, lm_15, lm_16, lm_17, lm_18, lm_19, lm_20, lm_21, lm_24, lm_28, lm_31, lm_35, lm_37, lm_38, lm_40, lm_41, lm_60, lm_77, lm_78, lm_79, lm_80, lm_96, lm_99, lm_100, lm_127, lm_128, lm_150, lm_160, lm_200, lm_400, lm_600, lm_999, lm_1000, rm_0, rm_1, rm_2, rm_3, rm_4, rm_5, rm_6, rm_7, rm_8, rm_9, rm_10, rm_11, rm_12, rm_13, rm_14, rm_15, rm_16, rm_17, rm_18, rm_19, rm_20, rm_21, rm_24, rm_28, rm_31, rm_35, rm_37, rm_38, rm_40, rm_41, rm_60, rm_77, rm_78, rm_79, rm_80, rm_96, rm_99, rm_100, rm_127, rm_128, rm_150, rm_160, rm_200, rm_400, rm_600, rm_999, rm_1000, nar0, nar1_0, nar1_1, en, leI]
  rw [if_pos (by omega)]
  rfl
variable {b : Nat}
theorem m_copies {x y : Nat} (hx : mK σ x = (1, 79)) (hy : mK σ y = (1, 79)) (hxy : x ≠ y) : ev d 193 [.ref x, .ref y] σ = some (.inl uv, wA σ y (fun j => if j < 79 then mI σ x j else mI σ y j)) := by
  rw [e_M_copies]
  have key := lp (α := Unit) (F := fun i _ => rn d 193 2 [.ref x, .ref y, .int (nI i)] [] (wA σ y (fun j => if j < i then mI σ x j else mI σ y j))) (n := 79) (st := fun _ u => u) (fun i u hi => by
    try dsimp only
    rw [e_M_copies_2, if_neg (show ¬ (79 : Int32) ≤ nI i from nI_ge (b := 79) (a := i) (by omega) (by omega)), ya_row (by rw [mK_A]; exact hx) hi, yt_row (by rw [mK_A]; exact hy) hi, rA_o hxy, rA_a, wA_wA, nI_1]
    have : up (fun j => if j < i then mI σ x j else mI σ y j) i (mI σ x i) = (fun j => if j < i + 1 then mI σ x j else mI σ y j) := funext fun j => by
      unfold up
      by_cases h1 : j = i
      · subst h1; rw [if_pos rfl, if_pos (by omega)]
      · rw [if_neg h1]
        by_cases h2 : j < i
        · show (if j < i then mI σ x j else mI σ y j) = _
          rw [if_pos h2, if_pos (by omega)]
        · show (if j < i then mI σ x j else mI σ y j) = _
          rw [if_neg h2, if_neg (by omega)]
    rw [this]) ()
  try dsimp only at key
  have h0 : wA σ y (fun j => if j < 0 then mI σ x j else mI σ y j) = σ := by
    have : (fun j => if j < 0 then mI σ x j else mI σ y j) = mI σ y := funext fun j => if_neg (Nat.not_lt_zero j)
    rw [this, wA_id]
  rw [h0] at key
  refine key.trans ?_
  rw [e_M_copies_2, if_pos (show (79 : Int32) ≤ nI 79 from nI_le (a := 79) (b := 79) (by omega) (by omega))]
theorem m_whoHas (h : Sh σ) (hb : mK σ b = (1, 79)) {n f : Nat} (hn : n ≤ 7) (en : mI σ 57 0 = nI n) (hf : f ≤ 28) : ev d 211 [.ref 53, .ref b, .int (nI f)] σ = some (.inl (.int (whoB n (fun p => mI σ b (f + p)))), σ) := by
  rw [e_M_whoHas d 53 b (nI f) σ (by rw [k_53 h])]
  refine (lp (F := fun i s => rn d 211 5 [.ref 53, .ref b, .int (nI f), .int s, .int (nI i)] [] σ) (n := n) (st := fun p s => s ||| (if mI σ b (f + p) ≤ 0 then (0 : Int32) else b1 p)) (fun i s hi => ?_) 0).trans ?_
  · show rn d 211 5 [.ref 53, .ref b, .int (nI f), .int s, .int (nI i)] [] σ = _
    rw [e_M_whoHas_5]
    simp (disch := first | assumption | decide | (simp only [Sh_wI, Sh_wA, Sh_wL, Sh_mT, ldA_wI, lwA_wI, bkA_wI, ldA_wA, lwA_wA, bkA_wA]; assumption) | omega) only [xr_53_12, xa_57, al_0, al_1, al_2, al_3, al_4, al_5, al_6, al_7, al_8, al_9, al_10, al_11, al_12, al_13, al_14, al_15, al_16, al_17, al_18, al_19, al_20, al_21, al_24, al_28, al_31, al_35, al_37, al_38, al_40, al_41, al_60, al_77, al_78, al_79, al_80, al_96, al_99, al_100, al_127, al_128, al_150, al_160, al_200, al_400, al_600, al_999, al_1000, tl_0, tl_1, tl_2, tl_3, tl_4, tl_5, tl_6, tl_7, tl_8, tl_9, tl_10, tl_11, tl_12, tl_13, tl_14, tl_15, tl_16, tl_17, tl_18, tl_19, tl_20, tl_21, tl_24, tl_28, tl_31, tl_35, tl_37, tl_38, tl_40, tl_41, tl_60, tl_77, tl_78, tl_79, tl_80, tl_96, tl_99, tl_100, tl_127, tl_128, tl_150, tl_160, tl_200, tl_400, tl_600, tl_999, tl_1000, la_0, la_1, la_2, la_3, la_4, la_5, la_6, la_7, la_8, la_9, la_10, la_11, la_12, la_13, la_14, la_15, la_16, la_17, la_18, la_19, la_20, la_21, la_24, la_28, la_31, la_35, la_37, la_38, la_40, la_41, la_60, la_77, la_78, la_79, la_80, la_96, la_99, la_100, la_127, la_128, la_150, la_160, la_200, la_400, la_600, la_999, la_1000, lm_0, lm_1, lm_2, lm_3, lm_4, lm_5, lm_6, lm_7, lm_8, lm_9, lm_10, lm_11, lm_12, lm_13, lm_14, lm_15, lm_16, lm_17, lm_18, lm_19, lm_20, lm_21, lm_24, lm_28, lm_31, lm_35, lm_37, lm_38, lm_40, lm_41, lm_60, lm_77, lm_78, lm_79, lm_80, lm_96, lm_99, lm_100, lm_127, lm_128, lm_150, lm_160, lm_200, lm_400, lm_600, lm_999, lm_1000, rm_0, rm_1, rm_2, rm_3, rm_4, rm_5, rm_6, rm_7, rm_8, rm_9, rm_10, rm_11, rm_12, rm_13, rm_14, rm_15, rm_16, rm_17, rm_18, rm_19, rm_20, rm_21, rm_24, rm_28, rm_31, rm_35, rm_37, rm_38, rm_40, rm_41, rm_60, rm_77, rm_78, rm_79, rm_80, rm_96, rm_99, rm_100, rm_127, rm_128, rm_150, rm_160, rm_200, rm_400, rm_600, rm_999, rm_1000, nar0, nar1_0, nar1_1, en, leI, nI_add]
    rw [if_neg (by omega), ya_row hb (by omega)]
    by_cases q : mI σ b (f + i) ≤ 0
    · rw [if_pos q, if_pos q, e_M_whoHas_34, nI_1]
    · rw [if_neg q, if_neg q, e_M_whoHas_34, nI_1]
      rfl
  · show rn d 211 5 [.ref 53, .ref b, .int (nI f), .int _, .int (nI n)] [] σ = _
    rw [e_M_whoHas_5]
    simp (disch := first | assumption | decide | (simp only [Sh_wI, Sh_wA, Sh_wL, Sh_mT, ldA_wI, lwA_wI, bkA_wI, ldA_wA, lwA_wA, bkA_wA]; assumption) | omega) only [xr_53_12, xa_57, al_0, al_1, al_2, al_3, al_4, al_5, al_6, al_7, al_8, al_9, al_10, al_11, al_12, al_13, al_14, al_15, al_16, al_17, al_18, al_19, al_20, al_21, al_24, al_28, al_31, al_35, al_37, al_38, al_40, al_41, al_60, al_77, al_78, al_79, al_80, al_96, al_99, al_100, al_127, al_128, al_150, al_160, al_200, al_400, al_600, al_999, al_1000, tl_0, tl_1, tl_2, tl_3, tl_4, tl_5, tl_6, tl_7, tl_8, tl_9, tl_10, tl_11, tl_12, tl_13, tl_14, tl_15, tl_16, tl_17, tl_18, tl_19, tl_20, tl_21, tl_24, tl_28, tl_31, tl_35, tl_37, tl_38, tl_40, tl_41, tl_60, tl_77, tl_78, tl_79, tl_80, tl_96, tl_99, tl_100, tl_127, tl_128, tl_150, tl_160, tl_200, tl_400, tl_600, tl_999, tl_1000, la_0, la_1, la_2, la_3, la_4, la_5, la_6, la_7, la_8, la_9, la_10, la_11, la_12, la_13, la_14, la_15, la_16, la_17, la_18, la_19, la_20, la_21, la_24, la_28, la_31, la_35, la_37, la_38, la_40, la_41, la_60, la_77, la_78, la_79, la_80, la_96, la_99, la_100, la_127, la_128, la_150, la_160, la_200, la_400, la_600, la_999, la_1000, lm_0, lm_1, lm_2, lm_3, lm_4, lm_5, lm_6, lm_7, lm_8, lm_9, lm_10, lm_11, lm_12, lm_13, lm_14, lm_15, lm_16, lm_17, lm_18, lm_19, lm_20, lm_21, lm_24, lm_28, lm_31, lm_35, lm_37, lm_38, lm_40, lm_41, lm_60, lm_77, lm_78, lm_79, lm_80, lm_96, lm_99, lm_100, lm_127, lm_128, lm_150, lm_160, lm_200, lm_400, lm_600, lm_999, lm_1000, rm_0, rm_1, rm_2, rm_3, rm_4, rm_5, rm_6, rm_7, rm_8, rm_9, rm_10, rm_11, rm_12, rm_13, rm_14, rm_15, rm_16, rm_17, rm_18, rm_19, rm_20, rm_21, rm_24, rm_28, rm_31, rm_35, rm_37, rm_38, rm_40, rm_41, rm_60, rm_77, rm_78, rm_79, rm_80, rm_96, rm_99, rm_100, rm_127, rm_128, rm_150, rm_160, rm_200, rm_400, rm_600, rm_999, rm_1000, nar0, nar1_0, nar1_1, en, leI, nI_add]
    rw [if_pos (by omega)]
    try rfl
theorem m_sumOf (h : Sh σ) (hb : mK σ b = (1, 79)) {n f : Nat} (hn : n ≤ 7) (en : mI σ 57 0 = nI n) (hf : f ≤ 28) : ev d 223 [.ref 53, .ref b, .int (nI f)] σ = some (.inl (.int (fo n (fun p s => s + mI σ b (f + p)) 0)), σ) := by
  rw [e_M_sumOf d 53 b (nI f) σ (by rw [k_53 h])]
  refine (lp (F := fun i s => rn d 223 5 [.ref 53, .ref b, .int (nI f), .int s, .int (nI i)] [] σ) (n := n) (st := fun p s => s + mI σ b (f + p)) (fun i s hi => ?_) 0).trans ?_
  · show rn d 223 5 [.ref 53, .ref b, .int (nI f), .int s, .int (nI i)] [] σ = _
    rw [e_M_sumOf_5]
    simp (disch := first | assumption | decide | (simp only [Sh_wI, Sh_wA, Sh_wL, Sh_mT, ldA_wI, lwA_wI, bkA_wI, ldA_wA, lwA_wA, bkA_wA]; assumption) | omega) only [xr_53_12, xa_57, al_0, al_1, al_2, al_3, al_4, al_5, al_6, al_7, al_8, al_9, al_10, al_11, al_12, al_13, al_14, al_15, al_16, al_17, al_18, al_19, al_20, al_21, al_24, al_28, al_31, al_35, al_37, al_38, al_40, al_41, al_60, al_77, al_78, al_79, al_80, al_96, al_99, al_100, al_127, al_128, al_150, al_160, al_200, al_400, al_600, al_999, al_1000, tl_0, tl_1, tl_2, tl_3, tl_4, tl_5, tl_6, tl_7, tl_8, tl_9, tl_10, tl_11, tl_12, tl_13, tl_14, tl_15, tl_16, tl_17, tl_18, tl_19, tl_20, tl_21, tl_24, tl_28, tl_31, tl_35, tl_37, tl_38, tl_40, tl_41, tl_60, tl_77, tl_78, tl_79, tl_80, tl_96, tl_99, tl_100, tl_127, tl_128, tl_150, tl_160, tl_200, tl_400, tl_600, tl_999, tl_1000, la_0, la_1, la_2, la_3, la_4, la_5, la_6, la_7, la_8, la_9, la_10, la_11, la_12, la_13, la_14, la_15, la_16, la_17, la_18, la_19, la_20, la_21, la_24, la_28, la_31, la_35, la_37, la_38, la_40, la_41, la_60, la_77, la_78, la_79, la_80, la_96, la_99, la_100, la_127, la_128, la_150, la_160, la_200, la_400, la_600, la_999, la_1000, lm_0, lm_1, lm_2, lm_3, lm_4, lm_5, lm_6, lm_7, lm_8, lm_9, lm_10, lm_11, lm_12, lm_13, lm_14, lm_15, lm_16, lm_17, lm_18, lm_19, lm_20, lm_21, lm_24, lm_28, lm_31, lm_35, lm_37, lm_38, lm_40, lm_41, lm_60, lm_77, lm_78, lm_79, lm_80, lm_96, lm_99, lm_100, lm_127, lm_128, lm_150, lm_160, lm_200, lm_400, lm_600, lm_999, lm_1000, rm_0, rm_1, rm_2, rm_3, rm_4, rm_5, rm_6, rm_7, rm_8, rm_9, rm_10, rm_11, rm_12, rm_13, rm_14, rm_15, rm_16, rm_17, rm_18, rm_19, rm_20, rm_21, rm_24, rm_28, rm_31, rm_35, rm_37, rm_38, rm_40, rm_41, rm_60, rm_77, rm_78, rm_79, rm_80, rm_96, rm_99, rm_100, rm_127, rm_128, rm_150, rm_160, rm_200, rm_400, rm_600, rm_999, rm_1000, nar0, nar1_0, nar1_1, en, leI, nI_add]
    rw [if_neg (by omega), ya_row hb (by omega), nI_1]
  · show rn d 223 5 [.ref 53, .ref b, .int (nI f), .int _, .int (nI n)] [] σ = _
    rw [e_M_sumOf_5]
    simp (disch := first | assumption | decide | (simp only [Sh_wI, Sh_wA, Sh_wL, Sh_mT, ldA_wI, lwA_wI, bkA_wI, ldA_wA, lwA_wA, bkA_wA]; assumption) | omega) only [xr_53_12, xa_57, al_0, al_1, al_2, al_3, al_4, al_5, al_6, al_7, al_8, al_9, al_10, al_11, al_12, al_13, al_14, al_15, al_16, al_17, al_18, al_19, al_20, al_21, al_24, al_28, al_31, al_35, al_37, al_38, al_40, al_41, al_60, al_77, al_78, al_79, al_80, al_96, al_99, al_100, al_127, al_128, al_150, al_160, al_200, al_400, al_600, al_999, al_1000, tl_0, tl_1, tl_2, tl_3, tl_4, tl_5, tl_6, tl_7, tl_8, tl_9, tl_10, tl_11, tl_12, tl_13, tl_14, tl_15, tl_16, tl_17, tl_18, tl_19, tl_20, tl_21, tl_24, tl_28, tl_31, tl_35, tl_37, tl_38, tl_40, tl_41, tl_60, tl_77, tl_78, tl_79, tl_80, tl_96, tl_99, tl_100, tl_127, tl_128, tl_150, tl_160, tl_200, tl_400, tl_600, tl_999, tl_1000, la_0, la_1, la_2, la_3, la_4, la_5, la_6, la_7, la_8, la_9, la_10, la_11, la_12, la_13, la_14, la_15, la_16, la_17, la_18, la_19, la_20, la_21, la_24, la_28, la_31, la_35, la_37, la_38, la_40, la_41, la_60, la_77, la_78, la_79, la_80, la_96, la_99, la_100, la_127, la_128, la_150, la_160, la_200, la_400, la_600, la_999, la_1000, lm_0, lm_1, lm_2, lm_3, lm_4, lm_5, lm_6, lm_7, lm_8, lm_9, lm_10, lm_11, lm_12, lm_13, lm_14, lm_15, lm_16, lm_17, lm_18, lm_19, lm_20, lm_21, lm_24, lm_28, lm_31, lm_35, lm_37, lm_38, lm_40, lm_41, lm_60, lm_77, lm_78, lm_79, lm_80, lm_96, lm_99, lm_100, lm_127, lm_128, lm_150, lm_160, lm_200, lm_400, lm_600, lm_999, lm_1000, rm_0, rm_1, rm_2, rm_3, rm_4, rm_5, rm_6, rm_7, rm_8, rm_9, rm_10, rm_11, rm_12, rm_13, rm_14, rm_15, rm_16, rm_17, rm_18, rm_19, rm_20, rm_21, rm_24, rm_28, rm_31, rm_35, rm_37, rm_38, rm_40, rm_41, rm_60, rm_77, rm_78, rm_79, rm_80, rm_96, rm_99, rm_100, rm_127, rm_128, rm_150, rm_160, rm_200, rm_400, rm_600, rm_999, rm_1000, nar0, nar1_0, nar1_1, en, leI, nI_add]
    rw [if_pos (by omega)]
    try rfl
theorem wrn_ix (j p : Nat) : ((35 : Int32) + (7 : Int32) * nI j) + nI p = nI (35 + 7 * j + p) := by
  show (nI 35 + nI 7 * nI j) + nI p = _
  rw [pk_mul, nI_add, nI_add]
theorem m_toldIn (h : Sh σ) (hb : mK σ b = (1, 79)) {n j : Nat} (hn : n ≤ 7) (en : mI σ 57 0 = nI n) (hj : j < 6) : ev d 212 [.ref 53, .ref b, .int (nI j)] σ = some (.inl (.int (tS n (mI σ b) j)), σ) := by
  rw [e_M_toldIn d 53 b (nI j) σ (by rw [k_53 h])]
  refine (lp (F := fun i s => rn d 212 5 [.ref 53, .ref b, .int (nI j), .int s, .int (nI i)] [] σ) (n := n) (st := fun p s => s + mI σ b (35 + 7 * j + p)) (fun i s hi => ?_) 0).trans ?_
  · show rn d 212 5 [.ref 53, .ref b, .int (nI j), .int s, .int (nI i)] [] σ = _
    rw [e_M_toldIn_5]
    simp (disch := first | assumption | decide | (simp only [Sh_wI, Sh_wA, Sh_wL, Sh_mT, ldA_wI, lwA_wI, bkA_wI, ldA_wA, lwA_wA, bkA_wA]; assumption) | omega) only [xr_53_12, xa_57, al_0, al_1, al_2, al_3, al_4, al_5, al_6, al_7, al_8, al_9, al_10, al_11, al_12, al_13, al_14, al_15, al_16, al_17, al_18, al_19, al_20, al_21, al_24, al_28, al_31, al_35, al_37, al_38, al_40, al_41, al_60, al_77, al_78, al_79, al_80, al_96, al_99, al_100, al_127, al_128, al_150, al_160, al_200, al_400, al_600, al_999, al_1000, tl_0, tl_1, tl_2, tl_3, tl_4, tl_5, tl_6, tl_7, tl_8, tl_9, tl_10, tl_11, tl_12, tl_13, tl_14, tl_15, tl_16, tl_17, tl_18, tl_19, tl_20, tl_21, tl_24, tl_28, tl_31, tl_35, tl_37, tl_38, tl_40, tl_41, tl_60, tl_77, tl_78, tl_79, tl_80, tl_96, tl_99, tl_100, tl_127, tl_128, tl_150, tl_160, tl_200, tl_400, tl_600, tl_999, tl_1000, la_0, la_1, la_2, la_3, la_4, la_5, la_6, la_7, la_8, la_9, la_10, la_11, la_12, la_13, la_14, la_15, la_16, la_17, la_18, la_19, la_20, la_21, la_24, la_28, la_31, la_35, la_37, la_38, la_40, la_41, la_60, la_77, la_78, la_79, la_80, la_96, la_99, la_100, la_127, la_128, la_150, la_160, la_200, la_400, la_600, la_999, la_1000, lm_0, lm_1, lm_2, lm_3, lm_4, lm_5, lm_6, lm_7, lm_8, lm_9, lm_10, lm_11, lm_12, lm_13, lm_14, lm_15, lm_16, lm_17, lm_18, lm_19, lm_20, lm_21, lm_24, lm_28, lm_31, lm_35, lm_37, lm_38, lm_40, lm_41, lm_60, lm_77, lm_78, lm_79, lm_80, lm_96, lm_99, lm_100, lm_127, lm_128, lm_150, lm_160, lm_200, lm_400, lm_600, lm_999, lm_1000, rm_0, rm_1, rm_2, rm_3, rm_4, rm_5, rm_6, rm_7, rm_8, rm_9, rm_10, rm_11, rm_12, rm_13, rm_14, rm_15, rm_16, rm_17, rm_18, rm_19, rm_20, rm_21, rm_24, rm_28, rm_31, rm_35, rm_37, rm_38, rm_40, rm_41, rm_60, rm_77, rm_78, rm_79, rm_80, rm_96, rm_99, rm_100, rm_127, rm_128, rm_150, rm_160, rm_200, rm_400, rm_600, rm_999, rm_1000, nar0, nar1_0, nar1_1, en, leI, nI_add]
    rw [if_neg (by omega), ya_row hb (by omega), nI_1]
  · show rn d 212 5 [.ref 53, .ref b, .int (nI j), .int _, .int (nI n)] [] σ = _
    rw [e_M_toldIn_5]
    simp (disch := first | assumption | decide | (simp only [Sh_wI, Sh_wA, Sh_wL, Sh_mT, ldA_wI, lwA_wI, bkA_wI, ldA_wA, lwA_wA, bkA_wA]; assumption) | omega) only [xr_53_12, xa_57, al_0, al_1, al_2, al_3, al_4, al_5, al_6, al_7, al_8, al_9, al_10, al_11, al_12, al_13, al_14, al_15, al_16, al_17, al_18, al_19, al_20, al_21, al_24, al_28, al_31, al_35, al_37, al_38, al_40, al_41, al_60, al_77, al_78, al_79, al_80, al_96, al_99, al_100, al_127, al_128, al_150, al_160, al_200, al_400, al_600, al_999, al_1000, tl_0, tl_1, tl_2, tl_3, tl_4, tl_5, tl_6, tl_7, tl_8, tl_9, tl_10, tl_11, tl_12, tl_13, tl_14, tl_15, tl_16, tl_17, tl_18, tl_19, tl_20, tl_21, tl_24, tl_28, tl_31, tl_35, tl_37, tl_38, tl_40, tl_41, tl_60, tl_77, tl_78, tl_79, tl_80, tl_96, tl_99, tl_100, tl_127, tl_128, tl_150, tl_160, tl_200, tl_400, tl_600, tl_999, tl_1000, la_0, la_1, la_2, la_3, la_4, la_5, la_6, la_7, la_8, la_9, la_10, la_11, la_12, la_13, la_14, la_15, la_16, la_17, la_18, la_19, la_20, la_21, la_24, la_28, la_31, la_35, la_37, la_38, la_40, la_41, la_60, la_77, la_78, la_79, la_80, la_96, la_99, la_100, la_127, la_128, la_150, la_160, la_200, la_400, la_600, la_999, la_1000, lm_0, lm_1, lm_2, lm_3, lm_4, lm_5, lm_6, lm_7, lm_8, lm_9, lm_10, lm_11, lm_12, lm_13, lm_14, lm_15, lm_16, lm_17, lm_18, lm_19, lm_20, lm_21, lm_24, lm_28, lm_31, lm_35, lm_37, lm_38, lm_40, lm_41, lm_60, lm_77, lm_78, lm_79, lm_80, lm_96, lm_99, lm_100, lm_127, lm_128, lm_150, lm_160, lm_200, lm_400, lm_600, lm_999, lm_1000, rm_0, rm_1, rm_2, rm_3, rm_4, rm_5, rm_6, rm_7, rm_8, rm_9, rm_10, rm_11, rm_12, rm_13, rm_14, rm_15, rm_16, rm_17, rm_18, rm_19, rm_20, rm_21, rm_24, rm_28, rm_31, rm_35, rm_37, rm_38, rm_40, rm_41, rm_60, rm_77, rm_78, rm_79, rm_80, rm_96, rm_99, rm_100, rm_127, rm_128, rm_150, rm_160, rm_200, rm_400, rm_600, rm_999, rm_1000, nar0, nar1_0, nar1_1, en, leI, nI_add]
    rw [if_pos (by omega)]
    try rfl
theorem m_grieves (hb : mK σ b = (1, 79)) {p : Nat} (hp : p < 7) (g : Int32) : ev d 217 [.ref b, .int (nI p), .int g] σ = if mI σ b p < g then some (.inl (.int 1), wA σ b (up (mI σ b) p g)) else some (.inl (.int 0), σ) := by
  rw [e_M_grieves]
  have e0 : (0 : Int32) + nI p = nI p := by rw [la_0, Nat.zero_add]
  rw [e0, ya_row hb (by omega), yt_row hb (by omega)]
  simp only [nar1_0, nar1_1]
theorem m_dayEnds (h : Sh σ) (hb : isRw b) {n : Nat} (hn : n ≤ 7) (en : mI σ 57 0 = nI n) : ev (d + 1) 218 [.ref 53, .ref b] σ = some (.inl uv, wA σ b (rDay n (mI σ 57 4) (mI σ b))) := by
  rw [e_M_dayEnds d 53 b σ (by rw [k_53 h])]
  have hk : mK σ b = (1, 79) := k_rw0 h hb
  have hbl : 57 ≠ b := by
    have h1 : b = 533 ∨ b = 534 := hb
    omega
  have e0 : ∀ p, (0 : Int32) + nI p = nI p := fun p => by rw [la_0, Nat.zero_add]
  obtain ⟨v, e⟩ := lpJ (F := fun i c (v : Value) => rn (d + 1) 218 2 [.ref 53, .ref b, .int (nI i), v] [] (wA σ b c)) (n := n) (st := rDay1 (mI σ 57 4)) (fun i c v hi => by
    try dsimp only
    rw [e_M_dayEnds_2]
    have hk' : ∀ f, mK (wA σ b f) b = (1, 79) := fun f => hk
    simp (disch := first | assumption | decide | (simp only [Sh_wI, Sh_wA, Sh_wL, Sh_mT, ldA_wI, lwA_wI, bkA_wI, ldA_wA, lwA_wA, bkA_wA]; assumption) | omega) only [xr_53_12, xa_57, xa_rw0, yt_rw, rA_a, rA_o, wA_wA, m_less, cI1, al_0, al_1, al_2, al_3, al_4, al_5, al_6, al_7, al_8, al_9, al_10, al_11, al_12, al_13, al_14, al_15, al_16, al_17, al_18, al_19, al_20, al_21, al_24, al_28, al_31, al_35, al_37, al_38, al_40, al_41, al_60, al_77, al_78, al_79, al_80, al_96, al_99, al_100, al_127, al_128, al_150, al_160, al_200, al_400, al_600, al_999, al_1000, tl_0, tl_1, tl_2, tl_3, tl_4, tl_5, tl_6, tl_7, tl_8, tl_9, tl_10, tl_11, tl_12, tl_13, tl_14, tl_15, tl_16, tl_17, tl_18, tl_19, tl_20, tl_21, tl_24, tl_28, tl_31, tl_35, tl_37, tl_38, tl_40, tl_41, tl_60, tl_77, tl_78, tl_79, tl_80, tl_96, tl_99, tl_100, tl_127, tl_128, tl_150, tl_160, tl_200, tl_400, tl_600, tl_999, tl_1000, la_0, la_1, la_2, la_3, la_4, la_5, la_6, la_7, la_8, la_9, la_10, la_11, la_12, la_13, la_14, la_15, la_16, la_17, la_18, la_19, la_20, la_21, la_24, la_28, la_31, la_35, la_37, la_38, la_40, la_41, la_60, la_77, la_78, la_79, la_80, la_96, la_99, la_100, la_127, la_128, la_150, la_160, la_200, la_400, la_600, la_999, la_1000, lm_0, lm_1, lm_2, lm_3, lm_4, lm_5, lm_6, lm_7, lm_8, lm_9, lm_10, lm_11, lm_12, lm_13, lm_14, lm_15, lm_16, lm_17, lm_18, lm_19, lm_20, lm_21, lm_24, lm_28, lm_31, lm_35, lm_37, lm_38, lm_40, lm_41, lm_60, lm_77, lm_78, lm_79, lm_80, lm_96, lm_99, lm_100, lm_127, lm_128, lm_150, lm_160, lm_200, lm_400, lm_600, lm_999, lm_1000, rm_0, rm_1, rm_2, rm_3, rm_4, rm_5, rm_6, rm_7, rm_8, rm_9, rm_10, rm_11, rm_12, rm_13, rm_14, rm_15, rm_16, rm_17, rm_18, rm_19, rm_20, rm_21, rm_24, rm_28, rm_31, rm_35, rm_37, rm_38, rm_40, rm_41, rm_60, rm_77, rm_78, rm_79, rm_80, rm_96, rm_99, rm_100, rm_127, rm_128, rm_150, rm_160, rm_200, rm_400, rm_600, rm_999, rm_1000, nar0, nar1_0, nar1_1, en, leI]
    rw [if_neg (by omega)]
    by_cases q : mnn (mI σ 57 4) (c 77) = mI σ 57 4
    · rw [if_pos q, e_M_dayEnds_73]
      simp (disch := first | assumption | decide | (simp only [Sh_wI, Sh_wA, Sh_wL, Sh_mT, ldA_wI, lwA_wI, bkA_wI, ldA_wA, lwA_wA, bkA_wA]; assumption) | omega) only [xr_53_12, xa_rw0, yt_rw, rA_a, rA_o, wA_wA, m_more, cI1, e0, al_0, al_1, al_2, al_3, al_4, al_5, al_6, al_7, al_8, al_9, al_10, al_11, al_12, al_13, al_14, al_15, al_16, al_17, al_18, al_19, al_20, al_21, al_24, al_28, al_31, al_35, al_37, al_38, al_40, al_41, al_60, al_77, al_78, al_79, al_80, al_96, al_99, al_100, al_127, al_128, al_150, al_160, al_200, al_400, al_600, al_999, al_1000, tl_0, tl_1, tl_2, tl_3, tl_4, tl_5, tl_6, tl_7, tl_8, tl_9, tl_10, tl_11, tl_12, tl_13, tl_14, tl_15, tl_16, tl_17, tl_18, tl_19, tl_20, tl_21, tl_24, tl_28, tl_31, tl_35, tl_37, tl_38, tl_40, tl_41, tl_60, tl_77, tl_78, tl_79, tl_80, tl_96, tl_99, tl_100, tl_127, tl_128, tl_150, tl_160, tl_200, tl_400, tl_600, tl_999, tl_1000, la_0, la_1, la_2, la_3, la_4, la_5, la_6, la_7, la_8, la_9, la_10, la_11, la_12, la_13, la_14, la_15, la_16, la_17, la_18, la_19, la_20, la_21, la_24, la_28, la_31, la_35, la_37, la_38, la_40, la_41, la_60, la_77, la_78, la_79, la_80, la_96, la_99, la_100, la_127, la_128, la_150, la_160, la_200, la_400, la_600, la_999, la_1000, lm_0, lm_1, lm_2, lm_3, lm_4, lm_5, lm_6, lm_7, lm_8, lm_9, lm_10, lm_11, lm_12, lm_13, lm_14, lm_15, lm_16, lm_17, lm_18, lm_19, lm_20, lm_21, lm_24, lm_28, lm_31, lm_35, lm_37, lm_38, lm_40, lm_41, lm_60, lm_77, lm_78, lm_79, lm_80, lm_96, lm_99, lm_100, lm_127, lm_128, lm_150, lm_160, lm_200, lm_400, lm_600, lm_999, lm_1000, rm_0, rm_1, rm_2, rm_3, rm_4, rm_5, rm_6, rm_7, rm_8, rm_9, rm_10, rm_11, rm_12, rm_13, rm_14, rm_15, rm_16, rm_17, rm_18, rm_19, rm_20, rm_21, rm_24, rm_28, rm_31, rm_35, rm_37, rm_38, rm_40, rm_41, rm_60, rm_77, rm_78, rm_79, rm_80, rm_96, rm_99, rm_100, rm_127, rm_128, rm_150, rm_160, rm_200, rm_400, rm_600, rm_999, rm_1000, nar0, nar1_0, nar1_1]
      refine ⟨.int (mnn (mI σ 57 4) (c 77)), ?_⟩
      unfold rDay1
      simp only [if_pos q]
      rw [nI_1]
    · rw [if_neg q, e_M_dayEnds_73]
      simp (disch := first | assumption | decide | (simp only [Sh_wI, Sh_wA, Sh_wL, Sh_mT, ldA_wI, lwA_wI, bkA_wI, ldA_wA, lwA_wA, bkA_wA]; assumption) | omega) only [xr_53_12, xa_rw0, yt_rw, rA_a, rA_o, wA_wA, m_more, cI1, e0, al_0, al_1, al_2, al_3, al_4, al_5, al_6, al_7, al_8, al_9, al_10, al_11, al_12, al_13, al_14, al_15, al_16, al_17, al_18, al_19, al_20, al_21, al_24, al_28, al_31, al_35, al_37, al_38, al_40, al_41, al_60, al_77, al_78, al_79, al_80, al_96, al_99, al_100, al_127, al_128, al_150, al_160, al_200, al_400, al_600, al_999, al_1000, tl_0, tl_1, tl_2, tl_3, tl_4, tl_5, tl_6, tl_7, tl_8, tl_9, tl_10, tl_11, tl_12, tl_13, tl_14, tl_15, tl_16, tl_17, tl_18, tl_19, tl_20, tl_21, tl_24, tl_28, tl_31, tl_35, tl_37, tl_38, tl_40, tl_41, tl_60, tl_77, tl_78, tl_79, tl_80, tl_96, tl_99, tl_100, tl_127, tl_128, tl_150, tl_160, tl_200, tl_400, tl_600, tl_999, tl_1000, la_0, la_1, la_2, la_3, la_4, la_5, la_6, la_7, la_8, la_9, la_10, la_11, la_12, la_13, la_14, la_15, la_16, la_17, la_18, la_19, la_20, la_21, la_24, la_28, la_31, la_35, la_37, la_38, la_40, la_41, la_60, la_77, la_78, la_79, la_80, la_96, la_99, la_100, la_127, la_128, la_150, la_160, la_200, la_400, la_600, la_999, la_1000, lm_0, lm_1, lm_2, lm_3, lm_4, lm_5, lm_6, lm_7, lm_8, lm_9, lm_10, lm_11, lm_12, lm_13, lm_14, lm_15, lm_16, lm_17, lm_18, lm_19, lm_20, lm_21, lm_24, lm_28, lm_31, lm_35, lm_37, lm_38, lm_40, lm_41, lm_60, lm_77, lm_78, lm_79, lm_80, lm_96, lm_99, lm_100, lm_127, lm_128, lm_150, lm_160, lm_200, lm_400, lm_600, lm_999, lm_1000, rm_0, rm_1, rm_2, rm_3, rm_4, rm_5, rm_6, rm_7, rm_8, rm_9, rm_10, rm_11, rm_12, rm_13, rm_14, rm_15, rm_16, rm_17, rm_18, rm_19, rm_20, rm_21, rm_24, rm_28, rm_31, rm_35, rm_37, rm_38, rm_40, rm_41, rm_60, rm_77, rm_78, rm_79, rm_80, rm_96, rm_99, rm_100, rm_127, rm_128, rm_150, rm_160, rm_200, rm_400, rm_600, rm_999, rm_1000, nar0, nar1_0, nar1_1]
      refine ⟨.int (mnn (mI σ 57 4) (c 77)), ?_⟩
      unfold rDay1
      simp only [if_neg q]
      rw [nI_1]) (mI σ b) uv
  try dsimp only at e
  rw [wA_id] at e
  refine e.trans ?_
  have hk' : ∀ f, mK (wA σ b f) b = (1, 79) := fun f => hk
  rw [e_M_dayEnds_2]
  simp (disch := first | assumption | decide | (simp only [Sh_wI, Sh_wA, Sh_wL, Sh_mT, ldA_wI, lwA_wI, bkA_wI, ldA_wA, lwA_wA, bkA_wA]; assumption) | omega) only [xr_53_12, xa_57, xa_rw0, yt_rw, rA_a, rA_o, wA_wA, al_0, al_1, al_2, al_3, al_4, al_5, al_6, al_7, al_8, al_9, al_10, al_11, al_12, al_13, al_14, al_15, al_16, al_17, al_18, al_19, al_20, al_21, al_24, al_28, al_31, al_35, al_37, al_38, al_40, al_41, al_60, al_77, al_78, al_79, al_80, al_96, al_99, al_100, al_127, al_128, al_150, al_160, al_200, al_400, al_600, al_999, al_1000, tl_0, tl_1, tl_2, tl_3, tl_4, tl_5, tl_6, tl_7, tl_8, tl_9, tl_10, tl_11, tl_12, tl_13, tl_14, tl_15, tl_16, tl_17, tl_18, tl_19, tl_20, tl_21, tl_24, tl_28, tl_31, tl_35, tl_37, tl_38, tl_40, tl_41, tl_60, tl_77, tl_78, tl_79, tl_80, tl_96, tl_99, tl_100, tl_127, tl_128, tl_150, tl_160, tl_200, tl_400, tl_600, tl_999, tl_1000, la_0, la_1, la_2, la_3, la_4, la_5, la_6, la_7, la_8, la_9, la_10, la_11, la_12, la_13, la_14, la_15, la_16, la_17, la_18, la_19, la_20, la_21, la_24, la_28, la_31, la_35, la_37, la_38, la_40, la_41, la_60, la_77, la_78, la_79, la_80, la_96, la_99, la_100, la_127, la_128, la_150, la_160, la_200, la_400, la_600, la_999, la_1000, lm_0, lm_1, lm_2, lm_3, lm_4, lm_5, lm_6, lm_7, lm_8, lm_9, lm_10, lm_11, lm_12, lm_13, lm_14, lm_15, lm_16, lm_17, lm_18, lm_19, lm_20, lm_21, lm_24, lm_28, lm_31, lm_35, lm_37, lm_38, lm_40, lm_41, lm_60, lm_77, lm_78, lm_79, lm_80, lm_96, lm_99, lm_100, lm_127, lm_128, lm_150, lm_160, lm_200, lm_400, lm_600, lm_999, lm_1000, rm_0, rm_1, rm_2, rm_3, rm_4, rm_5, rm_6, rm_7, rm_8, rm_9, rm_10, rm_11, rm_12, rm_13, rm_14, rm_15, rm_16, rm_17, rm_18, rm_19, rm_20, rm_21, rm_24, rm_28, rm_31, rm_35, rm_37, rm_38, rm_40, rm_41, rm_60, rm_77, rm_78, rm_79, rm_80, rm_96, rm_99, rm_100, rm_127, rm_128, rm_150, rm_160, rm_200, rm_400, rm_600, rm_999, rm_1000, nar0, nar1_0, nar1_1, en, leI]
  rw [if_pos (by omega)]
  rfl
end RowC
