/-! texts: spans of bytes, and the class's Tape over them -/
def spn (P : Nat → Bool) (t : Nat → Nat) (n : Nat) : Nat → Nat → Nat
  | 0, i => i
  | k + 1, i => if i < n ∧ P (t i) = true then spn P t n k (i + 1) else i
/-- the first place from i on where P doesn't hold (n at most) -/
def sp (P : Nat → Bool) (t : Nat → Nat) (n i : Nat) : Nat := spn P t n (n - i) i
section Spans
variable {P : Nat → Bool} {t : Nat → Nat} {n : Nat}
theorem sp_go {i : Nat} (h : i < n) (hp : P (t i) = true) : sp P t n i = sp P t n (i + 1) := by
  unfold sp
  rw [show n - i = (n - (i + 1)) + 1 by omega]
  show (if i < n ∧ P (t i) = true then _ else _) = _
  rw [if_pos ⟨h, hp⟩]
theorem sp_no {i : Nat} (h : ¬ (i < n ∧ P (t i) = true)) : sp P t n i = i := by
  unfold sp
  cases n - i with
  | zero => rfl
  | succ k => show (if i < n ∧ P (t i) = true then _ else _) = _; rw [if_neg h]
theorem sp_all (i : Nat) (hi : i ≤ n) : i ≤ sp P t n i ∧ sp P t n i ≤ n ∧ ¬ (sp P t n i < n ∧ P (t (sp P t n i)) = true) ∧ ∀ j, i ≤ j → j < sp P t n i → P (t j) = true := by
  have key : ∀ k i, n - i = k → i ≤ n → i ≤ sp P t n i ∧ sp P t n i ≤ n ∧ ¬ (sp P t n i < n ∧ P (t (sp P t n i)) = true) ∧ ∀ j, i ≤ j → j < sp P t n i → P (t j) = true := by
    intro k
    induction k with
    | zero =>
      intro i h hi
      have e : sp P t n i = i := sp_no (by omega)
      rw [e]
      exact ⟨Nat.le_refl _, hi, by omega, fun j h1 h2 => by omega⟩
    | succ k ih =>
      intro i h hi
      by_cases q : i < n ∧ P (t i) = true
      · obtain ⟨a1, a2, a3, a4⟩ := ih (i + 1) (by omega) (by omega)
        rw [← sp_go q.1 q.2] at a1 a2 a3 a4
        refine ⟨by omega, a2, a3, fun j h1 h2 => ?_⟩
        by_cases e : j = i
        · rw [e]; exact q.2
        · exact a4 j (by omega) h2
      · rw [sp_no q]
        exact ⟨Nat.le_refl _, hi, q, fun j h1 h2 => by omega⟩
  exact key (n - i) i rfl hi
end Spans
def isB (c : Nat) : Bool := c == 32
def isD (c : Nat) : Bool := decide (48 ≤ c ∧ c ≤ 57)
def isL (c : Nat) : Bool := decide (97 ≤ c ∧ c ≤ 122)
/-- the number that the digits i .. j - 1 tell -/
def decV (t : Nat → Nat) (i j : Nat) : Nat := fo (j - i) (fun k v => 10 * v + (t (i + k) - 48)) 0
theorem decV_s {t : Nat → Nat} {i j : Nat} (h : i ≤ j) : decV t i (j + 1) = 10 * decV t i j + (t j - 48) := by
  unfold decV
  rw [show j + 1 - i = (j - i) + 1 by omega, fo_s, show i + (j - i) = j by omega]
def tkK (t : Nat → Nat) (n s : Nat) : Nat := if s < n then (if isD (t s) then 1 else if isL (t s) then 2 else 3) else 0
def tkE (t : Nat → Nat) (n s : Nat) : Nat := if s < n then (if isD (t s) then sp isD t n s else if isL (t s) then sp isL t n s else s + 1) else s
def sb (c : Nat) : Int32 := (nI c).toInt8.toInt32
/-- the class's value of a number V -/
def CV (x : Int32) (V : Nat) : Prop := (V < 100000 ∧ x = nI V) ∨ (100000 ≤ V ∧ ∃ c, 100000 ≤ c ∧ c < 1000000 ∧ x = nI c)
theorem sb_32 : ∀ c, c < 256 → (sb c = 32 ↔ isB c = true) := by decide +kernel
theorem sb_d : ∀ c, c < 256 → ((sb c < 48 → isD c = false) ∧ (57 < sb c → isD c = false) ∧ (¬ sb c < 48 → ¬ 57 < sb c → isD c = true ∧ sb c = nI c)) := by decide +kernel
theorem sb_l : ∀ c, c < 256 → ((sb c < 97 → isL c = false) ∧ (122 < sb c → isL c = false) ∧ (¬ sb c < 97 → ¬ 122 < sb c → isL c = true)) := by decide +kernel
/-- a text of n bytes, as the class's TAPE has it -/
def TxC (σ : mm_M) (t : Nat → Nat) (n : Nat) : Prop := n ≤ 600 ∧ (∀ k, t k < 256) ∧ ∀ k, k < 600 → mI σ 2 k = sb (t k)
/-- the reader stands at s: the numbers f of the TAPE -/
def TKf (f : Nat → Int32) (t : Nat → Nat) (n s : Nat) : Prop := s ≤ n ∧ ¬ (s < n ∧ isB (t s) = true) ∧ f 2 = nI n ∧ f 3 = nI (tkE t n s) ∧ f 4 = nI (tkK t n s) ∧ f 5 = nI s ∧ (tkK t n s = 1 → CV (f 6) (decV t s (tkE t n s))) ∧ (tkK t n s = 3 → f 6 = sb (t s))
section TapeV
variable {σ : mm_M} {d : Nat} {t : Nat → Nat} {n : Nat}
theorem aB_k {a p m : Nat} (h : mK σ a = (3, m)) (hp : p < m) (hn : m < 2147483648) (k : Int32 → Option mm_R) : aB σ a (nI p) k = k (mI σ a p) := by
  unfold aB
  rw [h, if_pos ⟨Or.inl rfl, in_nI hp hn⟩, ix_nI (Nat.lt_trans hp hn)]
theorem xb_2 (h : Sh σ) {p : Nat} (hp : p < 600) (k : Int32 → Option mm_R) : aB σ 2 (nI p) k = k (mI σ 2 p) := aB_k (k_2 h) hp (by decide) k
theorem yg_1 (h : Sh σ) (f : Nat → Int32) (x : Nat) (k : Int32 → Option mm_R) : gI (wA σ 1 f) 1 1 x k = k (f x) := by rw [xg_1 (σ := wA σ 1 f) h, rA_a]
theorem ys_1 (h : Sh σ) (f : Nat → Int32) (x : Nat) (v : Int32) (k : mm_M → Option mm_R) : sI (wA σ 1 f) 1 1 x v k = k (wA σ 1 (up f x v)) := by rw [xs_1 (σ := wA σ 1 f) h, w_up, rA_a, wA_wA]
theorem yr_1 (h : Sh σ) (f : Nat → Int32) (k : Nat → Option mm_R) : gR (wA σ 1 f) 1 1 0 k = k 2 := xr_1_0 (σ := wA σ 1 f) h k
theorem yb_2 (h : Sh σ) (hx : TxC σ t n) (f : Nat → Int32) {p : Nat} (hp : p < 600) (k : Int32 → Option mm_R) : aB (wA σ 1 f) 2 (nI p) k = k (sb (t p)) := by rw [xb_2 (σ := wA σ 1 f) h hp, rA_o (by decide), hx.2.2 p hp]
theorem nx_blank (h : Sh σ) (hx : TxC σ t n) : ∀ k i f, n - i = k → i ≤ n → f 5 = nI i → f 2 = nI n → ∃ f', rn d 17 8 [.ref 1] [] (wA σ 1 f) = rn d 17 46 [.ref 1] [] (wA σ 1 f') ∧ f' 5 = nI (sp isB t n i) ∧ ∀ x, x ≠ 5 → f' x = f x := by
  intro k
  have hn := hx.1
  induction k with
  | zero =>
    intro i f hk hi e5 e2
    refine ⟨f, ?_, by rw [sp_no (by omega)]; exact e5, fun _ _ => rfl⟩
    rw [e_Tape_next_8, yg_1 h, yg_1 h, e5, e2, if_pos (show nI n ≤ nI i from nI_le (a := n) (b := i) (by omega) (by omega))]
  | succ k ih =>
    intro i f hk hi e5 e2
    rw [e_Tape_next_8, yg_1 h, yg_1 h, e5, e2, if_neg (show ¬ nI n ≤ nI i from nI_ge (b := n) (a := i) (by omega) (by omega)), yr_1 h, yg_1 h, e5, yb_2 h hx f (by omega)]
    by_cases q : isB (t i) = true
    · rw [if_pos ((sb_32 _ (hx.2.1 i)).mpr q), yg_1 h, e5, ys_1 h, nI_1]
      obtain ⟨f', g1, g2, g3⟩ := ih (i + 1) (up f 5 (nI (i + 1))) (by omega) (by omega) (up_e _ _ _) (by rw [up_n (by omega)]; exact e2)
      exact ⟨f', g1, by rw [sp_go (by omega) q]; exact g2, fun x hx => by rw [g3 x hx, up_n hx]⟩
    · rw [if_neg (fun z => q ((sb_32 _ (hx.2.1 i)).mp z))]
      exact ⟨f, rfl, by rw [sp_no (fun z => q z.2)]; exact e5, fun _ _ => rfl⟩
theorem cv_step {x : Int32} {V c : Nat} (h : CV x V) (hc : c ≤ 9) : (100000 ≤ x → CV 100000 (10 * V + c)) ∧ (¬ 100000 ≤ x → CV (x * 10 + nI (48 + c) - 48) (10 * V + c)) := by
  rcases h with ⟨h1, rfl⟩ | ⟨h1, y, h2, h3, rfl⟩
  · refine ⟨fun q => ?_, fun _ => ?_⟩
    · have : 100000 ≤ V := (nI_leI (a := 100000) (by decide) (by omega)).mp q
      omega
    · have e : nI V * 10 + nI (48 + c) - 48 = nI (10 * V + c) := by
        rw [rm_10, nI_add, show nI (V * 10 + (48 + c)) - (48 : Int32) = nI (V * 10 + (48 + c) - 48) from pk_sub (b := 48) (by omega)]
        congr 1
        omega
      rw [e]
      by_cases q : 10 * V + c < 100000
      · exact Or.inl ⟨q, rfl⟩
      · exact Or.inr ⟨by omega, _, by omega, by omega, rfl⟩
  · refine ⟨fun _ => Or.inr ⟨by omega, 100000, by omega, by omega, rfl⟩, fun q => ?_⟩
    exact absurd ((nI_leI (a := 100000) (by decide) (by omega)).mpr h2) q
theorem nx_digits (h : Sh σ) (hx : TxC σ t n) {s : Nat} : ∀ k j f, n - j = k → s ≤ j → j ≤ n → f 3 = nI j → f 2 = nI n → CV (f 6) (decV t s j) → ∃ f', rn d 17 59 [.ref 1] [] (wA σ 1 f) = rn d 17 149 [.ref 1] [] (wA σ 1 f') ∧ f' 3 = nI (sp isD t n j) ∧ CV (f' 6) (decV t s (sp isD t n j)) ∧ ∀ x, x ≠ 3 → x ≠ 6 → f' x = f x := by
  intro k
  have hn := hx.1
  induction k with
  | zero =>
    intro j f hk hs hj e3 e2 ev
    rw [sp_no (i := j) (by omega)]
    refine ⟨f, ?_, e3, ev, fun _ _ _ => rfl⟩
    rw [e_Tape_next_59, yg_1 h, yg_1 h, e3, e2, if_pos (show nI n ≤ nI j from nI_le (a := n) (b := j) (by omega) (by omega))]
  | succ k ih =>
    intro j f hk hs hj e3 e2 ev
    obtain ⟨b1, b2, b3⟩ := sb_d _ (hx.2.1 j)
    rw [e_Tape_next_59, yg_1 h, yg_1 h, e3, e2, if_neg (show ¬ nI n ≤ nI j from nI_ge (b := n) (a := j) (by omega) (by omega)), yr_1 h, yg_1 h, e3, yb_2 h hx f (by omega)]
    by_cases q1 : sb (t j) < 48
    · rw [if_pos q1]
      rw [sp_no (i := j) (fun z => by rw [b1 q1] at z; exact absurd z.2 (by decide))]
      exact ⟨f, rfl, e3, ev, fun _ _ _ => rfl⟩
    · rw [if_neg q1, yr_1 h, yg_1 h, e3, yb_2 h hx f (by omega)]
      by_cases q2 : 57 < sb (t j)
      · rw [if_pos q2]
        rw [sp_no (i := j) (fun z => by rw [b2 q2] at z; exact absurd z.2 (by decide))]
        exact ⟨f, rfl, e3, ev, fun _ _ _ => rfl⟩
      · obtain ⟨b4, b5⟩ := b3 q1 q2
        have hc : 48 ≤ t j ∧ t j ≤ 57 := of_decide_eq_true b4
        have hstep := cv_step ev (c := t j - 48) (by omega)
        rw [show 48 + (t j - 48) = t j by omega, ← b5, ← decV_s hs] at hstep
        rw [if_neg q2, yg_1 h]
        have go : ∀ y, CV y (decV t s (j + 1)) → ∃ f', rn d 17 133 [.ref 1] [.int y, .ref 1] (wA σ 1 f) = rn d 17 149 [.ref 1] [] (wA σ 1 f') ∧ f' 3 = nI (sp isD t n j) ∧ CV (f' 6) (decV t s (sp isD t n j)) ∧ ∀ x, x ≠ 3 → x ≠ 6 → f' x = f x := by
          intro y hy
          rw [e_Tape_next_133, ys_1 h, yg_1 h, up_n (by decide), e3, ys_1 h, nI_1]
          obtain ⟨f', g1, g2, g3, g4⟩ := ih (j + 1) (up (up f 6 y) 3 (nI (j + 1))) (by omega) (by omega) (by omega) (up_e _ _ _) (by rw [up_n (by decide), up_n (by decide)]; exact e2) (by rw [up_n (by decide), up_e]; exact hy)
          rw [sp_go (by omega) b4]
          exact ⟨f', g1, g2, g3, fun x h3 h6 => by rw [g4 x h3 h6, up_n h3, up_n h6]⟩
        by_cases q3 : 100000 ≤ f 6
        · rw [if_pos q3]
          exact go _ (hstep.1 q3)
        · rw [if_neg q3, yg_1 h, yr_1 h, yg_1 h, e3, yb_2 h hx f (by omega)]
          exact go _ (hstep.2 q3)
theorem nx_letters (h : Sh σ) (hx : TxC σ t n) : ∀ k j f, n - j = k → j ≤ n → f 3 = nI j → f 2 = nI n → ∃ f', rn d 17 166 [.ref 1] [] (wA σ 1 f) = rn d 17 218 [.ref 1] [] (wA σ 1 f') ∧ f' 3 = nI (sp isL t n j) ∧ ∀ x, x ≠ 3 → f' x = f x := by
  intro k
  have hn := hx.1
  induction k with
  | zero =>
    intro j f hk hj e3 e2
    rw [sp_no (i := j) (by omega)]
    refine ⟨f, ?_, e3, fun _ _ => rfl⟩
    rw [e_Tape_next_166, yg_1 h, yg_1 h, e3, e2, if_pos (show nI n ≤ nI j from nI_le (a := n) (b := j) (by omega) (by omega))]
  | succ k ih =>
    intro j f hk hj e3 e2
    obtain ⟨b1, b2, b3⟩ := sb_l _ (hx.2.1 j)
    rw [e_Tape_next_166, yg_1 h, yg_1 h, e3, e2, if_neg (show ¬ nI n ≤ nI j from nI_ge (b := n) (a := j) (by omega) (by omega)), yr_1 h, yg_1 h, e3, yb_2 h hx f (by omega)]
    by_cases q1 : sb (t j) < 97
    · rw [if_pos q1]
      rw [sp_no (i := j) (fun z => by rw [b1 q1] at z; exact absurd z.2 (by decide))]
      exact ⟨f, rfl, e3, fun _ _ => rfl⟩
    · rw [if_neg q1, yr_1 h, yg_1 h, e3, yb_2 h hx f (by omega)]
      by_cases q2 : 122 < sb (t j)
      · rw [if_pos q2]
        rw [sp_no (i := j) (fun z => by rw [b2 q2] at z; exact absurd z.2 (by decide))]
        exact ⟨f, rfl, e3, fun _ _ => rfl⟩
      · have b4 := b3 q1 q2
        rw [if_neg q2, yg_1 h, e3, ys_1 h, nI_1]
        obtain ⟨f', g1, g2, g3⟩ := ih (j + 1) (up f 3 (nI (j + 1))) (by omega) (by omega) (up_e _ _ _) (by rw [up_n (by decide)]; exact e2)
        rw [sp_go (by omega) b4]
        exact ⟨f', g1, g2, fun x h3 => by rw [g3 x h3, up_n h3]⟩
theorem isDL {c : Nat} (h : isD c = true) : isL c = false := by
  have := of_decide_eq_true h
  exact decide_eq_false (by omega)
/-- next: to the token behind -/
theorem c_next (h : Sh σ) (hx : TxC σ t n) {f : Nat → Int32} {b : Nat} (hb : b ≤ n) (e3 : f 3 = nI b) (e2 : f 2 = nI n) : ∃ f', ev d 17 [.ref 1] (wA σ 1 f) = some (.inl uv, wA σ 1 f') ∧ TKf f' t n (sp isB t n b) ∧ ∀ x, x ≠ 3 → x ≠ 4 → x ≠ 5 → x ≠ 6 → f' x = f x := by
  have hn := hx.1
  rw [e_Tape_next d 1 (wA σ 1 f) (by rw [k_1 (σ := wA σ 1 f) h]), yg_1 h, ys_1 h, e3]
  obtain ⟨f1, r1, p1, o1⟩ := nx_blank (d := d) h hx (n - b) b (up f 5 (nI b)) rfl hb (up_e _ _ _) (by rw [up_n (by decide)]; exact e2)
  obtain ⟨s1, s2, s3, s4⟩ := sp_all (P := isB) (t := t) b hb
  rw [r1]
  generalize hs : sp isB t n b = s at *
  rw [e_Tape_next_46, yg_1 h, ys_1 h, p1, ys_1 h]
  obtain ⟨f2, r2, p2, c2, o2⟩ := nx_digits (d := d) h hx (s := s) (n - s) s (up (up f1 3 (nI s)) 6 0) rfl (Nat.le_refl _) s2 (by rw [up_n (by decide), up_e]) (by rw [up_n (by decide), up_n (by decide), o1 _ (by decide), up_n (by decide)]; exact e2) (by rw [up_e]; left; exact ⟨by unfold decV; rw [Nat.sub_self]; show 0 < 100000; omega, by unfold decV; rw [Nat.sub_self]; rfl⟩)
  rw [r2, e_Tape_next_149, yg_1 h, yg_1 h]
  have q5 : f2 5 = nI s := by rw [o2 5 (by decide) (by decide), up_n (by decide), up_n (by decide)]; exact p1
  have q2 : f2 2 = nI n := by rw [o2 2 (by decide) (by decide), up_n (by decide), up_n (by decide), o1 _ (by decide), up_n (by decide)]; exact e2
  have qo : ∀ x, x ≠ 3 → x ≠ 4 → x ≠ 5 → x ≠ 6 → f2 x = f x := fun x h3 h4 h5 h6 => by rw [o2 x h3 h6, up_n h6, up_n h3, o1 x h5, up_n h5]
  rw [p2, q5]
  obtain ⟨d1, d2, d3, d4⟩ := sp_all (P := isD) (t := t) s s2
  by_cases hD : s < n ∧ isD (t s) = true
  · have hlt : s < sp isD t n s := by
      rw [sp_go hD.1 hD.2]
      exact (sp_all (P := isD) (t := t) (s + 1) (by omega)).1
    rw [if_neg (show ¬ nI (sp isD t n s) ≤ nI s from nI_ge (b := (sp isD t n s)) (a := s) (by omega) (by omega)), ys_1 h]
    have ek : tkK t n s = 1 := by unfold tkK; rw [if_pos hD.1, if_pos hD.2]
    have ee : tkE t n s = sp isD t n s := by unfold tkE; rw [if_pos hD.1, if_pos hD.2]
    refine ⟨up f2 4 1, rfl, ⟨s2, s3, by rw [up_n (by decide)]; exact q2, by rw [up_n (by decide), p2, ee], by rw [up_e, ek]; rfl, by rw [up_n (by decide)]; exact q5, fun _ => by rw [up_n (by decide), ee]; exact c2, fun z => by omega⟩, fun x h3 h4 h5 h6 => by rw [up_n h4]; exact qo x h3 h4 h5 h6⟩
  · rw [sp_no hD] at p2 c2 ⊢
    rw [if_pos (Int32.le_refl _)]
    obtain ⟨f3, r3, p3, o3⟩ := nx_letters (d := d) h hx (n - s) s f2 rfl s2 p2 q2
    rw [r3, e_Tape_next_218, yg_1 h, yg_1 h, p3]
    have q5' : f3 5 = nI s := by rw [o3 5 (by decide)]; exact q5
    have q2' : f3 2 = nI n := by rw [o3 2 (by decide)]; exact q2
    have qo' : ∀ x, x ≠ 3 → x ≠ 4 → x ≠ 5 → x ≠ 6 → f3 x = f x := fun x h3 h4 h5 h6 => by rw [o3 x h3]; exact qo x h3 h4 h5 h6
    rw [q5']
    obtain ⟨l1, l2, l3, l4⟩ := sp_all (P := isL) (t := t) s s2
    by_cases hL : s < n ∧ isL (t s) = true
    · have hlt : s < sp isL t n s := by
        rw [sp_go hL.1 hL.2]
        exact (sp_all (P := isL) (t := t) (s + 1) (by omega)).1
      have hnd : ¬ isD (t s) = true := fun z => hD ⟨hL.1, z⟩
      rw [if_neg (show ¬ nI (sp isL t n s) ≤ nI s from nI_ge (b := (sp isL t n s)) (a := s) (by omega) (by omega)), ys_1 h]
      have ek : tkK t n s = 2 := by unfold tkK; rw [if_pos hL.1, if_neg hnd, if_pos hL.2]
      have ee : tkE t n s = sp isL t n s := by unfold tkE; rw [if_pos hL.1, if_neg hnd, if_pos hL.2]
      exact ⟨up f3 4 2, rfl, ⟨s2, s3, by rw [up_n (by decide)]; exact q2', by rw [up_n (by decide), p3, ee], by rw [up_e, ek]; rfl, by rw [up_n (by decide)]; exact q5', fun z => by omega, fun z => by omega⟩, fun x h3 h4 h5 h6 => by rw [up_n h4]; exact qo' x h3 h4 h5 h6⟩
    · rw [sp_no hL] at p3 ⊢
      rw [if_pos (Int32.le_refl _), ys_1 h, yg_1 h, yg_1 h, up_n (by decide), up_n (by decide), q5', q2']
      by_cases hE : s < n
      · have hnd : ¬ isD (t s) = true := fun z => hD ⟨hE, z⟩
        have hnl : ¬ isL (t s) = true := fun z => hL ⟨hE, z⟩
        have ek : tkK t n s = 3 := by unfold tkK; rw [if_pos hE, if_neg hnd, if_neg hnl]
        have ee : tkE t n s = s + 1 := by unfold tkE; rw [if_pos hE, if_neg hnd, if_neg hnl]
        rw [if_neg (show ¬ nI n ≤ nI s from nI_ge (b := n) (a := s) (by omega) (by omega)), ys_1 h, yr_1 h, yg_1 h, up_n (by decide), up_n (by decide), q5', yb_2 h hx _ (by omega), ys_1 h, yg_1 h, up_n (by decide), up_n (by decide), up_n (by decide), p3, ys_1 h, nI_1, e_Tape_next_279]
        exact ⟨_, rfl, ⟨s2, s3, by rw [up_n (by decide), up_n (by decide), up_n (by decide), up_n (by decide)]; exact q2', by rw [up_e, ee], by rw [up_n (by decide), up_n (by decide), up_e, ek]; rfl, by rw [up_n (by decide), up_n (by decide), up_n (by decide), up_n (by decide)]; exact q5', fun z => by omega, fun _ => by rw [up_n (by decide), up_e]⟩, fun x h3 h4 h5 h6 => by rw [up_n h3, up_n h6, up_n h4, up_n h4]; exact qo' x h3 h4 h5 h6⟩
      · have ek : tkK t n s = 0 := by unfold tkK; rw [if_neg hE]
        have ee : tkE t n s = s := by unfold tkE; rw [if_neg hE]
        rw [if_pos (show nI n ≤ nI s from nI_le (a := n) (b := s) (by omega) (by omega)), e_Tape_next_279]
        exact ⟨_, rfl, ⟨s2, s3, by rw [up_n (by decide)]; exact q2', by rw [up_n (by decide), p3, ee], by rw [up_e, ek]; rfl, by rw [up_n (by decide)]; exact q5', fun z => by omega, fun z => by omega⟩, fun x h3 h4 h5 h6 => by rw [up_n h4]; exact qo' x h3 h4 h5 h6⟩
end TapeV
