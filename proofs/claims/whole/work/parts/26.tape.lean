/-! the class's Tape: signs, numbers, words -/
def nxt (t : Nat → Nat) (n s : Nat) : Nat := sp isB t n (tkE t n s)
theorem tkE_le {t : Nat → Nat} {n s : Nat} (h : s ≤ n) : s ≤ tkE t n s ∧ tkE t n s ≤ n ∧ (s < n → s < tkE t n s) := by
  unfold tkE
  by_cases q : s < n
  · rw [if_pos q]
    by_cases q1 : isD (t s) = true
    · rw [if_pos q1]
      have a := sp_all (P := isD) (t := t) (n := n) s h
      have b := sp_all (P := isD) (t := t) (n := n) (s + 1) (by omega)
      have e := sp_go (P := isD) (t := t) q q1
      refine ⟨a.1, a.2.1, fun _ => ?_⟩
      rw [e]
      exact b.1
    · rw [if_neg q1]
      by_cases q2 : isL (t s) = true
      · rw [if_pos q2]
        have a := sp_all (P := isL) (t := t) (n := n) s h
        have b := sp_all (P := isL) (t := t) (n := n) (s + 1) (by omega)
        have e := sp_go (P := isL) (t := t) q q2
        refine ⟨a.1, a.2.1, fun _ => ?_⟩
        rw [e]
        exact b.1
      · rw [if_neg q2]
        exact ⟨by omega, by omega, fun _ => by omega⟩
  · rw [if_neg q]
    exact ⟨Nat.le_refl _, h, fun z => absurd z q⟩
theorem nxt_le {t : Nat → Nat} {n s : Nat} (h : s ≤ n) : s ≤ nxt t n s ∧ nxt t n s ≤ n ∧ (s < n → s < nxt t n s) := by
  obtain ⟨a1, a2, a3⟩ := tkE_le (t := t) h
  obtain ⟨b1, b2, -, -⟩ := sp_all (P := isB) (t := t) (tkE t n s) a2
  exact ⟨by unfold nxt; omega, b2, fun q => by have := a3 q; unfold nxt; omega⟩
/-- a sign: no digit, no letter, no blank -/
def isS (c : Nat) : Prop := c < 128 ∧ isD c = false ∧ isL c = false
theorem sb_inj : ∀ c, c < 256 → ∀ k, k < 128 → (sb c = nI k ↔ c = k) := by decide +kernel
/-- what a number at s is: good, or which FAULT -/
def pN (t : Nat → Nat) (n s a m : Nat) : Nat ⊕ Nat := if tkK t n s = 1 then (if a ≤ decV t s (tkE t n s) ∧ decV t s (tkE t n s) < m then .inr (decV t s (tkE t n s)) else .inl 2) else .inl 1
/-- x is the most that a number below m may be -/
def isHi (x : Int32) (m : Nat) : Prop := m ≤ 1001 ∧ ∀ V, V < 1000000 → (nI V ≤ x ↔ V < m)
theorem hi_m {m : Nat} (h : m ≤ 1001) : isHi (nI m - 1) m := by
  refine ⟨h, fun V hV => ?_⟩
  rw [Int32.le_iff_toInt_le, show (1 : Int32) = nI 1 from rfl, pk_sub_toInt (by omega) (by omega), nI_toInt (by omega)]
  omega
theorem hi_s {m : Nat} (h : m ≤ 1000) : isHi (nI m) (m + 1) := by
  have := hi_m (m := m + 1) (by omega)
  rw [nI_pred] at this
  exact this
section Tape2
variable {σ : mm_M} {d : Nat} {t : Nat → Nat} {n : Nat} {f : Nat → Int32} {s : Nat}
theorem c_fail (h : Sh σ) (x y : Int32) : ev d 23 [.ref 1, .int x, .int y] (wA σ 1 f) = some (.inl (.int 0), wA σ 1 (up (up f 8 x) 9 y)) := by
  rw [e_Tape_fail d 1 x y (wA σ 1 f) (by rw [k_1 (σ := wA σ 1 f) h]), ys_1 h, ys_1 h, nar1_0]
theorem c_drop (h : Sh σ) : ev d 15 [.ref 1] (wA σ 1 f) = some (.inl uv, wA σ 1 (up (up (up f 1 0) 8 0) 9 (-1))) := by
  rw [e_Tape_drop d 1 (wA σ 1 f) (by rw [k_1 (σ := wA σ 1 f) h]), ys_1 h, ys_1 h, ys_1 h]
theorem kd_eq (n' k : Nat) (h1 : n' ≤ 3) (h2 : k ≤ 3) : (nI n' = nI k) = (n' = k) := propext (nI_eq (by omega) (by omega))
theorem tkK_le : tkK t n s ≤ 3 := by unfold tkK; split; split; omega; split; omega; omega; omega
theorem c_isSign (h : Sh σ) (hx : TxC σ t n) (hk : TKf f t n s) {c : Nat} (hc : isS c) : ev d 18 [.ref 1, .int (nI c)] (wA σ 1 f) = some (.inl (.int (i01 (s < n ∧ t s = c))), wA σ 1 f) := by
  obtain ⟨k1, k2, k3, k4, k5, k6, k7, k8⟩ := hk
  rw [e_Tape_isSign d 1 (nI c) (wA σ 1 f) (by rw [k_1 (σ := wA σ 1 f) h]), yg_1 h, yg_1 h, k5]
  unfold i01
  by_cases q : tkK t n s = 3
  · rw [if_pos (show nI (tkK t n s) = (3 : Int32) by rw [q]; rfl), k8 q]
    have hs : s < n := by
      unfold tkK at q
      split at q
      · assumption
      · omega
    by_cases e : t s = c
    · rw [if_pos ((sb_inj _ (hx.2.1 s) c hc.1).mpr e), e_Tape_isSign_21, nar1_1, if_pos ⟨hs, e⟩]
    · rw [if_neg (fun z => e ((sb_inj _ (hx.2.1 s) c hc.1).mp z)), e_Tape_isSign_20, e_Tape_isSign_21, nar1_0, if_neg (fun z => e z.2)]
  · rw [if_neg (show ¬ nI (tkK t n s) = (3 : Int32) from fun z => q ((nI_eq (b := 3) (by have := tkK_le (t := t) (n := n) (s := s); omega) (by decide)).mp z)), e_Tape_isSign_20, e_Tape_isSign_21, nar1_0, if_neg]
    intro z
    obtain ⟨z1, z2⟩ := z
    apply q
    unfold tkK
    rw [if_pos z1, z2, hc.2.1, hc.2.2]
    rfl
theorem c_next' (h : Sh σ) (hx : TxC σ t n) (hk : TKf f t n s) : ∃ f', ev d 17 [.ref 1] (wA σ 1 f) = some (.inl uv, wA σ 1 f') ∧ TKf f' t n (nxt t n s) ∧ ∀ x, x ≠ 3 → x ≠ 4 → x ≠ 5 → x ≠ 6 → f' x = f x :=
  c_next h hx (tkE_le hk.1).2.1 hk.2.2.2.1 hk.2.2.1
theorem c_take (h : Sh σ) (hx : TxC σ t n) (hk : TKf f t n s) {c : Nat} (hc : isS c) : ∃ f', ev (d + 1) 20 [.ref 1, .int (nI c)] (wA σ 1 f) = some (.inl (.int (i01 (s < n ∧ t s = c))), wA σ 1 f') ∧
    ((s < n ∧ t s = c) → TKf f' t n (nxt t n s) ∧ ∀ x, x ≠ 3 → x ≠ 4 → x ≠ 5 → x ≠ 6 → f' x = f x) ∧ (¬ (s < n ∧ t s = c) → f' = up (up f 8 1) 9 (nI s)) := by
  rw [e_Tape_take d 1 (nI c) (wA σ 1 f) (by rw [k_1 (σ := wA σ 1 f) h]), c_isSign h hx hk hc]
  dsimp only [cI]
  by_cases q : s < n ∧ t s = c
  · have e1 : i01 (s < n ∧ t s = c) = 1 := if_pos q
    rw [e1, if_neg (by decide)]
    obtain ⟨f', r1, r2, r3⟩ := c_next' (d := d) h hx hk
    rw [r1]
    dsimp only [cV, uv]
    exact ⟨f', by rw [nar1_1], fun _ => ⟨r2, r3⟩, fun z => absurd q z⟩
  · have e1 : i01 (s < n ∧ t s = c) = 0 := if_neg q
    rw [e1, if_pos rfl, yg_1 h, hk.2.2.2.2.2.1, c_fail h]
    dsimp only [cI]
    exact ⟨_, by rw [nar1_0], fun z => absurd z q, fun _ => rfl⟩
theorem c_atEnd (h : Sh σ) (hk : TKf f t n s) : ∃ f', ev (d + 1) 19 [.ref 1] (wA σ 1 f) = some (.inl (.int (i01 (s = n))), wA σ 1 f') ∧ (s = n → f' = f) ∧ (s ≠ n → f' = up (up f 8 1) 9 (nI s)) := by
  obtain ⟨k1, k2, k3, k4, k5, k6, k7, k8⟩ := hk
  rw [e_Tape_atEnd d 1 (wA σ 1 f) (by rw [k_1 (σ := wA σ 1 f) h]), yg_1 h, yg_1 h, k5, k6]
  by_cases q : s = n
  · have e : tkK t n s = 0 := by unfold tkK; rw [if_neg (by omega)]
    rw [e, if_pos (show nI 0 = (0 : Int32) from rfl), e_Tape_atEnd_19, e_Tape_atEnd_24, nar1_1]
    exact ⟨f, by unfold i01; rw [if_pos q], fun _ => rfl, fun z => absurd q z⟩
  · have e : tkK t n s ≠ 0 := by
      unfold tkK
      rw [if_pos (by omega)]
      split
      · omega
      · split <;> omega
    rw [if_neg (show ¬ nI (tkK t n s) = (0 : Int32) from fun z => e ((nI_eq (b := 0) (by have := tkK_le (t := t) (n := n) (s := s); omega) (by decide)).mp z)), c_fail h]
    dsimp only [cI]
    rw [if_pos rfl, e_Tape_atEnd_24, nar1_0]
    exact ⟨_, by unfold i01; rw [if_neg q], fun z => absurd z q, fun _ => rfl⟩
theorem c_takeNumber (h : Sh σ) (hx : TxC σ t n) (hk : TKf f t n s) {a m : Nat} {x : Int32} (ha : a ≤ 1) (hm : isHi x m) :
    (∀ V, pN t n s a m = .inr V → ∃ f', ev (d + 1) 21 [.ref 1, .int (nI a), .int x] (wA σ 1 f) = some (.inl (.int (nI V)), wA σ 1 f') ∧ TKf f' t n (nxt t n s) ∧ f' 7 = nI s ∧ ∀ x, x ≠ 3 → x ≠ 4 → x ≠ 5 → x ≠ 6 → x ≠ 7 → f' x = f x) ∧
    (∀ e, pN t n s a m = .inl e → ev (d + 1) 21 [.ref 1, .int (nI a), .int x] (wA σ 1 f) = some (.inl (.int (-1)), wA σ 1 (up (up f 8 (nI e)) 9 (nI s)))) := by
  have hk0 := hk
  obtain ⟨k1, k2, k3, k4, k5, k6, k7, k8⟩ := hk
  rw [e_Tape_takeNumber d 1 (nI a) x (wA σ 1 f) (by rw [k_1 (σ := wA σ 1 f) h]), yg_1 h, yg_1 h, yg_1 h, yg_1 h, yg_1 h, k5, k6]
  unfold pN
  by_cases q : tkK t n s = 1
  · rw [if_pos q, if_pos (show nI (tkK t n s) = (1 : Int32) by rw [q]; rfl)]
    have hv := k7 q
    have bad : rn (d + 1) 21 36 [.ref 1, .int (nI a), .int x, uv] [] (wA σ 1 f) = some (.inl (.int (-1)), wA σ 1 (up (up f 8 (nI 2)) 9 (nI s))) := by
      rw [e_Tape_takeNumber_36, yg_1 h, k6, c_fail h]
      rfl
    by_cases q2 : a ≤ decV t s (tkE t n s) ∧ decV t s (tkE t n s) < m
    · rw [if_pos q2]
      have hm1 := hm.1
      have e6 : f 6 = nI (decV t s (tkE t n s)) := by
        rcases hv with ⟨v1, v2⟩ | ⟨v1, -⟩
        · exact v2
        · omega
      rw [e6, if_neg (show ¬ nI (decV t s (tkE t n s)) < nI a from nI_nlt (a := (decV t s (tkE t n s))) (b := a) (by omega) (by omega)), if_pos ((hm.2 _ (by omega)).mpr q2.2), ys_1 h]
      obtain ⟨f', r1, r2, r3⟩ := c_next' (d := d) (f := up f 7 (nI s)) h hx ⟨k1, k2, by rw [up_n (by decide)]; exact k3, by rw [up_n (by decide)]; exact k4, by rw [up_n (by decide)]; exact k5, by rw [up_n (by decide)]; exact k6, by rw [up_n (by decide)]; exact k7, by rw [up_n (by decide)]; exact k8⟩
      rw [r1]
      dsimp only [cV, uv]
      refine ⟨fun V e => ?_, fun e z => (by cases z)⟩
      cases e
      exact ⟨f', rfl, r2, by rw [r3 7 (by decide) (by decide) (by decide) (by decide), up_e], fun x h3 h4 h5 h6 h7 => by rw [r3 x h3 h4 h5 h6, up_n h7]⟩
    · rw [if_neg q2]
      refine ⟨fun V z => (by cases z), fun e z => ?_⟩
      cases z
      by_cases q3 : f 6 < nI a
      · rw [if_pos q3, bad]
      · rw [if_neg q3]
        rw [if_neg, bad]
        intro z
        apply q2
        rcases hv with ⟨v1, v2⟩ | ⟨v1, c, v2, v3, v4⟩
        · rw [v2] at q3 z
          refine ⟨?_, (hm.2 _ (by omega)).mp z⟩
          rcases Nat.lt_or_ge (decV t s (tkE t n s)) a with w | w
          · exact absurd (nI_lt w (by omega)) q3
          · exact w
        · rw [v4] at z
          have := (hm.2 _ (by omega)).mp z
          have := hm.1
          omega
  · rw [if_neg q, if_neg (show ¬ nI (tkK t n s) = (1 : Int32) from fun z => q ((nI_eq (b := 1) (by have := tkK_le (t := t) (n := n) (s := s); omega) (by decide)).mp z)), yg_1 h, k6, c_fail h]
    refine ⟨fun V z => (by cases z), fun e z => ?_⟩
    cases z
    rfl
end Tape2
/-! words -/
def tokEq (t : Nat → Nat) (s e : Nat) (w : List Nat) : Prop := e - s = w.length ∧ ∀ j, j < w.length → t (s + j) = w.getD j 0
def dtok (t : Nat → Nat) (s e : Nat) (w : List Nat) : Decidable (tokEq t s e w) := by unfold tokEq; exact inferInstance
/-- which of these words is the token; -1 -/
def wIx (t : Nat → Nat) (s e : Nat) : List (List Nat) → Nat → Int32
  | [], _ => -1
  | w :: r, k => @ite _ (tokEq t s e w) (dtok t s e w) (nI k) (wIx t s e r (k + 1))
/-- the i-th string, from o on, is these words with blanks between them -/
def strAt (i : Nat) : Nat → List (List Nat) → Prop
  | _, [] => False
  | o, w :: r => (∀ j, j < w.length → o + j < strL.getD i 0 ∧ (strB.getD i []).getD (o + j) 0 = nI (w.getD j 0) ∧ w.getD j 0 ≠ 32 ∧ w.getD j 0 < 128) ∧ ((r = [] ∧ o + w.length = strL.getD i 0) ∨ (r ≠ [] ∧ o + w.length < strL.getD i 0 ∧ (strB.getD i []).getD (o + w.length) 0 = 32 ∧ strAt i (o + w.length + 1) r))
section WordV
variable {σ : mm_M} {d : Nat} {t : Nat → Nat} {n : Nat} {s : Nat}
theorem k_s (h : Sh σ) {i : Nat} (hi : i < 4) : mK σ (1000002 + i) = (113, 0) ∧ mK σ (1000006 + i) = (23, strL.getD i 0) ∧ mR σ (1000002 + i) 0 = some (1000006 + i) := by
  have h1 := h.2.2.2.2.2.2.2 (1000002 + i) (by omega) (by omega)
  have h2 := h.2.2.2.2.2.2.2 (1000006 + i) (by omega) (by omega)
  refine ⟨h1.1.trans ?_, h2.1.trans ?_, ?_⟩
  · unfold k0; rw [if_neg (by omega), if_neg (by omega), if_pos (by omega)]
  · unfold k0; rw [if_neg (by omega), if_neg (by omega), if_neg (by omega), if_pos (by omega), Nat.add_sub_cancel_left]
  · rw [h1.2]; unfold r0; rw [if_pos ⟨by omega, by omega, rfl⟩]
    exact congrArg some (by omega)
theorem i_s (hs : Stl σ) {i : Nat} (hi : i < 4) : mI σ (1000002 + i) 1 = 0 ∧ ∀ k, mI σ (1000006 + i) k = (strB.getD i []).getD k 0 := by
  refine ⟨?_, fun k => ?_⟩
  · rw [hs (1000002 + i) (by omega) (by omega)]; unfold i0; rw [if_neg (by omega), if_neg (by omega), if_neg (by omega)]
  · rw [hs (1000006 + i) (by omega) (by omega)]; unfold i0; rw [if_neg (by omega), if_neg (by omega), if_pos (by omega), Nat.add_sub_cancel_left]
theorem strL_le : ∀ i, i < 4 → strL.getD i 0 ≤ 59 := by decide
theorem c_coder (h : Sh σ) (hs : Stl σ) {i : Nat} (hi : i < 4) : ev d 9 [.ref (1000002 + i)] σ = some (.inl (.int 0), σ) := by
  rw [e_S_coder d _ σ (by rw [(k_s h hi).1]), if_neg (by decide), gI_k (by rw [(k_s h hi).1]), (i_s hs hi).1, e_S_coder_14]
  have : nar 2 0 = 0 := by decide +kernel
  rw [this]
theorem c_isLatin1 (h : Sh σ) (hs : Stl σ) {i : Nat} (hi : i < 4) : ev d 10 [.ref (1000002 + i)] σ = some (.inl (.int 1), σ) := by
  rw [e_S_isLatin1 d _ σ (by rw [(k_s h hi).1]), if_neg (by decide), gI_k (by rw [(k_s h hi).1]), (i_s hs hi).1, if_pos rfl, e_S_isLatin1_18, nar1_1]
theorem c_length (h : Sh σ) (hs : Stl σ) {i : Nat} (hi : i < 4) : ev (d + 1) 7 [.ref (1000002 + i)] σ = some (.inl (.int (nI (strL.getD i 0))), σ) := by
  have hl := strL_le i hi
  rw [e_S_length d _ σ (by rw [(k_s h hi).1]), gR_k (by rw [(k_s h hi).1]) (k_s h hi).2.2]
  unfold aN
  rw [(k_s h hi).2.1, if_pos (show 0 < 23 ∧ 23 < 100 by decide), c_coder h hs hi]
  dsimp only [cI]
  rw [show Int32.ofNat (strL.getD i 0) = nI (strL.getD i 0) from rfl, sc_shr0 (by omega)]
  rfl
theorem chr_ok : ∀ i, i < 4 → ∀ k, k < strL.getD i 0 → nar 3 (nar 3 ((Int32.toUInt32 ((strB.getD i []).getD k 0 &&& (255 : Int32)) % 65536).toInt32)) = (strB.getD i []).getD k 0 := by decide +kernel
theorem c_charAt (h : Sh σ) (hs : Stl σ) {i k : Nat} (hi : i < 4) (hk : k < strL.getD i 0) : ev (d + 3) 8 [.ref (1000002 + i), .int (nI k)] σ = some (.inl (.int ((strB.getD i []).getD k 0)), σ) := by
  have hl := strL_le i hi
  rw [e_S_charAt (d + 2) _ (nI k) σ (by rw [(k_s h hi).1]), c_isLatin1 h hs hi]
  dsimp only [cI]
  rw [if_neg (by decide), gR_k (by rw [(k_s h hi).1]) (k_s h hi).2.2, e_S1_charAt (d + 1)]
  unfold aN
  rw [(k_s h hi).2.1, if_pos (show 0 < 23 ∧ 23 < 100 by decide)]
  dsimp only
  rw [e_S_checkIndex, e_Pr_checkIndex, if_neg (nI_pos (by omega)), if_pos (show nI k < Int32.ofNat (strL.getD i 0) from nI_lt hk (by omega))]
  dsimp only [cI1, cV1, uv]
  unfold aB
  rw [(k_s h hi).2.1, if_pos ⟨Or.inr (Or.inr rfl), in_nI hk (by omega)⟩, ix_nI (by omega), (i_s hs hi).2]
  dsimp only [cI1]
  rw [chr_ok i hi k hk]
/-- what wordOf knows: the token, in memory -/
theorem w_char (h : Sh σ) (hst : Stl σ) (hx : TxC σ t n) {f : Nat → Int32} {e i k c : Nat} (hi : i < 4) (hk : k < strL.getD i 0) (e5 : f 5 = nI s) (e3 : f 3 = nI e) (hse : s ≤ e) (he : e ≤ n) (hc : (strB.getD i []).getD k 0 = nI c) (hc1 : c ≠ 32) (hc2 : c < 128) (which : Int32) {same : Nat} (hsm : same ≤ k) (ok : Prop) [Decidable ok] :
    rn (d + 4) 22 17 [.ref 1, .ref (1000002 + i), .int which, .int (if ok then nI same else -1), .int (nI k)] [] (wA σ 1 f) = rn (d + 4) 22 17 [.ref 1, .ref (1000002 + i), .int which, .int (if ok ∧ s + same < e ∧ t (s + same) = c then nI (same + 1) else -1), .int (nI (k + 1))] [] (wA σ 1 f) := by
  have hl := strL_le i hi
  have hn := hx.1
  have hst' : Stl (wA σ 1 f) := fun a h1 h2 => by rw [rA_o (by omega)]; exact hst a h1 h2
  rw [e_Tape_wordOf_17, c_length (σ := wA σ 1 f) h hst' hi]
  dsimp only [cI]
  rw [if_neg (show ¬ nI (strL.getD i 0) < nI k from nI_nlt (a := (strL.getD i 0)) (b := k) (by omega) (by omega)), c_length (σ := wA σ 1 f) h hst' hi]
  dsimp only [cI]
  rw [if_neg (show ¬ nI k = nI (strL.getD i 0) from fun z => by have := (nI_eq (by omega) (by omega)).mp z; omega), c_charAt (σ := wA σ 1 f) h hst' hi hk]
  dsimp only [cI]
  rw [hc, if_neg (show ¬ nI c = (32 : Int32) from fun z => hc1 ((nI_eq (b := 32) (by omega) (by decide)).mp z))]
  by_cases q : ok
  · rw [if_pos q, if_neg (nI_pos (by omega)), yg_1 h, yg_1 h, e5, e3, nI_add]
    by_cases q1 : s + same < e
    · rw [if_neg (show ¬ nI e ≤ nI (s + same) from nI_ge (b := e) (a := (s + same)) (by omega) (by omega)), yr_1 h, yg_1 h, e5, nI_add, yb_2 h hx f (by omega), c_charAt (σ := wA σ 1 f) h hst' hi hk]
      dsimp only [cI]
      rw [hc]
      by_cases q2 : t (s + same) = c
      · rw [if_pos ((sb_inj _ (hx.2.1 _) c hc2).mpr q2), if_pos ⟨q, q1, q2⟩, e_Tape_wordOf_114, nI_1, nI_1]
      · rw [if_neg (fun z => q2 ((sb_inj _ (hx.2.1 _) c hc2).mp z)), if_neg (fun z => q2 z.2.2), e_Tape_wordOf_112, e_Tape_wordOf_114, nI_1]
    · rw [if_pos (show nI e ≤ nI (s + same) from nI_le (a := e) (b := (s + same)) (by omega) (by omega)), if_neg (fun z => q1 z.2.1), e_Tape_wordOf_112, e_Tape_wordOf_114, nI_1]
  · rw [if_neg q, if_pos (by decide), if_neg (fun z => q z.1), e_Tape_wordOf_112, e_Tape_wordOf_114, nI_1]
theorem w_chars (h : Sh σ) (hst : Stl σ) (hx : TxC σ t n) {f : Nat → Int32} {e i o : Nat} {w : List Nat} (hi : i < 4) (e5 : f 5 = nI s) (e3 : f 3 = nI e) (hse : s ≤ e) (he : e ≤ n) (hw : ∀ j, j < w.length → o + j < strL.getD i 0 ∧ (strB.getD i []).getD (o + j) 0 = nI (w.getD j 0) ∧ w.getD j 0 ≠ 32 ∧ w.getD j 0 < 128) (which : Int32) :
    ∀ k, k ≤ w.length → ∃ (ok : Prop) (dk : Decidable ok), (ok ↔ ∀ j, j < k → s + j < e ∧ t (s + j) = w.getD j 0) ∧ rn (d + 4) 22 17 [.ref 1, .ref (1000002 + i), .int which, .int 0, .int (nI o)] [] (wA σ 1 f) = rn (d + 4) 22 17 [.ref 1, .ref (1000002 + i), .int which, .int (@ite _ ok dk (nI k) (-1)), .int (nI (o + k))] [] (wA σ 1 f)
  | 0, _ => ⟨True, inferInstance, ⟨fun _ j hj => absurd hj (Nat.not_lt_zero j), fun _ => trivial⟩, by rw [if_pos trivial]; rfl⟩
  | k + 1, hk => by
    obtain ⟨ok, dk, g1, g2⟩ := w_chars h hst hx hi e5 e3 hse he hw which k (by omega)
    obtain ⟨v1, v2, v3, v4⟩ := hw k (by omega)
    refine ⟨ok ∧ s + k < e ∧ t (s + k) = w.getD k 0, inferInstance, ⟨fun z j hj => ?_, fun z => ⟨g1.mpr (fun j hj => z j (by omega)), z k (by omega)⟩⟩, ?_⟩
    · by_cases ej : j = k
      · rw [ej]; exact z.2
      · exact g1.mp z.1 j (by omega)
    · rw [g2, w_char h hst hx hi v1 e5 e3 hse he v2 v3 v4 which (by omega) ok]
      rfl
theorem c_words (h : Sh σ) (hst : Stl σ) (hx : TxC σ t n) {f : Nat → Int32} {e i : Nat} (hi : i < 4) (e5 : f 5 = nI s) (e3 : f 3 = nI e) (hse : s ≤ e) (he : e ≤ n) : ∀ (ws : List (List Nat)) (o k : Nat), strAt i o ws → rn (d + 4) 22 17 [.ref 1, .ref (1000002 + i), .int (nI k), .int 0, .int (nI o)] [] (wA σ 1 f) = some (.inl (.int (wIx t s e ws k)), wA σ 1 f)
  | [], _, _, hs => hs.elim
  | w :: r, o, k, hs => by
    have hl := strL_le i hi
    have hn := hx.1
    have hst' : Stl (wA σ 1 f) := fun a h1 h2 => by rw [rA_o (by omega)]; exact hst a h1 h2
    obtain ⟨hw, hend⟩ := hs
    obtain ⟨ok, dk, g1, g2⟩ := w_chars (d := d) h hst hx hi e5 e3 hse he hw (nI k) w.length (Nat.le_refl _)
    rw [g2, e_Tape_wordOf_17, c_length (σ := wA σ 1 f) h hst' hi]
    dsimp only [cI]
    have hle : o + w.length ≤ strL.getD i 0 := by rcases hend with q | q <;> omega
    rw [if_neg (show ¬ nI (strL.getD i 0) < nI (o + w.length) from nI_nlt (a := (strL.getD i 0)) (b := (o + w.length)) (by omega) (by omega)), c_length (σ := wA σ 1 f) h hst' hi]
    dsimp only [cI]
    have key : rn (d + 4) 22 46 [.ref 1, .ref (1000002 + i), .int (nI k), .int (@ite _ ok dk (nI w.length) (-1)), .int (nI (o + w.length))] [] (wA σ 1 f) = @ite _ (tokEq t s e w) (dtok t s e w) (some (.inl (.int (nI k)), wA σ 1 f)) (rn (d + 4) 22 17 [.ref 1, .ref (1000002 + i), .int (nI (k + 1)), .int 0, .int (nI (o + w.length + 1))] [] (wA σ 1 f)) := by
      rw [e_Tape_wordOf_46, yg_1 h, yg_1 h, e3, e5, pk_sub hse]
      by_cases q : tokEq t s e w
      · have hok : ok := g1.mpr (fun j hj => ⟨by have := q.1; omega, q.2 j hj⟩)
        rw [if_pos hok, if_pos (show nI w.length = nI (e - s) by rw [q.1]), if_pos q]
        rfl
      · rw [if_neg q, if_neg, e_Tape_wordOf_114, nI_1, nI_1]
        intro z
        apply q
        by_cases hok : ok
        · rw [if_pos hok] at z
          have := (nI_eq (by omega) (by omega)).mp z
          exact ⟨this.symm, fun j hj => (g1.mp hok j hj).2⟩
        · rw [if_neg hok] at z
          have z2 : (-1 : Int32).toInt = (nI (e - s)).toInt := by rw [z]
          rw [nI_toInt (by omega)] at z2
          have : (-1 : Int32).toInt = -1 := by decide
          omega
    have eix : wIx t s e (w :: r) k = @ite _ (tokEq t s e w) (dtok t s e w) (nI k) (wIx t s e r (k + 1)) := rfl
    rcases hend with ⟨rfl, q⟩ | ⟨hr, q1, q2, q3⟩
    · rw [q, if_pos rfl]
      rw [q] at key
      rw [key, eix]
      by_cases z : tokEq t s e w
      · rw [if_pos z, if_pos z]
      · rw [if_neg z, if_neg z, e_Tape_wordOf_17, c_length (σ := wA σ 1 f) h hst' hi]
        dsimp only [cI]
        rw [if_pos (show nI (strL.getD i 0) < nI (strL.getD i 0 + 1) from nI_lt (a := (strL.getD i 0)) (b := (strL.getD i 0 + 1)) (by omega) (by omega))]
        rfl
    · rw [if_neg (show ¬ nI (o + w.length) = nI (strL.getD i 0) from fun z => by have := (nI_eq (by omega) (by omega)).mp z; omega), c_charAt (σ := wA σ 1 f) h hst' hi q1]
      dsimp only [cI]
      rw [q2, if_pos rfl, key, eix]
      by_cases z : tokEq t s e w
      · rw [if_pos z, if_pos z]
      · rw [if_neg z, if_neg z]
        exact c_words h hst hx hi e5 e3 hse he r (o + w.length + 1) (k + 1) q3
def wds0 : List (List Nat) := [[112, 101, 114, 115, 111, 110], [106, 111, 107, 101], [115, 116, 114, 101, 101, 116], [106, 117, 103], [100, 114, 105, 110, 107]]
def wds1 : List (List Nat) := [[115, 116, 114, 111, 110, 103], [97, 112, 97, 114, 116], [119, 111, 114, 110], [116, 111, 108, 100], [100, 105, 109, 112, 108, 101, 115], [103, 114, 105, 101, 102], [110, 101, 97, 114], [116, 104, 105, 114, 115, 116], [100, 97, 121], [112, 101, 114, 115, 111, 110]]
def wds2 : List (List Nat) := [[108, 101, 97, 115, 116], [109, 111, 115, 116]]
def wds3 : List (List Nat) := [[116, 101, 108, 108], [103, 114, 105, 101, 118, 101], [99, 104, 101, 101, 114], [112, 111, 117, 114], [100, 97, 121], [97, 103, 97, 105, 110]]
theorem str0 : strAt 0 0 wds0 := by unfold wds0; repeat' (first | exact ⟨by decide +kernel, Or.inl ⟨rfl, by decide +kernel⟩⟩ | refine ⟨by decide +kernel, Or.inr ⟨by simp, by decide +kernel, by decide +kernel, ?_⟩⟩)
theorem str1 : strAt 1 0 wds1 := by unfold wds1; repeat' (first | exact ⟨by decide +kernel, Or.inl ⟨rfl, by decide +kernel⟩⟩ | refine ⟨by decide +kernel, Or.inr ⟨by simp, by decide +kernel, by decide +kernel, ?_⟩⟩)
theorem str2 : strAt 2 0 wds2 := by unfold wds2; repeat' (first | exact ⟨by decide +kernel, Or.inl ⟨rfl, by decide +kernel⟩⟩ | refine ⟨by decide +kernel, Or.inr ⟨by simp, by decide +kernel, by decide +kernel, ?_⟩⟩)
theorem str3 : strAt 3 0 wds3 := by unfold wds3; repeat' (first | exact ⟨by decide +kernel, Or.inl ⟨rfl, by decide +kernel⟩⟩ | refine ⟨by decide +kernel, Or.inr ⟨by simp, by decide +kernel, by decide +kernel, ?_⟩⟩)
/-- wordOf, of the words of the i-th string -/
def wOf (t : Nat → Nat) (n s : Nat) (ws : List (List Nat)) : Int32 := if tkK t n s = 2 then wIx t s (tkE t n s) ws 0 else -1
theorem c_wordOf (h : Sh σ) (hst : Stl σ) (hx : TxC σ t n) {f : Nat → Int32} (hk : TKf f t n s) {i : Nat} (hi : i < 4) {ws : List (List Nat)} (hw : strAt i 0 ws) : ev (d + 4) 22 [.ref 1, .ref (1000002 + i)] (wA σ 1 f) = some (.inl (.int (wOf t n s ws)), wA σ 1 f) := by
  obtain ⟨k1, k2, k3, k4, k5, k6, k7, k8⟩ := hk
  rw [e_Tape_wordOf (d + 3) 1 (1000002 + i) (wA σ 1 f) (by rw [k_1 (σ := wA σ 1 f) h]), yg_1 h, k5]
  unfold wOf
  by_cases q : tkK t n s = 2
  · rw [if_pos q, if_pos (show nI (tkK t n s) = (2 : Int32) by rw [q]; rfl)]
    exact c_words h hst hx hi k6 k4 (tkE_le k1).1 (tkE_le k1).2.1 ws 0 0 hw
  · rw [if_neg q, if_neg (show ¬ nI (tkK t n s) = (2 : Int32) from fun z => q ((nI_eq (b := 2) (by have := tkK_le (t := t) (n := n) (s := s); omega) (by decide)).mp z))]
    rfl
end WordV
