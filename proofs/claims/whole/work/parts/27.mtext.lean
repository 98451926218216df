/-! the reference's reader -/
def TxM (σ : mm_M) (t : Nat → Nat) (n : Nat) : Prop := n ≤ 600 ∧ (∀ k, t k < 256) ∧ ∀ k, k < 600 → mI σ 54 k = nI (t k)
/-- the reader stands ahead of s, without a FAULT: the numbers g of the reference -/
def MKf (g : Nat → Int32) (t : Nat → Nat) (n s : Nat) : Prop := s ≤ n ∧ g 2 = nI n ∧ g 5 = 0 ∧ ∃ i, i ≤ n ∧ g 4 = nI i ∧ sp isB t n i = s
def byM (t : Nat → Nat) (n k : Nat) : Int32 := if k < n then nI (t k) else -1
theorem up_self {f : Nat → Int32} {i : Nat} {v : Int32} (h : f i = v) : up f i v = f := by
  funext j
  unfold up
  by_cases e : j = i
  · rw [if_pos e, e, h]
  · rw [if_neg e]
theorem up_up (f : Nat → Int32) (i : Nat) (u v : Int32) : up (up f i u) i v = up f i v := by
  funext j
  unfold up
  by_cases e : j = i
  · rw [if_pos e, if_pos e]
  · rw [if_neg e, if_neg e, if_neg e]
theorem m1_ne {k : Nat} (h : k < 2147483648) : ¬ (-1 : Int32) = nI k := fun z => by
  have z2 : (-1 : Int32).toInt = (nI k).toInt := by rw [z]
  rw [nI_toInt h] at z2
  have : (-1 : Int32).toInt = -1 := by decide
  omega
section MText
variable {σ : mm_M} {d : Nat} {t : Nat → Nat} {n : Nat} {g : Nat → Int32} {s : Nat}
theorem zg (h : Sh σ) (g : Nat → Int32) (x : Nat) (k : Int32 → Option mm_R) : gI (wA σ 53 g) 12 53 x k = k (g x) := by rw [xg_53 (σ := wA σ 53 g) h, rA_a]
theorem zs (h : Sh σ) (g : Nat → Int32) (x : Nat) (v : Int32) (k : mm_M → Option mm_R) : sI (wA σ 53 g) 12 53 x v k = k (wA σ 53 (up g x v)) := by rw [xs_53 (σ := wA σ 53 g) h, w_up, rA_a, wA_wA]
theorem k53 (h : Sh σ) (g : Nat → Int32) : (mK (wA σ 53 g) 53).1 = 112 := by rw [k_53 (σ := wA σ 53 g) h]
theorem m_byteAt (h : Sh σ) (hx : TxM σ t n) (e2 : g 2 = nI n) {k : Nat} (hk : k < 2000) : ev d 171 [.ref 53, .int (nI k)] (wA σ 53 g) = some (.inl (.int (byM t n k)), wA σ 53 g) := by
  have hn := hx.1
  rw [e_M_byteAt d 53 (nI k) (wA σ 53 g) (k53 h g), zg h, e2]
  unfold byM
  by_cases q : k < n
  · rw [if_pos (show nI k < nI n from nI_lt (a := k) (b := n) (by omega) (by omega)), if_pos q, xr_53_9 (σ := wA σ 53 g) h, xa_54 (σ := wA σ 53 g) h (by omega), rA_o (by decide), hx.2.2 k (by omega), e_M_byteAt_18]
    rfl
  · rw [if_neg (show ¬ nI k < nI n from nI_nlt (a := k) (b := n) (by omega) (by omega)), if_neg q, e_M_byteAt_18]
    rfl
theorem byM_eq (hx : TxM σ t n) {k c : Nat} (hc : c < 256) : (byM t n k = nI c) = (k < n ∧ t k = c) := propext ⟨fun z => by
    unfold byM at z
    by_cases q : k < n
    · rw [if_pos q] at z
      exact ⟨q, (nI_eq (by have := hx.2.1 k; omega) (by omega)).mp z⟩
    · rw [if_neg q] at z
      exact absurd z (m1_ne (by omega)), fun z => by
    unfold byM
    rw [if_pos z.1, z.2]⟩
theorem m_blanks (h : Sh σ) (hx : TxM σ t n) : ∀ k i g, n - i = k → i ≤ n → g 2 = nI n → g 4 = nI i → ev (d + 1) 172 [.ref 53] (wA σ 53 g) = some (.inl uv, wA σ 53 (up g 4 (nI (sp isB t n i)))) := by
  have hn := hx.1
  have key : ∀ k i g, n - i = k → i ≤ n → g 2 = nI n → g 4 = nI i → rn (d + 1) 172 0 [.ref 53] [] (wA σ 53 g) = some (.inl uv, wA σ 53 (up g 4 (nI (sp isB t n i)))) := by
    intro k
    induction k with
    | zero =>
      intro i g hk hi e2 e4
      rw [e_M_blanks_0, zg h, e4, m_byteAt h hx e2 (by omega)]
      dsimp only [cI]
      rw [if_neg (show ¬ byM t n i = (32 : Int32) from fun z => by have z : byM t n i = nI 32 := z; rw [byM_eq hx (by decide)] at z; omega), sp_no (by omega), up_self e4]
    | succ k ih =>
      intro i g hk hi e2 e4
      rw [e_M_blanks_0, zg h, e4, m_byteAt h hx e2 (by omega)]
      dsimp only [cI]
      by_cases q : isB (t i) = true
      · have ht : t i = 32 := by simpa [isB] using q
        rw [if_pos (show byM t n i = (32 : Int32) from by show byM t n i = nI 32; rw [byM_eq hx (by decide)]; exact ⟨by omega, ht⟩), zg h, e4, zs h, nI_1, ih (i + 1) (up g 4 (nI (i + 1))) (by omega) (by omega) (by rw [up_n (by decide)]; exact e2) (up_e _ _ _), up_up, sp_go (by omega) q]
      · rw [if_neg (show ¬ byM t n i = (32 : Int32) from fun z => by have z : byM t n i = nI 32 := z; rw [byM_eq hx (by decide)] at z; exact q (by simp [isB, z.2])), sp_no (fun z => q z.2), up_self e4]
  intro k i g hk hi e2 e4
  rw [e_M_blanks d 53 (wA σ 53 g) (k53 h g)]
  exact key k i g hk hi e2 e4
/-- blanks, at a token -/
theorem m_blanksK (h : Sh σ) (hx : TxM σ t n) (hk : MKf g t n s) : ev (d + 1) 172 [.ref 53] (wA σ 53 g) = some (.inl uv, wA σ 53 (up g 4 (nI s))) := by
  obtain ⟨k1, k2, k3, i, k4, k5, k6⟩ := hk
  rw [m_blanks h hx (n - i) i g rfl k4 k2 k5, k6]
theorem sp_idem {P : Nat → Bool} {t : Nat → Nat} {n i : Nat} (hi : i ≤ n) : sp P t n (sp P t n i) = sp P t n i := sp_no (sp_all (P := P) (t := t) i hi).2.2.1
theorem MKf.at (hk : MKf g t n s) : sp isB t n s = s := by
  obtain ⟨k1, k2, k3, i, k4, k5, k6⟩ := hk
  rw [← k6]
  exact sp_idem k4
theorem MKf.to (hk : MKf g t n s) : MKf (up g 4 (nI s)) t n s := ⟨hk.1, by rw [up_n (by decide)]; exact hk.2.1, by rw [up_n (by decide)]; exact hk.2.2.1, s, hk.1, up_e _ _ _, hk.at⟩
theorem m_wrong (h : Sh σ) (e5 : g 5 = 0) (x y : Int32) : ev d 173 [.ref 53, .int x, .int y] (wA σ 53 g) = some (.inl uv, wA σ 53 (up (up g 5 x) 6 y)) := by
  rw [e_M_wrong d 53 x y (wA σ 53 g) (k53 h g), zg h, if_pos e5, zs h, zs h, e_M_wrong_17]
theorem m_wrongF (h : Sh σ) (e5 : ¬ g 5 = 0) (x y : Int32) : ev d 173 [.ref 53, .int x, .int y] (wA σ 53 g) = some (.inl uv, wA σ 53 g) := by
  rw [e_M_wrong d 53 x y (wA σ 53 g) (k53 h g), zg h, if_neg e5, e_M_wrong_17]
theorem dg_ok : ∀ c, c < 256 → ((nI c < 48 → isD c = false) ∧ (57 < nI c → isD c = false) ∧ (¬ nI c < 48 → ¬ 57 < nI c → isD c = true)) := by decide +kernel
theorem lt_ok : ∀ c, c < 256 → ((nI c < 97 → isL c = false) ∧ (122 < nI c → isL c = false) ∧ (¬ nI c < 97 → ¬ 122 < nI c → isL c = true)) := by decide +kernel
theorem m_isDigit (hx : TxM σ t n) (k : Nat) (τ : mm_M) : ev d 174 [.int (byM t n k)] τ = some (.inl (.int (i01 (k < n ∧ isD (t k) = true))), τ) := by
  rw [e_M_isDigit]
  unfold byM i01
  by_cases q : k < n
  · rw [if_pos q]
    obtain ⟨b1, b2, b3⟩ := dg_ok _ (hx.2.1 k)
    by_cases q1 : nI (t k) < 48
    · rw [if_pos q1, e_M_isDigit_16, e_M_isDigit_17, nar1_0, if_neg (fun z => by rw [b1 q1] at z; exact absurd z.2 (by decide))]
    · rw [if_neg q1]
      by_cases q2 : 57 < nI (t k)
      · rw [if_pos q2, e_M_isDigit_16, e_M_isDigit_17, nar1_0, if_neg (fun z => by rw [b2 q2] at z; exact absurd z.2 (by decide))]
      · rw [if_neg q2, e_M_isDigit_17, nar1_1, if_pos ⟨q, b3 q1 q2⟩]
  · rw [if_neg q, if_pos (show (-1 : Int32) < 48 by decide), e_M_isDigit_16, e_M_isDigit_17, nar1_0, if_neg (fun z => q z.1)]
theorem m_isSmall (hx : TxM σ t n) (k : Nat) (τ : mm_M) : ev d 175 [.int (byM t n k)] τ = some (.inl (.int (i01 (k < n ∧ isL (t k) = true))), τ) := by
  rw [e_M_isSmall]
  unfold byM i01
  by_cases q : k < n
  · rw [if_pos q]
    obtain ⟨b1, b2, b3⟩ := lt_ok _ (hx.2.1 k)
    by_cases q1 : nI (t k) < 97
    · rw [if_pos q1, e_M_isSmall_16, e_M_isSmall_17, nar1_0, if_neg (fun z => by rw [b1 q1] at z; exact absurd z.2 (by decide))]
    · rw [if_neg q1]
      by_cases q2 : 122 < nI (t k)
      · rw [if_pos q2, e_M_isSmall_16, e_M_isSmall_17, nar1_0, if_neg (fun z => by rw [b2 q2] at z; exact absurd z.2 (by decide))]
      · rw [if_neg q2, e_M_isSmall_17, nar1_1, if_pos ⟨q, b3 q1 q2⟩]
  · rw [if_neg q, if_pos (show (-1 : Int32) < 97 by decide), e_M_isSmall_16, e_M_isSmall_17, nar1_0, if_neg (fun z => q z.1)]
theorem i01_0 {p : Prop} [Decidable p] : (i01 p = 0) = ¬ p := propext (by unfold i01; by_cases q : p <;> simp [q])
/-- the digits of a number: to their end -/
theorem m_digits (h : Sh σ) (hx : TxM σ t n) {b : Nat} (x1 x2 x3 : Int32) : ∀ k j g, n - j = k → b ≤ j → j ≤ n → g 2 = nI n → g 4 = nI j → rn (d + 1) 176 44 [.ref 53, .int x1, .int x2, .int x3, .int (nI (min (decV t b j) 100000))] [] (wA σ 53 g) =
    rn (d + 1) 176 44 [.ref 53, .int x1, .int x2, .int x3, .int (nI (min (decV t b (sp isD t n j)) 100000))] [] (wA σ 53 (up g 4 (nI (sp isD t n j)))) := by
  have hn := hx.1
  intro k
  induction k with
  | zero =>
    intro j g hk hb hj e2 e4
    rw [sp_no (i := j) (by omega), up_self e4]
  | succ k ih =>
    intro j g hk hb hj e2 e4
    by_cases q : isD (t j) = true
    · have hc : 48 ≤ t j ∧ t j ≤ 57 := of_decide_eq_true q
      rw [e_M_number_44, zg h, e4, m_byteAt h hx e2 (by omega)]
      dsimp only [cI]
      rw [m_isDigit hx]
      dsimp only [cI1]
      rw [if_neg (by rw [i01_0]; exact fun z => z ⟨by omega, q⟩), zg h, e4, m_byteAt h hx e2 (by omega)]
      dsimp only [cI]
      have eb : byM t n j = nI (t j) := by unfold byM; rw [if_pos (by omega)]
      have ev1 : ((10 : Int32) * nI (min (decV t b j) 100000) + byM t n j) - 48 = nI (10 * min (decV t b j) 100000 + (t j - 48)) := by
        rw [eb, lm_10, nI_add, show nI (10 * min (decV t b j) 100000 + t j) - (48 : Int32) = nI (10 * min (decV t b j) 100000 + t j - 48) from pk_sub (b := 48) (by omega)]
        congr 1
        omega
      rw [ev1]
      have fin : ∀ y, y = nI (min (decV t b (j + 1)) 100000) → rn (d + 1) 176 91 [.ref 53, .int x1, .int x2, .int x3, .int (nI (10 * min (decV t b j) 100000 + (t j - 48)))] [.int y] (wA σ 53 g) = rn (d + 1) 176 44 [.ref 53, .int x1, .int x2, .int x3, .int (nI (min (decV t b (sp isD t n j)) 100000))] [] (wA σ 53 (up g 4 (nI (sp isD t n j)))) := by
        intro y hy
        rw [e_M_number_91, zg h, e4, zs h, nI_1, hy, ih (j + 1) (up g 4 (nI (j + 1))) (by omega) (by omega) (by omega) (by rw [up_n (by decide)]; exact e2) (up_e _ _ _), up_up, ← sp_go (by omega) q]
      have ed := decV_s (t := t) hb
      by_cases q2 : 10 * min (decV t b j) 100000 + (t j - 48) ≤ 100000
      · rw [if_pos (show nI (10 * min (decV t b j) 100000 + (t j - 48)) ≤ (100000 : Int32) from nI_le (b := 100000) q2 (by omega))]
        exact fin _ (congrArg nI (by omega))
      · rw [if_neg (show ¬ nI (10 * min (decV t b j) 100000 + (t j - 48)) ≤ (100000 : Int32) from nI_ge (a := 100000) (by omega) (by omega))]
        refine fin _ ?_
        show nI 100000 = _
        exact congrArg nI (by omega)
    · rw [sp_no (i := j) (fun z => q z.2), up_self e4]
theorem m_numberF (h : Sh σ) (e5 : ¬ g 5 = 0) (x y : Int32) : ev (d + 1) 176 [.ref 53, .int x, .int y] (wA σ 53 g) = some (.inl (.int 0), wA σ 53 g) := by
  rw [e_M_number d 53 x y (wA σ 53 g) (k53 h g), zg h, if_neg e5]
  rfl
theorem m_number (h : Sh σ) (hx : TxM σ t n) (hk : MKf g t n s) {a m : Nat} {x : Int32} (ha : a ≤ 1) (hm : isHi x m) :
    (∀ V, pN t n s a m = .inr V → ev (d + 2) 176 [.ref 53, .int (nI a), .int x] (wA σ 53 g) = some (.inl (.int (nI V)), wA σ 53 (up g 4 (nI (tkE t n s)))) ∧ MKf (up g 4 (nI (tkE t n s))) t n (nxt t n s)) ∧
    (∀ e, pN t n s a m = .inl e → ∃ g', ev (d + 2) 176 [.ref 53, .int (nI a), .int x] (wA σ 53 g) = some (.inl (.int 0), wA σ 53 g') ∧ g' 5 = nI e ∧ g' 6 = nI s ∧ (∃ i, i ≤ 600 ∧ g' 4 = nI i) ∧ ∀ y, y ≠ 4 → y ≠ 5 → y ≠ 6 → g' y = g y) := by
  have hn := hx.1
  have hk0 := hk.to
  have hkk := hk
  obtain ⟨k1, k2, k3, -⟩ := hk
  obtain ⟨z1, z2, z3⟩ := tkE_le (t := t) k1
  have e2 : (up g 4 (nI s)) 2 = nI n := by rw [up_n (by decide)]; exact k2
  have e4 : (up g 4 (nI s)) 4 = nI s := up_e _ _ _
  have e5 : (up g 4 (nI s)) 5 = 0 := by rw [up_n (by decide)]; exact k3
  rw [e_M_number (d + 1) 53 (nI a) x (wA σ 53 g) (k53 h g), zg h, if_pos k3, m_blanksK h hx hkk]
  dsimp only [cV, uv]
  rw [zg h, zg h, e4, m_byteAt h hx e2 (by omega)]
  dsimp only [cI]
  rw [m_isDigit hx]
  dsimp only [cI1]
  have hm1 := hm.1
  unfold pN
  by_cases q : s < n ∧ isD (t s) = true
  · have ek : tkK t n s = 1 := by unfold tkK; rw [if_pos q.1, if_pos q.2]
    have ee : tkE t n s = sp isD t n s := by unfold tkE; rw [if_pos q.1, if_pos q.2]
    obtain ⟨d1, d2, d3, d4⟩ := sp_all (P := isD) (t := t) s k1
    rw [if_pos ek, if_neg (show ¬ i01 (s < n ∧ isD (t s) = true) = 0 by rw [i01_0]; exact fun z => z q)]
    have e0 : (0 : Int32) = nI (min (decV t s s) 100000) := by unfold decV; rw [Nat.sub_self]; rfl
    have run := m_digits (d := d + 1) h hx (b := s) (nI a) x (nI s) (n - s) s (up g 4 (nI s)) rfl (Nat.le_refl _) k1 e2 e4
    rw [← e0, up_up, ← ee] at run
    have e2' : (up g 4 (nI (tkE t n s))) 2 = nI n := by rw [up_n (by decide)]; exact k2
    have e5' : (up g 4 (nI (tkE t n s))) 5 = 0 := by rw [up_n (by decide)]; exact k3
    rw [run, e_M_number_44, zg h, up_e, m_byteAt h hx e2' (by omega)]
    dsimp only [cI]
    rw [m_isDigit hx]
    dsimp only [cI1]
    rw [if_pos (show i01 (tkE t n s < n ∧ isD (t (tkE t n s)) = true) = 0 by rw [i01_0]; rw [ee]; exact d3), m_in]
    dsimp only [cI1]
    by_cases q2 : a ≤ decV t s (tkE t n s) ∧ decV t s (tkE t n s) < m
    · have hin : nI a ≤ nI (min (decV t s (tkE t n s)) 100000) ∧ nI (min (decV t s (tkE t n s)) 100000) ≤ x := ⟨nI_le (by omega) (by omega), (hm.2 _ (by omega)).mpr (by omega)⟩
      rw [if_neg (show ¬ i01 (nI a ≤ nI (min (decV t s (tkE t n s)) 100000) ∧ nI (min (decV t s (tkE t n s)) 100000) ≤ x) = 0 by rw [i01_0]; exact fun z => z hin), if_pos q2, e_M_number_122, zg h, if_pos e5', e_M_number_135]
      refine ⟨fun V z => ?_, fun e z => (by cases z)⟩
      cases z
      refine ⟨?_, (nxt_le k1).2.1, e2', e5', tkE t n s, z2, up_e _ _ _, rfl⟩
      rw [show min (decV t s (tkE t n s)) 100000 = decV t s (tkE t n s) by omega]
      rfl
    · have hin : ¬ (nI a ≤ nI (min (decV t s (tkE t n s)) 100000) ∧ nI (min (decV t s (tkE t n s)) 100000) ≤ x) := fun z => q2 (by
        have w1 := (nI_leI (by omega) (by omega)).mp z.1
        have w2 := (hm.2 _ (by omega)).mp z.2
        omega)
      rw [if_pos (show i01 (nI a ≤ nI (min (decV t s (tkE t n s)) 100000) ∧ nI (min (decV t s (tkE t n s)) 100000) ≤ x) = 0 by rw [i01_0]; exact hin), if_neg q2, m_wrong h e5']
      dsimp only [cV, uv]
      rw [e_M_number_122, zg h, up_n (by decide), up_e, if_neg (by decide), e_M_number_135]
      refine ⟨fun V z => (by cases z), fun e z => ?_⟩
      cases z
      exact ⟨_, rfl, by rw [up_n (by decide), up_e]; rfl, up_e _ _ _, ⟨tkE t n s, by omega, by rw [up_n (by decide), up_n (by decide), up_e]⟩, fun y h4 h5 h6 => by rw [up_n h6, up_n h5, up_n h4]⟩
  · have ek : ¬ tkK t n s = 1 := by
      unfold tkK
      by_cases w : s < n
      · rw [if_pos w, if_neg (fun z => q ⟨w, z⟩)]
        split <;> omega
      · rw [if_neg w]; omega
    rw [if_neg ek, if_pos (show i01 (s < n ∧ isD (t s) = true) = 0 by rw [i01_0]; exact q), zg h, e4, m_wrong h e5]
    dsimp only [cV, uv]
    have e2' : (up (up (up g 4 (nI s)) 5 1) 6 (nI s)) 2 = nI n := by rw [up_n (by decide), up_n (by decide)]; exact e2
    have e5' : ¬ (up (up (up g 4 (nI s)) 5 1) 6 (nI s)) 5 = 0 := by rw [up_n (by decide), up_e]; decide
    rw [e_M_number_44, zg h, up_n (by decide), up_n (by decide), up_e, m_byteAt h hx e2' (by omega)]
    dsimp only [cI]
    rw [m_isDigit hx]
    dsimp only [cI1]
    rw [if_pos (by rw [i01_0]; exact q), m_in]
    dsimp only [cI1]
    refine ⟨fun V z => (by cases z), fun e z => ?_⟩
    cases z
    refine ⟨up (up (up g 4 (nI s)) 5 1) 6 (nI s), ?_, by rw [up_n (by decide), up_e]; rfl, up_e _ _ _, ⟨s, by omega, by rw [up_n (by decide), up_n (by decide), up_e]⟩, fun y h4 h5 h6 => by rw [up_n h6, up_n h5, up_n h4]⟩
    by_cases w : i01 (nI a ≤ 0 ∧ 0 ≤ x) = 0
    · rw [if_pos w, m_wrongF h e5']
      dsimp only [cV, uv]
      rw [e_M_number_122, zg h, if_neg e5', e_M_number_135]
      rfl
    · rw [if_neg w, e_M_number_122, zg h, if_neg e5', e_M_number_135]
      rfl
end MText
/-! words of the reference -/
def encN (f : Nat → Nat) (k : Nat) : Nat := fo k (fun j v => 27 * v + f j) 0
theorem encN_inj {f g : Nat → Nat} : ∀ k m, (∀ j, j < k → 1 ≤ f j ∧ f j ≤ 26) → (∀ j, j < m → 1 ≤ g j ∧ g j ≤ 26) → encN f k = encN g m → k = m ∧ ∀ j, j < k → f j = g j
  | 0, 0, _, _, _ => ⟨rfl, fun j hj => absurd hj (Nat.not_lt_zero j)⟩
  | 0, m + 1, _, hg, e => by
    have e : 0 = 27 * encN g m + g m := e
    have := hg m (by omega)
    omega
  | k + 1, 0, hf, _, e => by
    have e : 27 * encN f k + f k = 0 := e
    have := hf k (by omega)
    omega
  | k + 1, m + 1, hf, hg, e => by
    have e : 27 * encN f k + f k = 27 * encN g m + g m := e
    have h1 := hf k (by omega)
    have h2 := hg m (by omega)
    obtain ⟨r1, r2⟩ := encN_inj k m (fun j hj => hf j (by omega)) (fun j hj => hg j (by omega)) (by omega)
    subst r1
    refine ⟨rfl, fun j hj => ?_⟩
    by_cases ej : j = k
    · subst ej; omega
    · exact r2 j (by omega)
theorem encN_lt {f : Nat → Nat} : ∀ k, (∀ j, j < k → f j ≤ 26) → encN f k < 27 ^ k
  | 0, _ => Nat.zero_lt_one
  | k + 1, h => by
    have := encN_lt k (fun j hj => h j (by omega))
    have := h k (by omega)
    show 27 * encN f k + f k < _
    rw [Nat.pow_succ]
    omega
/-- how many letters stand at s -/
def lnL (t : Nat → Nat) (n s : Nat) : Nat := sp isL t n s - s
def wcd (t : Nat → Nat) (n s : Nat) : Int32 := if lnL t n s ≤ 6 then nI (encN (fun j => t (s + j) - 96) (lnL t n s)) else -1
/-- a word stands at s -/
def isW (t : Nat → Nat) (n s : Nat) (w : List Nat) : Prop := tkK t n s = 2 ∧ tokEq t s (tkE t n s) w
theorem tk2 {t : Nat → Nat} {n s : Nat} (h : s ≤ n) : (tkK t n s = 2 ↔ 0 < lnL t n s) ∧ (tkK t n s = 2 → tkE t n s = s + lnL t n s) ∧ s + lnL t n s = sp isL t n s := by
  obtain ⟨a1, a2, a3, a4⟩ := sp_all (P := isL) (t := t) (n := n) s h
  have e3 : s + lnL t n s = sp isL t n s := by unfold lnL; omega
  have key : tkK t n s = 2 ↔ (s < n ∧ isL (t s) = true) := by
    unfold tkK
    by_cases q : s < n
    · rw [if_pos q]
      by_cases q1 : isD (t s) = true
      · rw [if_pos q1]
        exact ⟨fun z => by omega, fun z => by rw [isDL q1] at z; exact absurd z.2 (by decide)⟩
      · rw [if_neg q1]
        by_cases q2 : isL (t s) = true
        · rw [if_pos q2]; exact ⟨fun _ => ⟨q, q2⟩, fun _ => rfl⟩
        · rw [if_neg q2]; exact ⟨fun z => by omega, fun z => absurd z.2 q2⟩
    · rw [if_neg q]; exact ⟨fun z => by omega, fun z => absurd z.1 q⟩
  refine ⟨⟨fun z => ?_, fun z => ?_⟩, fun z => ?_, e3⟩
  · have k := key.mp z
    have b := sp_all (P := isL) (t := t) (n := n) (s + 1) (by omega)
    rw [← sp_go k.1 k.2] at b
    unfold lnL
    omega
  · refine key.mpr ⟨by unfold lnL at z; omega, ?_⟩
    exact a4 s (Nat.le_refl _) (by omega)
  · have k := key.mp z
    unfold tkE
    rw [if_pos k.1, if_neg (fun w => by have := isDL w; rw [k.2] at this; cases this), if_pos k.2, e3]
theorem let_in {t : Nat → Nat} {n s j : Nat} (h : s ≤ n) (hj : j < lnL t n s) : 97 ≤ t (s + j) ∧ t (s + j) ≤ 122 := by
  obtain ⟨a1, a2, a3, a4⟩ := sp_all (P := isL) (t := t) (n := n) s h
  exact of_decide_eq_true (a4 (s + j) (by omega) (by unfold lnL at hj; omega))
theorem wcd_eq {t : Nat → Nat} {n s : Nat} (h : s ≤ n) {w : List Nat} (h1 : 0 < w.length) (h6 : w.length ≤ 6) (hw : ∀ j, j < w.length → 97 ≤ w.getD j 0 ∧ w.getD j 0 ≤ 122) : (wcd t n s = nI (encN (fun j => w.getD j 0 - 96) w.length)) = isW t n s w := by
  obtain ⟨t1, t2, t3⟩ := tk2 (t := t) h
  have b1 : encN (fun j => w.getD j 0 - 96) w.length < 27 ^ 6 := Nat.lt_of_lt_of_le (encN_lt w.length (fun j hj => by have := hw j hj; (try dsimp only); omega)) (Nat.pow_le_pow_right (by decide) h6)
  refine propext ⟨fun z => ?_, fun z => ?_⟩
  · unfold wcd at z
    by_cases q : lnL t n s ≤ 6
    · rw [if_pos q] at z
      have b2 : encN (fun j => t (s + j) - 96) (lnL t n s) < 27 ^ 6 := Nat.lt_of_lt_of_le (encN_lt _ (fun j hj => by have := let_in h hj; (try dsimp only); omega)) (Nat.pow_le_pow_right (by decide) q)
      have e := (nI_eq (by omega) (by omega)).mp z
      obtain ⟨r1, r2⟩ := encN_inj _ _ (fun j hj => by have := let_in h hj; (try dsimp only); omega) (fun j hj => by have := hw j hj; (try dsimp only); omega) e
      have hk : tkK t n s = 2 := t1.mpr (by omega)
      refine ⟨hk, by rw [t2 hk]; omega, fun j hj => ?_⟩
      have r3 := r2 j (by omega)
      try dsimp only at r3
      have := let_in (t := t) (n := n) h (j := j) (by omega)
      have := hw j hj
      omega
    · rw [if_neg q] at z
      exact absurd z (m1_ne (by omega))
  · obtain ⟨z1, z2, z3⟩ := z
    rw [t2 z1] at z2
    have el : lnL t n s = w.length := by omega
    unfold wcd
    rw [if_pos (by omega), el]
    exact congrArg nI (fo_as w.length (fun i hi x => by dsimp only; rw [z3 i hi]))
section MText2
variable {σ : mm_M} {d : Nat} {t : Nat → Nat} {n : Nat} {g : Nat → Int32} {s : Nat}
theorem m_letters (h : Sh σ) (hx : TxM σ t n) (hs : s ≤ n) (e2 : g 2 = nI n) (e4 : g 4 = nI s) : ∀ k j, lnL t n s - j = k → j ≤ lnL t n s → rn (d + 1) 177 8 [.ref 53, .int (nI (encN (fun i => t (s + i) - 96) (min j 6))), .int (nI j)] [] (wA σ 53 g) = some (.inl (.int (wcd t n s)), wA σ 53 g) := by
  have hn := hx.1
  obtain ⟨a1, a2, a3, a4⟩ := sp_all (P := isL) (t := t) (n := n) s hs
  have e3 : s + lnL t n s = sp isL t n s := by unfold lnL; omega
  intro k
  induction k with
  | zero =>
    intro j hk hj
    have ej : j = lnL t n s := by omega
    rw [e_M_wordHere_8, zg h, e4, nI_add, m_byteAt h hx e2 (by omega)]
    dsimp only [cI]
    rw [m_isSmall hx]
    dsimp only [cI1]
    rw [if_pos (by rw [i01_0, ej, e3]; exact a3)]
    unfold wcd
    by_cases q : lnL t n s ≤ 6
    · rw [if_pos (show nI j ≤ (6 : Int32) from nI_le (b := 6) (by omega) (by omega)), e_M_wordHere_72, if_pos q, ej, Nat.min_eq_left q]
      rfl
    · rw [if_neg (show ¬ nI j ≤ (6 : Int32) from nI_ge (a := 6) (by omega) (by omega)), e_M_wordHere_72, if_neg q]
      rfl
  | succ k ih =>
    intro j hk hj
    have hl := let_in hs (j := j) (t := t) (n := n) (by omega)
    have hjn : s + j < n := by omega
    rw [e_M_wordHere_8, zg h, e4, nI_add, m_byteAt h hx e2 (by omega)]
    dsimp only [cI]
    rw [m_isSmall hx]
    dsimp only [cI1]
    rw [if_neg (by rw [i01_0]; exact fun z => z ⟨hjn, a4 (s + j) (by omega) (by omega)⟩)]
    by_cases q : 6 ≤ j
    · rw [if_pos (show (6 : Int32) ≤ nI j from nI_le (a := 6) q (by omega)), e_M_wordHere_54, nI_1]
      have := ih (j + 1) (by omega) (by omega)
      rw [Nat.min_eq_right (by omega)] at this ⊢
      exact this
    · rw [if_neg (show ¬ (6 : Int32) ≤ nI j from nI_ge (b := 6) (by omega) (by omega)), zg h, e4, nI_add, m_byteAt h hx e2 (by omega)]
      dsimp only [cI]
      rw [e_M_wordHere_54, nI_1]
      have hlt : encN (fun i => t (s + i) - 96) j < 27 ^ 6 := Nat.lt_of_lt_of_le (encN_lt _ (fun i hi => by have := let_in hs (t := t) (n := n) (j := i) (by omega); (try dsimp only); omega)) (Nat.pow_le_pow_right (by decide) (by omega))
      have ee : (((27 : Int32) * nI (encN (fun i => t (s + i) - 96) (min j 6)) + byM t n (s + j)) - 97) + 1 = nI (encN (fun i => t (s + i) - 96) (min (j + 1) 6)) := by
        unfold byM
        rw [if_pos hjn, Nat.min_eq_left (by omega), Nat.min_eq_left (by omega), show (27 : Int32) * nI (encN (fun i => t (s + i) - 96) j) = nI (27 * encN (fun i => t (s + i) - 96) j) from pk_mul 27 _, nI_add, show nI (27 * encN (fun i => t (s + i) - 96) j + t (s + j)) - (97 : Int32) = nI (27 * encN (fun i => t (s + i) - 96) j + t (s + j) - 97) from pk_sub (b := 97) (by omega), nI_1]
        show _ = nI (27 * encN (fun i => t (s + i) - 96) j + (t (s + j) - 96))
        congr 1
        omega
      rw [ee]
      exact ih (j + 1) (by omega) (by omega)
theorem m_wordHere (h : Sh σ) (hx : TxM σ t n) (hk : MKf g t n s) : ev (d + 2) 177 [.ref 53] (wA σ 53 g) = some (.inl (.int (wcd t n s)), wA σ 53 (up g 4 (nI s))) := by
  rw [e_M_wordHere (d + 1) 53 (wA σ 53 g) (k53 h g), m_blanksK h hx hk]
  dsimp only [cV, uv]
  exact m_letters (d := d + 1) h hx hk.1 hk.to.2.1 (up_e _ _ _) _ 0 rfl (Nat.zero_le _)
def sixF (a b c x y z : Int32) : Int32 :=
  let v := 27 * (27 * a + b) + c
  let v := if x = 0 then v else 27 * v + x
  let v := if y = 0 then v else 27 * v + y
  if z = 0 then v else 27 * v + z
theorem m_six (a b c x y z : Int32) : ev d 178 [.int a, .int b, .int c, .int x, .int y, .int z] σ = some (.inl (.int (sixF a b c x y z)), σ) := by
  rw [e_M_six]
  unfold sixF
  by_cases q1 : x = 0 <;> by_cases q2 : y = 0 <;> by_cases q3 : z = 0 <;> simp only [q1, q2, q3, if_true, if_false, e_M_six_29, e_M_six_49, e_M_six_69, nar0]
theorem m_isWord (h : Sh σ) (hx : TxM σ t n) (hk : MKf g t n s) {w : List Nat} (h1 : 0 < w.length) (h6 : w.length ≤ 6) (hw : ∀ j, j < w.length → 97 ≤ w.getD j 0 ∧ w.getD j 0 ≤ 122) {a b c x y z : Int32} (e : sixF a b c x y z = nI (encN (fun j => w.getD j 0 - 96) w.length)) [Decidable (isW t n s w)] :
    ev (d + 3) 179 [.ref 53, .int a, .int b, .int c, .int x, .int y, .int z] (wA σ 53 g) = some (.inl (.int (i01 (isW t n s w))), wA σ 53 (up g 4 (nI s))) := by
  rw [e_M_isWord (d + 2) 53 a b c x y z (wA σ 53 g) (k53 h g), zg h, if_pos hk.2.2.1, m_wordHere h hx hk]
  dsimp only [cI]
  rw [m_six]
  dsimp only [cI1]
  have hh := wcd_eq (t := t) (n := n) (s := s) hk.1 h1 h6 hw
  rw [e]
  unfold i01
  by_cases q : isW t n s w
  · rw [if_pos (hh.mpr q), e_M_isWord_31, nar1_1, if_pos q]
  · rw [if_neg (fun z => q (hh.mp z)), e_M_isWord_30, e_M_isWord_31, nar1_0, if_neg q]
theorem m_skipWord (h : Sh σ) (hx : TxM σ t n) (hs : s ≤ n) (e2 : g 2 = nI n) (e4 : g 4 = nI s) : ev (d + 1) 180 [.ref 53] (wA σ 53 g) = some (.inl uv, wA σ 53 (up g 4 (nI (sp isL t n s)))) := by
  have hn := hx.1
  have key : ∀ k i g, n - i = k → i ≤ n → g 2 = nI n → g 4 = nI i → rn (d + 1) 180 0 [.ref 53] [] (wA σ 53 g) = some (.inl uv, wA σ 53 (up g 4 (nI (sp isL t n i)))) := by
    intro k
    induction k with
    | zero =>
      intro i g hk hi e2 e4
      rw [e_M_skipWord_0, zg h, e4, m_byteAt h hx e2 (by omega)]
      dsimp only [cI]
      rw [m_isSmall hx]
      dsimp only [cI1]
      rw [if_pos (by rw [i01_0]; omega), sp_no (by omega), up_self e4]
    | succ k ih =>
      intro i g hk hi e2 e4
      rw [e_M_skipWord_0, zg h, e4, m_byteAt h hx e2 (by omega)]
      dsimp only [cI]
      rw [m_isSmall hx]
      dsimp only [cI1]
      by_cases q : isL (t i) = true
      · rw [if_neg (by rw [i01_0]; exact fun z => z ⟨by omega, q⟩), zg h, e4, zs h, nI_1, ih (i + 1) (up g 4 (nI (i + 1))) (by omega) (by omega) (by rw [up_n (by decide)]; exact e2) (up_e _ _ _), up_up, sp_go (by omega) q]
      · rw [if_pos (by rw [i01_0]; exact fun z => q z.2), sp_no (fun z => q z.2), up_self e4]
  rw [e_M_skipWord d 53 (wA σ 53 g) (k53 h g)]
  exact key (n - s) s g rfl hs e2 e4
/-- behind a word -/
theorem m_skipK (h : Sh σ) (hx : TxM σ t n) (hk : MKf g t n s) (h2 : tkK t n s = 2) : ev (d + 1) 180 [.ref 53] (wA σ 53 (up g 4 (nI s))) = some (.inl uv, wA σ 53 (up g 4 (nI (tkE t n s)))) ∧ MKf (up g 4 (nI (tkE t n s))) t n (nxt t n s) := by
  have hto := hk.to
  obtain ⟨t1, t2, t3⟩ := tk2 (t := t) hk.1
  have z := tkE_le (t := t) hk.1
  rw [m_skipWord h hx hk.1 hto.2.1 (up_e _ _ _), up_up, ← t3, ← t2 h2]
  exact ⟨rfl, (nxt_le hk.1).2.1, by rw [up_n (by decide)]; exact hk.2.1, by rw [up_n (by decide)]; exact hk.2.2.1, tkE t n s, z.2.1, up_e _ _ _, rfl⟩
theorem MKf.nx (hk : MKf g t n s) : MKf (up g 4 (nI (tkE t n s))) t n (nxt t n s) :=
  ⟨(nxt_le hk.1).2.1, by rw [up_n (by decide)]; exact hk.2.1, by rw [up_n (by decide)]; exact hk.2.2.1, tkE t n s, (tkE_le hk.1).2.1, up_e _ _ _, rfl⟩
theorem tkE_sign {c : Nat} (hc : isS c) (q : s < n ∧ t s = c) : tkE t n s = s + 1 := by
  unfold tkE
  rw [if_pos q.1, q.2, hc.2.1, hc.2.2]
  rfl
theorem m_sign (h : Sh σ) (hx : TxM σ t n) (hk : MKf g t n s) {c : Nat} (hc : isS c) :
    ((s < n ∧ t s = c) → ev (d + 2) 182 [.ref 53, .int (nI c)] (wA σ 53 g) = some (.inl uv, wA σ 53 (up g 4 (nI (tkE t n s))))) ∧
    (¬ (s < n ∧ t s = c) → ev (d + 2) 182 [.ref 53, .int (nI c)] (wA σ 53 g) = some (.inl uv, wA σ 53 (up (up (up g 4 (nI s)) 5 1) 6 (nI s)))) := by
  have hn := hx.1
  have h1 := hk.1
  have hto := hk.to
  rw [e_M_sign (d + 1) 53 (nI c) (wA σ 53 g) (k53 h g), zg h, if_pos hk.2.2.1, m_blanksK h hx hk]
  dsimp only [cV, uv]
  rw [zg h, up_e, m_byteAt h hx hto.2.1 (by omega)]
  dsimp only [cI]
  have hc1 : c < 256 := by have := hc.1; omega
  refine ⟨fun q => ?_, fun q => ?_⟩
  · rw [if_pos (by rw [byM_eq hx hc1]; exact q), zg h, up_e, zs h, nI_1, e_M_sign_46, up_up, tkE_sign hc q]
    rfl
  · rw [if_neg (by rw [byM_eq hx hc1]; exact q), zg h, up_e, m_wrong h hto.2.2.1]
    dsimp only [cV, uv]
    rw [e_M_sign_46]
    rfl
theorem m_signF (h : Sh σ) (e5 : ¬ g 5 = 0) (x : Int32) : ev (d + 1) 182 [.ref 53, .int x] (wA σ 53 g) = some (.inl uv, wA σ 53 g) := by
  rw [e_M_sign d 53 x (wA σ 53 g) (k53 h g), zg h, if_neg e5]
theorem m_takesSign (h : Sh σ) (hx : TxM σ t n) (hk : MKf g t n s) {c : Nat} (hc : isS c) :
    ev (d + 2) 183 [.ref 53, .int (nI c)] (wA σ 53 g) = some (.inl (.int (i01 (s < n ∧ t s = c))), wA σ 53 (up g 4 (nI (if s < n ∧ t s = c then tkE t n s else s)))) := by
  have hn := hx.1
  have h1 := hk.1
  have hto := hk.to
  rw [e_M_takesSign (d + 1) 53 (nI c) (wA σ 53 g) (k53 h g), zg h, if_pos hk.2.2.1, m_blanksK h hx hk]
  dsimp only [cV, uv]
  rw [zg h, up_e, m_byteAt h hx hto.2.1 (by omega)]
  dsimp only [cI]
  have hc1 : c < 256 := by have := hc.1; omega
  unfold i01
  by_cases q : s < n ∧ t s = c
  · rw [if_pos (by rw [byM_eq hx hc1]; exact q), if_pos q, if_pos q]
    rw [show Value.retAddr 0 = uv from rfl, e_M_takesSign_30, if_neg (by decide), zg h, up_e, zs h, nI_1, e_M_takesSign_45, up_up, tkE_sign hc q, nar1_1]
  · rw [if_neg (by rw [byM_eq hx hc1]; exact q), if_neg q, if_neg q]
    rw [show Value.retAddr 0 = uv from rfl, e_M_takesSign_30, if_pos rfl, e_M_takesSign_45, nar1_0]
end MText2
