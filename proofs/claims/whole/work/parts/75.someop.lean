/-! some, the reference; done -/
def wLA (σ : mm_M) (f : Nat → Int64) : mm_M := (σ.1, fun c j => if c = 559 then f j else σ.2.1 c j, σ.2.2)
theorem wL_LA (σ : mm_M) (f : Nat → Int64) (i : Nat) (v : Int64) : wL (wLA σ f) 559 i v = wLA σ (fun j => if j = i then v else f j) := by
  show (σ.1, (fun c j => if c = 559 ∧ j = i then v else if c = 559 then f j else σ.2.1 c j), σ.2.2) = (σ.1, (fun c j => if c = 559 then (if j = i then v else f j) else σ.2.1 c j), σ.2.2)
  have e : (fun (c : Nat) (j : Nat) => if c = 559 ∧ j = i then v else if c = 559 then f j else σ.2.1 c j) = (fun c j => if c = 559 then (if j = i then v else f j) else σ.2.1 c j) := by
    funext c j
    by_cases h1 : c = 559
    · by_cases h2 : j = i
      · rw [if_pos ⟨h1, h2⟩, if_pos h1, if_pos h2]
      · rw [if_neg (fun q => h2 q.2), if_pos h1, if_pos h1, if_neg h2]
    · rw [if_neg (fun q => h1 q.1), if_neg h1, if_neg h1]
  rw [e]
theorem mL_LA (σ : mm_M) (f : Nat → Int64) (j : Nat) : mL (wLA σ f) 559 j = f j := by
  show (if 559 = 559 then f j else σ.2.1 559 j) = f j
  rw [if_pos rfl]
theorem wLA_id (σ : mm_M) : wLA σ (mL σ 559) = σ := by
  show (σ.1, (fun c j => if c = 559 then σ.2.1 559 j else σ.2.1 c j), σ.2.2) = σ
  refine Prod.ext rfl (Prod.ext (funext fun c => funext fun j => ?_) rfl)
  show (if c = 559 then σ.2.1 559 j else σ.2.1 c j) = σ.2.1 c j
  by_cases h : c = 559
  · rw [if_pos h, h]
  · rw [if_neg h]
section SomeO
variable {σ τ σ' τ' υ φ : mm_M} {t : Nat → Nat} {n : Nat} {l : Ln} {many : Nat} {cs : Nat → Int32} {w K : Nat} {b : List (Nat × Nat)} {d : Nat} {f : Nat → Int64}
theorem aL559 (h : Sh τ) {p : Nat} (hp : p < 14) (k : Int64 → Option mm_R) : aL (wLA τ f) 559 (nI p) k = k (f p) := by
  unfold aL
  have k' : mK (wLA τ f) 559 = (2, 14) := k_559 h
  rw [k', if_pos ⟨rfl, in_nI hp (by decide)⟩, ix_nI (by omega), mL_LA]
theorem tL559 (h : Sh τ) {p : Nat} (hp : p < 14) (v : Int64) (k : mm_M → Option mm_R) : tL (wLA τ f) 559 (nI p) v k = k (wLA τ (fun j => if j = p then v else f j)) := by
  unfold tL
  have k' : mK (wLA τ f) 559 = (2, 14) := k_559 h
  rw [k', if_pos ⟨rfl, in_nI hp (by decide)⟩, ix_nI (by omega), wL_LA]
theorem r44 (h : Sh τ) (k : Nat → Option mm_R) : gR (wLA τ f) 12 53 44 k = k 559 := xr_53_44 (σ := wLA τ f) h k
/-- all empty but the first -/
theorem ms_0 {x1 x2 x3 x4 : Int32} (h : Sh τ) : ∀ m i f, 14 - i = m → i ≤ 14 → (∀ j, j < i → f j = lN (exN 0 0 j)) → ∃ f', rn (d + 1) 258 64 [.ref 53, .int x1, .int x2, .int x3, .int x4, .int (nI i), uv, uv, uv, uv, uv, uv, uv, uv, uv] [] (wLA τ f) = rn (d + 1) 258 97 [.ref 53, .int x1, .int x2, .int x3, .int x4, .int 0, uv, uv, uv, uv, uv, uv, uv, uv, uv] [] (wLA τ f') ∧ ∀ j, j < 14 → f' j = lN (exN 0 0 j)
  | 0, i, f, hm, hi, e => ⟨f, by rw [e_M_some_64, if_pos (show (14 : Int32) ≤ nI i from nI_le (a := 14) (by omega) (by omega))], fun j hj => e j (by omega)⟩
  | m + 1, i, f, hm, hi, e => by
    obtain ⟨f', r1, r2⟩ := ms_0 (x1 := x1) (x2 := x2) (x3 := x3) (x4 := x4) h m (i + 1) (fun j => if j = i then lN (exN 0 0 i) else f j) (by omega) (by omega) (fun j hj => by
      by_cases z : j = i
      · rw [if_pos z, z]
      · rw [if_neg z]; exact e j (by omega))
    refine ⟨f', ?_, r2⟩
    rw [e_M_some_64, if_neg (show ¬ (14 : Int32) ≤ nI i from nI_ge (b := 14) (by omega) (by omega)), r44 h]
    by_cases z : i = 0
    · subst z
      rw [if_pos (show nI 0 = (0 : Int32) from rfl), e_M_some_87, tL559 h (by decide), nI_1]
      exact r1
    · rw [if_neg (nI_ne0 (by omega) (by omega)), e_M_some_87, tL559 h (by omega), nI_1]
      have : lN (exN 0 0 i) = Int64.ofNat 0 := by
        show lN (if i = 0 then 1 else 0) = lN 0
        rw [if_neg z]
      rw [this] at r1
      exact r1
/-- one more who may laugh -/
theorem ms_1 {N q e : Nat} {x2 x4 : Int32} (hq : q ≤ 16) (h : Sh τ) : ∀ i f, i ≤ 14 → (∀ j, j < 14 → f j = lN (if i ≤ j then exN q (e + 1) j else exN q e j)) → ∃ f', rn (d + 1) 258 107 [.ref 53, .int (nI N), .int x2, .int (nI q), .int x4, .int (nI e), .int (nI i + (-1)), uv, uv, uv, uv, uv, uv, uv, uv] [] (wLA τ f) = rn (d + 1) 258 97 [.ref 53, .int (nI N), .int x2, .int (nI q), .int x4, .int (nI e + 1), .int (-1), uv, uv, uv, uv, uv, uv, uv, uv] [] (wLA τ f') ∧ ∀ j, j < 14 → f' j = lN (exN q (e + 1) j)
  | 0, f, hi, ef => ⟨f, by rw [show nI 0 + (-1 : Int32) = -1 by decide, e_M_some_107, if_pos (by decide)], fun j hj => by rw [ef j hj, if_pos (Nat.zero_le _)]⟩
  | i + 1, f, hi, ef => by
    have s16 : Int32.toInt64 ((16 : Int32) - nI q) = lN (16 - q) := by rw [show (16 : Int32) - nI q = nI (16 - q) from pk_sub (a := 16) hq, nI_l (by omega)]
    obtain ⟨f', r1, r2⟩ := ms_1 (N := N) (e := e) (x2 := x2) (x4 := x4) hq h i (fun j => if j = i then lN (exN q (e + 1) i) else f j) (by omega) (fun j hj => by
      by_cases z : j = i
      · rw [if_pos z, z, if_pos (Nat.le_refl _)]
      · rw [if_neg z, ef j hj]
        by_cases y : i + 1 ≤ j
        · rw [if_pos y, if_pos (by omega)]
        · rw [if_neg y, if_neg (by omega)])
    refine ⟨f', ?_, r2⟩
    have fi : f i = lN (exN q e i) := by rw [ef i (by omega), if_neg (by omega)]
    rw [pk_m1, e_M_some_107, if_neg (nI_pos (by omega)), r44 h, r44 h, aL559 h (by omega), fi, s16, lN_mul]
    cases i with
    | zero =>
      rw [if_pos (show nI 0 ≤ (0 : Int32) by decide), e_M_some_152, tL559 h (by decide), show (Int64.ofNat 0) = lN 0 from rfl, lN_add, Nat.add_zero]
      exact r1
    | succ i =>
      have fp : f i = lN (exN q e i) := by rw [ef i (by omega), if_neg (by omega)]
      rw [if_neg (nI_nle (by omega) (by omega)), r44 h, nI_pred, aL559 h (by omega), fp, nI_l (by omega), lN_mul, e_M_some_152, tL559 h (by omega), lN_add]
      exact r1
theorem ms_2 {N q : Nat} {x2 x4 : Int32} (hN : N ≤ 12) (hq : q ≤ 16) (h : Sh τ) : ∀ m e v6 f, N - e = m → e ≤ N → (∀ j, j < 14 → f j = lN (exN q e j)) → ∃ f', rn (d + 1) 258 97 [.ref 53, .int (nI N), .int x2, .int (nI q), .int x4, .int (nI e), v6, uv, uv, uv, uv, uv, uv, uv, uv] [] (wLA τ f) = rn (d + 1) 258 179 [.ref 53, .int (nI N), .int x2, .int (nI q), .int x4, .long (Int64.ofNat 0), uv, .long (lN (2 ^ (4 * N))), uv, .int x2, uv, uv, uv, uv, uv] [] (wLA τ f') ∧ ∀ j, j < 14 → f' j = lN (exN q N j)
  | 0, e, v6, f, hm, he, ef => ⟨f, by
      rw [e_M_some_97, if_pos (nI_le (by omega) (by omega)), (show ∀ N, N < 13 → (Int64.ofNat 1) <<< (Int32.toInt64 ((4 : Int32) * nI N) &&& 63) = lN (2 ^ (4 * N)) by decide +kernel) N (by omega)], fun j hj => by rw [ef j hj, show e = N by omega]⟩
  | m + 1, e, v6, f, hm, he, ef => by
    obtain ⟨f1, k1, k2⟩ := ms_1 (d := d) (N := N) (e := e) (x2 := x2) (x4 := x4) hq h 14 f (by decide) (fun j hj => by rw [ef j hj, if_neg (by omega)])
    obtain ⟨f', r1, r2⟩ := ms_2 (x2 := x2) (x4 := x4) hN hq h m (e + 1) (.int (-1)) f1 (by omega) (by omega) k2
    refine ⟨f', ?_, r2⟩
    rw [e_M_some_97, if_neg (nI_ge (by omega) (by omega)), show rn (d + 1) 258 107 [.ref 53, .int (nI N), .int x2, .int (nI q), .int x4, .int (nI e), .int 13, uv, uv, uv, uv, uv, uv, uv, uv] [] (wLA τ f) = _ from k1, nI_1]
    exact r1
theorem ms_3 {N k q : Nat} {x4 : Int32} {W : Int64} (hk : k ≤ 13) (h : Sh τ) (ef : ∀ j, j < 14 → f j = lN (exN q N j)) : ∀ m i, 14 - i = m → k ≤ i → i ≤ 14 → rn (d + 1) 258 179 [.ref 53, .int (nI N), .int (nI k), .int (nI q), .int x4, .long (lN (sgm k (exN q N) i)), uv, .long W, uv, .int (nI i), uv, uv, uv, uv, uv] [] (wLA τ f) = rn (d + 1) 258 212 [.ref 53, .int (nI N), .int (nI k), .int (nI q), .int x4, .long (lN (sgm k (exN q N) 14)), uv, .long W, uv, .long W, uv, .long (lN (sgm k (exN q N) 14)), uv, uv, uv] [] (wLA τ f) := by
  intro m
  induction m with
  | zero =>
    intro i hm h1 h2
    rw [e_M_some_179, if_pos (show (14 : Int32) ≤ nI i from nI_le (a := 14) (by omega) (by omega)), show i = 14 by omega]
  | succ m ih =>
    intro i hm h1 h2
    have ih' := ih (i + 1) (by omega) (by omega) (by omega)
    rw [sgm_s, if_pos h1] at ih'
    rw [e_M_some_179, if_neg (show ¬ (14 : Int32) ≤ nI i from nI_ge (b := 14) (by omega) (by omega)), r44 h, aL559 h (by omega), ef i (by omega), lN_add, nI_1]
    exact ih'
/-- what they share -/
theorem ms_4 {x1 x2 x3 x4 : Int32} {U V : Nat} (hU : U < 2 ^ 60) (hV : V < 2 ^ 60) (τ : mm_M) : ∀ B A v, B < 2 ^ 60 → A < 2 ^ 60 → 0 < A + B → rn (d + 1) 258 212 [.ref 53, .int x1, .int x2, .int x3, .int x4, .long (lN U), uv, .long (lN V), uv, .long (lN A), uv, .long (lN B), uv, v, uv] [] τ = some (.inl (.long (if x4 = 0 then lN (U / Nat.gcd B A) else lN (V / Nat.gcd B A))), τ) := by
  intro B
  induction B using Nat.strongRecOn with
  | _ B ih =>
    intro A v hB hA pos
    rw [e_M_some_212]
    by_cases z : B = 0
    · subst z
      have nA : ¬ lN A = 0 := fun y => by have := (pk_lEQ (a := A) (b := 0) (by omega) (by decide)).mp y; omega
      rw [if_pos (show lg_cmp (lN 0) (Int64.ofNat 0) = 0 by decide), Nat.gcd_zero_left]
      by_cases y : x4 = 0
      · rw [if_pos y, if_pos y, if_neg nA, e_M_some_255, pk_lDiv (by omega) (by omega) (by omega)]
      · rw [if_neg y, if_neg y, if_neg nA, e_M_some_255, pk_lDiv (by omega) (by omega) (by omega)]
    · have nB : ¬ lN B = 0 := fun y => z ((pk_lEQ (a := B) (b := 0) (by omega) (by decide)).mp y)
      have lt := Nat.mod_lt A (show B > 0 by omega)
      rw [if_neg (show ¬ lg_cmp (lN B) (Int64.ofNat 0) = 0 from fun y => nB ((lg_cmp_eq _ _).mp y)), if_neg nB, pk_lRem (by omega) (by omega) (by omega), ih (A % B) lt B _ (by omega) hB (by omega), ← Nat.gcd_rec]
theorem m_some {N k q : Nat} {x4 : Int32} (hN : N ≤ 12) (hk : k ≤ 13) (hq : q ≤ 16) (h : Sh τ) : ∃ f, rn (d + 1) 258 64 [.ref 53, .int (nI N), .int (nI k), .int (nI q), .int x4, .int 0, uv, uv, uv, uv, uv, uv, uv, uv, uv] [] τ = some (.inl (.long (smv N k q x4)), wLA τ f) := by
  obtain ⟨f0, c0, e0⟩ := ms_0 (d := d) (x1 := nI N) (x2 := nI k) (x3 := nI q) (x4 := x4) h 14 0 (mL τ 559) rfl (by decide) (fun j hj => absurd hj (Nat.not_lt_zero j))
  rw [wLA_id] at c0
  obtain ⟨f1, c1, e1⟩ := ms_2 (d := d) (x2 := nI k) (x4 := x4) hN hq h N 0 uv f0 rfl (Nat.zero_le _) (fun j hj => by rw [e0 j hj]; rfl)
  have c2 := ms_3 (d := d) (x4 := x4) (W := lN (2 ^ (4 * N))) hk h e1 (14 - k) k rfl (Nat.le_refl _) (by omega)
  rw [sgm_0 k (Nat.le_refl _)] at c2
  have p48 : 2 ^ (4 * N) ≤ 2 ^ 48 := Nat.pow_le_pow_right (by decide) (by omega)
  have p0 : 0 < 2 ^ (4 * N) := Nat.two_pow_pos _
  refine ⟨f1, ?_⟩
  rw [show rn (d + 1) 258 64 [.ref 53, .int (nI N), .int (nI k), .int (nI q), .int x4, .int 0, uv, uv, uv, uv, uv, uv, uv, uv, uv] [] τ = _ from c0, show rn (d + 1) 258 97 [.ref 53, .int (nI N), .int (nI k), .int (nI q), .int x4, .int 0, uv, uv, uv, uv, uv, uv, uv, uv, uv] [] (wLA τ f0) = _ from c1, show rn (d + 1) 258 179 [.ref 53, .int (nI N), .int (nI k), .int (nI q), .int x4, .long (Int64.ofNat 0), uv, .long (lN (2 ^ (4 * N))), uv, .int (nI k), uv, uv, uv, uv, uv] [] (wLA τ f1) = _ from c2, ms_4 (sg_bound hN hq 14 (by omega)) (by omega) (wLA τ f1) _ _ uv (sg_bound hN hq 14 (by omega)) (by omega) (by omega)]
  rfl
/-- a call that answers a long -/
def OpL (Dw mw : Nat) (asw : List Value) (Dm mr : Nat) (asm : List Value) : Prop := ∀ σ, Inv σ → ∃ x υ v φ, ev Dw mw asw σ = some (.inl (.int x), υ) ∧ Cst σ υ ∧ ev Dm mr asm υ = some (.inl (.long v), φ) ∧ Cst σ φ ∧ Inv φ ∧ mI φ 53 0 = x ∧ (x = 0 → mL φ 560 0 = v)
theorem cLh_ok (H : List (Nat × Int32)) (v : Int64) (τ : mm_M) (k : Int64 → mm_M → Option mm_R) : cLh H (some (.inl (.long v), τ)) k = k v τ := by simp only [cLh]
theorem cLh_ex {H : List (Nat × Int32)} {e : Nat} {c : Int32} (hc : hget H e = some c) (τ : mm_M) (k : Int64 → mm_M → Option mm_R) : cLh H (some (.inr e, τ)) k = some (.inl (.int c), τ) := by simp only [cLh, hc]
/-- a refusal, on both sides -/
theorem ex_inv {e : Nat} {c : Int32} (h : Iv σ t n l many cs w K b) (he : e = 1 ∨ e = 2) : Inv (exM (exC σ e) c e) ∧ Cst σ (exC σ e) ∧ Cst σ (exM (exC σ e) c e) ∧ mI (exM (exC σ e) c e) 53 0 = c := by
  have h2 := h.1.ex e
  refine ⟨⟨t, n, l, many, cs, w, K, b, ?_, ?_⟩, ⟨rfl, rfl, Nat.le_refl _, Nat.le_refl _, fun a ha => ?_⟩, ⟨rfl, rfl, Nat.le_refl _, Nat.le_refl _, fun a ha => ?_⟩, ?_⟩
  · have a1 : AgM (fun x => x = 55) (fun i => i = 0) (exC σ e) (wI (wI (exC σ e) 53 0 0) 53 0 c) := AgM.w53 (F := fun i => i = 0) (AgM.w53 (F := fun i => i = 0) (AgM.refl _ _ _) rfl _) rfl _
    have a2 : AgM (fun x => x = 55) (fun i => i = 0) (exC σ e) (exM (exC σ e) c e) := by
      refine a1.trans ?_
      exact AgM.of (S := fun x => x = 55) (Ag.wI (S := fun x => x = 55) (Ag.refl _ _) rfl _ _) (fun _ q => q) (by omega)
    exact h2.keep a2 (fun x f q => by unfold fpI fxC at f; omega) (fun x f q => by unfold fF at f; omega)
  · obtain ⟨i1, i2, i3⟩ := h.2
    have r55 : ∀ i, mI (exM (exC σ e) c e) 55 i = if i = e - 1 then mI σ 55 (e - 1) + 1 else mI σ 55 i := by
      intro i
      unfold exM
      rw [rI_w]
      have e1 : mI (exC σ e) 55 = mI σ 55 := by show mI (wI σ 0 (13 + e) (mI σ 0 (13 + e) + 1)) 55 = _; rw [rI_o (by decide)]
      by_cases z : i = e - 1
      · rw [if_pos ⟨rfl, z⟩, if_pos z, e1]
      · rw [if_neg (fun y => z y.2), if_neg z, rI_o (by decide), rI_o (by decide), e1]
    have r0 : ∀ i, mI (exM (exC σ e) c e) 0 i = if i = 13 + e then mI σ 0 (13 + e) + 1 else mI σ 0 i := by
      intro i
      unfold exM
      rw [rI_o (by decide), rI_o (by decide), rI_o (by decide)]
      show mI (wI σ 0 (13 + e) (mI σ 0 (13 + e) + 1)) 0 i = _
      rw [rI_w]
      by_cases z : i = 13 + e
      · rw [if_pos ⟨rfl, z⟩, if_pos z]
      · rw [if_neg (fun y => z y.2), if_neg z]
    have r53 : mI (exM (exC σ e) c e) 53 35 = mI σ 53 35 := by
      unfold exM
      rw [rI_o (by decide), rI_w, if_neg (by omega), rI_w, if_neg (by omega)]
      show mI (wI σ 0 (13 + e) (mI σ 0 (13 + e) + 1)) 53 35 = _
      rw [rI_o (by decide)]
    refine ⟨?_, ?_, ?_⟩
    · rw [r53, r0, if_neg (by omega)]; exact i1
    · rw [r55, r0]
      rcases he with rfl | rfl
      · rw [if_pos rfl, if_pos rfl, i2]
      · rw [if_neg (by decide), if_neg (by decide)]; exact i2
    · rw [r55, r0]
      rcases he with rfl | rfl
      · rw [if_neg (by decide), if_neg (by decide)]; exact i3
      · rw [if_pos rfl, if_pos rfl, i3]
  · show mI (wI σ 0 (13 + e) (mI σ 0 (13 + e) + 1)) a = _
    rw [rI_o (by omega)]
  · show mI (wI (wI (wI (wI σ 0 _ _) 53 0 _) 53 0 _) 55 _ _) a = _
    rw [rI_o (by omega), rI_o (by omega), rI_o (by omega), rI_o (by omega)]
  · unfold exM
    rw [rI_o (by decide), rI_w, if_pos ⟨rfl, rfl⟩]
theorem op_some (x1 x2 x3 x4 : Int32) : OpL (d + 31) 297 [.ref 0, .int x1, .int x2, .int x3, .int x4, .ref 560] (d + 31) 258 [.ref 53, .int x1, .int x2, .int x3, .int x4] := by
  intro σ hI
  obtain ⟨t, n, l, many, cs, w, K, b, h⟩ := hI
  have hw := h.1
  obtain ⟨a0, b0⟩ := c_rng (d := d + 29) hw.sh x1 0 12
  obtain ⟨a1, b1⟩ := c_rng (d := d + 29) hw.sh x2 0 13
  obtain ⟨a2, b2⟩ := c_rng (d := d + 29) hw.sh x3 0 16
  obtain ⟨a3, b3⟩ := c_rng (d := d + 29) hw.sh x4 0 1
  have hc := e_W_some (d + 29) 0 x1 x2 x3 x4 σ (by rw [k_0 hw.sh])
  have hL := e_L_some (d + 30) 0 x1 x2 x3 x4 560 σ
  by_cases p : ((0 : Int32) ≤ x1 ∧ x1 ≤ 12) ∧ ((0 : Int32) ≤ x2 ∧ x2 ≤ 13) ∧ ((0 : Int32) ≤ x3 ∧ x3 ≤ 16) ∧ ((0 : Int32) ≤ x4 ∧ x4 ≤ 1)
  · obtain ⟨N, hN, rfl⟩ := (inN_r (n := 12) (by decide)).mp p.1
    obtain ⟨k, hk, rfl⟩ := (inN_r (n := 13) (by decide)).mp p.2.1
    obtain ⟨q, hq, rfl⟩ := (inN_r (n := 16) (by decide)).mp p.2.2.1
    have c1 := c_some_loop (d := d + 29) (σ := σ) (N := N) (k := k) (q := q) (by omega) (by omega) (by omega) x4 (N + 1) 0 rfl (Nat.zero_le _)
    have cb0 : cb N 0 = 1 := (show ∀ N, N < 13 → cb N 0 = 1 by decide) N (by omega)
    rw [cb0] at c1
    rw [a0 p.1, cI_ok, a1 p.2.1, cI_ok, a2 p.2.2.1, cI_ok, a3 p.2.2.2, cI_ok, show rn (d + 29 + 1) 142 45 [.ref 0, .int (nI N), .int (nI k), .int (nI q), .int x4, .long (Int64.ofNat 0), uv, .long (Int64.ofNat 1), uv, .int 0, uv, uv] [] σ = _ from c1] at hc
    rw [hc, cLh_ok, tL560 hw.sh, nar0] at hL
    have h2 := (h.wL' 560 0 (smv N k q x4)).th
    have s2 := h2.1.sh
    have s1 := (h.wL' 560 0 (smv N k q x4)).1.sh
    obtain ⟨f, m1⟩ := m_some (d := d + 30) (x4 := x4) (N := N) (k := k) (q := q) (by omega) (by omega) (by omega) s2
    refine ⟨0, wL σ 560 0 (smv N k q x4), smv N k q x4, wLA (wI (wL σ 560 0 (smv N k q x4)) 53 0 0) f, hL, Cst.refl σ, ?_, ⟨rfl, rfl, Nat.le_succ _, Nat.le_add_right _ _, fun a ha => ?_⟩, ⟨t, n, l, many, cs, w, K, b, h2⟩, ?_, fun _ => ?_⟩
    · rw [e_M_some (d + 30) 53 (nI N) (nI k) (nI q) x4 _ (by rw [k_53 s1]), xs_53 s1, m_in, cI1_ok, i01_p p.1, if_neg (show ¬ (1 : Int32) = 0 by decide), m_in, cI1_ok, i01_p p.2.1, if_neg (show ¬ (1 : Int32) = 0 by decide), m_in, cI1_ok, i01_p p.2.2.1, if_neg (show ¬ (1 : Int32) = 0 by decide), m_in, cI1_ok, i01_p p.2.2.2, if_neg (show ¬ (1 : Int32) = 0 by decide), e_M_some_51, m_bad0 s2 (th0 _), cI_ok, if_pos (show (0 : Int32) = 0 from rfl)]
      exact m1
    · show mI (wI (wL σ 560 0 (smv N k q x4)) 53 0 0) a = _
      rw [rI_o (by omega)]; rfl
    · show mI (wI (wL σ 560 0 (smv N k q x4)) 53 0 0) 53 0 = 0
      exact th0 _
    · show (if 560 = 559 then f 0 else (if 560 = 560 ∧ 0 = 0 then smv N k q x4 else mL σ 560 0)) = _
      rw [if_neg (by decide), if_pos ⟨rfl, rfl⟩]
  · have ce : ev (d + 30) 142 [.ref 0, .int x1, .int x2, .int x3, .int x4] σ = some (.inr 2, exC σ 2) := by
      rw [hc]
      by_cases q0 : (0 : Int32) ≤ x1 ∧ x1 ≤ 12
      · rw [a0 q0, cI_ok]
        by_cases q1 : (0 : Int32) ≤ x2 ∧ x2 ≤ 13
        · rw [a1 q1, cI_ok]
          by_cases q2 : (0 : Int32) ≤ x3 ∧ x3 ≤ 16
          · rw [a2 q2, cI_ok, b3 (fun z => p ⟨q0, q1, q2, z⟩)]; rfl
          · rw [b2 q2]; rfl
        · rw [b1 q1]; rfl
      · rw [b0 q0]; rfl
    obtain ⟨i1, i2, i3, i4⟩ := ex_inv (e := 2) (c := 1) h (Or.inr rfl)
    have hg := h.1.ex 2
    have s1 := hg.sh
    refine ⟨1, exC σ 2, Int64.ofNat 0, exM (exC σ 2) 1 2, by rw [hL, ce, cLh_ex (show hget [(2, 1)] 2 = some 1 from rfl)], i2, ?_, i3, i1, i4, fun z => absurd z (by decide)⟩
    have bad : rn (d + 31) 258 46 [.ref 53, .int x1, .int x2, .int x3, .int x4, uv, uv, uv, uv, uv, uv, uv, uv, uv, uv] [.ref 53] (wI (exC σ 2) 53 0 0) = some (.inl (.long (Int64.ofNat 0)), exM (exC σ 2) 1 2) := by rw [e_M_some_46, e_M_some_51, m_bx1 s1 (by decide), cI_ok, if_neg (show ¬ (1 : Int32) = 0 by decide)]
    rw [e_M_some (d + 30) 53 x1 x2 x3 x4 _ (by rw [k_53 s1]), xs_53 s1, m_in, cI1_ok]
    by_cases q0 : (0 : Int32) ≤ x1 ∧ x1 ≤ 12
    · rw [i01_p q0, if_neg (show ¬ (1 : Int32) = 0 by decide), m_in, cI1_ok]
      by_cases q1 : (0 : Int32) ≤ x2 ∧ x2 ≤ 13
      · rw [i01_p q1, if_neg (show ¬ (1 : Int32) = 0 by decide), m_in, cI1_ok]
        by_cases q2 : (0 : Int32) ≤ x3 ∧ x3 ≤ 16
        · rw [i01_p q2, if_neg (show ¬ (1 : Int32) = 0 by decide), m_in, cI1_ok, i01_n (show ¬ ((0 : Int32) ≤ x4 ∧ x4 ≤ 1) from fun z => p ⟨q0, q1, q2, z⟩), if_pos (show (0 : Int32) = 0 from rfl)]; exact bad
        · rw [i01_n q2, if_pos (show (0 : Int32) = 0 from rfl)]; exact bad
      · rw [i01_n q1, if_pos (show (0 : Int32) = 0 from rfl)]; exact bad
    · rw [i01_n q0, if_pos (show (0 : Int32) = 0 from rfl)]; exact bad
end SomeO
