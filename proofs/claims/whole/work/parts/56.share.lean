/-! share -/
section ShareV
variable {σ τ σ' τ' υ φ : mm_M} {t : Nat → Nat} {n : Nat} {l : Ln} {many : Nat} {cs : Nat → Int32} {w K : Nat} {b : List (Nat × Nat)} {d : Nat}
theorem bit_split (x m : Int32) : (x &&& m) ||| (x &&& (m ^^^ (-1))) = x := by
  apply Int32.toBitVec_inj.mp
  rw [Int32.toBitVec_or, Int32.toBitVec_and, Int32.toBitVec_and, Int32.toBitVec_xor, show (-1 : Int32).toBitVec = BitVec.allOnes 32 by decide]
  ext i hi
  simp only [BitVec.getElem_or, BitVec.getElem_and, BitVec.getElem_xor, BitVec.getElem_allOnes]
  cases x.toBitVec[i] <;> cases m.toBitVec[i] <;> rfl
theorem bits_ok : ∀ n, n < 8 → ∀ j, j < 128 → j < 2 ^ n → nI j &&& (nI (2 ^ n - 1) ^^^ (-1)) = 0 := by decide +kernel
theorem share_bits {n : Nat} (hn : n ≤ 7) (x : Int32) : (x &&& (nI (2 ^ n - 1) ^^^ (-1))) = 0 ↔ inN x (2 ^ n) := by
  have p7 := pow7 hn
  refine ⟨fun h => ?_, fun h => ?_⟩
  · obtain ⟨j, hj, e⟩ := pk_andE x (m := nI (2 ^ n - 1)) n ((show ∀ n, n < 8 → (nI (2 ^ n - 1)).toBitVec.toNat = 2 ^ n - 1 by decide +kernel) n (by omega))
    have := bit_split x (nI (2 ^ n - 1))
    rw [h, or_0, e] at this
    exact ⟨j, hj, this.symm⟩
  · obtain ⟨j, hj, rfl⟩ := h
    exact bits_ok n (by omega) j (by omega) hj
/-- what the reference gives to those of x, up to bound -/
theorem m_givenBy (h : MX τ l many cs) (ok : LnOK l) (x bd : Int32) : ev (d + 1) 259 [.ref 53, .int x, .int bd] τ = some (.inl (.int (fo (nP l) (fun p s => s + (if bt x p = 0 then 0 else mnn bd (mI τ 533 (7 + p)))) 0)), τ) := by
  have hs := h.1
  have h7 := ok.1
  rw [e_M_givenBy d 53 x bd τ (by rw [k_53 hs])]
  refine (lp (F := fun i s => rn (d + 1) 259 5 [.ref 53, .int x, .int bd, .int s, .int (nI i)] [] τ) (n := nP l) (st := fun p s => s + (if bt x p = 0 then 0 else mnn bd (mI τ 533 (7 + p)))) (fun i s hi => ?_) 0).trans ?_
  · show rn (d + 1) 259 5 [.ref 53, .int x, .int bd, .int s, .int (nI i)] [] τ = _
    rw [e_M_givenBy_5, xr_53_12 hs, show aI τ 57 0 = aI τ 57 (nI 0) from rfl, xa_57 hs (by decide), h.2.1.1.1, if_neg (nI_ge (by omega) (by omega)), m_has, cI1_ok]
    by_cases q : bt x i = 0
    · rw [if_pos q, if_pos q, e_M_givenBy_44, nI_1]
    · rw [if_neg q, if_neg q, xr_53_29 hs, show (7 : Int32) + nI i = nI (7 + i) from nI_add 7 i, xa_533 hs (by omega), m_less, cI1_ok, e_M_givenBy_44, nI_1]
  · show rn (d + 1) 259 5 [.ref 53, .int x, .int bd, .int _, .int (nI (nP l))] [] τ = _
    rw [e_M_givenBy_5, xr_53_12 hs, show aI τ 57 0 = aI τ 57 (nI 0) from rfl, xa_57 hs (by decide), h.2.1.1.1, if_pos (nI_le (by omega) (by omega))]
    rfl
theorem mnn_comm (x y : Int32) : mnn x y = mnn y x := by
  unfold mnn
  by_cases q : y < x
  · rw [if_pos q, if_neg (fun z => by rw [Int32.lt_iff_toInt_lt] at q z; omega)]
  · rw [if_neg q]
    by_cases z : x < y
    · rw [if_pos z]
    · rw [if_neg z]
      apply Int32.toInt_inj.mp
      rw [Int32.lt_iff_toInt_lt] at q z
      omega
theorem given_eq {m k : Nat} {c r : Nat → Int32} (hm : m ≤ 7) (h : RP m c r) (x : Int32) (hk : k < 1000) : thU x (nI k) (fun p => c (10 + p)) = fo m (fun p s => s + (if bt x p = 0 then 0 else mnn (nI k) (r (7 + p)))) 0 := by
  have row := h.1.1.2.2.1
  have g := h.2
  have a : thU x (nI k) (fun p => c (10 + p)) = fo 7 (fun p s => s + (if bt x p = 0 then 0 else mnn (nI k) (r (7 + p)))) 0 := by
    unfold thU
    refine fo_as 7 (fun p hp s => ?_)
    by_cases q : bt x p = 0
    · rw [if_pos q, if_pos q, Int32.add_zero]
    · rw [if_neg q, if_neg q]
      show s + mnn (c (10 + p)) (nI k) = _
      rw [(row p hp).2.1, mnn_comm]
  have cut := fo_cut (n := m) (s := 0) (f := fun p => if bt x p = 0 then 0 else mnn (nI k) (r (7 + p))) (7 - m) (fun p h1 h2 => by
    show (if bt x p = 0 then 0 else mnn (nI k) (r (7 + p))) = 0
    by_cases q : bt x p = 0
    · rw [if_pos q]
    · rw [if_neg q, (g.1 p h1 (by omega)).2, mnn_comm]
      unfold mnn
      rw [if_neg (nI_pos (by omega))])
  rw [show m + (7 - m) = 7 by omega] at cut
  exact a.trans cut
theorem sh_end {p i : Nat} (h : B2 σ τ t n l many cs w K b) (hp : p < nP l) (x2 x3 y : Int32) (q : ¬ bt x2 p = 0) : Two σ τ (rn (d + 30) 143 100 [.ref 0, .int (nI p), .int x2, .int x3, .int (nI i), .int y] [] σ) (rn (d + 31) 260 101 [.ref 53, .int (nI p), .int x2, .int x3, .int (nI i)] [] τ) := by
  have hw := h.1.1
  have hg := h.2.1.1
  have h7 := hw.ok.1.1
  rw [e_W_share_100, xr_0_3 hw.sh, c_thirstOf hw.sh da21 (by omega), cI1_ok, c_min, cI1_ok, show mI σ (21 + 1) = mI σ 22 from rfl, (h.th (p := p) (by omega)).1, e_M_share_101, m_has, cI1_ok, if_neg q, xr_53_29 hg.sh, show (7 : Int32) + nI p = nI (7 + p) from nI_add 7 p, xa_533 hg.sh (by omega), m_less, cI1_ok, e_M_share_127, mnn_comm]
  exact Two.ok h.2.2.2 _
theorem sh_loop {p : Nat} (h : B2 σ τ t n l many cs w K b) (hp : p < nP l) (x2 x3 : Int32) (q : ¬ bt x2 p = 0) : ∀ m i, 99 - i = m → i ≤ 99 → Two σ τ (rn (d + 30) 143 69 [.ref 0, .int (nI p), .int x2, .int x3, .int (nI i), .int (nI (i + 1))] [] σ) (rn (d + 31) 260 75 [.ref 53, .int (nI p), .int x2, .int x3, .int (nI i)] [] τ)
  | 0, i, hm, hi => by
    rw [e_W_share_69, if_pos (show (99 : Int32) < nI (i + 1) from nI_lt (a := 99) (by omega) (by omega)), e_M_share_75, if_pos (show (99 : Int32) ≤ nI i from nI_le (a := 99) (by omega) (by omega))]
    exact sh_end h hp x2 x3 _ q
  | m + 1, i, hm, hi => by
    have hw := h.1.1
    have hg := h.2.1.1
    have h7 := hw.ok.1.1
    have e := given_eq h7 hw.row x2 (k := i + 1) (by omega)
    rw [e_W_share_69, if_neg (show ¬ (99 : Int32) < nI (i + 1) from nI_nlt (a := 99) (by omega) (by omega)), xr_0_3 hw.sh, c_thirstUpTo hw.sh da21, cI1_ok, show mI σ (21 + 1) = mI σ 22 from rfl, e, e_M_share_75, if_neg (show ¬ (99 : Int32) ≤ nI i from nI_ge (b := 99) (by omega) (by omega)), show nI i + (1 : Int32) = nI (i + 1) from nI_1 i, m_givenBy hg.mx hg.ok.1, cI_ok, h.r]
    by_cases z : x3 < fo (nP l) (fun p s => s + (if bt x2 p = 0 then 0 else mnn (nI (i + 1)) (mI σ 533 (7 + p)))) 0
    · rw [if_pos z, if_pos z]
      exact sh_end h hp x2 x3 _ q
    · rw [if_neg z, if_neg z, nI_1]
      exact sh_loop h hp x2 x3 q m (i + 1) (by omega) (by omega)
theorem sh_none {p : Nat} (h : MX τ l many cs) (ok : LnOK l) (x2 x3 : Int32) (q : bt x2 p = 0) : ∀ m i, 99 - i = m → i ≤ 99 → rn (d + 31) 260 75 [.ref 53, .int (nI p), .int x2, .int x3, .int (nI i)] [] τ = some (.inl (.int 0), τ)
  | 0, i, hm, hi => by
    rw [e_M_share_75, if_pos (show (99 : Int32) ≤ nI i from nI_le (a := 99) (by omega) (by omega)), e_M_share_101, m_has, cI1_ok, if_pos q, e_M_share_127, nar0]
  | m + 1, i, hm, hi => by
    rw [e_M_share_75, if_neg (show ¬ (99 : Int32) ≤ nI i from nI_ge (b := 99) (by omega) (by omega)), nI_1, m_givenBy h ok, cI_ok]
    by_cases z : x3 < fo (nP l) (fun p s => s + (if bt x2 p = 0 then 0 else mnn (nI (i + 1)) (mI τ 533 (7 + p)))) 0
    · rw [if_pos z, e_M_share_101, m_has, cI1_ok, if_pos q, e_M_share_127, nar0]
    · rw [if_neg z]
      exact sh_none h ok x2 x3 q m (i + 1) (by omega) (by omega)
end ShareV
