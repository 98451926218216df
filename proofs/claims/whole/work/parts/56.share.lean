/-! share -/
section ShareV
variable {σ τ σ' τ' υ φ : mm_M} {t : Nat → Nat} {n : Nat} {l : Ln} {many : Nat} {cs : Nat → Int32} {w K : Nat} {b : List (Nat × Nat)} {d : Nat}
theorem bit_split (x m : Int32) : (x &&& m) ||| (x &&& (m ^^^ (-1))) = x := by
  apply Int32.toBitVec_inj.mp
  rw [Int32.toBitVec_or, Int32.toBitVec_and, Int32.toBitVec_and, Int32.toBitVec_xor, show (-1 : Int32).toBitVec = BitVec.allOnes 32 by decide]
  ext i hi
  simp only [BitVec.getElem_or, BitVec.getElem_and, BitVec.getElem_xor, BitVec.getElem_allOnes]
  cases x.toBitVec[i] <;> cases m.toBitVec[i] <;> rfl
theorem bits_ok : ∀ n, n < 8 → ∀ j, j < 128 → j < 2 ^ n → nI j &&& (nI (2 ^ n - 1) ^^^ (-1)) = 0 := by decide +kernel
theorem share_bits {n : Nat} (hn : n ≤ 7) (x : Int32) : (x &&& (nI (2 ^ n - 1) ^^^ (-1))) = 0 ↔ inN x (2 ^ n) := by
  have p7 := pow7 hn
  refine ⟨fun h => ?_, fun h => ?_⟩
  · obtain ⟨j, hj, e⟩ := pk_andE x (m := nI (2 ^ n - 1)) n ((show ∀ n, n < 8 → (nI (2 ^ n - 1)).toBitVec.toNat = 2 ^ n - 1 by decide +kernel) n (by omega))
    have := bit_split x (nI (2 ^ n - 1))
    rw [h, or_0, e] at this
    exact ⟨j, hj, this.symm⟩
  · obtain ⟨j, hj, rfl⟩ := h
    exact bits_ok n (by omega) j (by omega) hj
/-- what the reference gives to those of x, up to bound -/
theorem m_givenBy (h : MX τ l many cs) (ok : LnOK l) (x bd : Int32) : ev (d + 1) 259 [.ref 53, .int x, .int bd] τ = some (.inl (.int (fo (nP l) (fun p s => s + (if bt x p = 0 then 0 else mnn bd (mI τ 533 (7 + p)))) 0)), τ) := by
  have hs := h.1
  have h7 := ok.1
  rw [e_M_givenBy d 53 x bd τ (by rw [k_53 hs])]
  refine (lp (F := fun i s => rn (d + 1) 259 5 [.ref 53, .int x, .int bd, .int s, .int (nI i)] [] τ) (n := nP l) (st := fun p s => s + (if bt x p = 0 then 0 else mnn bd (mI τ 533 (7 + p)))) (fun i s hi => ?_) 0).trans ?_
  · show rn (d + 1) 259 5 [.ref 53, .int x, .int bd, .int s, .int (nI i)] [] τ = _
    rw [e_M_givenBy_5, xr_53_12 hs, show aI τ 57 0 = aI τ 57 (nI 0) from rfl, xa_57 hs (by decide), h.2.1.1.1, if_neg (nI_ge (by omega) (by omega)), m_has, cI1_ok]
    by_cases q : bt x i = 0
    · rw [if_pos q, if_pos q, e_M_givenBy_44, nI_1]
    · rw [if_neg q, if_neg q, xr_53_29 hs, show (7 : Int32) + nI i = nI (7 + i) from nI_add 7 i, xa_533 hs (by omega), m_less, cI1_ok, e_M_givenBy_44, nI_1]
  · show rn (d + 1) 259 5 [.ref 53, .int x, .int bd, .int _, .int (nI (nP l))] [] τ = _
    rw [e_M_givenBy_5, xr_53_12 hs, show aI τ 57 0 = aI τ 57 (nI 0) from rfl, xa_57 hs (by decide), h.2.1.1.1, if_pos (nI_le (by omega) (by omega))]
    rfl
theorem mnn_comm (x y : Int32) : mnn x y = mnn y x := by
  unfold mnn
  by_cases q : y < x
  · rw [if_pos q, if_neg (fun z => by rw [Int32.lt_iff_toInt_lt] at q z; omega)]
  · rw [if_neg q]
    by_cases z : x < y
    · rw [if_pos z]
    · rw [if_neg z]
      apply Int32.toInt_inj.mp
      rw [Int32.lt_iff_toInt_lt] at q z
      omega
theorem given_eq {m k : Nat} {c r : Nat → Int32} (hm : m ≤ 7) (h : RP m c r) (x : Int32) (hk : k < 1000) : thU x (nI k) (fun p => c (10 + p)) = fo m (fun p s => s + (if bt x p = 0 then 0 else mnn (nI k) (r (7 + p)))) 0 := by
  have row := h.1.1.2.2.1
  have g := h.2
  have a : thU x (nI k) (fun p => c (10 + p)) = fo 7 (fun p s => s + (if bt x p = 0 then 0 else mnn (nI k) (r (7 + p)))) 0 := by
    unfold thU
    refine fo_as 7 (fun p hp s => ?_)
    by_cases q : bt x p = 0
    · rw [if_pos q, if_pos q, Int32.add_zero]
    · rw [if_neg q, if_neg q]
      show s + mnn (c (10 + p)) (nI k) = _
      rw [(row p hp).2.1, mnn_comm]
  have cut := fo_cut (n := m) (s := 0) (f := fun p => if bt x p = 0 then 0 else mnn (nI k) (r (7 + p))) (7 - m) (fun p h1 h2 => by
    show (if bt x p = 0 then 0 else mnn (nI k) (r (7 + p))) = 0
    by_cases q : bt x p = 0
    · rw [if_pos q]
    · rw [if_neg q, (g.1 p h1 (by omega)).2, mnn_comm]
      unfold mnn
      rw [if_neg (nI_pos (by omega))])
  rw [show m + (7 - m) = 7 by omega] at cut
  exact a.trans cut
theorem sh_end {p i : Nat} (h : B2 σ τ t n l many cs w K b) (hp : p < nP l) (x2 x3 y : Int32) (q : ¬ bt x2 p = 0) : Two σ τ (rn (d + 30) 143 100 [.ref 0, .int (nI p), .int x2, .int x3, .int (nI i), .int y] [] σ) (rn (d + 31) 260 101 [.ref 53, .int (nI p), .int x2, .int x3, .int (nI i)] [] τ) := by
  have hw := h.1.1
  have hg := h.2.1.1
  have h7 := hw.ok.1.1
  rw [e_W_share_100, xr_0_3 hw.sh, c_thirstOf hw.sh da21 (by omega), cI1_ok, c_min, cI1_ok, show mI σ (21 + 1) = mI σ 22 from rfl, (h.th (p := p) (by omega)).1, e_M_share_101, m_has, cI1_ok, if_neg q, xr_53_29 hg.sh, show (7 : Int32) + nI p = nI (7 + p) from nI_add 7 p, xa_533 hg.sh (by omega), m_less, cI1_ok, e_M_share_127, mnn_comm]
  exact Two.ok h.2.2.2 _
theorem sh_loop {p : Nat} (h : B2 σ τ t n l many cs w K b) (hp : p < nP l) (x2 x3 : Int32) (q : ¬ bt x2 p = 0) : ∀ m i, 99 - i = m → i ≤ 99 → Two σ τ (rn (d + 30) 143 69 [.ref 0, .int (nI p), .int x2, .int x3, .int (nI i), .int (nI (i + 1))] [] σ) (rn (d + 31) 260 75 [.ref 53, .int (nI p), .int x2, .int x3, .int (nI i)] [] τ)
  | 0, i, hm, hi => by
    rw [e_W_share_69, if_pos (show (99 : Int32) < nI (i + 1) from nI_lt (a := 99) (by omega) (by omega)), e_M_share_75, if_pos (show (99 : Int32) ≤ nI i from nI_le (a := 99) (by omega) (by omega))]
    exact sh_end h hp x2 x3 _ q
  | m + 1, i, hm, hi => by
    have hw := h.1.1
    have hg := h.2.1.1
    have h7 := hw.ok.1.1
    have e := given_eq h7 hw.row x2 (k := i + 1) (by omega)
    rw [e_W_share_69, if_neg (show ¬ (99 : Int32) < nI (i + 1) from nI_nlt (a := 99) (by omega) (by omega)), xr_0_3 hw.sh, c_thirstUpTo hw.sh da21, cI1_ok, show mI σ (21 + 1) = mI σ 22 from rfl, e, e_M_share_75, if_neg (show ¬ (99 : Int32) ≤ nI i from nI_ge (b := 99) (by omega) (by omega)), show nI i + (1 : Int32) = nI (i + 1) from nI_1 i, m_givenBy hg.mx hg.ok.1, cI_ok, h.r]
    by_cases z : x3 < fo (nP l) (fun p s => s + (if bt x2 p = 0 then 0 else mnn (nI (i + 1)) (mI σ 533 (7 + p)))) 0
    · rw [if_pos z, if_pos z]
      exact sh_end h hp x2 x3 _ q
    · rw [if_neg z, if_neg z, nI_1]
      exact sh_loop h hp x2 x3 q m (i + 1) (by omega) (by omega)
theorem sh_none {p : Nat} (h : MX τ l many cs) (ok : LnOK l) (x2 x3 : Int32) (q : bt x2 p = 0) : ∀ m i, 99 - i = m → i ≤ 99 → rn (d + 31) 260 75 [.ref 53, .int (nI p), .int x2, .int x3, .int (nI i)] [] τ = some (.inl (.int 0), τ)
  | 0, i, hm, hi => by
    rw [e_M_share_75, if_pos (show (99 : Int32) ≤ nI i from nI_le (a := 99) (by omega) (by omega)), e_M_share_101, m_has, cI1_ok, if_pos q, e_M_share_127, nar0]
  | m + 1, i, hm, hi => by
    rw [e_M_share_75, if_neg (show ¬ (99 : Int32) ≤ nI i from nI_ge (b := 99) (by omega) (by omega)), nI_1, m_givenBy h ok, cI_ok]
    by_cases z : x3 < fo (nP l) (fun p s => s + (if bt x2 p = 0 then 0 else mnn (nI (i + 1)) (mI τ 533 (7 + p)))) 0
    · rw [if_pos z, e_M_share_101, m_has, cI1_ok, if_pos q, e_M_share_127, nar0]
    · rw [if_neg z]
      exact sh_none h ok x2 x3 q m (i + 1) (by omega) (by omega)
theorem op_share (x1 x2 x3 : Int32) : OpQ (d + 30) 143 [.ref 0, .int x1, .int x2, .int x3] (d + 31) 260 [.ref 53, .int x1, .int x2, .int x3] [(1, 1), (2, 2)] := by
  refine op_x (e1 := 1) (e2 := 2) (c1 := 1) (c2 := 2) (P := fun l => inN x1 (nP l)) (Q := fun l => inN x2 (2 ^ nP l) ∧ inN x3 1000)
    (f := fun σ6 => if ((x2 >>> (x1 &&& 31)) &&& (1 : Int32)) = 0 then some (Sum.inl (Value.int (nar 0 0)), σ6) else rn (d + 30) 143 69 [.ref 0, .int x1, .int x2, .int x3, .int 0, .int 1] [] σ6)
    (g := fun σ1 => rn (d + 31) 260 75 [.ref 53, .int x1, .int x2, .int x3, .int 0] [] σ1) ⟨Or.inl rfl, rfl, by decide⟩ ⟨Or.inr rfl, rfl, by decide⟩ ?_ ?_ ?_
  · intro σ t n l many cs w K b hw
    have h7 := hw.ok.1.1
    obtain ⟨a0, b0⟩ := c_needP (d := d + 29) hw.cx hw.ok.1 x1
    obtain ⟨a1, b1⟩ := c_needR (d := d + 29) hw.sh x3 (m := 999) (by decide)
    have sb := share_bits h7 x2
    rw [e_W_share (d + 29) 0 x1 x2 x3 σ (by rw [k_0 hw.sh])]
    refine ⟨fun p q => ?_, fun p => by rw [b0 p]; rfl, fun p q => ?_⟩
    · rw [a0 p, cV_ok, xr_0_1 hw.sh, xr_3_1 hw.sh, c_allP hw.cx hw.ok.1, cI1_ok, if_pos (sb.mpr q.1), show ev (d + 29) 155 [.ref 0, .int x3, .int 0, .int 999] σ = _ from a1 q.2, cI_ok]
    · rw [a0 p, cV_ok, xr_0_1 hw.sh, xr_3_1 hw.sh, c_allP hw.cx hw.ok.1, cI1_ok]
      by_cases z : inN x2 (2 ^ nP l)
      · rw [if_pos (sb.mpr z), show ev (d + 29) 155 [.ref 0, .int x3, .int 0, .int 999] σ = _ from b1 (fun y => q ⟨z, y⟩)]; rfl
      · rw [if_neg (fun y => z (sb.mp y)), exC2 hw.sh x1]
  · intro σ t n l many cs w K b hw hg
    have h7 := hw.ok.1.1
    have p7 := pow7 h7
    haveI := Classical.propDecidable (inN x1 (nP l))
    have ma : ev (d + 30) 166 [.int x2, .int 0, .int (nI (2 ^ nP l - 1))] (wI σ 53 0 0) = some (.inl (.int (@i01 (inN x2 (2 ^ nP l - 1 + 1)) (Classical.propDecidable _))), wI σ 53 0 0) := m_inN (by omega) x2
    have pos : 1 ≤ 2 ^ nP l := Nat.one_le_two_pow
    rw [show 2 ^ nP l - 1 + 1 = 2 ^ nP l by omega] at ma
    have mb : ev (d + 30) 166 [.int x3, .int 0, .int 999] (wI σ 53 0 0) = _ := m_inN (m := 999) (by decide) x3
    have zero : rn (d + 31) 260 70 [.ref 53, .int x1, .int x2, .int x3, uv] [] (exM σ 2 2) = some (.inl (.int 0), exM σ 2 2) := by rw [e_M_share_70, nar0]
    have bad : rn (d + 31) 260 62 [.ref 53, .int x1, .int x2, .int x3, uv] [.int 1, .ref 53] (wI σ 53 0 0) = some (.inl (.int 0), exM σ 2 2) := by rw [e_M_share_62, m_bx1 hw.sh (by decide), cI_ok, if_neg (show ¬ (1 : Int32) = 0 by decide)]; exact zero
    have all : (gR (wI σ 53 0 0) 12 53 12 fun r3 => aI (wI σ 53 0 0) r3 0 fun r4 => cI1 (ev (d + 30) 166 [.int x2, .int 0, .int (((1 : Int32) <<< (r4 &&& 31)) - (1 : Int32))] (wI σ 53 0 0)) fun r6 σ5 => if r6 = 0 then rn (d + 31) 260 57 [.ref 53, .int x1, .int x2, .int x3, uv] [.ref 53] σ5 else cI1 (ev (d + 30) 166 [.int x3, .int 0, .int 999] σ5) fun r8 σ7 => if r8 = 0 then rn (d + 31) 260 57 [.ref 53, .int x1, .int x2, .int x3, uv] [.ref 53] σ7 else rn (d + 31) 260 62 [.ref 53, .int x1, .int x2, .int x3, uv] [.int 0, .ref 53] σ7) = (if @i01 (inN x2 (2 ^ nP l)) (Classical.propDecidable _) = 0 then rn (d + 31) 260 57 [.ref 53, .int x1, .int x2, .int x3, uv] [.ref 53] (wI σ 53 0 0) else if @i01 (inN x3 (999 + 1)) (Classical.propDecidable _) = 0 then rn (d + 31) 260 57 [.ref 53, .int x1, .int x2, .int x3, uv] [.ref 53] (wI σ 53 0 0) else rn (d + 31) 260 62 [.ref 53, .int x1, .int x2, .int x3, uv] [.int 0, .ref 53] (wI σ 53 0 0)) := by
      rw [xr_53_12 hg.sh, show aI (wI σ 53 0 0) 57 0 = aI (wI σ 53 0 0) 57 (nI 0) from rfl, xa_57 hg.sh (by decide), hg.mx.2.1.1.1, allB _ h7, ma, cI1_ok, mb, cI1_ok]
    rw [e_M_share (d + 30) 53 x1 x2 x3 σ (by rw [k_53 hw.sh]), xs_53 hw.sh, m_isP hg.mx hg.ok.1 x1, cI_ok]
    refine ⟨fun p q => ?_, fun p => ?_, fun p q => ?_⟩
    · rw [i01_p p, if_neg (show ¬ (1 : Int32) = 0 by decide), e_M_share_19, m_bad0 hg.sh (th0 σ), cI_ok, if_pos (show (0 : Int32) = 0 from rfl), all, @i01_p _ (Classical.propDecidable _) q.1, if_neg (show ¬ (1 : Int32) = 0 by decide), @i01_p _ (Classical.propDecidable _) (show inN x3 (999 + 1) from q.2), if_neg (show ¬ (1 : Int32) = 0 by decide), e_M_share_62, m_bad0 hg.sh (th0 σ), cI_ok, if_pos (show (0 : Int32) = 0 from rfl)]
    · rw [i01_n p, if_pos (show (0 : Int32) = 0 from rfl), e_M_share_19, m_bx0 hw.sh (by decide), cI_ok, if_neg (show ¬ (1 : Int32) = 0 by decide), e_M_share_70, nar0]
    · rw [i01_p p, if_neg (show ¬ (1 : Int32) = 0 by decide), e_M_share_19, m_bad0 hg.sh (th0 σ), cI_ok, if_pos (show (0 : Int32) = 0 from rfl), all]
      by_cases z : inN x2 (2 ^ nP l)
      · rw [@i01_p _ (Classical.propDecidable _) z, if_neg (show ¬ (1 : Int32) = 0 by decide), @i01_n _ (Classical.propDecidable _) (show ¬ inN x3 (999 + 1) from fun y => q ⟨z, y⟩), if_pos (show (0 : Int32) = 0 from rfl), e_M_share_57]
        exact bad
      · rw [@i01_n _ (Classical.propDecidable _) z, if_pos (show (0 : Int32) = 0 from rfl), e_M_share_57]
        exact bad
  · intro σ τ t n l many cs w K b h p q
    obtain ⟨p, hp, rfl⟩ := p
    show Two σ τ (if bt x2 p = 0 then some (Sum.inl (Value.int (nar 0 0)), σ) else rn (d + 30) 143 69 [.ref 0, .int (nI p), .int x2, .int x3, .int 0, .int 1] [] σ) (rn (d + 31) 260 75 [.ref 53, .int (nI p), .int x2, .int x3, .int 0] [] τ)
    by_cases z : bt x2 p = 0
    · rw [if_pos z, nar0, show (rn (d + 31) 260 75 [.ref 53, .int (nI p), .int x2, .int x3, .int 0] [] τ) = _ from sh_none h.2.1.1.mx h.2.1.1.ok.1 x2 x3 z _ 0 rfl (by decide)]
      exact Two.ok h.2.2.2 _
    · rw [if_neg z]
      exact sh_loop h hp x2 x3 z _ 0 rfl (by decide)
end ShareV
