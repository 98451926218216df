/-! share -/
section ShareV
variable {σ τ σ' τ' υ φ : mm_M} {t : Nat → Nat} {n : Nat} {l : Ln} {many : Nat} {cs : Nat → Int32} {w K : Nat} {b : List (Nat × Nat)} {d : Nat}
theorem bit_split (x m : Int32) : (x &&& m) ||| (x &&& (m ^^^ (-1))) = x := by
  apply Int32.toBitVec_inj.mp
  rw [Int32.toBitVec_or, Int32.toBitVec_and, Int32.toBitVec_and, Int32.toBitVec_xor, show (-1 : Int32).toBitVec = BitVec.allOnes 32 by decide]
  ext i hi
  simp only [BitVec.getElem_or, BitVec.getElem_and, BitVec.getElem_xor, BitVec.getElem_allOnes]
  cases x.toBitVec[i] <;> cases m.toBitVec[i] <;> rfl
theorem bits_ok : ∀ n, n < 8 → ∀ j, j < 128 → j < 2 ^ n → nI j &&& (nI (2 ^ n - 1) ^^^ (-1)) = 0 := by decide +kernel
theorem share_bits {n : Nat} (hn : n ≤ 7) (x : Int32) : (x &&& (nI (2 ^ n - 1) ^^^ (-1))) = 0 ↔ inN x (2 ^ n) := by
  have p7 := pow7 hn
  refine ⟨fun h => ?_, fun h => ?_⟩
  · obtain ⟨j, hj, e⟩ := pk_andE x (m := nI (2 ^ n - 1)) n ((show ∀ n, n < 8 → (nI (2 ^ n - 1)).toBitVec.toNat = 2 ^ n - 1 by decide +kernel) n (by omega))
    have := bit_split x (nI (2 ^ n - 1))
    rw [h, or_0, e] at this
    exact ⟨j, hj, this.symm⟩
  · obtain ⟨j, hj, rfl⟩ := h
    exact bits_ok n (by omega) j (by omega) hj
/-- what the reference gives to those of x, up to bound -/
theorem m_givenBy (h : MX τ l many cs) (ok : LnOK l) (x bd : Int32) : ev (d + 1) 259 [.ref 53, .int x, .int bd] τ = some (.inl (.int (fo (nP l) (fun p s => s + (if bt x p = 0 then 0 else mnn bd (mI τ 533 (7 + p)))) 0)), τ) := by
  have hs := h.1
  have h7 := ok.1
  rw [e_M_givenBy d 53 x bd τ (by rw [k_53 hs])]
  refine (lp (F := fun i s => rn (d + 1) 259 5 [.ref 53, .int x, .int bd, .int s, .int (nI i)] [] τ) (n := nP l) (st := fun p s => s + (if bt x p = 0 then 0 else mnn bd (mI τ 533 (7 + p)))) (fun i s hi => ?_) 0).trans ?_
  · show rn (d + 1) 259 5 [.ref 53, .int x, .int bd, .int s, .int (nI i)] [] τ = _
    rw [e_M_givenBy_5, xr_53_12 hs, show aI τ 57 0 = aI τ 57 (nI 0) from rfl, xa_57 hs (by decide), h.2.1.1.1, if_neg (nI_ge (by omega) (by omega)), m_has, cI1_ok]
    by_cases q : bt x i = 0
    · rw [if_pos q, if_pos q, e_M_givenBy_44, nI_1]
    · rw [if_neg q, if_neg q, xr_53_29 hs, show (7 : Int32) + nI i = nI (7 + i) from nI_add 7 i, xa_533 hs (by omega), m_less, cI1_ok, e_M_givenBy_44, nI_1]
  · show rn (d + 1) 259 5 [.ref 53, .int x, .int bd, .int _, .int (nI (nP l))] [] τ = _
    rw [e_M_givenBy_5, xr_53_12 hs, show aI τ 57 0 = aI τ 57 (nI 0) from rfl, xa_57 hs (by decide), h.2.1.1.1, if_pos (nI_le (by omega) (by omega))]
    rfl
end ShareV
