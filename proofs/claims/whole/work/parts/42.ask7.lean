/-! comfort -/
section Ask7
variable {σ τ σ' τ' υ φ : mm_M} {t : Nat → Nat} {n : Nat} {l : Ln} {many : Nat} {cs : Nat → Int32} {w K : Nat} {b : List (Nat × Nat)} {d : Nat} {R S : Option mm_R}
theorem allB : ∀ n, n ≤ 7 → ((1 : Int32) <<< (nI n &&& 31)) - 1 = nI (2 ^ n - 1) := by decide
theorem c_allP (h : CX σ l many cs) (ok : LnOK l) : ev d 54 [.ref (ldA σ)] σ = some (.inl (.int (nI (2 ^ nP l - 1))), σ) := by
  rw [e_Land_allPersons d (ldA σ) σ (by rw [k_ld0 h.1 h.1.ld]), xg_ld h.1 h.1.ld, h.2.1.1.1, allB _ ok.1, nar0]
theorem pow7 {n : Nat} (h : n ≤ 7) : 2 ^ n ≤ 128 := Nat.pow_le_pow_right (by decide) h
/-- the reference's inner loop -/
theorem comf_in (h : MX τ l many cs) (ok : LnOK l) (x1 x2 : Int32) : rn (d + 1) 251 27 [.ref 53, .int x1, .int x2, .int x2, .int 0] [] τ = rn (d + 1) 251 27 [.ref 53, .int x1, .int x2, .int (nrs l x2), .int (nI (nP l))] [] τ := by
  have hs := h.1
  have h7 := ok.1
  refine lp (F := fun i s => rn (d + 1) 251 27 [.ref 53, .int x1, .int x2, .int s, .int (nI i)] [] τ) (n := nP l) (st := fun p s => if bt x2 p = 0 then s else s ||| near l (nI p)) (fun i s hi => ?_) x2
  show rn (d + 1) 251 27 [.ref 53, .int x1, .int x2, .int s, .int (nI i)] [] τ = _
  rw [e_M_comfort_27, xr_53_12 hs, show aI τ 57 0 = aI τ 57 (nI 0) from rfl, xa_57 hs (by decide), h.2.1.1.1, if_neg (nI_ge (by omega) (by omega)), m_has, cI1_ok]
  by_cases q : bt x2 i = 0
  · rw [if_pos q, if_pos q, e_M_comfort_58, nI_1, or_0]
  · rw [if_neg q, if_neg q, m_nearTo hs h.2.1 ok, cI_ok, e_M_comfort_58, nI_1]
theorem comf_loop (h : B2 σ τ t n l many cs w K b) : ∀ s c v v3 v4, s < 128 → c < 128 → Two σ τ (rn (d + 30) 58 10 [.ref (ldA σ), .int (whoB (nP l) (fun p => mI σ 533 (0 + p))), .int (nI c), .int (nI s), v] [] σ) (rn (d + 31) 251 18 [.ref 53, .int (nI c), .int (nI s), v3, v4] [] τ)
  | s, c, v, v3, v4, hs, hc => by
    have hw := h.1.1
    have hg := h.2.1.1
    have h7 := hw.ok.1.1
    have next : ∀ c v v3 v4, c < 128 → Two σ τ (rn (d + 30) 58 10 [.ref (ldA σ), .int (whoB (nP l) (fun p => mI σ 533 (0 + p))), .int (nI c), .int (nI s + (-1)), v] [] σ) (rn (d + 31) 251 18 [.ref 53, .int (nI c), .int (nI s + (-1)), v3, v4] [] τ) := by
      intro c v v3 v4 hc
      match s, hs with
      | 0, _ =>
        rw [show nI 0 + (-1) = (-1 : Int32) by decide, e_Land_fewestBy_10, if_pos (show (-1 : Int32) < 0 by decide), e_M_comfort_18, if_pos (show (-1 : Int32) < 0 by decide)]
        exact Two.ok h.2.2.2 _
      | s + 1, hs =>
        rw [show nI (s + 1) + (-1) = nI s by rw [show (-1 : Int32) = -(nI 1) by decide, ← Int32.sub_eq_add_neg]; exact pk_sub (b := 1) (by omega)]
        exact comf_loop h s c v v3 v4 (by omega) hc
    rw [e_Land_fewestBy_10, if_neg (nI_pos (by omega)), c_bitCount hs, cI1_ok, c_bitCount hc, cI1_ok, e_M_comfort_18, if_neg (nI_pos (by omega)), comf_in hg.mx hg.ok.1, e_M_comfort_27, (h.p (fun _ => none) _).2, if_pos (nI_le (by omega) (by omega)), xr_53_29 hg.sh, show ev (d + 30) 211 [.ref 53, .ref 533, .int 0] τ = _ from m_whoHas (f := 0) hg.sh (k_533 hg.sh) h7 hg.mx.2.1.1.1 (by decide), cI_ok, h.r]
    by_cases q1 : ones7 (nI c) < ones7 (nI s)
    · rw [if_pos q1, e_Land_fewestBy_30, if_pos (show (0 : Int32) = 0 from rfl), e_Land_fewestBy_51]
      by_cases q2 : (whoB (nP l) (fun p => mI σ 533 (0 + p)) &&& (nrs l (nI s) ^^^ (-1))) = 0
      · rw [if_pos q2, m_ones, cI1_ok, m_ones, cI1_ok, if_pos q1, e_M_comfort_97, e_M_comfort_98]
        exact next _ _ _ _ hc
      · rw [if_neg q2, e_M_comfort_97, e_M_comfort_98]
        exact next _ _ _ _ hc
    · rw [if_neg q1, e_Land_fewestBy_30, if_neg (show ¬ (1 : Int32) = 0 by decide), c_withNear hw.cx hw.ok.1, cI_ok]
      by_cases q2 : (whoB (nP l) (fun p => mI σ 533 (0 + p)) &&& (nrs l (nI s) ^^^ (-1))) = 0
      · rw [if_pos q2, if_pos q2, m_ones, cI1_ok, m_ones, cI1_ok, if_neg q1, e_M_comfort_98, e_Land_fewestBy_51]
        exact next _ _ _ _ hs
      · rw [if_neg q2, if_neg q2, e_M_comfort_97, e_M_comfort_98, e_Land_fewestBy_51]
        exact next _ _ _ _ hc
theorem op_comfort : OpN (d + 31) 138 [.ref 0] (d + 31) 251 [.ref 53] :=
  op_n (fun σ h => e_M_comfort (d + 30) 53 σ (by rw [k_53 h])) (fun σ τ t n l many cs w K b h => by
    have hw := h.1.1
    have hg := h.2.1.1
    have h7 := hw.ok.1.1
    have p7 := pow7 h7
    have r2 := (row_all h7 hw.row).2.1
    rw [e_W_comfort (d + 30) 0 σ (by rw [k_0 hw.sh]), xr_0_1 hw.sh, xr_3_1 hw.sh, xr_0_3 hw.sh, c_grieving hw.sh da21, cI1_ok, show mI σ (21 + 1) = mI σ 22 from rfl, r2, e_Land_fewestBy (d + 29) (ldA σ) _ σ (by rw [k_ld0 hw.sh hw.sh.ld]), c_allP hw.cx hw.ok.1, cI_ok, c_allP hw.cx hw.ok.1, cI_ok, (h.p (fun _ => none) _).2, allB _ h7]
    exact Two.mapC (comf_loop h _ _ _ _ _ (by omega) (by omega)) (fun v υ _ => by rw [nar0]))
end Ask7
