/-! status, count, street, way, dry -/
section Ask5
variable {σ τ σ' τ' υ φ : mm_M} {t : Nat → Nat} {n : Nat} {l : Ln} {many : Nat} {cs : Nat → Int32} {w K : Nat} {b : List (Nat × Nat)} {d : Nat} {R S : Option mm_R}
theorem m_inN {m : Nat} (hm : m < 2147483647) (x : Int32) : ev d 166 [.int x, .int 0, .int (nI m)] σ = some (.inl (.int (@i01 (inN x (m + 1)) (Classical.propDecidable _))), σ) := by
  rw [m_in, @i01_if _ (inN x (m + 1)) _ (Classical.propDecidable _) (inN_r hm)]
theorem op_status (x : Int32) : OpN (d + 31) 153 [.ref 0, .int x] (d + 31) 274 [.ref 53, .int x] :=
  op_n (fun σ h => e_M_status (d + 30) 53 x σ (by rw [k_53 h])) (fun σ τ t n l many cs w K b h => by
    have hw := h.1.1
    have hg := h.2.1.1
    have i1 := h.2.1.2.2.1
    have i2 := h.2.1.2.2.2
    rw [h.2.2.1.2.2.2] at i1 i2
    rw [e_W_status (d + 31) 0 x σ (by rw [k_0 hw.sh]), show (ev (d + 30) 166 [.int x, .int 0, .int 1] τ) = _ from m_inN (m := 1) (by decide) x, cI1_ok]
    by_cases q : inN x 2
    · obtain ⟨k, hk, rfl⟩ := q
      rw [@i01_p _ (Classical.propDecidable _) (show inN (nI k) (1 + 1) from ⟨k, hk, rfl⟩), if_neg (show ¬ (1 : Int32) = 0 by decide), xr_53_10 hg.sh, xa_55 hg.sh hk, e_M_status_24]
      rcases (show k = 0 ∨ k = 1 by omega) with rfl | rfl
      · rw [if_pos (by decide), xg_0 hw.sh, e_W_status_24, i1]; exact Two.ok h.2.2.2 _
      · rw [if_neg (by decide), if_pos (by decide), xg_0 hw.sh, e_W_status_24, i2]; exact Two.ok h.2.2.2 _
    · rw [@i01_n _ (Classical.propDecidable _) q, if_pos (show (0 : Int32) = 0 from rfl), if_neg (show ¬ x = 0 from fun z => q ⟨0, by decide, z⟩), if_neg (show ¬ x = 1 from fun z => q ⟨1, by decide, z⟩), e_W_status_24, e_M_status_24]
      exact Two.ok h.2.2.2 _)
theorem op_count (x : Int32) : OpN (d + 31) 154 [.ref 0, .int x] (d + 31) 275 [.ref 53, .int x] :=
  op_n (fun σ h => e_M_count (d + 31) 53 x σ (by rw [k_53 h])) (fun σ τ t n l many cs w K b h => by
    have hw := h.1.1
    have hg := h.2.1.1
    have a1 := hw.2.2.2.2.1.2.1
    have a2 := hg.2.2.2.2.1.2.2.1
    have b1 := hw.2.2.2.2.2.1.2.1
    have b2 := hg.2.2.2.2.2.1.2.2.1
    have c1 := hw.2.1.2.2.1
    have c2 := hg.2.1.2.2.2.1
    rw [e_W_count (d + 31) 0 x σ (by rw [k_0 hw.sh])]
    by_cases q : inN x 3
    · obtain ⟨k, hk, rfl⟩ := q
      rcases (show k = 0 ∨ k = 1 ∨ k = 2 by omega) with rfl | rfl | rfl
      · rw [show swT 1 51 0 2 #[27, 35, 43] (nI 0) = 28 by decide, e_W_count_28, xr_0_5 hw.sh, xg_25 hw.sh, b1, if_pos (by decide), xg_53 hg.sh, e_M_count_41, b2]; exact Two.ok h.2.2.2 _
      · rw [show swT 1 51 0 2 #[27, 35, 43] (nI 1) = 36 by decide, e_W_count_36, xr_0_0 hw.sh, xg_1 hw.sh, c1, if_neg (by decide), if_pos (by decide), xg_53 hg.sh, e_M_count_41, c2]; exact Two.ok h.2.2.2 _
      · rw [show swT 1 51 0 2 #[27, 35, 43] (nI 2) = 44 by decide, e_W_count_44, xr_0_5 hw.sh, xg_25 hw.sh, a1, if_neg (by decide), if_neg (by decide), if_pos (by decide), xg_53 hg.sh, e_M_count_41, a2]; exact Two.ok h.2.2.2 _
    · have hx : x.toInt < 0 ∨ 2 < x.toInt := by
        rw [inN_iff (by decide), Int32.lt_iff_toInt_lt, Int32.lt_iff_toInt_lt] at q
        have q : ¬ (¬ x.toInt < 0 ∧ x.toInt < 3) := q
        omega
      rw [show swT 1 51 0 2 #[27, 35, 43] x = 52 by unfold swT; rw [if_pos hx]; rfl, e_W_count_52, if_neg (show ¬ x = 0 from fun z => q ⟨0, by decide, z⟩), if_neg (show ¬ x = 1 from fun z => q ⟨1, by decide, z⟩), if_neg (show ¬ x = 2 from fun z => q ⟨2, by decide, z⟩), e_M_count_41]
      exact Two.ok h.2.2.2 _)
theorem op_street (x y : Int32) : OpQ (d + 30) 125 [.ref 0, .int x, .int y] (d + 31) 230 [.ref 53, .int x, .int y] [(1, 1), (2, 2)] := by
  refine op_x (e1 := 1) (e2 := 2) (c1 := 1) (c2 := 2) (P := fun l => inN x (nS l)) (Q := fun _ => inN y 2)
    (f := fun σ4 => if y = 0 then gR σ4 0 0 1 fun r10 => gR σ4 2 r10 1 fun r11 => gR σ4 3 r11 5 fun r12 => aI σ4 r12 x fun r13 => rn (d + 30) 125 78 [.ref 0, .int x, .int y] [.int r13] σ4 else gR σ4 0 0 1 fun r6 => gR σ4 2 r6 1 fun r7 => gR σ4 3 r7 6 fun r8 => aI σ4 r8 x fun r9 => rn (d + 30) 125 78 [.ref 0, .int x, .int y] [.int r9] σ4)
    (g := fun σ1 => gR σ1 12 53 18 fun r3 => aR σ1 r3 x fun r4 => aI σ1 r4 y fun r5 => some (Sum.inl (Value.int (nar 0 r5)), σ1)) ⟨Or.inl rfl, rfl, by decide⟩ ⟨Or.inr rfl, rfl, by decide⟩ ?_ ?_ ?_
  · intro σ t n l many cs w K b hw
    have h12 := hw.ok.1.2.2.1
    have l3 := hw.cx.2.1.1.2.2.1
    obtain ⟨c3, c4⟩ := c_needR (d := d + 29) hw.sh y (m := 1) (by decide)
    have ex : rn (d + 30) 125 18 [.ref 0, .int x, .int y] [] σ = some (.inr 1, exC σ 1) := by rw [e_W_street_18, exC1 hw.sh x]
    rw [e_W_street (d + 29) 0 x y σ (by rw [k_0 hw.sh]), ex, xr_0_1 hw.sh, xr_3_1 hw.sh, xg_ld hw.sh hw.sh.ld, l3]
    refine ⟨fun p q => ?_, fun p => ?_, fun p q => ?_⟩
    · rw [inN_iff (by omega)] at p
      rw [if_neg p.1, if_pos p.2, show (ev (d + 29) 155 [.ref 0, .int y, .int 0, .int 1] σ) = _ from c3 q, cI_ok]
    · rw [inN_iff (by omega)] at p
      by_cases z : x < 0
      · rw [if_pos z]
      · rw [if_neg z, if_neg (fun y => p ⟨z, y⟩)]
    · rw [inN_iff (by omega)] at p
      rw [if_neg p.1, if_pos p.2, show (ev (d + 29) 155 [.ref 0, .int y, .int 0, .int 1] σ) = _ from c4 q]
      rfl
  · intro σ t n l many cs w K b hw hg
    have h12 := hw.ok.1.2.2.1
    have l3 := hg.mx.2.1.1.2.2.1
    have mi : ev (d + 30) 166 [.int x, .int 0, .int (nI (nS l) - 1)] (wI σ 53 0 0) = some (.inl (.int (@i01 (inN x (nS l)) (Classical.propDecidable _))), wI σ 53 0 0) := by
      rw [m_in, @i01_if _ (inN x (nS l)) _ (Classical.propDecidable _) (inN_m (by omega))]
    rw [e_M_street (d + 30) 53 x y σ (by rw [k_53 hw.sh]), xs_53 hw.sh, xr_53_12 hg.sh, show (aI (wI σ 53 0 0) 57 2) = aI (wI σ 53 0 0) 57 (nI 2) from rfl, xa_57 hg.sh (by decide), l3, mi, cI1_ok]
    refine ⟨fun p q => ?_, fun p => ?_, fun p q => ?_⟩
    · rw [@i01_p _ (Classical.propDecidable _) p, if_neg (show ¬ (1 : Int32) = 0 by decide), e_M_street_27, m_bad0 hg.sh (th0 σ), cI_ok, if_pos (show (0 : Int32) = 0 from rfl), show (ev (d + 30) 166 [.int y, .int 0, .int 1] (wI σ 53 0 0)) = _ from m_inN (m := 1) (by decide) y, cI1_ok, @i01_p _ (Classical.propDecidable _) q, if_neg (show ¬ (1 : Int32) = 0 by decide), e_M_street_50, m_bad0 hg.sh (th0 σ), cI_ok, if_pos (show (0 : Int32) = 0 from rfl)]
    · rw [@i01_n _ (Classical.propDecidable _) p, if_pos (show (0 : Int32) = 0 from rfl), e_M_street_27, m_bx0 hw.sh (by decide), cI_ok, if_neg (show ¬ (1 : Int32) = 0 by decide), e_M_street_58, nar0]
    · rw [@i01_p _ (Classical.propDecidable _) p, if_neg (show ¬ (1 : Int32) = 0 by decide), e_M_street_27, m_bad0 hg.sh (th0 σ), cI_ok, if_pos (show (0 : Int32) = 0 from rfl), show (ev (d + 30) 166 [.int y, .int 0, .int 1] (wI σ 53 0 0)) = _ from m_inN (m := 1) (by decide) y, cI1_ok, @i01_n _ (Classical.propDecidable _) q, if_pos (show (0 : Int32) = 0 from rfl), e_M_street_50, m_bx1 hw.sh (by decide), cI_ok, if_neg (show ¬ (1 : Int32) = 0 by decide), e_M_street_58, nar0]
  · intro σ τ t n l many cs w K b h p q
    obtain ⟨i, hi, rfl⟩ := p
    obtain ⟨k, hk, rfl⟩ := q
    have hw := h.1.1
    have hg := h.2.1.1
    have h12 := hw.ok.1.2.2.1
    have cs_ := hw.cx.2.1.2.2.2 i hi
    have ms := hg.mx.2.1.2.2.2 i hi
    rcases (show k = 0 ∨ k = 1 by omega) with rfl | rfl
    · show Two σ τ (if nI 0 = (0 : Int32) then _ else _) _
      rw [if_pos (show nI 0 = (0 : Int32) from rfl), xr_0_1 hw.sh, xr_3_1 hw.sh, xr_ld5 hw.sh hw.sh.ld, xa_ld6 hw.sh hw.sh.ld (by omega), cs_.1, e_W_street_78, xr_53_18 hg.sh, xR_101 hg.sh (by omega), xa_r101 hg.sh (by omega) (by decide), ms.1]
      exact Two.ok h.2.2.2 _
    · show Two σ τ (if nI 1 = (0 : Int32) then _ else _) _
      rw [if_neg (show ¬ nI 1 = (0 : Int32) by decide), xr_0_1 hw.sh, xr_3_1 hw.sh, xr_ld6 hw.sh hw.sh.ld, xa_ld7 hw.sh hw.sh.ld (by omega), cs_.2, e_W_street_78, xr_53_18 hg.sh, xR_101 hg.sh (by omega), xa_r101 hg.sh (by omega) (by decide), ms.2]
      exact Two.ok h.2.2.2 _
end Ask5
