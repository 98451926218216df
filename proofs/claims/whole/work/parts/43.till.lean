/-! lasts, well -/
section Till
variable {σ τ σ' τ' υ φ : mm_M} {t : Nat → Nat} {n : Nat} {l : Ln} {many : Nat} {cs : Nat → Int32} {w K : Nat} {b : List (Nat × Nat)} {d : Nat} {R S : Option mm_R}
theorem qc4 : qc 4 := by unfold qc fpI fxC; omega
theorem qc15 : ∀ a, (a = 15 ∨ a = 48) → qc a := by intro a h; unfold qc fpI fxC; omega
theorem till_loop {j p : Nat} (hj : j < nJ l) (hp : p < nP l) (x : Int32) : ∀ m i s v v' σ τ, B2 σ τ t n l many cs w K b → (∀ k, k < 10 → mI σ 4 k = gvl (gvs l (mI σ 533) j p (lT l p) (mI σ 533 p) (nI i)) k) → 99 - i = m → i ≤ 99 →
    ∃ c s' υ φ, rn (d + 29) 75 13 [.ref 3, .ref 21, .int (nI j), .int (nI p), .int x, .int s, .int (nI i), v] [] σ = some (.inl (.int (if x = 0 then c else s')), υ) ∧ rn (d + 30) 243 6 [.ref 53, .int (nI j), .int (nI p), .int x, .int (nI i), .int (s * lD l p), v'] [] τ = some (.inl (.int (if x = 0 then c else s' * lD l p)), φ) ∧ Ag qc σ υ ∧ AgM qm qF τ φ ∧ mI φ 53 0 = 0
  | 0, i, s, v, v', σ, τ, h, hg4, hm, hi => by
    have : i = 99 := by omega
    subst this
    refine ⟨99, s, σ, τ, ?_, ?_, Ag.refl _ _, AgM.refl _ _ _, h.2.2.2⟩
    · rw [e_Scene_laughTillDry_13, if_pos (show (99 : Int32) ≤ nI 99 by decide)]
      by_cases q : x = 0
      · rw [if_pos q, if_pos q, e_Scene_laughTillDry_89, nar0]
      · rw [if_neg q, if_neg q, e_Scene_laughTillDry_89, nar0]
    · rw [e_M_untilNone_6, if_pos (show (99 : Int32) ≤ nI 99 by decide)]
      by_cases q : x = 0
      · rw [if_pos q, if_pos q, e_M_untilNone_93, nar0]; rfl
      · rw [if_neg q, if_neg q, e_M_untilNone_93, nar0]
  | m + 1, i, s, v, v', σ, τ, h, hg4, hm, hi => by
    have hw := h.1.1
    have hg := h.2.1.1
    have h7 := hw.ok.1.1
    have mp := hg.mx.2.1.2.1 p hp
    obtain ⟨σ1, c1, c2⟩ := c_lawBy (d := d + 26) hw.sh hw.ok.2 hw.cx.2.2 hg4
    obtain ⟨τ1, m1, m2⟩ := m_laughWith (d := d + 25) hg.sh hg.mx.2.1 hg.ok.1 hg.ok.2 hg.mx.2.2 rw533 hj hp (lT l p) (mI τ 533 p) (nI i)
    rw [h.r] at m1
    have a1 := c2.mono qc15
    have a2 : AgM qm qF τ τ1 := AgM.of m2 sc_qm (by unfold scM; omega)
    have h1 := h.go a1 a2 (by rw [m2.at (by unfold scM; omega)]; exact h.2.2.2)
    have hw1 := h1.1.1
    have hg1 := h1.2.1.1
    have mp1 := hg1.mx.2.1.2.1 p hp
    have er : rn (d + 30) 243 6 [.ref 53, .int (nI j), .int (nI p), .int x, .int (nI i), .int (s * lD l p), v'] [] τ = if lgv many cs (gvs l (mI σ 533) j p (lT l p) (mI σ 533 p) (nI i)) = 0 then (if x = 0 then rn (d + 30) 243 59 [.ref 53, .int (nI j), .int (nI p), .int x, .int (nI i), .int (s * lD l p), .int (lgv many cs (gvs l (mI σ 533) j p (lT l p) (mI σ 533 p) (nI i)))] [.int (nI i)] τ1 else rn (d + 30) 243 59 [.ref 53, .int (nI j), .int (nI p), .int x, .int (nI i), .int (s * lD l p), .int (lgv many cs (gvs l (mI σ 533) j p (lT l p) (mI σ 533 p) (nI i)))] [.int (s * lD l p)] τ1) else rn (d + 30) 243 6 [.ref 53, .int (nI j), .int (nI p), .int x, .int (nI (i + 1)), .int ((s + lgv many cs (gvs l (mI σ 533) j p (lT l p) (mI σ 533 p) (nI i))) * lD l p), .int (lgv many cs (gvs l (mI σ 533) j p (lT l p) (mI σ 533 p) (nI i)))] [] τ1 := by
      rw [e_M_untilNone_6, if_neg (show ¬ (99 : Int32) ≤ nI i from nI_ge (b := 99) (by omega) (by omega)), xr_53_29 hg.sh, xr_53_14 hg.sh, xR_66 hg.sh (by omega), show aI τ (67 + p) 1 = aI τ (67 + p) (nI 1) from rfl, xa_r66 hg.sh (by omega) (by decide), mp.2, xr_53_29 hg.sh, show (0 : Int32) + nI p = nI p from Int32.zero_add _, xa_533 hg.sh (by omega), h.r, m1, cI_ok, xr_53_14 hg1.sh, xR_66 hg1.sh (by omega), show aI τ1 (67 + p) 0 = aI τ1 (67 + p) (nI 0) from rfl, xa_r66 hg1.sh (by omega) (by decide), mp1.1, nI_1, Int32.add_mul]
    rw [er, e_Scene_laughTillDry_13, if_neg (show ¬ (99 : Int32) ≤ nI i from nI_ge (b := 99) (by omega) (by omega)), c1, cI_ok]
    by_cases z : lgv many cs (gvs l (mI σ 533) j p (lT l p) (mI σ 533 p) (nI i)) = 0
    · rw [if_pos z, if_pos z]
      refine ⟨nI i, s, σ1, τ1, ?_, ?_, a1, a2, h1.2.2.2⟩
      · by_cases q : x = 0
        · rw [if_pos q, if_pos q, e_Scene_laughTillDry_43, nar0]
        · rw [if_neg q, if_neg q, e_Scene_laughTillDry_43, nar0]
      · by_cases q : x = 0
        · rw [if_pos q, if_pos q, e_M_untilNone_59, nar0]
        · rw [if_neg q, if_neg q, e_M_untilNone_59, nar0]
    · rw [if_neg z, if_neg z, xr_3_0 hw1.sh, show aI σ1 4 2 = aI σ1 4 (nI 2) from rfl, xa_4 hw1.sh (by decide), show (tI σ1 4 2 (mI σ1 4 2 + 1)) = tI σ1 4 (nI 2) (mI σ1 4 2 + 1) from rfl, yt_4 hw1.sh (by decide)]
      have a3 := a1.wA qc4 (up (mI σ1 4) 2 (mI σ1 4 2 + 1))
      have hsh3 : Sh (wA σ1 4 (up (mI σ1 4) 2 (mI σ1 4 2 + 1))) := hw1.sh
      rw [xr_3_0 hsh3, show aI (wA σ1 4 (up (mI σ1 4) 2 (mI σ1 4 2 + 1))) 4 3 = aI (wA σ1 4 (up (mI σ1 4) 2 (mI σ1 4 2 + 1))) 4 (nI 3) from rfl, xa_4 hsh3 (by decide), rA_a, up_n (show (3 : Nat) ≠ 2 by decide), show (tI (wA σ1 4 (up (mI σ1 4) 2 (mI σ1 4 2 + 1))) 4 3 (mI σ1 4 3 + 1)) = tI (wA σ1 4 (up (mI σ1 4) 2 (mI σ1 4 2 + 1))) 4 (nI 3) (mI σ1 4 3 + 1) from rfl, yt_4 hsh3 (by decide), rA_a, wA_wA, nI_1]
      have a4 := a1.wA qc4 (up (up (mI σ1 4) 2 (mI σ1 4 2 + 1)) 3 (mI σ1 4 3 + 1))
      have h4 := h.go a4 a2 (by rw [m2.at (by unfold scM; omega)]; exact h.2.2.2)
      have e4 : mI σ1 4 = mI σ 4 := c2.at (by omega)
      have e533 : mI (wA σ1 4 (up (up (mI σ1 4) 2 (mI σ1 4 2 + 1)) 3 (mI σ1 4 3 + 1))) 533 = mI σ 533 := by rw [rA_o (by decide), c2.at (by omega)]
      have key := till_loop hj hp x m (i + 1) (s + lgv many cs (gvs l (mI σ 533) j p (lT l p) (mI σ 533 p) (nI i))) (.int (lgv many cs (gvs l (mI σ 533) j p (lT l p) (mI σ 533 p) (nI i)))) (.int (lgv many cs (gvs l (mI σ 533) j p (lT l p) (mI σ 533 p) (nI i)))) _ τ1 h4 (fun k hk => by
        rw [e533, rA_a, e4]
        have g2 := hg4 2 (by decide)
        have g3 := hg4 3 (by decide)
        rcases (show k = 2 ∨ k = 3 ∨ (k ≠ 2 ∧ k ≠ 3) by omega) with rfl | rfl | ⟨k2, k3⟩
        · rw [up_n (by decide), up_e, g2]
          show (mI σ 533 (35 + 7 * j + p) + nI i) + 1 = mI σ 533 (35 + 7 * j + p) + nI (i + 1)
          rw [Int32.add_assoc, nI_1]
        · rw [up_e, g3]
          show (tS (nP l) (mI σ 533) j + nI i) + 1 = tS (nP l) (mI σ 533) j + nI (i + 1)
          rw [Int32.add_assoc, nI_1]
        · rw [up_n k3, up_n k2, hg4 k hk]
          rcases (show k = 0 ∨ k = 1 ∨ k = 4 ∨ k = 5 ∨ k = 6 ∨ k = 7 ∨ k = 8 ∨ k = 9 by omega) with rfl | rfl | rfl | rfl | rfl | rfl | rfl | rfl <;> rfl) (by omega) (by omega)
      obtain ⟨c, s', υ, φ, k1, k2, k3, k4, k5⟩ := key
      exact ⟨c, s', υ, φ, k1, k2, a4.trans k3, a2.trans k4, k5⟩
theorem b2_till {j p : Nat} (h : B2 σ τ t n l many cs w K b) (hj : j < nJ l) (hp : p < nP l) (x : Int32) : ∃ c s' υ φ, ev (d + 29) 75 [.ref 3, .ref 21, .int (nI j), .int (nI p), .int x] σ = some (.inl (.int (if x = 0 then c else s')), υ) ∧ ev (d + 30) 243 [.ref 53, .int (nI j), .int (nI p), .int x] τ = some (.inl (.int (if x = 0 then c else s' * lD l p)), φ) ∧ Ag qc σ υ ∧ AgM qm qF τ φ ∧ mI φ 53 0 = 0 := by
  have hw := h.1.1
  have hg := h.2.1.1
  obtain ⟨g, e, hgk⟩ := c_giveAll (d := d + 26) hw.sh hw.cx.2.1 hw.ok.1 da21 hw.row.1 hw.row.2 hj hp
  have a := (Ag.refl qc σ).wA qc4 g
  have h1 := h.go a (AgM.refl qm qF τ) h.2.2.2
  have e533 : mI (wA σ 4 g) 533 = mI σ 533 := rA_o (by decide)
  obtain ⟨c, s', υ, φ, k1, k2, k3, k4, k5⟩ := till_loop (d := d) hj hp x _ 0 0 uv uv (wA σ 4 g) τ h1 (fun k hk => by rw [e533, rA_a]; exact hgk k hk) rfl (by decide)
  refine ⟨c, s', υ, φ, ?_, ?_, a.trans k3, k4, k5⟩
  · rw [e_Scene_laughTillDry (d + 28) 3 21 (nI j) (nI p) x σ (by rw [k_3 hw.sh]), e, cV_ok]; exact k1
  · rw [Int32.zero_mul] at k2
    rw [e_M_untilNone (d + 29) 53 (nI j) (nI p) x τ (by rw [k_53 hg.sh])]; exact k2
theorem two_q0 {f : mm_M → Option mm_R} (h : Iv σ t n l many cs w K b) (q : ∀ τ, B2 σ τ t n l many cs w K b → Two σ τ R (f τ)) : ∃ v, CQu σ R v ∧ ∀ τ, Iv τ t n l many cs w K b → Same σ τ → mI τ 53 0 = 0 → MQu τ (f τ) v := by
  have s0 : Same σ σ := ⟨fun _ _ => rfl, rfl, fun _ _ => rfl, rfl⟩
  obtain ⟨v, υ, φ, h1, h2, h3, h4, h5⟩ := q (wI σ 53 0 0) ⟨h, h.th, s0.th, th0 σ⟩
  refine ⟨v, ⟨υ, h1, h3⟩, fun τ g s e0 => ?_⟩
  obtain ⟨v', υ', φ', g1, g2, g3, g4, g5⟩ := q τ ⟨h, g, s, e0⟩
  rw [h1] at g1
  cases g1
  exact ⟨φ', g2, g4, g5⟩
theorem op_lasts (x y : Int32) : OpQ (d + 30) 134 [.ref 0, .int x, .int y] (d + 31) 244 [.ref 53, .int x, .int y] [(1, 1)] := by
  refine op_jp (fun σ h => e_W_lasts (d + 29) 0 x y σ (by rw [k_0 h])) (fun σ h => e_M_lasts (d + 30) 53 x y σ (by rw [k_53 h])) ?_
  intro σ t n l many cs w K b h j p hj hp ex ey
  subst ex ey
  refine two_q0 h (fun τ hb => ?_)
  obtain ⟨c, s', υ, φ, k1, k2, k3, k4, k5⟩ := b2_till (d := d) hb hj hp 0
  rw [if_pos (show (0 : Int32) = 0 from rfl)] at k1 k2
  rw [xr_0_1 h.1.sh, xr_0_3 h.1.sh, k1, cI1_ok, k2, cI_ok, nar0]
  exact ⟨c, υ, φ, rfl, rfl, k3, k4, k5⟩
theorem op_well (x y : Int32) : OpQ (d + 30) 135 [.ref 0, .int x, .int y] (d + 31) 245 [.ref 53, .int x, .int y] [(1, 1)] := by
  refine op_jp (fun σ h => e_W_well (d + 29) 0 x y σ (by rw [k_0 h])) (fun σ h => e_M_well (d + 30) 53 x y σ (by rw [k_53 h])) ?_
  intro σ t n l many cs w K b h j p hj hp ex ey
  subst ex ey
  refine two_q0 h (fun τ hb => ?_)
  obtain ⟨c, s', υ, φ, k1, k2, k3, k4, k5⟩ := b2_till (d := d) hb hj hp 1
  rw [if_neg (show ¬ (1 : Int32) = 0 by decide)] at k1 k2
  have hv := (h.qc k3).1
  have h7 := hv.ok.1.1
  rw [xr_0_1 h.1.sh, xr_0_3 h.1.sh, k1, cI1_ok, k2, cI_ok, xr_0_1 hv.sh, xr_3_1 hv.sh, xr_ld0 hv.sh hv.sh.ld, xa_ld1 hv.sh hv.sh.ld (by omega), (hv.cx.2.1.2.1 p hp).1, nar0]
  exact ⟨_, υ, φ, rfl, rfl, k3, k4, k5⟩
end Till
