/-! year and span -/
section YearO
variable {σ τ σ' τ' υ φ : mm_M} {t : Nat → Nat} {n : Nat} {l : Ln} {many : Nat} {cs : Nat → Int32} {w K : Nat} {b : List (Nat × Nat)} {d : Nat}
/-- one lot -/
theorem b4_lot {dc dm : Nat} (h : B4 σ τ t n l many cs w K b) (hj0 : 0 < nJ l) (hp0 : 0 < nP l) (q s N k : Int32) (v5 v6 : Value) : ∃ v5' v6' σ' τ', ev (dc + 4) 112 [.ref 37, .ref 3, .ref 23, .int q] σ = some (.inl uv, σ') ∧ rn (dm + 7) 266 19 [.ref 53, .int s, .int N, .int q, .int k, v5, v6] [] τ = (if N ≤ k then some (.inl uv, τ) else rn (dm + 7) 266 101 [.ref 53, .int s, .int N, .int q, .int k, v5', v6'] [] τ') ∧ Ag qc σ σ' ∧ AgM qm qF τ τ' ∧ B4 σ' τ' t n l many cs w K b := by
  have hw := h.1.1.1.1
  have hg := h.1.1.2.1.1
  have h7 := hw.ok.1.1
  have h6 := hw.ok.1.2.1
  obtain ⟨j, σ1, τ1, hj, c1, m1, a1, g1, h1⟩ := b4_draw (dc := dc + 3) (dm := dm + 6) h (m := nJ l) hj0 (by omega)
  have hw1 := h1.1.1.1.1
  have hg1 := h1.1.1.2.1.1
  obtain ⟨p, σ2, τ2, hp, c2, m2, a2, g2, h2⟩ := b4_draw (dc := dc + 3) (dm := dm + 6) h1 (m := nP l) hp0 (by omega)
  have hw2 := h2.1.1.1.1
  have hg2 := h2.1.1.2.1.1
  obtain ⟨v, u, σ3, τ3, c3, m3, a3, g3, sh3, h3⟩ := b4_tell (dc := dc) (dm := dm) h2 hj hp
  obtain ⟨x, σ4, τ4, hx, c4, m4, a4, g4, h4⟩ := b4_draw (dc := dc + 3) (dm := dm + 6) h3 (m := 16) (by decide) (by decide)
  have hg4 := h4.1.1.2.1.1
  have c4' : ev (dc + 3) 113 [.ref 37, .int 16] (wI σ3 37 1 (mI σ2 37 1 + mxx 0 v)) = some (.inl (.int (nI x)), σ4) := c4
  have m4' : ev (dm + 6) 265 [.ref 53, .int 16] τ3 = some (.inl (.int (nI x)), τ4) := m4
  have eC : ev (dc + 4) 112 [.ref 37, .ref 3, .ref 23, .int q] σ = if q ≤ nI x then some (.inl uv, σ4) else cI1 (ev (dc + 3) 42 [.ref 23, .int (nI p), .int 3] σ4) fun r18 σ17 => rn (dc + 4) 112 66 [.ref 37, .ref 3, .ref 23, .int q, .int (nI j), .int (nI p)] [] σ17 := by
    rw [e_Years_tellByLot (dc + 3) 37 3 23 q σ (by rw [k_37 hw.sh]), xr_3_1 hw.sh, xg_ld hw.sh hw.sh.ld, hw.cx.2.1.1.2.1, c1, cI_ok, xr_3_1 hw1.sh, xg_ld hw1.sh hw1.sh.ld, hw1.cx.2.1.1.1, c2, cI_ok, xg_37 hw2.sh, c3, cI1_ok, c_max, cI1_ok, xs_37 sh3, c4', cI_ok, e_Years_tellByLot_66]
  have eM : rn (dm + 7) 266 19 [.ref 53, .int s, .int N, .int q, .int k, v5, v6] [] τ = (if N ≤ k then some (.inl uv, τ) else if q ≤ nI x then rn (dm + 7) 266 101 [.ref 53, .int s, .int N, .int q, .int k, .int (nI j), .int (nI p)] [] τ4 else gR τ4 12 53 30 fun r18 => cI1 (ev (dm + 6) 217 [.ref r18, .int (nI p), .int 3] τ4) fun r20 σ19 => rn (dm + 7) 266 101 [.ref 53, .int s, .int N, .int q, .int k, .int (nI j), .int (nI p)] [] σ19) := by
    rw [e_M_yearBy_19]
    by_cases z : N ≤ k
    · rw [if_pos z, if_pos z]
    · rw [if_neg z, if_neg z, xr_53_12 hg.sh, show aI τ 57 0 = aI τ 57 (nI 0) from rfl, xa_57 hg.sh (by decide), hg.mx.2.1.1.1, if_neg (nI_nle hp0 (by omega)), xr_53_12 hg.sh, show aI τ 57 1 = aI τ 57 (nI 1) from rfl, xa_57 hg.sh (by decide), hg.mx.2.1.1.2.1, if_neg (nI_nle hj0 (by omega)), xr_53_12 hg.sh, show aI τ 57 1 = aI τ 57 (nI 1) from rfl, xa_57 hg.sh (by decide), hg.mx.2.1.1.2.1, m1, cI_ok, xr_53_12 hg1.sh, show aI τ1 57 0 = aI τ1 57 (nI 0) from rfl, xa_57 hg1.sh (by decide), hg1.mx.2.1.1.1, m2, cI_ok, xr_53_30 hg2.sh, m3, cI_ok, m4', cI_ok]
  have A := ((a1.trans a2).trans a3).trans a4
  have G := ((g1.trans g2).trans g3).trans g4
  by_cases z : q ≤ nI x
  · rw [if_pos z] at eC eM
    exact ⟨_, _, σ4, τ4, eC, eM, A, G, h4⟩
  · obtain ⟨v', u', σ5, τ5, c5, m5, a5, g5, h5⟩ := b4_grieve (dc := dc + 3) (dm := dm + 6) h4 hp
    rw [if_neg z, c5, cI1_ok, e_Years_tellByLot_66] at eC
    rw [if_neg z, xr_53_30 hg4.sh, m5, cI1_ok] at eM
    exact ⟨_, _, σ5, τ5, eC, eM, A.trans a5, G.trans g5, h5⟩
def drw (l : Ln) : Int32 := if nJ l = 0 ∨ nP l = 0 then 0 else 1
theorem yr_loop {dc dm N : Nat} (hN : N ≤ 96) (s q : Int32) : ∀ m k v5 v6 σ τ, B4 σ τ t n l many cs w K b → N - k = m → k ≤ N → ∃ σ' τ', rn (dc + 5) 111 40 [.ref 37, .ref 3, .ref 23, .int s, .int (nI N), .int q, .int (drw l), .int (nI k)] [] σ = some (.inl uv, σ') ∧ rn (dm + 7) 266 19 [.ref 53, .int s, .int (nI N), .int q, .int (nI k), v5, v6] [] τ = some (.inl uv, τ') ∧ Ag qc σ σ' ∧ AgM qm qF τ τ' ∧ B4 σ' τ' t n l many cs w K b
  | 0, k, v5, v6, σ, τ, h, hm, hk => by
    refine ⟨σ, τ, ?_, ?_, Ag.refl _ _, AgM.refl _ _ _, h⟩
    · rw [e_Years_run_40, if_pos (nI_le (by omega) (by omega))]
    · rw [e_M_yearBy_19, if_pos (nI_le (by omega) (by omega))]
  | m + 1, k, v5, v6, σ, τ, h, hm, hk => by
    have hw := h.1.1.1.1
    have hg := h.1.1.2.1.1
    have h7 := hw.ok.1.1
    have h6 := hw.ok.1.2.1
    have day : ∀ v5 v6 σ1 τ1, B4 σ1 τ1 t n l many cs w K b → ∃ σ' τ', rn (dc + 5) 111 60 [.ref 37, .ref 3, .ref 23, .int s, .int (nI N), .int q, .int (drw l), .int (nI k)] [] σ1 = some (.inl uv, σ') ∧ rn (dm + 7) 266 101 [.ref 53, .int s, .int (nI N), .int q, .int (nI k), v5, v6] [] τ1 = some (.inl uv, τ') ∧ Ag qc σ1 σ' ∧ AgM qm qF τ1 τ' ∧ B4 σ' τ' t n l many cs w K b := by
      intro v5 v6 σ1 τ1 h1
      have hw1 := h1.1.1.1.1
      have hg1 := h1.1.1.2.1.1
      obtain ⟨σ2, τ2, c1, m1, a1, g1, h2⟩ := b4_day (dc := dc + 3) (dm := dm + 5) h1
      obtain ⟨σ3, τ3, r1, r2, r3, r4, r5⟩ := yr_loop (dc := dc) (dm := dm) hN s q m (k + 1) v5 v6 σ2 τ2 h2 (by omega) (by omega)
      refine ⟨σ3, τ3, ?_, ?_, a1.trans r3, g1.trans r4, r5⟩
      · rw [e_Years_run_60, xr_3_1 hw1.sh, c1, cV1_ok, nI_1]; exact r1
      · rw [e_M_yearBy_101, xr_53_30 hg1.sh, m1, cV_ok, nI_1]; exact r2
    by_cases z : nJ l = 0 ∨ nP l = 0
    · obtain ⟨σ3, τ3, r1, r2, r3, r4, r5⟩ := day v5 v6 σ τ h
      refine ⟨σ3, τ3, ?_, ?_, r3, r4, r5⟩
      · rw [e_Years_run_40, if_neg (nI_ge (by omega) (by omega)), if_pos (show drw l = 0 from if_pos z)]; exact r1
      · rw [e_M_yearBy_19, if_neg (nI_ge (by omega) (by omega)), xr_53_12 hg.sh, show aI τ 57 0 = aI τ 57 (nI 0) from rfl, xa_57 hg.sh (by decide), hg.mx.2.1.1.1]
        by_cases y : nP l = 0
        · rw [if_pos (show nI (nP l) ≤ 0 by rw [y]; decide)]; exact r2
        · rw [if_neg (nI_nle (by omega) (by omega)), xr_53_12 hg.sh, show aI τ 57 1 = aI τ 57 (nI 1) from rfl, xa_57 hg.sh (by decide), hg.mx.2.1.1.2.1, if_pos (show nI (nJ l) ≤ 0 by rw [show nJ l = 0 by omega]; decide)]; exact r2
    · obtain ⟨v5', v6', σ1, τ1, c1, m1, a1, g1, h1⟩ := b4_lot (dc := dc) (dm := dm) h (by omega) (by omega) q s (nI N) (nI k) v5 v6
      obtain ⟨σ3, τ3, r1, r2, r3, r4, r5⟩ := day v5' v6' σ1 τ1 h1
      refine ⟨σ3, τ3, ?_, ?_, a1.trans r3, g1.trans r4, r5⟩
      · rw [e_Years_run_40, if_neg (nI_ge (by omega) (by omega)), if_neg (show ¬ drw l = 0 by unfold drw; rw [if_neg z]; decide), c1, cV_ok]; exact r1
      · rw [m1, if_neg (nI_ge (by omega) (by omega))]; exact r2
/-- a whole year, both sides: the trial rows agree, and so does who laughed -/
theorem yrB {dc dm N : Nat} (hN : N ≤ 96) (s q : Int32) (h : B2 σ τ t n l many cs w K b) : ∃ σ0 σ' τ', ev (dc + 5) 26 [.ref 23, .ref 21] σ = some (.inl uv, σ0) ∧ Sh σ0 ∧ ev (dc + 5) 111 [.ref 37, .ref 3, .ref 23, .int s, .int (nI N), .int q] σ0 = some (.inl uv, σ') ∧ ev (dm + 7) 266 [.ref 53, .int s, .int (nI N), .int q] τ = some (.inl uv, τ') ∧ Ag qc σ σ' ∧ AgM qm qF τ τ' ∧ B4 σ' τ' t n l many cs w K b := by
  obtain ⟨σ1, τ1, c1, m1, a1, g1, h1⟩ := b3_start (dc := dc + 5) (dm := dm + 6) h
  have hg := h.2.1.1
  have hw1 := h1.1.1.1
  have hg1 := h1.1.2.1.1
  have h7 := hw1.ok.1.1
  have h6 := hw1.ok.1.2.1
  have a2 := ((Ag.refl qc σ1).wI qc37 0 s).wI qc37 1 0
  have g2 := (AgM.refl qm qF τ1).w53 qF45 s
  have eq534 : sL (nP l) (mI τ1 534) = sL (nP l) (mI τ1 533) := by
    have hr := h1.2.1.1.2.2.1
    have hr' := h1.1.1.1.row.1.1.2.2.1
    have e22 : mI σ1 24 = fun j => if j < 79 then mI σ1 22 j else mI σ 24 j := by
      have x := c_copy (d := dc + 5) h.1.1.sh da23 da21 (by decide)
      rw [x] at c1
      have e' := (Prod.mk.inj (Option.some.inj c1)).2
      rw [← e', rA_a, rA_o (by decide)]
    refine sL_as (fun p hp => ?_)
    rw [← (hr p (by omega)).2.2.2, h1.1.r, ← (hr' p (by omega)).2.2.2, e22]
    exact if_pos (by omega)
  have h2 : B4 (wI (wI σ1 37 0 s) 37 1 0) (wI τ1 53 45 s) t n l many cs w K b := by
    refine ⟨h1.go a2 g2 (by rw [rI_w, if_neg (by omega)]; exact h1.1.2.2.2) (by rw [rI_o (by decide), rI_o (by decide), rI_o (by decide)]; exact h1.2), ?_, ?_⟩
    · rw [rI_w, if_neg (by omega), rI_w, if_pos ⟨rfl, rfl⟩, rI_w, if_pos ⟨rfl, rfl⟩]
    · rw [rI_w, if_pos ⟨rfl, rfl⟩, rI_o (by decide), rI_o (by decide), eq534, Int32.sub_self]
  obtain ⟨σ3, τ3, r1, r2, r3, r4, r5⟩ := yr_loop (dc := dc) (dm := dm) hN s q N 0 uv uv _ _ h2 rfl (Nat.zero_le _)
  have sA : Sh (wI σ1 37 0 s) := hw1.sh
  have sB : Sh (wI (wI σ1 37 0 s) 37 1 0) := hw1.sh
  have hwB := h2.1.1.1.1
  refine ⟨σ1, σ3, τ3, c1, hw1.sh, ?_, ?_, (a1.trans a2).trans r3, (g1.trans g2).trans r4, r5⟩
  · rw [e_Years_run (dc + 4) 37 3 23 s (nI N) q σ1 (by rw [k_37 hw1.sh]), xs_37 hw1.sh, xs_37 sA, xr_3_1 sB, xg_ld sB sB.ld, hwB.cx.2.1.1.2.1]
    by_cases y : nJ l = 0
    · rw [if_pos (show nI (nJ l) ≤ 0 by rw [y]; decide), e_Years_run_34, e_Years_run_35]
      have : drw l = 0 := if_pos (Or.inl y)
      rw [this] at r1
      exact r1
    · rw [if_neg (nI_nle (by omega) (by omega)), xr_3_1 sB, xg_ld sB sB.ld, hwB.cx.2.1.1.1]
      by_cases y2 : nP l = 0
      · rw [if_pos (show nI (nP l) ≤ 0 by rw [y2]; decide), e_Years_run_34, e_Years_run_35]
        have : drw l = 0 := if_pos (Or.inr y2)
        rw [this] at r1
        exact r1
      · rw [if_neg (nI_nle (by omega) (by omega)), e_Years_run_35]
        have : drw l = 1 := if_neg (by omega)
        rw [this] at r1
        exact r1
  · rw [e_M_yearBy (dm + 6) 53 s (nI N) q τ (by rw [k_53 hg.sh]), xr_53_29 hg.sh, xr_53_30 hg.sh, m1, cV1_ok, xs_53 hg1.sh]
    exact r2
theorem m_isYear (x y : Int32) : ev (d + 1) 267 [.int x, .int y] σ = some (.inl (.int (i01 (((1 : Int32) ≤ x ∧ x ≤ 96) ∧ ((0 : Int32) ≤ y ∧ y ≤ 16)))), σ) := by
  rw [e_M_isYear, m_in, cI1_ok]
  by_cases q0 : (1 : Int32) ≤ x ∧ x ≤ 96
  · rw [i01_p q0, if_neg (show ¬ (1 : Int32) = 0 by decide), m_in, cI1_ok]
    by_cases q1 : (0 : Int32) ≤ y ∧ y ≤ 16
    · rw [i01_p q1, if_neg (show ¬ (1 : Int32) = 0 by decide), e_M_isYear_25, nar1_1, i01_p ⟨q0, q1⟩]
    · rw [i01_n q1, if_pos (show (0 : Int32) = 0 from rfl), e_M_isYear_24, e_M_isYear_25, nar1_0, i01_n (fun z => q1 z.2)]
  · rw [i01_n q0, if_pos (show (0 : Int32) = 0 from rfl), e_M_isYear_24, e_M_isYear_25, nar1_0, i01_n (fun z => q0 z.1)]
theorem in_of {x : Int32} {k : Nat} (hk : k < 2147483647) (h : (1 : Int32) ≤ x ∧ x ≤ nI k) : ∃ N, 1 ≤ N ∧ N ≤ k ∧ x = nI N := by
  have hN : inN x (k + 1) := by
    rw [inN_le hk]
    refine ⟨fun z => ?_, h.2⟩
    have h1 := h.1
    rw [Int32.le_iff_toInt_le] at h1
    rw [Int32.lt_iff_toInt_lt] at z
    have h1 : (1 : Int) ≤ x.toInt := h1
    have z : x.toInt < 0 := z
    omega
  obtain ⟨N, hN7, rfl⟩ := hN
  exact ⟨N, (nI_leI (a := 1) (b := N) (by decide) (by omega)).mp h.1, by omega, rfl⟩
theorem op_year (x1 x2 x3 x4 : Int32) : OpQ (d + 30) 149 [.ref 0, .int x1, .int x2, .int x3, .int x4] (d + 31) 268 [.ref 53, .int x1, .int x2, .int x3, .int x4] [(2, 1)] := by
  refine op_x (e1 := 2) (e2 := 2) (c1 := 1) (c2 := 1) (P := fun _ => (((1 : Int32) ≤ x2 ∧ x2 ≤ 96) ∧ ((0 : Int32) ≤ x3 ∧ x3 ≤ 16)) ∧ ((0 : Int32) ≤ x4 ∧ x4 ≤ 3)) (Q := fun _ => True)
    (f := fun σ5 => gR σ5 0 0 4 fun r7 => gR σ5 0 0 3 fun r8 => cV1 (ev (d + 29) 26 [.ref r7, .ref r8] σ5) fun σ9 => gR σ9 0 0 8 fun r10 => gR σ9 0 0 1 fun r11 => gR σ9 0 0 4 fun r12 => cV1 (ev (d + 29) 111 [.ref r10, .ref r11, .ref r12, .int x1, .int x2, .int x3] σ9) fun σ13 => rn (d + 30) 149 (swT 58 50 0 2 #[26, 34, 42] x4) [.ref 0, .int x1, .int x2, .int x3, .int x4] [] σ13)
    (g := fun σ1 => cV (ev (d + 30) 266 [.ref 53, .int x1, .int x2, .int x3] σ1) fun σ3 => rn (d + 31) 268 (swT 48 69 0 2 #[28, 36, 58] x4) [.ref 53, .int x1, .int x2, .int x3, .int x4] [] σ3) ⟨Or.inr rfl, rfl, by decide⟩ ⟨Or.inr rfl, rfl, by decide⟩ ?_ ?_ ?_
  · intro σ t n l many cs w K b hw
    obtain ⟨a0, b0⟩ := c_rng (d := d + 29) hw.sh x2 1 96
    obtain ⟨a1, b1⟩ := c_rng (d := d + 29) hw.sh x3 0 16
    obtain ⟨a2, b2⟩ := c_rng (d := d + 29) hw.sh x4 0 3
    rw [e_W_year (d + 29) 0 x1 x2 x3 x4 σ (by rw [k_0 hw.sh])]
    refine ⟨fun p _ => by rw [a0 p.1.1, cI_ok, a1 p.1.2, cI_ok, a2 p.2, cI_ok], fun p => ?_, fun _ q => absurd trivial q⟩
    by_cases q0 : (1 : Int32) ≤ x2 ∧ x2 ≤ 96
    · rw [a0 q0, cI_ok]
      by_cases q1 : (0 : Int32) ≤ x3 ∧ x3 ≤ 16
      · rw [a1 q1, cI_ok, b2 (fun z => p ⟨⟨q0, q1⟩, z⟩)]; rfl
      · rw [b1 q1]; rfl
    · rw [b0 q0]; rfl
  · intro σ t n l many cs w K b hw hg
    have bad : rn (d + 31) 268 29 [.ref 53, .int x1, .int x2, .int x3, .int x4] [.int 1, .ref 53] (wI σ 53 0 0) = some (.inl (.int 0), exM σ 1 2) := by rw [e_M_year_29, m_bx1 hw.sh (by decide), cI_ok, if_neg (show ¬ (1 : Int32) = 0 by decide), nar0]
    rw [e_M_year (d + 30) 53 x1 x2 x3 x4 σ (by rw [k_53 hw.sh]), xs_53 hw.sh, m_isYear, cI1_ok]
    refine ⟨fun p _ => by rw [i01_p p.1, if_neg (show ¬ (1 : Int32) = 0 by decide), m_in, cI1_ok, i01_p p.2, if_neg (show ¬ (1 : Int32) = 0 by decide), e_M_year_29, m_bad0 hg.sh (th0 σ), cI_ok, if_pos (show (0 : Int32) = 0 from rfl)], fun p => ?_, fun _ q => absurd trivial q⟩
    by_cases q0 : ((1 : Int32) ≤ x2 ∧ x2 ≤ 96) ∧ ((0 : Int32) ≤ x3 ∧ x3 ≤ 16)
    · rw [i01_p q0, if_neg (show ¬ (1 : Int32) = 0 by decide), m_in, cI1_ok, i01_n (show ¬ ((0 : Int32) ≤ x4 ∧ x4 ≤ 3) from fun z => p ⟨q0, z⟩), if_pos (show (0 : Int32) = 0 from rfl), e_M_year_24]; exact bad
    · rw [i01_n q0, if_pos (show (0 : Int32) = 0 from rfl), e_M_year_24]; exact bad
  · intro σ τ t n l many cs w K b h p _
    obtain ⟨N, hN1, hN, rfl⟩ := in_of (k := 96) (by decide) p.1.1
    obtain ⟨k, hk, rfl⟩ := (inN_r (n := 3) (by decide)).mp p.2
    have hw := h.1.1
    obtain ⟨σ0, σ', τ', c1, s0, c2, m1, a, g, h4⟩ := yrB (dc := d + 24) (dm := d + 23) hN x1 x3 h
    have hw4 := h4.1.1.1.1
    have hg4 := h4.1.1.2.1.1
    have h7 := hw4.ok.1.1
    obtain ⟨r1, r2, r3⟩ := row_all h7 h4.1.2
    have z4 := h4.1.1.2.2.2
    show Two σ τ (gR σ 0 0 4 fun r7 => gR σ 0 0 3 fun r8 => cV1 (ev (d + 29) 26 [.ref r7, .ref r8] σ) fun σ9 => gR σ9 0 0 8 fun r10 => gR σ9 0 0 1 fun r11 => gR σ9 0 0 4 fun r12 => cV1 (ev (d + 29) 111 [.ref r10, .ref r11, .ref r12, .int x1, .int (nI N), .int x3] σ9) fun σ13 => rn (d + 30) 149 (swT 58 50 0 2 #[26, 34, 42] (nI k)) [.ref 0, .int x1, .int (nI N), .int x3, .int (nI k)] [] σ13) (cV (ev (d + 30) 266 [.ref 53, .int x1, .int (nI N), .int x3] τ) fun σ3 => rn (d + 31) 268 (swT 48 69 0 2 #[28, 36, 58] (nI k)) [.ref 53, .int x1, .int (nI N), .int x3, .int (nI k)] [] σ3)
    rw [xr_0_4 hw.sh, xr_0_3 hw.sh, show ev (d + 29) 26 [.ref 23, .ref 21] σ = _ from c1, cV1_ok, xr_0_8 s0, xr_0_1 s0, xr_0_4 s0, show ev (d + 29) 111 [.ref 37, .ref 3, .ref 23, .int x1, .int (nI N), .int x3] σ0 = _ from c2, cV1_ok, show ev (d + 30) 266 [.ref 53, .int x1, .int (nI N), .int x3] τ = _ from m1, cV_ok]
    refine Two.after a g ?_
    rcases (show k = 0 ∨ k = 1 ∨ k = 2 ∨ k = 3 by omega) with rfl | rfl | rfl | rfl
    · rw [show swT 58 50 0 2 #[26, 34, 42] (nI 0) = 84 by decide, show swT 48 69 0 2 #[28, 36, 58] (nI 0) = 76 by decide, e_W_year_84, xr_0_4 hw4.sh, c_jugWater hw4.sh da23, cI1_ok, e_M_year_76, xr_53_30 hg4.sh, show aI τ' 534 77 = aI τ' 534 (nI 77) from rfl, xa_534 hg4.sh (by decide), show mI σ' (23 + 1) = mI σ' 24 from rfl, h4.1.2.1.1.2.1, nar0]
      exact Two.ok z4 _
    · rw [show swT 58 50 0 2 #[26, 34, 42] (nI 1) = 92 by decide, show swT 48 69 0 2 #[28, 36, 58] (nI 1) = 84 by decide, e_W_year_92, xr_0_8 hw4.sh, xg_37 hw4.sh, h4.2.2, e_M_year_84, xr_53_30 hg4.sh, show ev (d + 30) 223 [.ref 53, .ref 534, .int 28] τ' = _ from m_sumOf (f := 28) hg4.sh (k_534 hg4.sh) h7 hg4.mx.2.1.1.1 (by decide), cI_ok, xr_53_29 hg4.sh, show ev (d + 30) 223 [.ref 53, .ref 533, .int 28] τ' = _ from m_sumOf (f := 28) hg4.sh (k_533 hg4.sh) h7 hg4.mx.2.1.1.1 (by decide), cI_ok, nar0]
      exact Two.ok z4 _
    · rw [show swT 58 50 0 2 #[26, 34, 42] (nI 2) = 100 by decide, show swT 48 69 0 2 #[28, 36, 58] (nI 2) = 106 by decide, e_W_year_100, xr_0_4 hw4.sh, c_allThirst hw4.sh da23, cI1_ok, show mI σ' (23 + 1) = mI σ' 24 from rfl, r1, e_M_year_106, xr_53_30 hg4.sh, show ev (d + 30) 223 [.ref 53, .ref 534, .int 7] τ' = _ from m_sumOf (f := 7) hg4.sh (k_534 hg4.sh) h7 hg4.mx.2.1.1.1 (by decide), cI_ok, nar0]
      exact Two.ok z4 _
    · rw [show swT 58 50 0 2 #[26, 34, 42] (nI 3) = 108 by decide, show swT 48 69 0 2 #[28, 36, 58] (nI 3) = 117 by decide, e_W_year_108, xr_0_4 hw4.sh, c_grieving hw4.sh da23, cI1_ok, show mI σ' (23 + 1) = mI σ' 24 from rfl, r2, e_M_year_117, xr_53_30 hg4.sh, show ev (d + 30) 211 [.ref 53, .ref 534, .int 0] τ' = _ from m_whoHas (f := 0) hg4.sh (k_534 hg4.sh) h7 hg4.mx.2.1.1.1 (by decide), cI_ok, nar0]
      exact Two.ok z4 _
end YearO
