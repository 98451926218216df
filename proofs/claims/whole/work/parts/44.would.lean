/-! would -/
section WouldV
variable {σ τ σ' τ' υ φ : mm_M} {t : Nat → Nat} {n : Nat} {l : Ln} {many : Nat} {cs : Nat → Int32} {w K : Nat} {b : List (Nat × Nat)} {d : Nat} {R S : Option mm_R}
theorem c_rng (hsh : Sh σ) (x lo hi : Int32) : (lo ≤ x ∧ x ≤ hi → ev d 155 [.ref 0, .int x, .int lo, .int hi] σ = some (.inl (.int x), σ)) ∧ (¬ (lo ≤ x ∧ x ≤ hi) → ev d 155 [.ref 0, .int x, .int lo, .int hi] σ = some (.inr 2, exC σ 2)) := by
  have ex : rn d 155 10 [.ref 0, .int x, .int lo, .int hi] [] σ = some (.inr 2, exC σ 2) := by rw [e_W_needRange_10, exC2 hsh x]
  rw [e_W_needRange d 0 x lo hi σ (by rw [k_0 hsh]), ex]
  refine ⟨fun q => by rw [if_neg (fun z => i_lt_nle z q.1), if_pos q.2, nar0], fun q => ?_⟩
  by_cases z : x < lo
  · rw [if_pos z]
  · rw [if_neg z, if_neg (fun y => q ⟨i_nlt z, y⟩)]
theorem w_step {f : Nat → Int32} (h : Sh (wA σ 4 f)) {k : Nat} (hk : k < 10) (x lo hi : Int32) (F : mm_M → Option mm_R) : (gR (wA σ 4 f) 0 0 1 fun r1 => gR (wA σ 4 f) 2 r1 0 fun r2 => cI (ev d 155 [.ref 0, .int x, .int lo, .int hi] (wA σ 4 f)) fun r4 σ3 => tI σ3 r2 (nI k) r4 F) = if lo ≤ x ∧ x ≤ hi then F (wA σ 4 (up f k x)) else some (.inr 2, exC (wA σ 4 f) 2) := by
  obtain ⟨c1, c2⟩ := c_rng (d := d) h x lo hi
  rw [xr_0_1 h, xr_3_0 h]
  by_cases q : lo ≤ x ∧ x ≤ hi
  · rw [c1 q, cI_ok, yt_4 h hk, rA_a, wA_wA, if_pos q]
  · rw [c2 q, if_neg q]; rfl
theorem op_would (x1 x2 x3 x4 x5 x6 x7 x8 x9 x10 : Int32) : OpQ (d + 30) 129 [.ref 0, .int x1, .int x2, .int x3, .int x4, .int x5, .int x6, .int x7, .int x8, .int x9, .int x10] (d + 31) 234 [.ref 53, .int x1, .int x2, .int x3, .int x4, .int x5, .int x6, .int x7, .int x8, .int x9, .int x10] [(2, 1)] := by
  intro σ t n l many cs w K b h
  have hw := h.1
  have f0 : Sh (wA σ 4 (mI σ 4)) := hw.sh
  have E := e_W_would (d + 29) 0 x1 x2 x3 x4 x5 x6 x7 x8 x9 x10 (wA σ 4 (mI σ 4)) (by rw [k_0 f0])
  have s1 : Sh (wA σ 4 (mI σ 4)) := hw.sh
  have E1 := w_step (d := d + 29) s1 (k := 0) (by decide) x1 1 20
  have s2 : Sh (wA σ 4 (up (mI σ 4) 0 x1)) := hw.sh
  have E2 := w_step (d := d + 29) s2 (k := 1) (by decide) x2 0 9
  have s3 : Sh (wA σ 4 (up (up (mI σ 4) 0 x1) 1 x2)) := hw.sh
  have E3 := w_step (d := d + 29) s3 (k := 2) (by decide) x3 0 999
  have s4 : Sh (wA σ 4 (up (up (up (mI σ 4) 0 x1) 1 x2) 2 x3)) := hw.sh
  have E4 := w_step (d := d + 29) s4 (k := 3) (by decide) x4 0 999
  have s5 : Sh (wA σ 4 (up (up (up (up (mI σ 4) 0 x1) 1 x2) 2 x3) 3 x4)) := hw.sh
  have E5 := w_step (d := d + 29) s5 (k := 4) (by decide) x5 0 3
  have s6 : Sh (wA σ 4 (up (up (up (up (up (mI σ 4) 0 x1) 1 x2) 2 x3) 3 x4) 4 x5)) := hw.sh
  have E6 := w_step (d := d + 29) s6 (k := 5) (by decide) x6 0 9
  have s7 : Sh (wA σ 4 (up (up (up (up (up (up (mI σ 4) 0 x1) 1 x2) 2 x3) 3 x4) 4 x5) 5 x6)) := hw.sh
  have E7 := w_step (d := d + 29) s7 (k := 6) (by decide) x7 0 6
  have s8 : Sh (wA σ 4 (up (up (up (up (up (up (up (mI σ 4) 0 x1) 1 x2) 2 x3) 3 x4) 4 x5) 5 x6) 6 x7)) := hw.sh
  have E8 := w_step (d := d + 29) s8 (k := 7) (by decide) x8 0 99
  have s9 : Sh (wA σ 4 (up (up (up (up (up (up (up (up (mI σ 4) 0 x1) 1 x2) 2 x3) 3 x4) 4 x5) 5 x6) 6 x7) 7 x8)) := hw.sh
  have E9 := w_step (d := d + 29) s9 (k := 8) (by decide) x9 0 400
  have s10 : Sh (wA σ 4 (up (up (up (up (up (up (up (up (up (mI σ 4) 0 x1) 1 x2) 2 x3) 3 x4) 4 x5) 5 x6) 6 x7) 7 x8) 8 x9)) := hw.sh
  have E10 := w_step (d := d + 29) s10 (k := 9) (by decide) x10 0 6
  rw [wA_id] at E
  rw [E]
  clear E
  rw [wA_id] at E1
  rw [show (gR σ 0 0 1 fun r1 => gR σ 2 r1 0 fun r2 => cI (ev (d + 29) 155 [.ref 0, .int x1, .int 1, .int 20] σ) fun r4 σ3 => tI σ3 r2 0 r4 _) = _ from E1 _]
  by_cases q1 : ¬ ((1 : Int32) ≤ x1 ∧ x1 ≤ 20)
  · right
    rw [if_neg q1]
    refine ⟨2, 1, σ, Or.inr rfl, rfl, by decide, Ag.refl _ _, rfl, fun τ g' => ?_⟩
    rw [e_M_would (d + 30) 53 x1 x2 x3 x4 x5 x6 x7 x8 x9 x10 τ (by rw [k_53 g'.sh]), xs_53 g'.sh, m_in, cI1_ok, i01_n q1, if_pos (show (0 : Int32) = 0 from rfl), e_M_would_115, e_M_would_120, m_bx1 g'.sh (by decide), cI_ok, if_neg (show ¬ (1 : Int32) = 0 by decide), nar0]
  replace q1 := Classical.not_not.mp q1
  rw [if_pos q1]
  rw [show (gR (wA σ 4 (up (mI σ 4) 0 x1)) 0 0 1 fun r1 => gR (wA σ 4 (up (mI σ 4) 0 x1)) 2 r1 0 fun r2 => cI (ev (d + 29) 155 [.ref 0, .int x2, .int 0, .int 9] (wA σ 4 (up (mI σ 4) 0 x1))) fun r4 σ3 => tI σ3 r2 1 r4 _) = _ from E2 _]
  by_cases q2 : ¬ ((0 : Int32) ≤ x2 ∧ x2 ≤ 9)
  · right
    rw [if_neg q2]
    refine ⟨2, 1, wA σ 4 (up (mI σ 4) 0 x1), Or.inr rfl, rfl, by decide, (Ag.refl qc σ).wA qc4 _, rfl, fun τ g' => ?_⟩
    rw [e_M_would (d + 30) 53 x1 x2 x3 x4 x5 x6 x7 x8 x9 x10 τ (by rw [k_53 g'.sh]), xs_53 g'.sh, m_in, cI1_ok, i01_p q1, if_neg (show ¬ (1 : Int32) = 0 by decide), m_in, cI1_ok, i01_n q2, if_pos (show (0 : Int32) = 0 from rfl), e_M_would_115, e_M_would_120, m_bx1 g'.sh (by decide), cI_ok, if_neg (show ¬ (1 : Int32) = 0 by decide), nar0]
  replace q2 := Classical.not_not.mp q2
  rw [if_pos q2]
  rw [show (gR (wA σ 4 (up (up (mI σ 4) 0 x1) 1 x2)) 0 0 1 fun r1 => gR (wA σ 4 (up (up (mI σ 4) 0 x1) 1 x2)) 2 r1 0 fun r2 => cI (ev (d + 29) 155 [.ref 0, .int x3, .int 0, .int 999] (wA σ 4 (up (up (mI σ 4) 0 x1) 1 x2))) fun r4 σ3 => tI σ3 r2 2 r4 _) = _ from E3 _]
  by_cases q3 : ¬ ((0 : Int32) ≤ x3 ∧ x3 ≤ 999)
  · right
    rw [if_neg q3]
    refine ⟨2, 1, wA σ 4 (up (up (mI σ 4) 0 x1) 1 x2), Or.inr rfl, rfl, by decide, (Ag.refl qc σ).wA qc4 _, rfl, fun τ g' => ?_⟩
    rw [e_M_would (d + 30) 53 x1 x2 x3 x4 x5 x6 x7 x8 x9 x10 τ (by rw [k_53 g'.sh]), xs_53 g'.sh, m_in, cI1_ok, i01_p q1, if_neg (show ¬ (1 : Int32) = 0 by decide), m_in, cI1_ok, i01_p q2, if_neg (show ¬ (1 : Int32) = 0 by decide), m_in, cI1_ok, i01_n q3, if_pos (show (0 : Int32) = 0 from rfl), e_M_would_115, e_M_would_120, m_bx1 g'.sh (by decide), cI_ok, if_neg (show ¬ (1 : Int32) = 0 by decide), nar0]
  replace q3 := Classical.not_not.mp q3
  rw [if_pos q3]
  rw [show (gR (wA σ 4 (up (up (up (mI σ 4) 0 x1) 1 x2) 2 x3)) 0 0 1 fun r1 => gR (wA σ 4 (up (up (up (mI σ 4) 0 x1) 1 x2) 2 x3)) 2 r1 0 fun r2 => cI (ev (d + 29) 155 [.ref 0, .int x4, .int 0, .int 999] (wA σ 4 (up (up (up (mI σ 4) 0 x1) 1 x2) 2 x3))) fun r4 σ3 => tI σ3 r2 3 r4 _) = _ from E4 _]
  by_cases q4 : ¬ ((0 : Int32) ≤ x4 ∧ x4 ≤ 999)
  · right
    rw [if_neg q4]
    refine ⟨2, 1, wA σ 4 (up (up (up (mI σ 4) 0 x1) 1 x2) 2 x3), Or.inr rfl, rfl, by decide, (Ag.refl qc σ).wA qc4 _, rfl, fun τ g' => ?_⟩
    rw [e_M_would (d + 30) 53 x1 x2 x3 x4 x5 x6 x7 x8 x9 x10 τ (by rw [k_53 g'.sh]), xs_53 g'.sh, m_in, cI1_ok, i01_p q1, if_neg (show ¬ (1 : Int32) = 0 by decide), m_in, cI1_ok, i01_p q2, if_neg (show ¬ (1 : Int32) = 0 by decide), m_in, cI1_ok, i01_p q3, if_neg (show ¬ (1 : Int32) = 0 by decide), m_in, cI1_ok, i01_n q4, if_pos (show (0 : Int32) = 0 from rfl), e_M_would_115, e_M_would_120, m_bx1 g'.sh (by decide), cI_ok, if_neg (show ¬ (1 : Int32) = 0 by decide), nar0]
  replace q4 := Classical.not_not.mp q4
  rw [if_pos q4]
  rw [show (gR (wA σ 4 (up (up (up (up (mI σ 4) 0 x1) 1 x2) 2 x3) 3 x4)) 0 0 1 fun r1 => gR (wA σ 4 (up (up (up (up (mI σ 4) 0 x1) 1 x2) 2 x3) 3 x4)) 2 r1 0 fun r2 => cI (ev (d + 29) 155 [.ref 0, .int x5, .int 0, .int 3] (wA σ 4 (up (up (up (up (mI σ 4) 0 x1) 1 x2) 2 x3) 3 x4))) fun r4 σ3 => tI σ3 r2 4 r4 _) = _ from E5 _]
  by_cases q5 : ¬ ((0 : Int32) ≤ x5 ∧ x5 ≤ 3)
  · right
    rw [if_neg q5]
    refine ⟨2, 1, wA σ 4 (up (up (up (up (mI σ 4) 0 x1) 1 x2) 2 x3) 3 x4), Or.inr rfl, rfl, by decide, (Ag.refl qc σ).wA qc4 _, rfl, fun τ g' => ?_⟩
    rw [e_M_would (d + 30) 53 x1 x2 x3 x4 x5 x6 x7 x8 x9 x10 τ (by rw [k_53 g'.sh]), xs_53 g'.sh, m_in, cI1_ok, i01_p q1, if_neg (show ¬ (1 : Int32) = 0 by decide), m_in, cI1_ok, i01_p q2, if_neg (show ¬ (1 : Int32) = 0 by decide), m_in, cI1_ok, i01_p q3, if_neg (show ¬ (1 : Int32) = 0 by decide), m_in, cI1_ok, i01_p q4, if_neg (show ¬ (1 : Int32) = 0 by decide), m_in, cI1_ok, i01_n q5, if_pos (show (0 : Int32) = 0 from rfl), e_M_would_115, e_M_would_120, m_bx1 g'.sh (by decide), cI_ok, if_neg (show ¬ (1 : Int32) = 0 by decide), nar0]
  replace q5 := Classical.not_not.mp q5
  rw [if_pos q5]
  rw [show (gR (wA σ 4 (up (up (up (up (up (mI σ 4) 0 x1) 1 x2) 2 x3) 3 x4) 4 x5)) 0 0 1 fun r1 => gR (wA σ 4 (up (up (up (up (up (mI σ 4) 0 x1) 1 x2) 2 x3) 3 x4) 4 x5)) 2 r1 0 fun r2 => cI (ev (d + 29) 155 [.ref 0, .int x6, .int 0, .int 9] (wA σ 4 (up (up (up (up (up (mI σ 4) 0 x1) 1 x2) 2 x3) 3 x4) 4 x5))) fun r4 σ3 => tI σ3 r2 5 r4 _) = _ from E6 _]
  by_cases q6 : ¬ ((0 : Int32) ≤ x6 ∧ x6 ≤ 9)
  · right
    rw [if_neg q6]
    refine ⟨2, 1, wA σ 4 (up (up (up (up (up (mI σ 4) 0 x1) 1 x2) 2 x3) 3 x4) 4 x5), Or.inr rfl, rfl, by decide, (Ag.refl qc σ).wA qc4 _, rfl, fun τ g' => ?_⟩
    rw [e_M_would (d + 30) 53 x1 x2 x3 x4 x5 x6 x7 x8 x9 x10 τ (by rw [k_53 g'.sh]), xs_53 g'.sh, m_in, cI1_ok, i01_p q1, if_neg (show ¬ (1 : Int32) = 0 by decide), m_in, cI1_ok, i01_p q2, if_neg (show ¬ (1 : Int32) = 0 by decide), m_in, cI1_ok, i01_p q3, if_neg (show ¬ (1 : Int32) = 0 by decide), m_in, cI1_ok, i01_p q4, if_neg (show ¬ (1 : Int32) = 0 by decide), m_in, cI1_ok, i01_p q5, if_neg (show ¬ (1 : Int32) = 0 by decide), m_in, cI1_ok, i01_n q6, if_pos (show (0 : Int32) = 0 from rfl), e_M_would_115, e_M_would_120, m_bx1 g'.sh (by decide), cI_ok, if_neg (show ¬ (1 : Int32) = 0 by decide), nar0]
  replace q6 := Classical.not_not.mp q6
  rw [if_pos q6]
  rw [show (gR (wA σ 4 (up (up (up (up (up (up (mI σ 4) 0 x1) 1 x2) 2 x3) 3 x4) 4 x5) 5 x6)) 0 0 1 fun r1 => gR (wA σ 4 (up (up (up (up (up (up (mI σ 4) 0 x1) 1 x2) 2 x3) 3 x4) 4 x5) 5 x6)) 2 r1 0 fun r2 => cI (ev (d + 29) 155 [.ref 0, .int x7, .int 0, .int 6] (wA σ 4 (up (up (up (up (up (up (mI σ 4) 0 x1) 1 x2) 2 x3) 3 x4) 4 x5) 5 x6))) fun r4 σ3 => tI σ3 r2 6 r4 _) = _ from E7 _]
  by_cases q7 : ¬ ((0 : Int32) ≤ x7 ∧ x7 ≤ 6)
  · right
    rw [if_neg q7]
    refine ⟨2, 1, wA σ 4 (up (up (up (up (up (up (mI σ 4) 0 x1) 1 x2) 2 x3) 3 x4) 4 x5) 5 x6), Or.inr rfl, rfl, by decide, (Ag.refl qc σ).wA qc4 _, rfl, fun τ g' => ?_⟩
    rw [e_M_would (d + 30) 53 x1 x2 x3 x4 x5 x6 x7 x8 x9 x10 τ (by rw [k_53 g'.sh]), xs_53 g'.sh, m_in, cI1_ok, i01_p q1, if_neg (show ¬ (1 : Int32) = 0 by decide), m_in, cI1_ok, i01_p q2, if_neg (show ¬ (1 : Int32) = 0 by decide), m_in, cI1_ok, i01_p q3, if_neg (show ¬ (1 : Int32) = 0 by decide), m_in, cI1_ok, i01_p q4, if_neg (show ¬ (1 : Int32) = 0 by decide), m_in, cI1_ok, i01_p q5, if_neg (show ¬ (1 : Int32) = 0 by decide), m_in, cI1_ok, i01_p q6, if_neg (show ¬ (1 : Int32) = 0 by decide), m_in, cI1_ok, i01_n q7, if_pos (show (0 : Int32) = 0 from rfl), e_M_would_115, e_M_would_120, m_bx1 g'.sh (by decide), cI_ok, if_neg (show ¬ (1 : Int32) = 0 by decide), nar0]
  replace q7 := Classical.not_not.mp q7
  rw [if_pos q7]
  rw [show (gR (wA σ 4 (up (up (up (up (up (up (up (mI σ 4) 0 x1) 1 x2) 2 x3) 3 x4) 4 x5) 5 x6) 6 x7)) 0 0 1 fun r1 => gR (wA σ 4 (up (up (up (up (up (up (up (mI σ 4) 0 x1) 1 x2) 2 x3) 3 x4) 4 x5) 5 x6) 6 x7)) 2 r1 0 fun r2 => cI (ev (d + 29) 155 [.ref 0, .int x8, .int 0, .int 99] (wA σ 4 (up (up (up (up (up (up (up (mI σ 4) 0 x1) 1 x2) 2 x3) 3 x4) 4 x5) 5 x6) 6 x7))) fun r4 σ3 => tI σ3 r2 7 r4 _) = _ from E8 _]
  by_cases q8 : ¬ ((0 : Int32) ≤ x8 ∧ x8 ≤ 99)
  · right
    rw [if_neg q8]
    refine ⟨2, 1, wA σ 4 (up (up (up (up (up (up (up (mI σ 4) 0 x1) 1 x2) 2 x3) 3 x4) 4 x5) 5 x6) 6 x7), Or.inr rfl, rfl, by decide, (Ag.refl qc σ).wA qc4 _, rfl, fun τ g' => ?_⟩
    rw [e_M_would (d + 30) 53 x1 x2 x3 x4 x5 x6 x7 x8 x9 x10 τ (by rw [k_53 g'.sh]), xs_53 g'.sh, m_in, cI1_ok, i01_p q1, if_neg (show ¬ (1 : Int32) = 0 by decide), m_in, cI1_ok, i01_p q2, if_neg (show ¬ (1 : Int32) = 0 by decide), m_in, cI1_ok, i01_p q3, if_neg (show ¬ (1 : Int32) = 0 by decide), m_in, cI1_ok, i01_p q4, if_neg (show ¬ (1 : Int32) = 0 by decide), m_in, cI1_ok, i01_p q5, if_neg (show ¬ (1 : Int32) = 0 by decide), m_in, cI1_ok, i01_p q6, if_neg (show ¬ (1 : Int32) = 0 by decide), m_in, cI1_ok, i01_p q7, if_neg (show ¬ (1 : Int32) = 0 by decide), m_in, cI1_ok, i01_n q8, if_pos (show (0 : Int32) = 0 from rfl), e_M_would_115, e_M_would_120, m_bx1 g'.sh (by decide), cI_ok, if_neg (show ¬ (1 : Int32) = 0 by decide), nar0]
  replace q8 := Classical.not_not.mp q8
  rw [if_pos q8]
  rw [show (gR (wA σ 4 (up (up (up (up (up (up (up (up (mI σ 4) 0 x1) 1 x2) 2 x3) 3 x4) 4 x5) 5 x6) 6 x7) 7 x8)) 0 0 1 fun r1 => gR (wA σ 4 (up (up (up (up (up (up (up (up (mI σ 4) 0 x1) 1 x2) 2 x3) 3 x4) 4 x5) 5 x6) 6 x7) 7 x8)) 2 r1 0 fun r2 => cI (ev (d + 29) 155 [.ref 0, .int x9, .int 0, .int 400] (wA σ 4 (up (up (up (up (up (up (up (up (mI σ 4) 0 x1) 1 x2) 2 x3) 3 x4) 4 x5) 5 x6) 6 x7) 7 x8))) fun r4 σ3 => tI σ3 r2 8 r4 _) = _ from E9 _]
  by_cases q9 : ¬ ((0 : Int32) ≤ x9 ∧ x9 ≤ 400)
  · right
    rw [if_neg q9]
    refine ⟨2, 1, wA σ 4 (up (up (up (up (up (up (up (up (mI σ 4) 0 x1) 1 x2) 2 x3) 3 x4) 4 x5) 5 x6) 6 x7) 7 x8), Or.inr rfl, rfl, by decide, (Ag.refl qc σ).wA qc4 _, rfl, fun τ g' => ?_⟩
    rw [e_M_would (d + 30) 53 x1 x2 x3 x4 x5 x6 x7 x8 x9 x10 τ (by rw [k_53 g'.sh]), xs_53 g'.sh, m_in, cI1_ok, i01_p q1, if_neg (show ¬ (1 : Int32) = 0 by decide), m_in, cI1_ok, i01_p q2, if_neg (show ¬ (1 : Int32) = 0 by decide), m_in, cI1_ok, i01_p q3, if_neg (show ¬ (1 : Int32) = 0 by decide), m_in, cI1_ok, i01_p q4, if_neg (show ¬ (1 : Int32) = 0 by decide), m_in, cI1_ok, i01_p q5, if_neg (show ¬ (1 : Int32) = 0 by decide), m_in, cI1_ok, i01_p q6, if_neg (show ¬ (1 : Int32) = 0 by decide), m_in, cI1_ok, i01_p q7, if_neg (show ¬ (1 : Int32) = 0 by decide), m_in, cI1_ok, i01_p q8, if_neg (show ¬ (1 : Int32) = 0 by decide), m_in, cI1_ok, i01_n q9, if_pos (show (0 : Int32) = 0 from rfl), e_M_would_115, e_M_would_120, m_bx1 g'.sh (by decide), cI_ok, if_neg (show ¬ (1 : Int32) = 0 by decide), nar0]
  replace q9 := Classical.not_not.mp q9
  rw [if_pos q9]
  rw [show (gR (wA σ 4 (up (up (up (up (up (up (up (up (up (mI σ 4) 0 x1) 1 x2) 2 x3) 3 x4) 4 x5) 5 x6) 6 x7) 7 x8) 8 x9)) 0 0 1 fun r1 => gR (wA σ 4 (up (up (up (up (up (up (up (up (up (mI σ 4) 0 x1) 1 x2) 2 x3) 3 x4) 4 x5) 5 x6) 6 x7) 7 x8) 8 x9)) 2 r1 0 fun r2 => cI (ev (d + 29) 155 [.ref 0, .int x10, .int 0, .int 6] (wA σ 4 (up (up (up (up (up (up (up (up (up (mI σ 4) 0 x1) 1 x2) 2 x3) 3 x4) 4 x5) 5 x6) 6 x7) 7 x8) 8 x9))) fun r4 σ3 => tI σ3 r2 9 r4 _) = _ from E10 _]
  by_cases q10 : ¬ ((0 : Int32) ≤ x10 ∧ x10 ≤ 6)
  · right
    rw [if_neg q10]
    refine ⟨2, 1, wA σ 4 (up (up (up (up (up (up (up (up (up (mI σ 4) 0 x1) 1 x2) 2 x3) 3 x4) 4 x5) 5 x6) 6 x7) 7 x8) 8 x9), Or.inr rfl, rfl, by decide, (Ag.refl qc σ).wA qc4 _, rfl, fun τ g' => ?_⟩
    rw [e_M_would (d + 30) 53 x1 x2 x3 x4 x5 x6 x7 x8 x9 x10 τ (by rw [k_53 g'.sh]), xs_53 g'.sh, m_in, cI1_ok, i01_p q1, if_neg (show ¬ (1 : Int32) = 0 by decide), m_in, cI1_ok, i01_p q2, if_neg (show ¬ (1 : Int32) = 0 by decide), m_in, cI1_ok, i01_p q3, if_neg (show ¬ (1 : Int32) = 0 by decide), m_in, cI1_ok, i01_p q4, if_neg (show ¬ (1 : Int32) = 0 by decide), m_in, cI1_ok, i01_p q5, if_neg (show ¬ (1 : Int32) = 0 by decide), m_in, cI1_ok, i01_p q6, if_neg (show ¬ (1 : Int32) = 0 by decide), m_in, cI1_ok, i01_p q7, if_neg (show ¬ (1 : Int32) = 0 by decide), m_in, cI1_ok, i01_p q8, if_neg (show ¬ (1 : Int32) = 0 by decide), m_in, cI1_ok, i01_p q9, if_neg (show ¬ (1 : Int32) = 0 by decide), m_in, cI1_ok, i01_n q10, if_pos (show (0 : Int32) = 0 from rfl), e_M_would_115, e_M_would_120, m_bx1 g'.sh (by decide), cI_ok, if_neg (show ¬ (1 : Int32) = 0 by decide), nar0]
  replace q10 := Classical.not_not.mp q10
  rw [if_pos q10]
  left
  have a := (Ag.refl qc σ).wA qc4 (up (up (up (up (up (up (up (up (up (up (mI σ 4) 0 x1) 1 x2) 2 x3) 3 x4) 4 x5) 5 x6) 6 x7) 7 x8) 8 x9) 9 x10)
  have h10 := h.qc a
  obtain ⟨υ, c1, c2⟩ := c_lawBy (d := d + 27) h10.1.sh h10.1.ok.2 h10.1.cx.2.2 (gl := [x1, x2, x3, x4, x5, x6, x7, x8, x9, x10]) (fun k hk => by
    rw [rA_a]
    rcases (show k = 0 ∨ k = 1 ∨ k = 2 ∨ k = 3 ∨ k = 4 ∨ k = 5 ∨ k = 6 ∨ k = 7 ∨ k = 8 ∨ k = 9 by omega) with rfl | rfl | rfl | rfl | rfl | rfl | rfl | rfl | rfl | rfl <;> rfl)
  rw [xr_0_1 h10.1.sh, c1, cI1_ok, nar0]
  refine ⟨_, ⟨υ, rfl, a.trans (c2.mono qc15)⟩, fun τ g' s => ?_⟩
  have g2 := g'.th
  obtain ⟨g, f, e⟩ := m_laughBy (d := d + 27) g2.1.sh g2.1.ok.2 g2.1.mx.2.2 x1 x2 x3 x4 x5 x6 x7 x8 x9 x10
  rw [e_M_would (d + 30) 53 x1 x2 x3 x4 x5 x6 x7 x8 x9 x10 τ (by rw [k_53 g'.1.sh]), xs_53 g'.1.sh, m_in, cI1_ok, i01_p q1, if_neg (show ¬ (1 : Int32) = 0 by decide), m_in, cI1_ok, i01_p q2, if_neg (show ¬ (1 : Int32) = 0 by decide), m_in, cI1_ok, i01_p q3, if_neg (show ¬ (1 : Int32) = 0 by decide), m_in, cI1_ok, i01_p q4, if_neg (show ¬ (1 : Int32) = 0 by decide), m_in, cI1_ok, i01_p q5, if_neg (show ¬ (1 : Int32) = 0 by decide), m_in, cI1_ok, i01_p q6, if_neg (show ¬ (1 : Int32) = 0 by decide), m_in, cI1_ok, i01_p q7, if_neg (show ¬ (1 : Int32) = 0 by decide), m_in, cI1_ok, i01_p q8, if_neg (show ¬ (1 : Int32) = 0 by decide), m_in, cI1_ok, i01_p q9, if_neg (show ¬ (1 : Int32) = 0 by decide), m_in, cI1_ok, i01_p q10, if_neg (show ¬ (1 : Int32) = 0 by decide), e_M_would_120, m_bad0 g2.1.sh (th0 τ), cI_ok, if_pos (show (0 : Int32) = 0 from rfl), e, cI_ok, nar0]
  exact ⟨_, rfl, (((AgM.th τ).wA (sc_qm 451 (Or.inr rfl)) (by decide) g).wA (sc_qm 450 (Or.inl rfl)) (by decide) f), by rw [rA_o (by decide), rA_o (by decide)]; exact th0 τ⟩
end WouldV
