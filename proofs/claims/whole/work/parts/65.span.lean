/-! span -/
section SpanV
variable {σ τ σ' τ' υ φ : mm_M} {t : Nat → Nat} {n : Nat} {l : Ln} {many : Nat} {cs : Nat → Int32} {w K : Nat} {b : List (Nat × Nat)} {d : Nat}
def fw (i : Nat) (x y : Int32) : Prop := (i = 0 ∧ x = 999 ∧ y = -1) ∨ (x = y ∧ ∃ g, g ≤ 999 ∧ x = nI g)
theorem mnn_nI {a c : Nat} (ha : a ≤ 999) (hc : c ≤ 999) : ∃ g, g ≤ 999 ∧ mnn (nI a) (nI c) = nI g := by
  unfold mnn
  by_cases q : nI c < nI a
  · rw [if_pos q]; exact ⟨c, hc, rfl⟩
  · rw [if_neg q]; exact ⟨a, ha, rfl⟩
theorem mnn_999 {c : Nat} (hc : c ≤ 999) : mnn 999 (nI c) = nI c := by
  unfold mnn
  by_cases q : nI c < 999
  · rw [if_pos q]
  · rw [if_neg q]
    have : ¬ c < 999 := fun z => q (nI_lt (b := 999) z (by omega))
    rw [show c = 999 by omega]; rfl
theorem span_loop {M N p k : Nat} (hN : N ≤ 96) (hM : M ≤ 20) (h1 : 1 ≤ M) (hp : p < nP l) (hk : k ≤ 2) (s q : Int32) : ∀ m i x7 y7 x8 x9 σ τ, B2 σ τ t n l many cs w K b → fw i x7 y7 → M - i = m → i ≤ M →
    Two σ τ (rn (d + 30) 150 71 [.ref 0, .int s, .int (nI M), .int (nI N), .int q, .int (nI k), .int (nI p), .int x7, .int x8, .int x9, .int (nI i)] [] σ) (rn (d + 31) 269 71 [.ref 53, .int s, .int (nI M), .int (nI N), .int q, .int (nI k), .int (nI p), .int y7, .int x8, .int x9, .int (nI i)] [] τ)
  | 0, i, x7, y7, x8, x9, σ, τ, h, f, hm, hi => by
    have e : x7 = y7 := by
      rcases f with f | f
      · omega
      · exact f.1
    rw [e_W_span_71, if_pos (nI_le (by omega) (by omega)), e_M_span_71, if_pos (nI_le (by omega) (by omega)), e]
    by_cases z : nI k = 0
    · rw [if_pos z, if_pos z, e_W_span_189, e_M_span_184]; exact Two.ok h.2.2.2 _
    · rw [if_neg z, if_neg z]
      by_cases z2 : nI k = 1
      · rw [if_pos z2, if_pos z2, e_W_span_189, e_M_span_184]; exact Two.ok h.2.2.2 _
      · rw [if_neg z2, if_neg z2, e_W_span_189, e_M_span_184]; exact Two.ok h.2.2.2 _
  | m + 1, i, x7, y7, x8, x9, σ, τ, h, f, hm, hi => by
    have hw := h.1.1
    obtain ⟨σ0, σ', τ', c1, s0, c2, m1, a, g, h4⟩ := yrB (dc := d + 24) (dm := d + 23) hN (s + nI i) q h
    have hw4 := h4.1.1.1.1
    have hg4 := h4.1.1.2.1.1
    have h7 := hw4.ok.1.1
    obtain ⟨G, hG, eG⟩ := h4.1.2.2.2.2.2
    have et := (h4.1.2.1.1.2.2.1 p (by omega)).2.1
    have eC : rn (d + 30) 150 71 [.ref 0, .int s, .int (nI M), .int (nI N), .int q, .int (nI k), .int (nI p), .int x7, .int x8, .int x9, .int (nI i)] [] σ = rn (d + 30) 150 71 [.ref 0, .int s, .int (nI M), .int (nI N), .int q, .int (nI k), .int (nI p), .int (mnn x7 (nI G)), .int (mxx x8 (nI G)), .int (x9 + (if mI τ' 534 (7 + p) ≤ 0 then 0 else 1)), .int (nI (i + 1))] [] σ' := by
      rw [e_W_span_71, if_neg (nI_ge (by omega) (by omega)), xr_0_4 hw.sh, xr_0_3 hw.sh, show ev (d + 29) 26 [.ref 23, .ref 21] σ = _ from c1, cV1_ok, xr_0_8 s0, xr_0_1 s0, xr_0_4 s0, show ev (d + 29) 111 [.ref 37, .ref 3, .ref 23, .int (s + nI i), .int (nI N), .int q] σ0 = _ from c2, cV1_ok, xr_0_4 hw4.sh, c_jugWater hw4.sh da23, cI1_ok, c_min, cI1_ok, xr_0_4 hw4.sh, c_jugWater hw4.sh da23, cI1_ok, c_max, cI1_ok, xr_0_4 hw4.sh, c_thirstOf hw4.sh da23 (by omega), cI1_ok, show mI σ' (23 + 1) = mI σ' 24 from rfl, h4.1.2.1.1.2.1, eG, et]
      by_cases z : mI τ' 534 (7 + p) ≤ 0
      · rw [if_pos z, if_pos z, e_W_span_157, nI_1]
      · rw [if_neg z, if_neg z, e_W_span_157, nI_1]
    have eM : rn (d + 31) 269 71 [.ref 53, .int s, .int (nI M), .int (nI N), .int q, .int (nI k), .int (nI p), .int y7, .int x8, .int x9, .int (nI i)] [] τ = rn (d + 31) 269 71 [.ref 53, .int s, .int (nI M), .int (nI N), .int q, .int (nI k), .int (nI p), .int (if y7 = -1 then nI G else mnn y7 (nI G)), .int (mxx x8 (nI G)), .int (x9 + (if mI τ' 534 (7 + p) ≤ 0 then 0 else 1)), .int (nI (i + 1))] [] τ' := by
      have e116 : ∀ y0, rn (d + 31) 269 116 [.ref 53, .int s, .int (nI M), .int (nI N), .int q, .int (nI k), .int (nI p), .int y7, .int x8, .int x9, .int (nI i)] [.int y0] τ' = rn (d + 31) 269 71 [.ref 53, .int s, .int (nI M), .int (nI N), .int q, .int (nI k), .int (nI p), .int y0, .int (mxx x8 (nI G)), .int (x9 + (if mI τ' 534 (7 + p) ≤ 0 then 0 else 1)), .int (nI (i + 1))] [] τ' := by
        intro y0
        rw [e_M_span_116, xr_53_30 hg4.sh, show aI τ' 534 77 = aI τ' 534 (nI 77) from rfl, xa_534 hg4.sh (by decide), m_more, cI1_ok, xr_53_30 hg4.sh, show (7 : Int32) + nI p = nI (7 + p) from nI_add 7 p, xa_534 hg4.sh (by omega), eG]
        by_cases z : mI τ' 534 (7 + p) ≤ 0
        · rw [if_pos z, if_pos z, e_M_span_152, nI_1]
        · rw [if_neg z, if_neg z, e_M_span_152, nI_1]
      rw [e_M_span_71, if_neg (nI_ge (by omega) (by omega)), show ev (d + 30) 266 [.ref 53, .int (s + nI i), .int (nI N), .int q] τ = _ from m1, cV_ok]
      by_cases z : y7 = -1
      · rw [if_pos z, if_pos z, xr_53_30 hg4.sh, show aI τ' 534 77 = aI τ' 534 (nI 77) from rfl, xa_534 hg4.sh (by decide), e116, eG]
      · rw [if_neg z, if_neg z, xr_53_30 hg4.sh, show aI τ' 534 77 = aI τ' 534 (nI 77) from rfl, xa_534 hg4.sh (by decide), m_less, cI1_ok, e116, eG]
    rw [eC, eM]
    refine Two.after a g (span_loop hN hM h1 hp hk s q m (i + 1) _ _ _ _ σ' τ' h4.1.1 (Or.inr ?_) (by omega) (by omega))
    rcases f with ⟨f1, f2, f3⟩ | ⟨f1, g', hg', e⟩
    · rw [f2, f3, if_pos rfl, mnn_999 hG]
      exact ⟨rfl, G, hG, rfl⟩
    · rw [← f1, e, if_neg (nI_m1 (by omega))]
      exact ⟨rfl, mnn_nI hg' hG⟩
theorem op_span (x1 x2 x3 x4 x5 x6 : Int32) : OpQ (d + 30) 150 [.ref 0, .int x1, .int x2, .int x3, .int x4, .int x5, .int x6] (d + 31) 269 [.ref 53, .int x1, .int x2, .int x3, .int x4, .int x5, .int x6] [(2, 1)] := by
  refine op_x (e1 := 2) (e2 := 2) (c1 := 1) (c2 := 1) (P := fun l => ((1 : Int32) ≤ x2 ∧ x2 ≤ 20) ∧ (((1 : Int32) ≤ x3 ∧ x3 ≤ 96) ∧ ((0 : Int32) ≤ x4 ∧ x4 ≤ 16)) ∧ ((0 : Int32) ≤ x5 ∧ x5 ≤ 2) ∧ inN x6 (nP l)) (Q := fun _ => True)
    (f := fun σ12 => rn (d + 30) 150 71 [.ref 0, .int x1, .int x2, .int x3, .int x4, .int x5, .int x6, .int 999, .int 0, .int 0, .int 0] [] σ12)
    (g := fun σ1 => rn (d + 31) 269 71 [.ref 53, .int x1, .int x2, .int x3, .int x4, .int x5, .int x6, .int (-1), .int 0, .int 0, .int 0] [] σ1) ⟨Or.inr rfl, rfl, by decide⟩ ⟨Or.inr rfl, rfl, by decide⟩ ?_ ?_ ?_
  · intro σ t n l many cs w K b hw
    have h7 := hw.ok.1.1
    obtain ⟨a0, b0⟩ := c_rng (d := d + 29) hw.sh x2 1 20
    obtain ⟨a1, b1⟩ := c_rng (d := d + 29) hw.sh x3 1 96
    obtain ⟨a2, b2⟩ := c_rng (d := d + 29) hw.sh x4 0 16
    obtain ⟨a3, b3⟩ := c_rng (d := d + 29) hw.sh x5 0 2
    obtain ⟨a4, b4⟩ := c_rng (d := d + 29) hw.sh x6 0 (nI (nP l) - 1)
    have i6 := inN_m (x := x6) (n := nP l) (by omega)
    rw [e_W_span (d + 29) 0 x1 x2 x3 x4 x5 x6 σ (by rw [k_0 hw.sh])]
    refine ⟨fun p _ => by rw [a0 p.1, cI_ok, a1 p.2.1.1, cI_ok, a2 p.2.1.2, cI_ok, a3 p.2.2.1, cI_ok, xr_0_1 hw.sh, xr_3_1 hw.sh, xg_ld hw.sh hw.sh.ld, hw.cx.2.1.1.1, a4 (i6.mpr p.2.2.2), cI_ok], fun p => ?_, fun _ q => absurd trivial q⟩
    by_cases q0 : (1 : Int32) ≤ x2 ∧ x2 ≤ 20
    · rw [a0 q0, cI_ok]
      by_cases q1 : (1 : Int32) ≤ x3 ∧ x3 ≤ 96
      · rw [a1 q1, cI_ok]
        by_cases q2 : (0 : Int32) ≤ x4 ∧ x4 ≤ 16
        · rw [a2 q2, cI_ok]
          by_cases q3 : (0 : Int32) ≤ x5 ∧ x5 ≤ 2
          · rw [a3 q3, cI_ok, xr_0_1 hw.sh, xr_3_1 hw.sh, xg_ld hw.sh hw.sh.ld, hw.cx.2.1.1.1, b4 (fun z => p ⟨q0, ⟨q1, q2⟩, q3, i6.mp z⟩)]; rfl
          · rw [b3 q3]; rfl
        · rw [b2 q2]; rfl
      · rw [b1 q1]; rfl
    · rw [b0 q0]; rfl
  · intro σ t n l many cs w K b hw hg
    haveI := Classical.propDecidable (inN x6 (nP l))
    have bad : rn (d + 31) 269 44 [.ref 53, .int x1, .int x2, .int x3, .int x4, .int x5, .int x6, uv, uv, uv, uv] [.ref 53] (wI σ 53 0 0) = some (.inl (.int 0), exM σ 1 2) := by rw [e_M_span_44, e_M_span_49, m_bx1 hw.sh (by decide), cI_ok, if_neg (show ¬ (1 : Int32) = 0 by decide), nar0]
    rw [e_M_span (d + 30) 53 x1 x2 x3 x4 x5 x6 σ (by rw [k_53 hw.sh]), xs_53 hw.sh, m_in, cI1_ok]
    refine ⟨fun p _ => by rw [i01_p p.1, if_neg (show ¬ (1 : Int32) = 0 by decide), m_isYear, cI1_ok, i01_p p.2.1, if_neg (show ¬ (1 : Int32) = 0 by decide), m_in, cI1_ok, i01_p p.2.2.1, if_neg (show ¬ (1 : Int32) = 0 by decide), m_isP hg.mx hg.ok.1, cI_ok, i01_p p.2.2.2, if_neg (show ¬ (1 : Int32) = 0 by decide), e_M_span_49, m_bad0 hg.sh (th0 σ), cI_ok, if_pos (show (0 : Int32) = 0 from rfl)], fun p => ?_, fun _ q => absurd trivial q⟩
    by_cases q0 : (1 : Int32) ≤ x2 ∧ x2 ≤ 20
    · rw [i01_p q0, if_neg (show ¬ (1 : Int32) = 0 by decide), m_isYear, cI1_ok]
      by_cases q1 : ((1 : Int32) ≤ x3 ∧ x3 ≤ 96) ∧ ((0 : Int32) ≤ x4 ∧ x4 ≤ 16)
      · rw [i01_p q1, if_neg (show ¬ (1 : Int32) = 0 by decide), m_in, cI1_ok]
        by_cases q3 : (0 : Int32) ≤ x5 ∧ x5 ≤ 2
        · rw [i01_p q3, if_neg (show ¬ (1 : Int32) = 0 by decide), m_isP hg.mx hg.ok.1, cI_ok, i01_n (show ¬ inN x6 (nP l) from fun z => p ⟨q0, q1, q3, z⟩), if_pos (show (0 : Int32) = 0 from rfl)]; exact bad
        · rw [i01_n q3, if_pos (show (0 : Int32) = 0 from rfl)]; exact bad
      · rw [i01_n q1, if_pos (show (0 : Int32) = 0 from rfl)]; exact bad
    · rw [i01_n q0, if_pos (show (0 : Int32) = 0 from rfl)]; exact bad
  · intro σ τ t n l many cs w K b h p _
    obtain ⟨M, hM1, hM, rfl⟩ := in_of (k := 20) (by decide) p.1
    obtain ⟨N, hN1, hN, rfl⟩ := in_of (k := 96) (by decide) p.2.1.1
    obtain ⟨k, hk, rfl⟩ := (inN_r (n := 2) (by decide)).mp p.2.2.1
    obtain ⟨j, hj, rfl⟩ := p.2.2.2
    exact span_loop hN hM hM1 hj (by omega) x1 x4 _ 0 999 (-1) 0 0 σ τ h (Or.inl ⟨rfl, rfl, rfl⟩) rfl (Nat.zero_le _)
end SpanV
