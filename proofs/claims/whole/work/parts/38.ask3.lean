/-! the land and the days, asked -/
section Ask3
variable {σ τ σ' τ' υ φ : mm_M} {t : Nat → Nat} {n : Nat} {l : Ln} {many : Nat} {cs : Nat → Int32} {w K : Nat} {b : List (Nat × Nat)} {d : Nat} {R S : Option mm_R}
theorem B2.ta (h : B2 σ τ t n l many cs w K b) {p : Nat} (hp : p < nP l) (k k' : Int32 → Option mm_R) : (gR σ 0 0 1 fun r1 => gR σ 2 r1 1 fun r2 => gR σ 3 r2 1 fun r3 => aI σ r3 (nI p) k) = k (lT l p) ∧ (gR τ 12 53 14 fun r1 => aR τ r1 (nI p) fun r2 => aI τ r2 1 k') = k' (lT l p) := by
  have hw := h.1.1
  have hg := h.2.1.1
  have h7 := hw.ok.1.1
  exact ⟨by rw [xr_0_1 hw.sh, xr_3_1 hw.sh, xr_ld1 hw.sh hw.sh.ld, xa_ld2 hw.sh hw.sh.ld (by omega), (hw.cx.2.1.2.1 p hp).2.1], by rw [xr_53_14 hg.sh, xR_66 hg.sh (by omega), show (1 : Int32) = nI 1 from rfl, xa_r66 hg.sh (by omega) (by decide), (hg.mx.2.1.2.1 p hp).2]⟩
theorem alike_in {a : Nat} (h : B2 σ τ t n l many cs w K b) (ha : a < nP l) (x : Int32) (hout : ∀ x2 x3 v v', Two σ τ (rn (d + 30) 148 15 [.ref 0, .int x, .int x2, .int x3, .int (nI (a + 1)), v] [] σ) (rn (d + 31) 264 37 [.ref 53, .int x, .int x2, .int x3, .int (nI (a + 1)), v'] [] τ)) : ∀ m c x2 x3, nP l - c = m → c ≤ nP l →
    Two σ τ (rn (d + 30) 148 36 [.ref 0, .int x, .int x2, .int x3, .int (nI a), .int (nI c)] [] σ) (rn (d + 31) 264 54 [.ref 53, .int x, .int x2, .int x3, .int (nI a), .int (nI c)] [] τ)
  | 0, c, x2, x3, hm, hc => by
    have hP := h.1.1.ok.1.1
    rw [e_W_alike_36, (h.p _ (fun _ => none)).1, if_pos (nI_le (by omega) (by omega)), e_M_alike_54, (h.p (fun _ => none) _).2, if_pos (nI_le (by omega) (by omega)), nI_1]
    exact hout _ _ _ _
  | m + 1, c, x2, x3, hm, hc => by
    have hP := h.1.1.ok.1.1
    rw [e_W_alike_36, (h.p _ (fun _ => none)).1, if_neg (nI_ge (by omega) (by omega)), (h.ta ha _ (fun _ => none)).1, (h.ta (p := c) (by omega) _ (fun _ => none)).1, e_M_alike_54, (h.p (fun _ => none) _).2, if_neg (nI_ge (by omega) (by omega)), (h.ta ha (fun _ => none) _).2, (h.ta (p := c) (by omega) (fun _ => none) _).2]
    by_cases q : lT l a = lT l c
    · rw [if_pos q, if_pos q]
      by_cases q2 : x2 = 0
      · rw [if_pos q2, if_pos q2, e_W_alike_96, e_M_alike_105, e_W_alike_100, e_M_alike_109, nI_1]
        exact alike_in h ha x hout m (c + 1) _ _ (by omega) (by omega)
      · rw [if_neg q2, if_neg q2, e_W_alike_96, e_M_alike_105, e_W_alike_100, e_M_alike_109, nI_1]
        exact alike_in h ha x hout m (c + 1) _ _ (by omega) (by omega)
    · rw [if_neg q, if_neg q, e_W_alike_100, e_M_alike_109, nI_1]
      exact alike_in h ha x hout m (c + 1) _ _ (by omega) (by omega)
theorem alike_loop (h : B2 σ τ t n l many cs w K b) (x : Int32) : ∀ m a x2 x3 v v', nP l - a = m → a ≤ nP l →
    Two σ τ (rn (d + 30) 148 15 [.ref 0, .int x, .int x2, .int x3, .int (nI a), v] [] σ) (rn (d + 31) 264 37 [.ref 53, .int x, .int x2, .int x3, .int (nI a), v'] [] τ)
  | 0, a, x2, x3, v, v', hm, hp => by
    have hP := h.1.1.ok.1.1
    rw [e_W_alike_15, (h.p _ (fun _ => none)).1, if_pos (nI_le (by omega) (by omega)), e_M_alike_37, (h.p (fun _ => none) _).2, if_pos (nI_le (by omega) (by omega))]
    by_cases q : x = 0
    · rw [if_pos q, if_pos q, e_W_alike_121, e_M_alike_130, nar0]; exact Two.ok h.2.2.2 _
    · rw [if_neg q, if_neg q, e_W_alike_121, e_M_alike_130, nar0]; exact Two.ok h.2.2.2 _
  | m + 1, a, x2, x3, v, v', hm, hp => by
    have hP := h.1.1.ok.1.1
    rw [e_W_alike_15, (h.p _ (fun _ => none)).1, if_neg (nI_ge (by omega) (by omega)), e_M_alike_37, (h.p (fun _ => none) _).2, if_neg (nI_ge (by omega) (by omega)), nI_1]
    exact alike_in h (by omega) x (fun x2 x3 v v' => alike_loop h x m (a + 1) x2 x3 v v' (by omega) (by omega)) _ (a + 1) _ _ rfl (by omega)
theorem op_alike (x : Int32) : OpQ (d + 30) 148 [.ref 0, .int x] (d + 31) 264 [.ref 53, .int x] [(2, 1)] :=
  op_r1 (M := 1) (A := fun c σ => rn (d + 31) 264 20 [.ref 53, .int x, uv, uv, uv, uv] [.int c, .ref 53] σ) (by decide)
    (fun σ h => e_W_alike (d + 29) 0 x σ (by rw [k_0 h])) (fun σ h => e_M_alike (d + 30) 53 x σ (by rw [k_53 h])) (fun c σ => e_M_alike_20 (d + 30) 53 x c 53 σ)
    (fun σ τ t n l many cs w K b h k hk ex => alike_loop h x _ 0 _ _ _ _ rfl (Nat.zero_le _))
theorem joke_body (h : B2 σ τ t n l many cs w K b) {j k : Nat} (hj : j < nJ l) (hk : k ≤ 2) :
    Two σ τ (rn (d + 30) 124 (swL 14 52 #[(0, 26), (1, 39)] (nI k)) [.ref 0, .int (nI j), .int (nI k)] [] σ) (if 2 ≤ nI k then gR τ 12 53 29 fun r3 => cI (ev (d + 30) 212 [.ref 53, .ref r3, .int (nI j)] τ) fun r5 σ4 => rn (d + 31) 229 77 [.ref 53, .int (nI j), .int (nI k)] [.int r5] σ4 else gR τ 12 53 16 fun r6 => aR τ r6 (nI j) fun r7 => aI τ r7 (nI k) fun r8 => rn (d + 31) 229 77 [.ref 53, .int (nI j), .int (nI k)] [.int r8] τ) := by
  have hw := h.1.1
  have hg := h.2.1.1
  have h6 := hw.ok.1.2.1
  have h7 := hw.ok.1.1
  have row := hw.row.1.1.2.2.2 j (by omega)
  have cj := hw.cx.2.1.2.2.1 j hj
  have mj := hg.mx.2.1.2.2.1 j hj
  rcases (show k = 0 ∨ k = 1 ∨ k = 2 by omega) with rfl | rfl | rfl
  · rw [show swL 14 52 #[(0, 26), (1, 39)] (nI 0) = 40 by decide, e_W_joke_40, xr_0_1 hw.sh, xr_3_1 hw.sh, xr_ld3 hw.sh hw.sh.ld, xa_ld4 hw.sh hw.sh.ld (by omega), cj.1, if_neg (by decide), xr_53_16 hg.sh, xR_81 hg.sh (by omega), xa_r81 hg.sh (by omega) (by decide), mj.1, e_M_joke_77]
    exact Two.ok h.2.2.2 _
  · rw [show swL 14 52 #[(0, 26), (1, 39)] (nI 1) = 53 by decide, e_W_joke_53, xr_0_1 hw.sh, xr_3_1 hw.sh, xr_ld4 hw.sh hw.sh.ld, xa_ld5 hw.sh hw.sh.ld (by omega), cj.2, if_neg (by decide), xr_53_16 hg.sh, xR_81 hg.sh (by omega), xa_r81 hg.sh (by omega) (by decide), mj.2, e_M_joke_77]
    exact Two.ok h.2.2.2 _
  · rw [show swL 14 52 #[(0, 26), (1, 39)] (nI 2) = 66 by decide, e_W_joke_66, xr_0_3 hw.sh, c_toldOf hw.sh da21 (by omega), cI1_ok, show mI σ (21 + 1) = mI σ 22 from rfl, row.1, if_pos (by decide), xr_53_29 hg.sh, m_toldIn hg.sh (k_533 hg.sh) h7 hg.mx.2.1.1.1 (by omega), cI_ok, e_M_joke_77, h.r]
    exact Two.ok h.2.2.2 _
theorem op_joke (x y : Int32) : OpQ (d + 30) 124 [.ref 0, .int x, .int y] (d + 31) 229 [.ref 53, .int x, .int y] [(1, 1), (2, 2)] :=
  op_gr (M := 2) (cnt := nJ) (A := fun c σ => rn (d + 31) 229 19 [.ref 53, .int x, .int y] [.int c, .ref 53] σ) (B := fun c σ => rn (d + 31) 229 42 [.ref 53, .int x, .int y] [.int c, .ref 53] σ) (Z := fun σ => rn (d + 31) 229 50 [.ref 53, .int x, .int y] [] σ) (by decide)
    (fun σ l many cs h ok => c_needJ h ok x) (fun σ l many cs _ h ok => m_isJ h ok x) (fun σ h => e_W_joke (d + 29) 0 x y σ (by rw [k_0 h])) (fun σ h => e_M_joke (d + 30) 53 x y σ (by rw [k_53 h])) (fun c σ => e_M_joke_19 (d + 30) 53 x y c 53 σ) (fun c σ => e_M_joke_42 (d + 30) 53 x y c 53 σ) (fun σ => by rw [e_M_joke_50, nar0])
    (fun σ τ t n l many cs w K b h p k hp hk ex ey => by subst ex ey; exact joke_body h hp hk)
theorem person_body (h : B2 σ τ t n l many cs w K b) {p k : Nat} (hp : p < nP l) (hk : k ≤ 7) :
    Two σ τ (rn (d + 30) 123 (swT 15 120 0 6 #[41, 54, 67, 76, 85, 102, 111] (nI k)) [.ref 0, .int (nI p), .int (nI k)] [] σ) (rn (d + 31) 228 (swT 54 100 0 6 #[42, 42, 51, 60, 70, 80, 90] (nI k)) [.ref 53, .int (nI p), .int (nI k)] [] τ) := by
  have hw := h.1.1
  have hg := h.2.1.1
  have h7 := hw.ok.1.1
  have p7 : p < 7 := by omega
  have cp := hw.cx.2.1.2.1 p hp
  have mp := hg.mx.2.1.2.1 p hp
  obtain ⟨t1, t2, t3, t4⟩ := h.th p7
  rcases (show k = 0 ∨ k = 1 ∨ k = 2 ∨ k = 3 ∨ k = 4 ∨ k = 5 ∨ k = 6 ∨ k = 7 by omega) with rfl | rfl | rfl | rfl | rfl | rfl | rfl | rfl
  · rw [show swT 15 120 0 6 #[41, 54, 67, 76, 85, 102, 111] (nI 0) = 56 by decide, show swT 54 100 0 6 #[42, 42, 51, 60, 70, 80, 90] (nI 0) = 96 by decide, e_W_person_56, xr_0_1 hw.sh, xr_3_1 hw.sh, xr_ld0 hw.sh hw.sh.ld, xa_ld1 hw.sh hw.sh.ld p7, cp.1, e_M_person_96, xr_53_14 hg.sh, xR_66 hg.sh p7, xa_r66 hg.sh p7 (by decide), mp.1]
    exact Two.ok h.2.2.2 _
  · rw [show swT 15 120 0 6 #[41, 54, 67, 76, 85, 102, 111] (nI 1) = 69 by decide, show swT 54 100 0 6 #[42, 42, 51, 60, 70, 80, 90] (nI 1) = 96 by decide, e_W_person_69, xr_0_1 hw.sh, xr_3_1 hw.sh, xr_ld1 hw.sh hw.sh.ld, xa_ld2 hw.sh hw.sh.ld p7, cp.2.1, e_M_person_96, xr_53_14 hg.sh, xR_66 hg.sh p7, xa_r66 hg.sh p7 (by decide), mp.2]
    exact Two.ok h.2.2.2 _
  · rw [show swT 15 120 0 6 #[41, 54, 67, 76, 85, 102, 111] (nI 2) = 82 by decide, show swT 54 100 0 6 #[42, 42, 51, 60, 70, 80, 90] (nI 2) = 105 by decide, e_W_person_82, xr_0_3 hw.sh, c_griefOf hw.sh da21 p7, cI1_ok, show mI σ (21 + 1) = mI σ 22 from rfl, t2, e_M_person_105, xr_53_29 hg.sh, show (0 : Int32) + nI p = nI p from Int32.zero_add _, xa_533 hg.sh (by omega)]
    exact Two.ok h.2.2.2 _
  · rw [show swT 15 120 0 6 #[41, 54, 67, 76, 85, 102, 111] (nI 3) = 91 by decide, show swT 54 100 0 6 #[42, 42, 51, 60, 70, 80, 90] (nI 3) = 114 by decide, e_W_person_91, xr_0_3 hw.sh, c_thirstOf hw.sh da21 p7, cI1_ok, show mI σ (21 + 1) = mI σ 22 from rfl, t1, e_M_person_114, xr_53_29 hg.sh, show (7 : Int32) + nI p = nI (7 + p) from nI_add 7 p, xa_533 hg.sh (by omega)]
    exact Two.ok h.2.2.2 _
  · have e2 := hw.row.1.2
    have e3 := bt_who (f := fun p => mI σ 533 (14 + p)) p7 (nP l) h7
    rw [show swT 15 120 0 6 #[41, 54, 67, 76, 85, 102, 111] (nI 4) = 100 by decide, show swT 54 100 0 6 #[42, 42, 51, 60, 70, 80, 90] (nI 4) = 124 by decide, e_W_person_100, xr_0_3 hw.sh, c_wasTold hw.sh da21 p, cI1_ok, show mI σ (21 + 1) = mI σ 22 from rfl, e2, e3, e_M_person_124, xr_53_29 hg.sh, show (14 : Int32) + nI p = nI (14 + p) from nI_add 14 p, xa_533 hg.sh (by omega), h.r]
    rcases hw.row.2.2.1 p p7 with z | z
    · rw [if_neg (show ¬ (p < nP l ∧ ¬ (fun p => mI σ 533 (14 + p)) p ≤ 0) from fun y => y.2 (by (try dsimp only); rw [z]; decide)), if_pos rfl, e_W_person_116, z]
      exact Two.ok h.2.2.2 _
    · rw [if_pos (show (p < nP l ∧ ¬ (fun p => mI σ 533 (14 + p)) p ≤ 0) from ⟨hp, by (try dsimp only); rw [z]; decide⟩), if_neg (by decide), e_W_person_116, z]
      exact Two.ok h.2.2.2 _
  · rw [show swT 15 120 0 6 #[41, 54, 67, 76, 85, 102, 111] (nI 5) = 117 by decide, show swT 54 100 0 6 #[42, 42, 51, 60, 70, 80, 90] (nI 5) = 134 by decide, e_W_person_117, xr_0_3 hw.sh, c_timesOf hw.sh da21 p7, cI1_ok, show mI σ (21 + 1) = mI σ 22 from rfl, t3, e_M_person_134, xr_53_29 hg.sh, show (21 : Int32) + nI p = nI (21 + p) from nI_add 21 p, xa_533 hg.sh (by omega)]
    exact Two.ok h.2.2.2 _
  · rw [show swT 15 120 0 6 #[41, 54, 67, 76, 85, 102, 111] (nI 6) = 126 by decide, show swT 54 100 0 6 #[42, 42, 51, 60, 70, 80, 90] (nI 6) = 144 by decide, e_W_person_126, xr_0_3 hw.sh, c_laughedOf hw.sh da21 p7, cI1_ok, show mI σ (21 + 1) = mI σ 22 from rfl, t4, e_M_person_144, xr_53_29 hg.sh, show (28 : Int32) + nI p = nI (28 + p) from nI_add 28 p, xa_533 hg.sh (by omega)]
    exact Two.ok h.2.2.2 _
  · rw [show swT 15 120 0 6 #[41, 54, 67, 76, 85, 102, 111] (nI 7) = 135 by decide, show swT 54 100 0 6 #[42, 42, 51, 60, 70, 80, 90] (nI 7) = 154 by decide, e_W_person_135, xr_0_1 hw.sh, xr_3_1 hw.sh, xr_ld2 hw.sh hw.sh.ld, xa_ld3 hw.sh hw.sh.ld p7, cp.2.2, e_M_person_154, m_nearTo hg.sh hg.mx.2.1 hg.ok.1, cI_ok]
    exact Two.ok h.2.2.2 _
theorem op_person (x y : Int32) : OpQ (d + 30) 123 [.ref 0, .int x, .int y] (d + 31) 228 [.ref 53, .int x, .int y] [(1, 1), (2, 2)] :=
  op_gr (M := 7) (cnt := nP) (A := fun c σ => rn (d + 31) 228 19 [.ref 53, .int x, .int y] [.int c, .ref 53] σ) (B := fun c σ => rn (d + 31) 228 43 [.ref 53, .int x, .int y] [.int c, .ref 53] σ) (Z := fun σ => rn (d + 31) 228 51 [.ref 53, .int x, .int y] [] σ) (by decide)
    (fun σ l many cs h ok => c_needP h ok x) (fun σ l many cs _ h ok => m_isP h ok x) (fun σ h => e_W_person (d + 29) 0 x y σ (by rw [k_0 h])) (fun σ h => e_M_person (d + 30) 53 x y σ (by rw [k_53 h])) (fun c σ => e_M_person_19 (d + 30) 53 x y c 53 σ) (fun c σ => e_M_person_43 (d + 30) 53 x y c 53 σ) (fun σ => by rw [e_M_person_51, nar0])
    (fun σ τ t n l many cs w K b h p k hp hk ex ey => by subst ex ey; exact person_body h hp hk)
end Ask3
