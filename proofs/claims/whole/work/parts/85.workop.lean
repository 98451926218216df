/-! work -/
section WorkO
variable {σ τ σ' τ' υ φ : mm_M} {t : Nat → Nat} {n : Nat} {l : Ln} {many : Nat} {cs : Nat → Int32} {w w' K K' : Nat} {b b' : List (Nat × Nat)} {d : Nat}
theorem c_full (h : Sh σ) (e3 : mI σ 25 3 = nI w) (hw : w ≤ 16) : (w < 16 → ev d 92 [.ref 25] σ = some (.inl (.int 0), σ)) ∧ (¬ w < 16 → ev d 92 [.ref 25] σ = some (.inl (.int 1), σ)) := by
  rw [e_History_isFull d 25 σ (by rw [k_25 h]), xg_25 h, e3]
  refine ⟨fun q => ?_, fun q => ?_⟩
  · rw [if_pos (show nI w < (16 : Int32) from nI_lt (b := 16) q (by decide)), e_History_isFull_14, nar1_0]
  · rw [if_neg (show ¬ nI w < (16 : Int32) from nI_nlt (b := 16) (by omega) (by omega)), e_History_isFull_14, nar1_1]
theorem c_push (h : Sh σ) (e3 : mI σ 25 3 = nI w) (hw : w < 16) : ev (d + 1) 93 [.ref 25, .ref 21] σ = some (.inl uv, wI (wA σ 26 (fun j => if 79 * w ≤ j ∧ j < 79 * w + 79 then mI σ 22 (j - 79 * w) else mI σ 26 j)) 25 3 (nI (w + 1))) := by
  have s1 : Sh (wA σ 26 (fun j => if 79 * w ≤ j ∧ j < 79 * w + 79 then mI σ 22 (j - 79 * w) else mI σ 26 j)) := h
  have ef : (fun j => if 79 * w ≤ j ∧ j < 79 * w + 79 then mI σ 22 (0 + (j - 79 * w)) else mI σ 26 j) = (fun j => if 79 * w ≤ j ∧ j < 79 * w + 79 then mI σ 22 (j - 79 * w) else mI σ 26 j) := by
    funext j
    rw [Nat.zero_add]
  rw [e_History_push d 25 21 σ (by rw [k_25 h]), (c_full h e3 (by omega)).1 hw, cI_ok, if_pos rfl, xr_21_0 h, xr_25_0 h, xg_25 h, e3, show nI w * (79 : Int32) = nI (79 * w) by (rw [Nat.mul_comm]; exact pk_mul w 79), show (cpy σ 22 0 26 (nI (79 * w)) 79) = cpy σ 22 (nI 0) 26 (nI (79 * w)) (nI 79) from rfl, cpy_k (k_22 h) (k_26 h) (by decide) (by decide) (by omega) (by decide) (by decide), ef, xg_25 s1, rA_o (show 25 ≠ 26 by decide), e3, xs_25 s1, nI_1, e_History_push_38]
/-- what a WORK may touch of the class -/
def wkC (a : Nat) : Prop := a = 0 ∨ kS a ∨ a = 22 ∨ a = 25 ∨ a = 26 ∨ scC a
def wkM (a : Nat) : Prop := stS a ∨ wrM a ∨ (536 ≤ a ∧ a ≤ 551)
def wkF (i : Nat) : Prop := i = 0 ∨ stF i ∨ i = 3 ∨ i = 28 ∨ i = 34 ∨ i = 35 ∨ i = 38 ∨ i = 39
theorem op_work (x : Int32) : OpW (d + 31) 278 [.ref 0, .int x, .ref 560] (d + 31) 221 [.ref 53, .int x] := by
  intro σ hI
  obtain ⟨t, n, l, many, cs, w, K, b, h⟩ := hI
  have wr := fun σ => e_L_work (d + 30) 0 x 560 σ
  have hw := h.1
  obtain ⟨⟨sh, stl⟩, ⟨tc, tm, n1, n2, pl⟩, ⟨ok, cx, mx⟩, idd, ih, im, ib⟩ := hw
  have hn := tc.1
  obtain ⟨g1, g2⟩ := c_needR (d := d + 29) sh x (m := min n 150) (by omega)
  have mn : mnn (nI n) 150 = nI (min n 150) := min_nI (M := 150) (by omega) (by decide)
  have start : ev (d + 30) 118 [.ref 0, .int x] σ = _ := e_W_work (d + 29) 0 x σ (by rw [k_0 sh])
  rw [xr_0_0 sh, xg_1 sh, n1, c_min, cI1_ok, mn] at start
  have J6 := ok.1.2.1
  have P7 := ok.1.1
  have hbs : bkA σ = 49 ∨ bkA σ = 51 := sh.bk
  have lds : ldA σ = 5 ∨ ldA σ = 38 := sh.ld
  have w16 := ih.1
  by_cases q : inN x (min n 150 + 1)
  · have qq := q
    obtain ⟨m, hm, rfl⟩ := q
    have m1 : m ≤ n := by omega
    have m2 : m ≤ 150 := by omega
    -- the reference up to its first question
    have pre : ∀ τ, Sh τ → mI τ 53 1 = nI n → ev (d + 31) 221 [.ref 53, .int (nI m)] τ = (gI (wI τ 53 0 0) 12 53 34 fun r3 => if r3 = 16 then sI (wI τ 53 0 0) 12 53 1 0 fun σ6 => sI σ6 12 53 3 (-1) fun σ7 => some (Sum.inl (Value.int (nar 0 (-20))), σ7) else cV (ev (d + 30) 184 [.ref 53, .int (nI m)] (wI τ 53 0 0)) fun σ4 => sI σ4 12 53 28 0 fun σ5 => rn (d + 31) 221 72 [.ref 53, .int (nI m)] [] σ5) := by
      intro τ s0 e1
      have s1 : Sh (wI τ 53 0 0) := s0
      rw [e_M_work (d + 30) 53 (nI m) τ (by rw [k_53 s0]), xs_53 s0, xg_53 s1, w53n τ (show (1 : Nat) ≠ 0 by decide), e1, m_inN (m := n) (by omega) (nI m), cI1_ok, @i01_p _ (Classical.propDecidable _) (show inN (nI m) (n + 1) from ⟨m, by omega, rfl⟩), if_neg (show ¬ (1 : Int32) = 0 by decide), if_pos (show nI m ≤ (150 : Int32) from nI_le (b := 150) m2 (by decide)), e_M_work_30, m_bad0 s1 (th0 τ), cI_ok, if_pos (show (0 : Int32) = 0 from rfl)]
    rw [g1 qq, cI_ok, xr_0_5 sh] at start
    by_cases full : w < 16
    · rw [(c_full sh ih.2.1 w16).1 full, cI1_ok, if_pos (show (0 : Int32) = 0 from rfl), xr_0_0 sh] at start
      obtain ⟨υ1, o1, o2, o3, o4, o5, o6⟩ := t_open (d := d + 28) sh stl tc m1
      have sh1 := o2.1
      have ld1 : ldA υ1 = ldA σ := o3.ld
      have ldc : LdC υ1 (nJ l) (nP l) := by
        unfold LdC
        rw [ld1, o3.at (by unfold at1; omega)]
        exact ⟨cx.2.1.1.1, cx.2.1.1.2.1⟩
      obtain ⟨r, rf, rc, rm⟩ := work_text (t := t) (m := m) m2 J6 P7
      obtain ⟨bb, υ3, c1, c2⟩ := rc υ1 (d + 9) o2 ldc
      rw [show ev (d + 29) 16 [.ref 1, .int (nI m)] σ = _ from o1, cV1_ok, xr_0_2 sh1, xr_0_0 sh1, xr_0_1 sh1, xr_3_1 sh1, show ev (d + 29) 77 [.ref 16, .ref 1, .ref (ldA υ1)] υ1 = _ from c1, cI1_ok] at start
      have A12 : Ag kS σ υ1 := o3.mono (fun _ => at1_kS)
      have n53 : ¬ kS 53 := by unfold kS; omega
      have n54 : ¬ kS 54 := by unfold kS; omega
      -- the reference, over a memory τ
      have ref : ∀ τ, Sh τ → TxM τ t n → mI τ 53 1 = nI n → mI τ 53 34 = nI w → LdM τ (nJ l) (nP l) → ∃ υ, ev (d + 31) 221 [.ref 53, .int (nI m)] τ = rn (d + 31) 221 101 [.ref 53, .int (nI m)] [] υ ∧ mI υ 53 1 = 0 ∧ mI υ 53 0 = 0 ∧ AgM stS (fun i => i = 0 ∨ stF i ∨ i = 28) τ υ ∧ (∀ e p, r = .inl (e, p) → mI υ 53 5 = nI e ∧ mI υ 53 6 = nI p) ∧ (∀ W, r = .inr W → mI υ 53 5 = 0 ∧ mI υ 53 28 = nI W.1 ∧ ∀ i, i < W.1 → MRow υ i (W.2 i)) := by
        intro τ s0 tx0 e1 e34 ldm
        have s1 : Sh (wI τ 53 0 0) := s0
        have x1 : TxM (wI τ 53 0 0) t n := ⟨tx0.1, tx0.2.1, fun k hk => by rw [rI_o (by decide)]; exact tx0.2.2 k hk⟩
        obtain ⟨τ2, a1, a2, a3, a4, a5, a6, a7⟩ := u_start (d := d + 28) s1 x1 m1
        have b2 : AgM nS0 (fun i => i = 28) τ2 (wI τ2 53 28 0) := AgM.w53 (F := fun i => i = 28) (AgM.refl _ _ τ2) rfl _
        have A0 : AgM stS (fun i => i = 0 ∨ stF i ∨ i = 28) τ (wI τ 53 0 0) := AgM.w53 (F := fun i => i = 0 ∨ stF i ∨ i = 28) (AgM.refl _ _ τ) (Or.inl rfl) _
        have A1 : AgM stS (fun i => i = 0 ∨ stF i ∨ i = 28) τ (wI τ2 53 28 0) := (A0.trans (a3.mono (fun _ q => q.elim) (fun _ q => Or.inr (Or.inl q)))).trans (b2.mono (fun _ q => q.elim) (fun _ q => Or.inr (Or.inr q)))
        have r2 : RM (wI τ2 53 28 0) t m (sp isB t m 0) := a2.agm b2 (fun z => z) (by omega) (by omega) (by omega)
        have ldm2 : LdM (wI τ2 53 28 0) (nJ l) (nP l) := by
          unfold LdM
          rw [A1.at (by decide) (by unfold stS; omega)]
          exact ldm
        obtain ⟨υ, p1, p2⟩ := rm (wI τ2 53 28 0) (d + 18) (nI m) r2 (by rw [w53n _ (show (4 : Nat) ≠ 28 by decide)]; exact a7) ldm2 (w53e _ _ _) (by rw [w53n _ (show (8 : Nat) ≠ 28 by decide)]; exact a6)
        have t0 : mI (wI τ2 53 28 0) 53 0 = 0 := by rw [w53n _ (show (0 : Nat) ≠ 28 by decide), a3.f (by unfold stF; omega), w53e]
        have t1 : mI (wI τ2 53 28 0) 53 1 = 0 := by rw [w53n _ (show (1 : Nat) ≠ 28 by decide)]; exact a4
        have ag : AgM stS sF (wI τ2 53 28 0) υ := by
          match r, p2 with
          | .inl (e, p), p2 => exact p2.1
          | .inr W, p2 => exact p2.2.2.2
        refine ⟨υ, ?_, by rw [ag.f (by unfold sF; omega)]; exact t1, by rw [ag.f (by unfold sF; omega)]; exact t0, A1.trans (ag.mono (fun _ q => q) (fun i q => by unfold sF at q; unfold stF; omega)), ?_, ?_⟩
        · rw [pre τ s0 e1, xg_53 s1, w53n τ (show (34 : Nat) ≠ 0 by decide), e34, if_neg (show ¬ nI w = (16 : Int32) from fun z => by have := (nI_eq (b := 16) (by omega) (by decide)).mp z; omega), show ev (d + 30) 184 [.ref 53, .int (nI m)] (wI τ 53 0 0) = _ from a1, cV_ok, xs_53 a2.1]
          exact p1
        · intro e p z
          subst z
          exact ⟨p2.2.1, p2.2.2.1⟩
        · intro W z
          subst z
          exact ⟨p2.1, p2.2.1, p2.2.2.1⟩
      clear rc rm c1 pre
      cases r with
      | inl ep =>
        obtain ⟨e, p⟩ := ep
        obtain ⟨rfl, tf⟩ := c2
        have A2 : Ag kS σ υ3 := A12.trans tf.1
        have sh2 := A2.sh sh
        rw [if_pos (show (0 : Int32) = 0 from rfl), xr_0_0 sh2, xg_1 sh2, tf.2.2.1, nar0] at start
        obtain ⟨υ4, r1, r2, r3, r4, r5, -⟩ := ref (wL υ3 560 0 (Int32.toInt64 (nI e - 10))) sh2 ⟨tm.1, tm.2.1, fun k hk => by
          show mI υ3 54 k = _
          rw [A2.at n54]; exact tm.2.2 k hk⟩ (by
          show mI υ3 53 1 = _
          rw [A2.at n53]; exact n2) (by
          show mI υ3 53 34 = _
          rw [A2.at n53]; exact ih.2.2.1) (by
          show mI υ3 57 0 = _ ∧ mI υ3 57 1 = _
          rw [A2.at (by unfold kS; omega)]; exact ⟨mx.2.1.1.1, mx.2.1.1.2.1⟩)
        obtain ⟨r5, r6⟩ := r5 e p rfl
        have rf : 1 ≤ e ∧ e ≤ 3 := rf
        have sh3 : Sh υ4 := r4.sh sh2
        have sh4 : Sh (wI υ4 53 3 (nI p)) := sh3
        have rf' : ev (d + 31) 221 [.ref 53, .int (nI m)] (wL υ3 560 0 (Int32.toInt64 (nI e - 10))) = some (.inl (.int (nI e - 10)), wI υ4 53 3 (nI p)) := by
          rw [r1, e_M_work_101, xg_53 sh3, r5, if_neg (mf5 rf.1 rf.2), e_M_ends (d + 30) 53 υ4 (by rw [k_53 sh3]), xg_53 sh3, r6, xs_53 sh3, xg_53 sh4, w53n _ (show (5 : Nat) ≠ 3 by decide), r5, nar0, cI_ok, nar0]
        have A4 : AgM (fun x => kS x ∨ stS x) (fun i => i = 0 ∨ stF i ∨ i = 28 ∨ i = 3) (wL υ3 560 0 (Int32.toInt64 (nI e - 10))) (wI υ4 53 3 (nI p)) := AgM.w53 (F := fun i => i = 0 ∨ stF i ∨ i = 28 ∨ i = 3) (r4.mono (fun _ q => Or.inr q) (fun _ q => by unfold stF at q ⊢; omega)) (Or.inr (Or.inr (Or.inr rfl))) _
        have A3 : AgM (fun x => kS x ∨ stS x) (fun i => i = 0 ∨ stF i ∨ i = 28 ∨ i = 3) (wL σ 560 0 (Int32.toInt64 (nI e - 10))) (wL υ3 560 0 (Int32.toInt64 (nI e - 10))) := AgM.of (A2.wL' _ _ _) (fun x q => Or.inl q) n53
        have A := A3.trans A4
        have at_ : ∀ a, a ≠ 53 → ¬ (kS a ∨ stS a) → mI (wI υ4 53 3 (nI p)) a = mI σ a := fun a h1 h2 => A.at h1 h2
        have f_ : ∀ i, ¬ (i = 0 ∨ stF i ∨ i = 28 ∨ i = 3) → mI (wI υ4 53 3 (nI p)) 53 i = mI σ 53 i := fun i h1 => A.f h1
        have z0 : mI (wI υ4 53 3 (nI p)) 53 0 = 0 := by rw [w53n _ (show (0 : Nat) ≠ 3 by decide)]; exact r3
        have z1 : mI (wI υ4 53 3 (nI p)) 53 1 = 0 := by rw [w53n _ (show (1 : Nat) ≠ 3 by decide)]; exact r2
        have z3 : mI (wI υ4 53 3 (nI p)) 53 3 = nI p := w53e _ _ _
        have yy : mI (wI υ4 53 3 (nI p)) 1 = mI υ3 1 := by
          rw [rI_o (by decide), r4.at (by decide) (by unfold stS; omega)]; rfl
        generalize hφ : wI υ4 53 3 (nI p) = φ at *
        have su : Cst σ υ3 := (Cst.refl σ).ag (AgM.of (F := nS0) A2 (fun _ q => q) n53) (fun x q => by unfold kS at q; omega)
        refine opw_k wr start su sh2 rf' z0 A4.2.2.1 (Cst.ag (τ := wL υ3 560 0 (Int32.toInt64 (nI e - 10))) su A4 (fun x q => by unfold kS stS at q; omega)) ⟨t, 0, l, many, cs, w, K, b, Iw_mk h.1 (A.sh sh) A.ldA' A.lwA' (fun y hy => at_ y (fun z => by rw [z] at hy; unfold kpX fxC at hy; omega) (by unfold kpX fxC at hy; unfold kS stS; omega)) (f_ 19 (by unfold stF; omega)) (by rw [yy, tf.2.1]; exact o4) z1 (by rw [z3, yy, tf.2.2.2]) ?_ ?_ ?_ ?_, ?_⟩
        · unfold ID
          rw [at_ 22 (by decide) (by unfold kS stS; omega), at_ 533 (by decide) (by unfold kS stS; omega)]
          exact idd
        · exact IH_o ih (by rw [at_ 25 (by decide) (by unfold kS stS; omega)]) (at_ 26 (by decide) (by unfold kS stS; omega)) (f_ 34 (by unfold stF; omega)) (fun i hi => at_ _ (by omega) (by unfold kS stS; omega))
        · exact IM_o im (by rw [at_ 25 (by decide) (by unfold kS stS; omega)]) (at_ 27 (by decide) (by unfold kS stS; omega)) (at_ 28 (by decide) (by unfold kS stS; omega)) (f_ 36 (by unfold stF; omega)) (fun i hi => at_ _ (by omega) (by unfold kS stS; omega))
        · exact IB_o ib A.bkA' (by rw [at_ _ (by omega) (by unfold kS stS; omega)]) (at_ _ (by omega) (by unfold kS stS; omega)) (f_ 33 (by unfold stF; omega)) (fun i hi => at_ _ (by omega) (by unfold kS stS; omega))
        · unfold IC
          rw [at_ 0 (by decide) (by unfold kS stS; omega), at_ 55 (by decide) (by unfold kS stS; omega), f_ 35 (by unfold stF; omega)]
          exact h.2
      | inr W =>
        obtain ⟨rfl, e16, crow, tg⟩ := c2
        obtain ⟨W38, wrok, kk, wblk⟩ : W.1 ≤ 38 ∧ (∀ i, i < W.1 → RowOK (nJ l) (nP l) (W.2 i)) ∧ ∃ k, blk W k 0 W.1 0 := rf
        have wok : WkOK l W := ⟨W38, wrok⟩
        have A2 : Ag kS σ υ3 := A12.trans tg.1
        have sh2 := A2.sh sh
        have e25 : mI υ3 25 3 = nI w := by rw [A2.at (by unfold kS; omega)]; exact ih.2.1
        have e22 : mI υ3 22 = mI σ 22 := A2.at (by unfold kS; omega)
        have e26 : mI υ3 26 = mI σ 26 := A2.at (by unfold kS; omega)
        have pu := c_push (d := d + 28) sh2 e25 full
        generalize hf26 : (fun j => if 79 * w ≤ j ∧ j < 79 * w + 79 then mI υ3 22 (j - 79 * w) else mI υ3 26 j) = f26 at pu
        generalize hυ5 : wI (wA υ3 26 f26) 25 3 (nI (w + 1)) = υ5 at pu
        have A5 : Ag (fun a => a = 25 ∨ a = 26) υ3 υ5 := by
          rw [← hυ5]
          exact Ag.wI (S := fun a => a = 25 ∨ a = 26) (Ag.wA (S := fun a => a = 25 ∨ a = 26) (Ag.refl _ υ3) (Or.inr rfl) _) (Or.inl rfl) _ _
        have v26 : mI υ5 26 = f26 := by rw [← hυ5, rI_o (by decide), rA_a]
        have v25 : ∀ i, mI υ5 25 i = if i = 3 then nI (w + 1) else mI σ 25 i := by
          intro i
          rw [← hυ5, rI_w]
          by_cases z : i = 3
          · rw [if_pos ⟨rfl, z⟩, if_pos z]
          · rw [if_neg (fun y => z y.2), if_neg z, rA_o (by decide), A2.at (by unfold kS; omega)]
        have sh5 := A5.sh sh2
        rw [if_neg (show ¬ (1 : Int32) = 0 by decide), xr_0_5 sh2, xr_0_3 sh2, show ev (d + 29) 93 [.ref 25, .ref 21] υ3 = _ from pu, cV1_ok, xr_0_2 sh5, xr_0_1 sh5, xr_0_3 sh5] at start
        -- the run
        have s51 : Sh (wI υ5 16 5 0) := sh5
        have s52 : Sh (wI (wI υ5 16 5 0) 16 6 0) := sh5
        have s53 : Sh (wI (wI (wI υ5 16 5 0) 16 6 0) 16 7 0) := sh5
        have z4 : mI (wI (wI (wI υ5 16 5 0) 16 6 0) 16 7 0) 16 4 = nI W.1 := by
          rw [rI_w, if_neg (by omega), rI_w, if_neg (by omega), rI_w, if_neg (by omega), A5.at (by omega)]; exact e16
        have runE : ev (d + 29) 83 [.ref 16, .ref 3, .ref 21] υ5 = (cV (rn (d + 28) 84 6 [.ref 16, .ref 3, .ref 21, .int (nI 0), .int (nI W.1), .int (nI 0), .int (nI 0), .int (nI 0), uv] [] (wI (wI (wI υ5 16 5 0) 16 6 0) 16 7 0)) fun σ5 => some (Sum.inl uv, σ5)) := by
          rw [e_Steps_run (d + 28) 16 3 21 υ5 (by rw [k_16 sh5]), xs_16 sh5, xs_16 s51, xs_16 s52, xg_16 s53, z4, e_Steps_runRows (d + 27) 16 3 21 0 (nI W.1) 0 _ (by rw [k_16 s53])]
          rfl
        have A6 : Ag (fun a => a = 16) υ5 (wI (wI (wI υ5 16 5 0) 16 6 0) 16 7 0) := Ag.wI (S := fun a => a = 16) (Ag.wI (S := fun a => a = 16) (Ag.wI (S := fun a => a = 16) (Ag.refl _ υ5) rfl _ _) rfl _ _) rfl _ _
        have y5 : mI (wI (wI (wI υ5 16 5 0) 16 6 0) 16 7 0) 16 5 = nI 0 := by rw [rI_w, if_neg (by omega), rI_w, if_neg (by omega), rI_w, if_pos ⟨rfl, rfl⟩]; rfl
        have y6 : mI (wI (wI (wI υ5 16 5 0) 16 6 0) 16 7 0) 16 6 = 0 := by rw [rI_w, if_neg (by omega), rI_w, if_pos ⟨rfl, rfl⟩]
        have y7 : mI (wI (wI (wI υ5 16 5 0) 16 6 0) 16 7 0) 16 7 = 0 := by rw [rI_w, if_pos ⟨rfl, rfl⟩]
        generalize hυ6 : wI (wI (wI υ5 16 5 0) 16 6 0) 16 7 0 = υ6 at *
        have A26 : Ag (fun a => kS a ∨ a = 25 ∨ a = 26) σ υ6 := ((A2.mono (fun _ q => Or.inl q)).trans (A5.mono (fun _ q => Or.inr q))).trans (A6.mono (fun a q => Or.inl (by unfold kS; omega)))
        have A36 : Ag (fun a => a = 25 ∨ a = 26 ∨ a = 16) υ3 υ6 := (A5.mono (fun a q => by omega)).trans (A6.mono (fun a q => by omega))
        obtain ⟨row, rz⟩ := idd
        have csw : CSw l many cs W υ6 (mI σ 533, 0, 0, 0) := by
          refine ⟨cx.ag A26 (fun x hx => by unfold fxC at hx; unfold kS; omega), ?_, ?_, row.2, rz, Nat.zero_le _, y5, y6, y7⟩
          · intro i hi
            obtain ⟨a1, a2, a3, a4⟩ := crow i hi
            rw [A36.at (show ¬ (17 = 25 ∨ 17 = 26 ∨ 17 = 16) by omega), A36.at (show ¬ (18 = 25 ∨ 18 = 26 ∨ 18 = 16) by omega), A36.at (show ¬ (19 = 25 ∨ 19 = 26 ∨ 19 = 16) by omega), A36.at (show ¬ (20 = 25 ∨ 20 = 26 ∨ 20 = 16) by omega)]
            exact ⟨a1, a2, a3, a4⟩
          · rw [A26.at (show ¬ (kS 22 ∨ 22 = 25 ∨ 22 = 26) by unfold kS; omega)]
            exact row.1
        obtain ⟨τ7, c7, csw7, A7⟩ := c_rows (d := d + 17) ok wok kk 6 0 W.1 0 0 0 uv υ6 (mI σ 533, 0, 0, 0) rfl wblk (Nat.le_refl _) (Nat.le_refl _) csw
        have sh7 := A7.sh (A26.sh sh)
        rw [runE, show rn (d + 28) 84 6 [.ref 16, .ref 3, .ref 21, .int (nI 0), .int (nI W.1), .int (nI 0), .int (nI 0), .int (nI 0), uv] [] υ6 = _ from c7, cV_ok, cV1_ok] at start
        generalize hS : goF l many cs W kk 0 W.1 (mI σ 533, 0, 0, 0) = S at csw7
        obtain ⟨-, -, t3, t4, t5, -, -, t8, t9⟩ := csw7
        have sh8 : Sh (wI τ7 0 13 S.2.2.2) := sh7
        rw [xr_0_2 sh7, xg_16 sh7, t9, xs_0 sh7, xr_0_2 sh8, xg_16 sh8, rI_o (show 16 ≠ 0 by decide), t8, nar0] at start
        have A8 : Ag wkC σ (wI τ7 0 13 S.2.2.2) := Ag.wI (S := wkC) ((A26.mono (fun a q => by unfold kS at q; unfold wkC kS; omega)).trans (A7.mono (fun a q => by unfold wrC scC at q; unfold wkC kS scC; omega))) (Or.inl rfl) _ _
        have y22 : mI (wI τ7 0 13 S.2.2.2) 22 = mI τ7 22 := rI_o (by decide)
        have y25 : mI (wI τ7 0 13 S.2.2.2) 25 = mI υ5 25 := by rw [rI_o (by decide), A7.at (by unfold wrC scC; omega), A6.at (by omega)]
        have y26 : mI (wI τ7 0 13 S.2.2.2) 26 = f26 := by rw [rI_o (by decide), A7.at (by unfold wrC scC; omega), A6.at (by omega), v26]
        have y1 : mI (wI τ7 0 13 S.2.2.2) 1 = mI υ3 1 := by rw [rI_o (by decide), A7.at (by unfold wrC scC; omega), A36.at (by omega)]
        have y0 : ∀ i, mI (wI τ7 0 13 S.2.2.2) 0 i = if i = 13 then S.2.2.2 else mI σ 0 i := by
          intro i
          rw [rI_w]
          by_cases z : i = 13
          · rw [if_pos ⟨rfl, z⟩, if_pos z]
          · rw [if_neg (fun y => z y.2), if_neg z, A7.at (by unfold wrC scC; omega), A26.at (by unfold kS; omega)]
        generalize hυ8 : wI τ7 0 13 S.2.2.2 = υ8 at *
        have N53 : ¬ wkC 53 := by unfold wkC kS scC; omega
        have N54 : ¬ wkC 54 := by unfold wkC kS scC; omega
        -- the reference
        obtain ⟨υ4, r1, r2, r3, r4, -, r5⟩ := ref (wL υ8 560 0 (Int32.toInt64 S.2.2.1)) sh8 ⟨tm.1, tm.2.1, fun k hk => by
          show mI υ8 54 k = _
          rw [A8.at N54]; exact tm.2.2 k hk⟩ (by
          show mI υ8 53 1 = _
          rw [A8.at N53]; exact n2) (by
          show mI υ8 53 34 = _
          rw [A8.at N53]; exact ih.2.2.1) (by
          show mI υ8 57 0 = _ ∧ mI υ8 57 1 = _
          rw [A8.at (by unfold wkC kS scC; omega)]; exact ⟨mx.2.1.1.1, mx.2.1.1.2.1⟩)
        obtain ⟨r5, r6, r7⟩ := r5 W rfl
        have q34 : mI υ4 53 34 = nI w := by
          rw [r4.f (by unfold stF; omega)]
          show mI υ8 53 34 = _
          rw [A8.at N53]; exact ih.2.2.1
        have q533 : mI υ4 533 = mI σ 533 := by
          rw [r4.at (by decide) (by unfold stS; omega)]
          show mI υ8 533 = _
          rw [A8.at (by unfold wkC kS scC; omega)]
        have sh4 : Sh υ4 := r4.sh sh8
        have sA : Sh (wI υ4 53 3 (-1)) := sh4
        generalize hg : (fun j => if j < 79 then mI (wI υ4 53 3 (-1)) 533 j else mI (wI υ4 53 3 (-1)) (536 + w) j) = g
        have sB : Sh (wA (wI υ4 53 3 (-1)) (536 + w) g) := sh4
        have sC : Sh (wI (wA (wI υ4 53 3 (-1)) (536 + w) g) 53 34 (nI (w + 1))) := sh4
        have sD : Sh (wI (wI (wA (wI υ4 53 3 (-1)) (536 + w) g) 53 34 (nI (w + 1))) 53 38 0) := sh4
        have sE : Sh (wI (wI (wI (wA (wI υ4 53 3 (-1)) (536 + w) g) 53 34 (nI (w + 1))) 53 38 0) 53 39 0) := sh4
        have sF' : Sh (wI (wI (wI (wI (wA (wI υ4 53 3 (-1)) (536 + w) g) 53 34 (nI (w + 1))) 53 38 0) 53 39 0) 53 35 0) := sh4
        have p28 : mI (wI (wI (wI (wI (wA (wI υ4 53 3 (-1)) (536 + w) g) 53 34 (nI (w + 1))) 53 38 0) 53 39 0) 53 35 0) 53 28 = nI W.1 := by
          rw [w53n _ (show (28 : Nat) ≠ 35 by decide), w53n _ (show (28 : Nat) ≠ 39 by decide), w53n _ (show (28 : Nat) ≠ 38 by decide), w53n _ (show (28 : Nat) ≠ 34 by decide), rA_o (show 53 ≠ 536 + w by omega), w53n _ (show (28 : Nat) ≠ 3 by decide)]; exact r6
        have rfA : ev (d + 31) 221 [.ref 53, .int (nI m)] (wL υ8 560 0 (Int32.toInt64 S.2.2.1)) = (cV (rn (d + 30) 220 2 [.ref 53, .int (nI 0), .int (nI W.1), .int (nI 0), uv] [] (wI (wI (wI (wI (wA (wI υ4 53 3 (-1)) (536 + w) g) 53 34 (nI (w + 1))) 53 38 0) 53 39 0) 53 35 0)) fun σ14 => gI σ14 12 53 39 fun r15 => some (Sum.inl (Value.int (nar 0 r15)), σ14)) := by
          rw [r1, e_M_work_101, xg_53 sh4, r5, if_pos (show (0 : Int32) = 0 from rfl), xs_53 sh4, xr_53_29 sA, xr_53_31 sA, xg_53 sA, w53n _ (show (34 : Nat) ≠ 3 by decide), q34, xR_535 sA (by omega), m_copies (k_533 sA) (k_r535 sA (by omega)) (by omega), cV1_ok, hg, xg_53 sB, rA_o (show 53 ≠ 536 + w by omega), w53n _ (show (34 : Nat) ≠ 3 by decide), q34, nI_1, xs_53 sB, xs_53 sC, xs_53 sD, xs_53 sE, xg_53 sF', p28, e_M_goes (d + 29) 53 0 (nI W.1) _ (by rw [k_53 sF'])]
          rfl
        have A9 : AgM (fun a => a = 536 + w) wkF υ4 (wI (wI (wI (wI (wA (wI υ4 53 3 (-1)) (536 + w) g) 53 34 (nI (w + 1))) 53 38 0) 53 39 0) 53 35 0) :=
          AgM.w53 (AgM.w53 (AgM.w53 (AgM.w53 (AgM.wA (S := fun a => a = 536 + w) (AgM.w53 (AgM.refl _ _ υ4) (show wkF 3 by unfold wkF; omega) _) rfl (by omega) g) (show wkF 34 by unfold wkF; omega) _) (show wkF 38 by unfold wkF; omega) _) (show wkF 39 by unfold wkF; omega) _) (show wkF 35 by unfold wkF; omega) _
        have p38 : mI (wI (wI (wI (wI (wA (wI υ4 53 3 (-1)) (536 + w) g) 53 34 (nI (w + 1))) 53 38 0) 53 39 0) 53 35 0) 53 38 = nI 0 := by
          rw [w53n _ (show (38 : Nat) ≠ 35 by decide), w53n _ (show (38 : Nat) ≠ 39 by decide), w53e]; rfl
        have p39 : mI (wI (wI (wI (wI (wA (wI υ4 53 3 (-1)) (536 + w) g) 53 34 (nI (w + 1))) 53 38 0) 53 39 0) 53 35 0) 53 39 = 0 := by
          rw [w53n _ (show (39 : Nat) ≠ 35 by decide), w53e]
        have p35 : mI (wI (wI (wI (wI (wA (wI υ4 53 3 (-1)) (536 + w) g) 53 34 (nI (w + 1))) 53 38 0) 53 39 0) 53 35 0) 53 35 = 0 := w53e _ _ _
        have p34 : mI (wI (wI (wI (wI (wA (wI υ4 53 3 (-1)) (536 + w) g) 53 34 (nI (w + 1))) 53 38 0) 53 39 0) 53 35 0) 53 34 = nI (w + 1) := by
          rw [w53n _ (show (34 : Nat) ≠ 35 by decide), w53n _ (show (34 : Nat) ≠ 39 by decide), w53n _ (show (34 : Nat) ≠ 38 by decide), w53e]
        have p3 : mI (wI (wI (wI (wI (wA (wI υ4 53 3 (-1)) (536 + w) g) 53 34 (nI (w + 1))) 53 38 0) 53 39 0) 53 35 0) 53 3 = -1 := by
          rw [w53n _ (show (3 : Nat) ≠ 35 by decide), w53n _ (show (3 : Nat) ≠ 39 by decide), w53n _ (show (3 : Nat) ≠ 38 by decide), w53n _ (show (3 : Nat) ≠ 34 by decide), rA_o (show 53 ≠ 536 + w by omega), w53e]
        have pw : mI (wI (wI (wI (wI (wA (wI υ4 53 3 (-1)) (536 + w) g) 53 34 (nI (w + 1))) 53 38 0) 53 39 0) 53 35 0) (536 + w) = g := by
          rw [rI_o (by omega), rI_o (by omega), rI_o (by omega), rI_o (by omega), rA_a]
        have p0 : mI (wI (wI (wI (wI (wA (wI υ4 53 3 (-1)) (536 + w) g) 53 34 (nI (w + 1))) 53 38 0) 53 39 0) 53 35 0) 53 0 = 0 := by
          rw [w53n _ (show (0 : Nat) ≠ 35 by decide), w53n _ (show (0 : Nat) ≠ 39 by decide), w53n _ (show (0 : Nat) ≠ 38 by decide), w53n _ (show (0 : Nat) ≠ 34 by decide), rA_o (show 53 ≠ 536 + w by omega), w53n _ (show (0 : Nat) ≠ 3 by decide)]; exact r3
        have p1' : mI (wI (wI (wI (wI (wA (wI υ4 53 3 (-1)) (536 + w) g) 53 34 (nI (w + 1))) 53 38 0) 53 39 0) 53 35 0) 53 1 = 0 := by
          rw [w53n _ (show (1 : Nat) ≠ 35 by decide), w53n _ (show (1 : Nat) ≠ 39 by decide), w53n _ (show (1 : Nat) ≠ 38 by decide), w53n _ (show (1 : Nat) ≠ 34 by decide), rA_o (show 53 ≠ 536 + w by omega), w53n _ (show (1 : Nat) ≠ 3 by decide)]; exact r2
        generalize hω : wI (wI (wI (wI (wA (wI υ4 53 3 (-1)) (536 + w) g) 53 34 (nI (w + 1))) 53 38 0) 53 39 0) 53 35 0 = ω at *
        have A49 : AgM wkM wkF (wL υ8 560 0 (Int32.toInt64 S.2.2.1)) ω := (r4.mono (fun a q => Or.inl q) (fun i q => by unfold stF at q; unfold wkF stF; omega)).trans (A9.mono (fun a q => Or.inr (Or.inr ⟨by omega, by omega⟩)) (fun _ q => q))
        have mx8 : MX (wL υ8 560 0 (Int32.toInt64 S.2.2.1)) l many cs := by
          have : MX υ8 l many cs := mx.agm ok (AgM.of (T := wkC) (F := nS0) A8 (fun _ q => q) N53) (fun x hx _ => by unfold fxM at hx; unfold wkC kS scC; omega) (fun q => q)
          exact this
        have msw : MSw l many cs W ω (mI σ 533, 0, 0, 0) := by
          refine ⟨mx8.agm ok A49 (fun x hx h53 => by unfold fxM at hx; unfold wkM stS wrM scM; omega) (by unfold wkF stF; omega), fun i hi => ?_, ?_, Nat.zero_le _, p38, p39, p35⟩
          · have := r7 i hi
            have e : mI ω (453 + i) = mI υ4 (453 + i) := A9.at (by omega) (by omega)
            rw [e]
            exact this
          · rw [A9.at (by decide) (by omega), q533]
        obtain ⟨φ, m7, ⟨-, -, k3, -, -, k8, k9⟩, A10⟩ := m_rows (d := d + 16) ok wok kk 6 0 W.1 0 0 uv ω (mI σ 533, 0, 0, 0) rfl wblk (Nat.le_refl _) msw
        rw [hS] at k3 k8 k9
        have shf : Sh φ := A10.sh (A49.sh sh8)
        have rf' : ev (d + 31) 221 [.ref 53, .int (nI m)] (wL υ8 560 0 (Int32.toInt64 S.2.2.1)) = some (.inl (.int S.2.2.1), φ) := by
          rw [rfA, show rn (d + 30) 220 2 [.ref 53, .int (nI 0), .int (nI W.1), .int (nI 0), uv] [] ω = _ from m7, cV_ok, xg_53 shf, k8, nar0]
        have A11 : AgM wkM wkF (wL υ8 560 0 (Int32.toInt64 S.2.2.1)) φ := A49.trans (A10.mono (fun a q => Or.inr (Or.inl q)) (fun i q => by unfold wrF at q; unfold wkF; omega))
        have at2 : ∀ a, a ≠ 53 → ¬ wkM a → mI φ a = mI υ8 a := fun a h1 h2 => A11.at h1 h2
        have at_ : ∀ a, a ≠ 53 → ¬ wkM a → ¬ wkC a → mI φ a = mI σ a := fun a h1 h2 h3 => (at2 a h1 h2).trans (A8.at h3)
        have f_ : ∀ i, ¬ wkF i → mI φ 53 i = mI σ 53 i := fun i h1 => (A11.f h1).trans (show mI υ8 53 i = mI σ 53 i by rw [A8.at N53])
        have f9 : ∀ i, ¬ wrF i → mI φ 53 i = mI ω 53 i := fun i h1 => A10.f h1
        have z0 : mI φ 53 0 = 0 := by rw [f9 0 (by unfold wrF; omega)]; exact p0
        have z1 : mI φ 53 1 = 0 := by rw [f9 1 (by unfold wrF; omega)]; exact p1'
        have z3 : mI φ 53 3 = -1 := by rw [f9 3 (by unfold wrF; omega)]; exact p3
        have z34 : mI φ 53 34 = nI (w + 1) := by rw [f9 34 (by unfold wrF; omega)]; exact p34
        have yy : mI φ 1 = mI υ3 1 := by rw [at2 1 (by decide) (by unfold wkM stS wrM scM; omega), y1]
        have ldf : ldA φ = ldA σ := (A11.ldA').trans (show ldA υ8 = ldA σ from A8.ld)
        have lwf : lwA φ = lwA σ := (A11.lwA').trans (show lwA υ8 = lwA σ from A8.lw)
        have bkf : bkA φ = bkA σ := (A11.bkA').trans (show bkA υ8 = bkA σ from A8.bk)
        have su : Cst σ υ8 := (Cst.refl σ).ag (AgM.of (F := nS0) A8 (fun _ q => q) N53) (fun x q => by unfold wkC kS scC at q; omega)
        have hfj : ∀ j, f26 j = if 79 * w ≤ j ∧ j < 79 * w + 79 then mI σ 22 (j - 79 * w) else mI σ 26 j := fun j => by
          rw [← hf26]
          show (if 79 * w ≤ j ∧ j < 79 * w + 79 then mI υ3 22 (j - 79 * w) else mI υ3 26 j) = _
          rw [e22, e26]
        have hgj : ∀ j, j < 79 → g j = mI σ 533 j := fun j hj => by
          rw [← hg]
          show (if j < 79 then mI (wI υ4 53 3 (-1)) 533 j else mI (wI υ4 53 3 (-1)) (536 + w) j) = _
          rw [if_pos hj, rI_o (by decide), q533]
        refine opw_k wr start su sh8 rf' z0 A11.2.2.1 (Cst.ag (τ := wL υ8 560 0 (Int32.toInt64 S.2.2.1)) su A11 (fun x q => by unfold wkM stS wrM scM at q; omega)) ⟨t, 0, l, many, cs, w + 1, K, b, Iw_mk h.1 shf ldf lwf (fun y hy => at_ y (fun z => by rw [z] at hy; unfold kpX fxC at hy; omega) (by unfold kpX fxC at hy; unfold wkM stS wrM scM; omega) (by unfold kpX fxC at hy; unfold wkC kS scC; omega)) (f_ 19 (by unfold wkF stF; omega)) (by rw [yy, tg.2.1]; exact o4) z1 (by rw [z3, yy, tg.2.2.2]; exact o6.symm) ?_ ?_ ?_ ?_, ?_⟩
        · unfold ID
          rw [at2 22 (by decide) (by unfold wkM stS wrM scM; omega), y22, k3]
          exact ⟨⟨t3, t4⟩, t5⟩
        · refine ⟨by omega, by rw [at2 25 (by decide) (by unfold wkM stS wrM scM; omega), y25, v25, if_pos rfl], z34, fun i hi => ?_⟩
          have e26' : mI φ 26 = f26 := by rw [at2 26 (by decide) (by unfold wkM stS wrM scM; omega), y26]
          rw [e26']
          by_cases z : i = w
          · subst z
            have e536 : mI φ (536 + i) = g := by rw [A10.at (by omega) (by unfold wrM scM; omega)]; exact pw
            rw [e536]
            exact row.as P7 (fun k hk => by
              show f26 (79 * i + k) = _
              rw [hfj, if_pos ⟨by omega, by omega⟩]
              exact congrArg (mI σ 22) (by omega)) (fun k hk => hgj k hk)
          · have e536 : mI φ (536 + i) = mI σ (536 + i) := by
              rw [A10.at (by omega) (by unfold wrM scM; omega), A9.at (by omega) (by omega), r4.at (by omega) (by unfold stS; omega)]
              show mI υ8 (536 + i) = _
              rw [A8.at (by unfold wkC kS scC; omega)]
            rw [e536]
            exact (ih.2.2.2 i (by omega)).as P7 (fun k hk => by
              show f26 (79 * i + k) = mI σ 26 (79 * i + k)
              rw [hfj, if_neg (by omega)]) (fun k hk => rfl)
        · exact IM_o im (by rw [at2 25 (by decide) (by unfold wkM stS wrM scM; omega), y25, v25, if_neg (by decide)]) (at_ 27 (by decide) (by unfold wkM stS wrM scM; omega) (by unfold wkC kS scC; omega)) (at_ 28 (by decide) (by unfold wkM stS wrM scM; omega) (by unfold wkC kS scC; omega)) (f_ 36 (by unfold wkF stF; omega)) (fun i hi => at_ _ (by omega) (by unfold wkM stS wrM scM; omega) (by unfold wkC kS scC; omega))
        · exact IB_o ib bkf (by rw [at_ _ (by omega) (by unfold wkM stS wrM scM; omega) (by unfold wkC kS scC; omega)]) (at_ _ (by omega) (by unfold wkM stS wrM scM; omega) (by unfold wkC kS scC; omega)) (f_ 33 (by unfold wkF stF; omega)) (fun i hi => at_ _ (by omega) (by unfold wkM stS wrM scM; omega) (by unfold wkC kS scC; omega))
        · unfold IC
          rw [at2 0 (by decide) (by unfold wkM stS wrM scM; omega), at_ 55 (by decide) (by unfold wkM stS wrM scM; omega) (by unfold wkC kS scC; omega), y0, y0, y0, if_pos rfl, if_neg (by decide), if_neg (by decide), k9]
          exact ⟨rfl, h.2.2⟩
    · -- 16 WORKS already
      have ed := c_tdrop (d := d + 29) sh (mI σ 1)
      rw [wA_id] at ed
      generalize hf : up (up (up (mI σ 1) 1 0) 8 0) 9 (-1) = f at ed
      have f1' : f 1 = 0 := by rw [← hf, up_n (by decide), up_n (by decide), up_e]
      have f9' : f 9 = -1 := by rw [← hf, up_e]
      rw [(c_full sh ih.2.1 w16).2 full, cI1_ok, if_neg (show ¬ (1 : Int32) = 0 by decide), xr_0_0 sh, ed, cV1_ok, nar0] at start
      have w16' : w = 16 := by omega
      have A2 : Ag at1 σ (wA σ 1 f) := (Ag.refl at1 σ).wA rfl f
      have n53 : ¬ at1 53 := by unfold at1; omega
      have sh2 : Sh (wA σ 1 f) := sh
      have s0 : Sh (wL (wA σ 1 f) 560 0 (Int32.toInt64 (-20))) := sh
      have s1 : Sh (wI (wL (wA σ 1 f) 560 0 (Int32.toInt64 (-20))) 53 0 0) := sh
      have s2 : Sh (wI (wI (wL (wA σ 1 f) 560 0 (Int32.toInt64 (-20))) 53 0 0) 53 1 0) := sh
      have e53 : mI (wL (wA σ 1 f) 560 0 (Int32.toInt64 (-20))) 53 = mI σ 53 := A2.at n53
      have rf' : ev (d + 31) 221 [.ref 53, .int (nI m)] (wL (wA σ 1 f) 560 0 (Int32.toInt64 (-20))) = some (.inl (.int (-20)), wI (wI (wI (wL (wA σ 1 f) 560 0 (Int32.toInt64 (-20))) 53 0 0) 53 1 0) 53 3 (-1)) := by
        rw [pre _ s0 (by rw [e53]; exact n2), xg_53 s1, w53n _ (show (34 : Nat) ≠ 0 by decide), e53, ih.2.2.1, if_pos (show nI w = (16 : Int32) by rw [w16']; rfl), xs_53 s1, xs_53 s2, nar0]
      have A4 : AgM at1 (fun i => i = 0 ∨ i = 1 ∨ i = 3) (wL (wA σ 1 f) 560 0 (Int32.toInt64 (-20))) (wI (wI (wI (wL (wA σ 1 f) 560 0 (Int32.toInt64 (-20))) 53 0 0) 53 1 0) 53 3 (-1)) := AgM.w53 (F := fun i => i = 0 ∨ i = 1 ∨ i = 3) (AgM.w53 (F := fun i => i = 0 ∨ i = 1 ∨ i = 3) (AgM.w53 (F := fun i => i = 0 ∨ i = 1 ∨ i = 3) (AgM.refl _ _ _) (Or.inl rfl) _) (Or.inr (Or.inl rfl)) _) (Or.inr (Or.inr rfl)) _
      have A3 : AgM at1 (fun i => i = 0 ∨ i = 1 ∨ i = 3) (wL σ 560 0 (Int32.toInt64 (-20))) (wL (wA σ 1 f) 560 0 (Int32.toInt64 (-20))) := AgM.of (A2.wL' _ _ _) (fun x q => q) n53
      have A := A3.trans A4
      have z0 : mI (wI (wI (wI (wL (wA σ 1 f) 560 0 (Int32.toInt64 (-20))) 53 0 0) 53 1 0) 53 3 (-1)) 53 0 = 0 := by rw [w53n _ (show (0 : Nat) ≠ 3 by decide), w53n _ (show (0 : Nat) ≠ 1 by decide), w53e]
      have z1 : mI (wI (wI (wI (wL (wA σ 1 f) 560 0 (Int32.toInt64 (-20))) 53 0 0) 53 1 0) 53 3 (-1)) 53 1 = 0 := by rw [w53n _ (show (1 : Nat) ≠ 3 by decide), w53e]
      have z3 : mI (wI (wI (wI (wL (wA σ 1 f) 560 0 (Int32.toInt64 (-20))) 53 0 0) 53 1 0) 53 3 (-1)) 53 3 = -1 := w53e _ _ _
      have yy : mI (wI (wI (wI (wL (wA σ 1 f) 560 0 (Int32.toInt64 (-20))) 53 0 0) 53 1 0) 53 3 (-1)) 1 = f := by
        rw [rI_o (by decide), rI_o (by decide), rI_o (by decide)]
        show mI (wA σ 1 f) 1 = f
        exact rA_a
      generalize hφ : wI (wI (wI (wL (wA σ 1 f) 560 0 (Int32.toInt64 (-20))) 53 0 0) 53 1 0) 53 3 (-1) = φ at *
      have at_ : ∀ a, a ≠ 53 → ¬ at1 a → mI φ a = mI σ a := fun a h1 h2 => A.at h1 h2
      have f_ : ∀ i, ¬ (i = 0 ∨ i = 1 ∨ i = 3) → mI φ 53 i = mI σ 53 i := fun i h1 => A.f h1
      have su : Cst σ (wA σ 1 f) := (Cst.refl σ).ag (AgM.of (F := nS0) A2 (fun _ q => q) n53) (fun x q => by unfold at1 at q; omega)
      refine opw_k wr start su sh2 rf' z0 A4.2.2.1 (Cst.ag (τ := wL (wA σ 1 f) 560 0 (Int32.toInt64 (-20))) su A4 (fun x q => by unfold at1 at q; omega)) ⟨t, 0, l, many, cs, w, K, b, Iw_mk h.1 (A.sh sh) A.ldA' A.lwA' (fun y hy => at_ y (fun z => by rw [z] at hy; unfold kpX fxC at hy; omega) (by unfold kpX fxC at hy; unfold at1; omega)) (f_ 19 (by omega)) (by rw [yy]; exact f1') z1 (by rw [z3, yy, f9']) ?_ ?_ ?_ ?_, ?_⟩
      · unfold ID
        rw [at_ 22 (by decide) (by unfold at1; omega), at_ 533 (by decide) (by unfold at1; omega)]
        exact idd
      · exact IH_o ih (by rw [at_ 25 (by decide) (by unfold at1; omega)]) (at_ 26 (by decide) (by unfold at1; omega)) (f_ 34 (by omega)) (fun i hi => at_ _ (by omega) (by unfold at1; omega))
      · exact IM_o im (by rw [at_ 25 (by decide) (by unfold at1; omega)]) (at_ 27 (by decide) (by unfold at1; omega)) (at_ 28 (by decide) (by unfold at1; omega)) (f_ 36 (by omega)) (fun i hi => at_ _ (by omega) (by unfold at1; omega))
      · exact IB_o ib A.bkA' (by rw [at_ _ (by omega) (by unfold at1; omega)]) (at_ _ (by omega) (by unfold at1; omega)) (f_ 33 (by omega)) (fun i hi => at_ _ (by omega) (by unfold at1; omega))
      · unfold IC
        rw [at_ 0 (by decide) (by unfold at1; omega), at_ 55 (by decide) (by unfold at1; omega), f_ 35 (by omega)]
        exact h.2
  · rw [g2 q] at start
    refine opw_e wr h (e := 2) (c := 1) (Or.inr rfl) rfl (by decide) (Ag.refl _ _) (σ' := σ) start (fun τ g' => ?_)
    have g3 := g'.th
    have e1 : mI (wI τ 53 0 0) 53 1 = nI n := by rw [w53n _ (show (1 : Nat) ≠ 0 by decide)]; exact g'.2.1.2.2.2.1
    have bad : rn (d + 31) 221 30 [.ref 53, .int x] [.int 1, .ref 53] (wI τ 53 0 0) = some (.inl (.int 0), exM τ 1 2) := by
      rw [e_M_work_30, m_bx1 g'.sh (by decide), cI_ok, if_neg (show ¬ (1 : Int32) = 0 by decide), nar0]
    rw [e_M_work (d + 30) 53 x τ (by rw [k_53 g'.sh]), xs_53 g'.sh, xg_53 g3.sh, e1, m_inN (m := n) (by omega) x, cI1_ok]
    by_cases z : inN x (n + 1)
    · rw [@i01_p _ (Classical.propDecidable _) z, if_neg (show ¬ (1 : Int32) = 0 by decide)]
      obtain ⟨k, hk, rfl⟩ := z
      rw [if_neg (show ¬ nI k ≤ (150 : Int32) from nI_ge (a := 150) (by
        by_cases y : k ≤ 150
        · exact absurd ⟨k, by omega, rfl⟩ q
        · omega) (by omega)), e_M_work_25]
      exact bad
    · rw [@i01_n _ (Classical.propDecidable _) z, if_pos (show (0 : Int32) = 0 from rfl), e_M_work_25]
      exact bad
end WorkO
