/-! look -/
section LookV
variable {σ τ σ' τ' υ φ : mm_M} {t : Nat → Nat} {n : Nat} {l : Ln} {many : Nat} {cs : Nat → Int32} {w K : Nat} {b : List (Nat × Nat)} {d : Nat}
theorem qm558 : qm 558 := by unfold qm fpI fxC; omega
theorem m_isTold {j : Nat} (hj : j < 6) (h : Iv τ t n l many cs w K b) : ev d 248 [.ref 53, .int (nI j)] τ = some (.inl (.int (i1 (¬ bkv b j = -1))), τ) := by
  have hg := h.1
  have h6 := hg.ib.1
  have J : nJ l ≤ 6 := hg.ok.1.2.1
  have loop : ∀ m i, b.length - i = m → i ≤ b.length → (∀ q, q < i → (b.getD q (0, 0)).1 ≠ j) → rn d 248 2 [.ref 53, .int (nI j), .int (nI i)] [] τ = some (.inl (.int (i1 (¬ bkv b j = -1))), τ) := by
    intro m
    induction m with
    | zero =>
      intro i hm hi e
      rw [e_M_isTold_2, xg_53 hg.sh, hg.ib.2.2.1, if_pos (nI_le (by omega) (by omega)), nar1_0, i1_n (fun z => z ((told_iff hg.ib).mpr (fun q hq => e q (by omega))))]
    | succ m ih =>
      intro i hm hi e
      have x := hg.ib.2.2.2.2.1 i (by omega)
      rw [e_M_isTold_2, xg_53 hg.sh, hg.ib.2.2.1, if_neg (nI_ge (by omega) (by omega)), xr_53_23 hg.sh, xR_436 hg.sh (by omega), show aI τ (437 + i) 0 = aI τ (437 + i) (nI 0) from rfl, xa_r436 hg.sh (by omega) (by decide), x.2.2.1]
      by_cases z : (b.getD i (0, 0)).1 = j
      · rw [if_pos (by rw [z]), nar1_1, i1_p (fun q => ((told_iff hg.ib).mp q) i (by omega) z)]
      · rw [if_neg (fun q => z ((nI_eq (by omega) (by omega)).mp q)), nI_1]
        refine ih (i + 1) (by omega) (by omega) (fun q hq => ?_)
        by_cases y : q = i
        · rw [y]; exact z
        · exact e q (by omega)
  rw [e_M_isTold d 53 (nI j) τ (by rw [k_53 hg.sh])]
  exact loop _ 0 rfl (Nat.zero_le _) (fun q hq => absurd hq (Nat.not_lt_zero q))
/-- how many are left at the worst, both sides -/
theorem ws_loop {dc dm : Nat} {r : Nat → Int32} {p j : Nat} (hp : p < nP l) (hj : j < nJ l) : ∀ m k x v5 v5' σ τ, CX σ l many cs → G4 σ l r j p → (∀ k, k < 100 → mI σ 35 k = i1 (fit l many cs r p b k)) → Iv τ t n l many cs w K b → mI τ 533 = r → (∀ v, v < 41 → mI σ 36 v = mI τ 558 v) → 100 - k = m → k ≤ 100 →
    ∃ u σ' τ', rn (dc + 4) 109 13 [.ref 34, .ref 3, .int (nI j), .int x, .int (nI k), v5] [] σ = some (.inl (.int u), σ') ∧ rn (dm + 6) 249 29 [.ref 53, .int (nI p), .int (nI j), .int x, .int (nI k), v5'] [] τ = some (.inl (.int u), τ') ∧ Ag (fun a => scC a ∨ a = 36) σ σ' ∧ Ag (fun a => scM a ∨ a = 558) τ τ'
  | 0, k, x, v5, v5', σ, τ, h, g, e, hI, hr, er, hm, hk => ⟨x, σ, τ, by rw [e_Guess_leftAtWorst_13, if_pos (show (100 : Int32) ≤ nI k from nI_le (a := 100) (by omega) (by omega)), nar0], by rw [e_M_worstAt_29, if_pos (show (100 : Int32) ≤ nI k from nI_le (a := 100) (by omega) (by omega)), nar0], Ag.refl _ _, Ag.refl _ _⟩
  | m + 1, k, x, v5, v5', σ, τ, h, g, e, hI, hr, er, hm, hk => by
    have hs := h.1
    have hg := hI.1
    have e10 : nI k / 10 = nI (k / 10) := pk_div (d := 10) (by omega) (by decide) (by decide)
    have r10 : nI k - nI (k / 10) * 10 = nI (k % 10) := by rw [← e10]; exact pk_rem (d := 10) (by omega) (by decide) (by decide)
    obtain ⟨τ1, c1, c2⟩ := m_isTaste (d := dm) (k := k) hp hI hr
    have I1 := hI.qm (scM_qm c2)
    have hr1 : mI τ1 533 = r := by rw [c2.at (by unfold scM; omega)]; exact hr
    have s558 : mI τ1 558 = mI τ 558 := c2.at (by unfold scM; omega)
    rw [e_Guess_leftAtWorst_13, if_neg (show ¬ (100 : Int32) ≤ nI k from nI_ge (b := 100) (by omega) (by omega)), xr_34_0 hs, aB35 hs (by omega), e k (by omega), e_M_worstAt_29, if_neg (show ¬ (100 : Int32) ≤ nI k from nI_ge (b := 100) (by omega) (by omega)), if_neg (show ¬ (10 : Nat) = 0 by decide), if_neg (show ¬ (10 : Nat) = 0 by decide), e10, r10, c1, cI_ok]
    by_cases z : fit l many cs r p b k
    · rw [i1_p z, if_neg (show ¬ (1 : Int32) = 0 by decide), if_neg (show ¬ (1 : Int32) = 0 by decide)]
      obtain ⟨σ1, d1, d2, d3⟩ := c_gl2 (d := dc) h hI.1.ok g hj (k := k) (by omega)
      obtain ⟨τ2, f1, f2⟩ := m_laughWith (d := dm + 1) I1.1.sh I1.1.mx.2.1 I1.1.ok.1 I1.1.ok.2 I1.1.mx.2.2 rw533 hj hp (nI (k / 10)) (nI (k % 10)) 0
      rw [hr1] at f1
      obtain ⟨q, hq, eq⟩ := lgv_in many cs (gvs l r j p (nI (k / 10)) (nI (k % 10)) 0)
      have eq' : gl2 l many cs r p j k = nI q := eq
      have h1 : CX σ1 l many cs := h.ag d2 (fun x hx q => by unfold fxC at hx; unfold scC at q; omega)
      have I2 := I1.qm (scM_qm f2)
      have hr2 : mI τ2 533 = r := by rw [f2.at (by unfold scM; omega)]; exact hr1
      have s2 : mI τ2 558 = mI τ 558 := by rw [f2.at (by unfold scM; omega)]; exact s558
      have s36 : mI σ1 36 = mI σ 36 := d2.at (by unfold scC; omega)
      have s35 : mI σ1 35 = mI σ 35 := d2.at (by unfold scC; omega)
      have hs1 := h1.1
      have hg2 := I2.1
      have hsA : Sh (wI σ1 36 q (mI σ 36 q + 1)) := hs1
      have hsB : Sh (wI τ2 558 q (mI σ 36 q + 1)) := hg2.sh
      have aA : Ag (fun a => a = 36) σ1 (wI σ1 36 q (mI σ 36 q + 1)) := Ag.wI (S := fun a => a = 36) (Ag.refl _ σ1) rfl _ _
      have aB : Ag (fun a => a = 558) τ2 (wI τ2 558 q (mI σ 36 q + 1)) := Ag.wI (S := fun a => a = 558) (Ag.refl _ τ2) rfl _ _
      have cB : AgM qm qF τ2 (wI τ2 558 q (mI σ 36 q + 1)) := AgM.of aB (fun a z => by rw [z]; exact qm558) (by omega)
      rw [d1, cI1_ok, eq', xr_34_1 hs1, xa_36 hs1 (by omega), xt_36 hs1 (by omega), s36, xr_34_1 hsA, xa_36 hsA (by omega), rI_w, if_pos ⟨rfl, rfl⟩, c_max, cI1_ok, e_Guess_leftAtWorst_62, nI_1, xr_53_29 I1.1.sh, if_neg (show ¬ (10 : Nat) = 0 by decide), if_neg (show ¬ (10 : Nat) = 0 by decide), f1, cI_ok, eq, xr_53_43 hg2.sh, xa_558 hg2.sh (by omega), xt_558 hg2.sh (by omega), s2, ← er q (by omega), xr_53_43 hsB, xa_558 hsB (by omega), rI_w, if_pos ⟨rfl, rfl⟩, m_more, cI1_ok, e_M_worstAt_103, nI_1]
      obtain ⟨u, σ', τ', r1, r2, r3, r4⟩ := ws_loop (dc := dc) (dm := dm) hp hj m (k + 1) (mxx x (mI σ 36 q + 1)) (.int (nI q)) (.int (nI q)) (wI σ1 36 q (mI σ 36 q + 1)) (wI τ2 558 q (mI σ 36 q + 1)) (h1.ag aA (fun x hx z => by unfold fxC at hx; omega)) (fun i hi z1 z5 => by rw [rI_o (by decide)]; exact d3 i hi z1 z5) (fun k hk => by rw [rI_o (by decide), s35]; exact e k hk) (I2.qm cB) (by rw [rI_o (by decide)]; exact hr2) (fun v hv => by
        rw [rI_w, rI_w, s36, s2]
        by_cases y : v = q
        · rw [if_pos ⟨rfl, y⟩, if_pos ⟨rfl, y⟩]
        · rw [if_neg (fun z => y z.2), if_neg (fun z => y z.2)]; exact er v hv) (by omega) (by omega)
      exact ⟨u, σ', τ', r1, r2, ((d2.mono (T := fun a => scC a ∨ a = 36) (fun _ q => Or.inl q)).trans (aA.mono (fun _ q => Or.inr q))).trans r3, ((((c2.trans f2).mono (T := fun a => scM a ∨ a = 558) (fun _ q => Or.inl q)).trans (aB.mono (fun _ q => Or.inr q))).trans r4)⟩
    · rw [i1_n z, if_pos rfl, if_pos rfl, e_Guess_leftAtWorst_62, e_M_worstAt_103, nI_1]
      obtain ⟨u, σ', τ', r1, r2, r3, r4⟩ := ws_loop (dc := dc) (dm := dm) hp hj m (k + 1) x v5 v5' σ τ1 h g e I1 hr1 (fun v hv => by rw [s558]; exact er v hv) (by omega) (by omega)
      exact ⟨u, σ', τ', r1, r2, r3, (c2.mono (T := fun a => scM a ∨ a = 558) (fun _ q => Or.inl q)).trans r4⟩
/-- the reference's row of what was seen, emptied -/
theorem w0_loop {p j x : Int32} : ∀ m i τ, Sh τ → 41 - i = m → i ≤ 41 → (∀ v, v < i → mI τ 558 v = 0) → ∃ φ, rn (d + 1) 249 5 [.ref 53, .int p, .int j, .int x, .int (nI i), uv] [] τ = rn (d + 1) 249 29 [.ref 53, .int p, .int j, .int x, .int 0, uv] [] φ ∧ Ag (fun a => a = 558) τ φ ∧ ∀ v, v < 41 → mI φ 558 v = 0
  | 0, i, τ, h, hm, hi, e => ⟨τ, by rw [e_M_worstAt_5, if_pos (show (40 : Int32) < nI i from nI_lt (a := 40) (by omega) (by omega))], Ag.refl _ _, fun v hv => e v (by omega)⟩
  | m + 1, i, τ, h, hm, hi, e => by
    obtain ⟨φ, r1, r2, r3⟩ := w0_loop (p := p) (j := j) (x := x) m (i + 1) (wI τ 558 i 0) h (by omega) (by omega) (fun v hv => by
      rw [rI_w]
      by_cases z : v = i
      · rw [if_pos ⟨rfl, z⟩]
      · rw [if_neg (fun y => z y.2)]; exact e v (by omega))
    refine ⟨φ, ?_, (Ag.wI (S := fun a => a = 558) (Ag.refl _ τ) rfl i 0).trans r2, r3⟩
    rw [e_M_worstAt_5, if_neg (show ¬ (40 : Int32) < nI i from nI_nlt (a := 40) (by omega) (by omega)), xr_53_43 h, xt_558 h (by omega), nI_1]
    exact r1
theorem fj_loop {p : Nat} (hp : p < nP l) (y : Int32) : ∀ m j v6 v6' σ τ, B2 σ τ t n l many cs w K b → (∀ k, k < 100 → mI σ 35 k = i1 (fit l many cs (mI σ 533) p b k)) → nJ l - j = m → j ≤ nJ l →
    ∃ σ' τ', rn (d + 29) 108 13 [.ref 34, .ref 3, .ref 21, .ref (bkA σ), .int (nI p), .int (nI j), v6] [] σ = some (.inl uv, σ') ∧ rn (d + 31) 250 60 [.ref 53, .int (nI p), .int y, .int (mI σ 34 4), .int (mI σ 34 5), .int (nI j), v6'] [] τ = some (.inl (.int (if y = 0 then mI σ' 34 4 else mI σ' 34 5)), τ') ∧ Ag qc σ σ' ∧ AgM qm qF τ τ' ∧ mI τ' 53 0 = 0
  | 0, j, v6, v6', σ, τ, h, e, hm, hj => by
    have hw := h.1.1
    have hg := h.2.1.1
    have J := hw.ok.1.2.1
    refine ⟨σ, τ, by rw [e_Guess_findJoke_13, xr_3_1 hw.sh, xg_ld hw.sh hw.sh.ld, hw.cx.2.1.1.2.1, if_pos (nI_le (by omega) (by omega))], ?_, Ag.refl _ _, AgM.refl _ _ _, h.2.2.2⟩
    rw [e_M_look_60, xr_53_12 hg.sh, show aI τ 57 1 = aI τ 57 (nI 1) from rfl, xa_57 hg.sh (by decide), hg.mx.2.1.1.2.1, if_pos (nI_le (by omega) (by omega))]
    by_cases z : y = 0
    · rw [if_pos z, if_pos z, e_M_look_130, nar0]
    · rw [if_neg z, if_neg z, e_M_look_130, nar0]
  | m + 1, j, v6, v6', σ, τ, h, e, hm, hj => by
    have hw := h.1.1
    have hg := h.2.1.1
    have J := hw.ok.1.2.1
    have hb : isBk (bkA σ) := hw.sh.bk
    have eb := hw.ib.2.2.2.2.2 j (by omega)
    rw [e_Guess_findJoke_13, xr_3_1 hw.sh, xg_ld hw.sh hw.sh.ld, hw.cx.2.1.1.2.1, if_neg (nI_ge (by omega) (by omega)), xr_bk0 hw.sh hb, xa_bk1 hw.sh hb (by omega), eb, e_M_look_60, xr_53_12 hg.sh, show aI τ 57 1 = aI τ 57 (nI 1) from rfl, xa_57 hg.sh (by decide), hg.mx.2.1.1.2.1, if_neg (nI_ge (by omega) (by omega)), m_isTold (by omega) h.2.1, cI_ok]
    by_cases z : bkv b j = -1
    · rw [if_pos z, i1_n (fun q => q z), if_pos (show (0 : Int32) = 0 from rfl)]
      obtain ⟨g, c1, c2⟩ := c_giveAll (d := d + 26) hw.sh hw.cx.2.1 hw.ok.1 da21 hw.row.1 hw.row.2 (j := j) (by omega) hp
      have a1 := (Ag.refl qc σ).wA qc4 g
      have a2 := a1.wA qc36 (fun v => if v < 41 then 0 else mI (wA σ 4 g) 36 v)
      have h2 := h.1.qc a2
      have s1 : Sh (wA σ 4 g) := hw.sh
      obtain ⟨τ1, w1, w2, w3⟩ := w0_loop (d := d + 29) (p := nI p) (j := nI j) (x := 0) 41 0 τ hg.sh rfl (by decide) (fun v hv => absurd hv (Nat.not_lt_zero v))
      have cw : AgM qm qF τ τ1 := AgM.of w2 (fun a z => by rw [z]; exact qm558) (by omega)
      obtain ⟨u, σ3, τ3, r1, r2, r3, r4⟩ := ws_loop (dc := d + 24) (dm := d + 24) (r := mI σ 533) (b := b) (j := j) hp (by omega) 100 0 0 uv uv (wA (wA σ 4 g) 36 (fun v => if v < 41 then 0 else mI (wA σ 4 g) 36 v)) τ1 h2.1.cx (fun i hi z1 z5 => by
        rw [rA_o (by decide), rA_a, c2 i hi]
        exact gv_n i hi z1 z5) (fun k hk => by rw [rA_o (by decide), rA_o (by decide)]; exact e k hk) (h.2.1.qm cw) (by rw [w2.at (by omega)]; exact h.r) (fun v hv => by rw [rA_a, w3 v hv]; exact if_pos hv) rfl (by decide)
      have a3 : Ag qc σ σ3 := a2.trans (r3.mono (fun a q => by
        rcases q with q | q
        · exact sc_qc a q
        · rw [q]; exact qc36))
      have c3 : AgM qm qF τ τ3 := cw.trans (AgM.of r4 (fun a q => by
        rcases q with q | q
        · exact sc_qm a q
        · rw [q]; exact qm558) (by unfold scM; omega))
      have z3 : mI τ3 53 0 = 0 := by rw [r4.at (by unfold scM; omega), w2.at (by omega)]; exact h.2.2.2
      have b3 := h.go a3 c3 z3
      have s3 := b3.1.1.sh
      have e34 : mI σ3 34 = mI σ 34 := by rw [r3.at (by unfold scC; omega), rA_o (by decide), rA_o (by decide)]
      have e35 : mI σ3 35 = mI σ 35 := by rw [r3.at (by unfold scC; omega), rA_o (by decide), rA_o (by decide)]
      have e533 : mI σ3 533 = mI σ 533 := a3.at (fun q => by have := q.2.2; omega)
      rw [c1, cV1_ok, e_Guess_leftAtWorst (d + 27) 34 3 (nI j) (wA σ 4 g) (by rw [k_34 s1]), xr_34_1 s1, c_fill (k_36 s1) (by decide), cV1_ok, show rn (d + 27 + 1) 109 13 [.ref 34, .ref 3, .int (nI j), .int 0, .int 0, uv] [] (wA (wA σ 4 g) 36 (fun v => if v < 41 then 0 else mI (wA σ 4 g) 36 v)) = _ from r1, cI_ok, xg_34 s3, e34, e_M_worstAt (d + 29) 53 (nI p) (nI j) τ (by rw [k_53 hg.sh]), show rn (d + 29 + 1) 249 5 [.ref 53, .int (nI p), .int (nI j), .int 0, .int 0, uv] [] τ = _ from w1, show rn (d + 29 + 1) 249 29 [.ref 53, .int (nI p), .int (nI j), .int 0, .int 0, uv] [] τ1 = _ from r2, cI_ok]
      have take : ∃ σ' τ', rn (d + 29) 108 71 [.ref 34, .ref 3, .ref 21, .ref (bkA σ), .int (nI p), .int (nI j), .int u] [] σ3 = some (.inl uv, σ') ∧ rn (d + 31) 250 107 [.ref 53, .int (nI p), .int y, .int (mI σ 34 4), .int (mI σ 34 5), .int (nI j), .int u] [] τ3 = some (.inl (.int (if y = 0 then mI σ' 34 4 else mI σ' 34 5)), τ') ∧ Ag qc σ σ' ∧ AgM qm qF τ τ' ∧ mI τ' 53 0 = 0 := by
        have a4 := ((Ag.refl qc σ3).wI qc34 4 (nI j)).wI qc34 5 u
        have s4 : Sh (wI σ3 34 4 (nI j)) := s3
        obtain ⟨σ', τ', q1, q2, q3, q4, q5⟩ := fj_loop hp y m (j + 1) (.int u) (.int u) (wI (wI σ3 34 4 (nI j)) 34 5 u) τ3 (b3.go a4 (AgM.refl _ _ _) z3) (fun k hk => by rw [rI_o (by decide), rI_o (by decide), e35, rI_o (by decide), rI_o (by decide), e533]; exact e k hk) (by omega) (by omega)
        have ebk : bkA (wI (wI σ3 34 4 (nI j)) 34 5 u) = bkA σ := (a3.trans a4).bk
        rw [ebk] at q1
        rw [rI_w (a := 34) (i := 5) (j := 4), if_neg (by omega), rI_w, if_pos ⟨rfl, rfl⟩, rI_w, if_pos ⟨rfl, rfl⟩] at q2
        exact ⟨σ', τ', by rw [e_Guess_findJoke_71, xs_34 s3, xs_34 s4, e_Guess_findJoke_83, nI_1]; exact q1, by rw [e_M_look_107, e_M_look_114, nI_1]; exact q2, (a3.trans a4).trans q3, c3.trans q4, q5⟩
      have skip : ∃ σ' τ', rn (d + 29) 108 83 [.ref 34, .ref 3, .ref 21, .ref (bkA σ), .int (nI p), .int (nI j), .int u] [] σ3 = some (.inl uv, σ') ∧ rn (d + 31) 250 114 [.ref 53, .int (nI p), .int y, .int (mI σ 34 4), .int (mI σ 34 5), .int (nI j), .int u] [] τ3 = some (.inl (.int (if y = 0 then mI σ' 34 4 else mI σ' 34 5)), τ') ∧ Ag qc σ σ' ∧ AgM qm qF τ τ' ∧ mI τ' 53 0 = 0 := by
        obtain ⟨σ', τ', q1, q2, q3, q4, q5⟩ := fj_loop hp y m (j + 1) (.int u) (.int u) σ3 τ3 b3 (fun k hk => by rw [e35, e533]; exact e k hk) (by omega) (by omega)
        rw [a3.bk] at q1
        rw [e34] at q2
        exact ⟨σ', τ', by rw [e_Guess_findJoke_83, nI_1]; exact q1, by rw [e_M_look_114, nI_1]; exact q2, a3.trans q3, c3.trans q4, q5⟩
      by_cases x : mI σ 34 4 = -1
      · rw [if_pos x, if_pos x]; exact take
      · rw [if_neg x, if_neg x, xg_34 s3, e34]
        by_cases x2 : u < mI σ 34 5
        · rw [if_pos x2, if_neg (i_lt_nle x2)]; exact take
        · rw [if_neg x2, if_pos (i_nlt x2)]; exact skip
    · rw [if_neg z, i1_p z, if_neg (show ¬ (1 : Int32) = 0 by decide), e_Guess_findJoke_83, nI_1, e_M_look_114, nI_1]
      exact fj_loop hp y m (j + 1) v6 v6' σ τ h e (by omega) (by omega)
theorem op_look (x y : Int32) : OpQ (d + 30) 137 [.ref 0, .int x, .int y] (d + 31) 250 [.ref 53, .int x, .int y] [(1, 1), (2, 2)] :=
  op_gr (M := 1) (cnt := nP) (A := fun c σ => rn (d + 31) 250 19 [.ref 53, .int x, .int y, uv, uv, uv, uv] [.int c, .ref 53] σ) (B := fun c σ => rn (d + 31) 250 42 [.ref 53, .int x, .int y, uv, uv, uv, uv] [.int c, .ref 53] σ) (Z := fun σ => rn (d + 31) 250 50 [.ref 53, .int x, .int y, uv, uv, uv, uv] [] σ) (by decide)
    (fun σ l many cs h ok => c_needP h ok x) (fun σ l many cs _ h ok => m_isP h ok x) (fun σ h => e_W_look (d + 29) 0 x y σ (by rw [k_0 h])) (fun σ h => e_M_look (d + 30) 53 x y σ (by rw [k_53 h])) (fun c σ => e_M_look_19 (d + 30) 53 x y c 53 σ) (fun c σ => e_M_look_42 (d + 30) 53 x y c 53 σ) (fun σ => by rw [e_M_look_50, nar0])
    (fun σ τ t n l many cs w K b h p k hp hk ex ey => by
      subst ex
      have hw := h.1.1
      obtain ⟨σ1, c1, c2, c3, c4, c5⟩ := c_findPairs (d := d + 24) hp h.1
      have s1 := c2.sh hw.sh
      have a2 := (c2.wI qc34 4 (-1)).wI qc34 5 (-1)
      have sA : Sh (wI σ1 34 4 (-1)) := s1
      have e533 : mI σ1 533 = mI σ 533 := c2.at (fun q => by have := q.2.2; omega)
      obtain ⟨σ', τ', q1, q2, q3, q4, q5⟩ := fj_loop (d := d) hp y (nJ l) 0 uv uv (wI (wI σ1 34 4 (-1)) 34 5 (-1)) τ (h.go a2 (AgM.refl _ _ _) h.2.2.2) (fun k hk => by rw [rI_o (by decide), rI_o (by decide), rI_o (by decide), rI_o (by decide), e533]; exact c3 k hk) rfl (Nat.zero_le _)
      have ebk : bkA (wI (wI σ1 34 4 (-1)) 34 5 (-1)) = bkA σ := a2.bk
      rw [ebk] at q1
      rw [rI_w (a := 34) (i := 5) (j := 4), if_neg (by omega), rI_w, if_pos ⟨rfl, rfl⟩, rI_w, if_pos ⟨rfl, rfl⟩] at q2
      have s' := (a2.trans q3).sh hw.sh
      rw [xr_0_7 hw.sh, xr_0_1 hw.sh, xr_0_3 hw.sh, xr_0_11 hw.sh, show ev (d + 29) 105 [.ref 34, .ref 3, .ref 21, .ref (bkA σ), .int (nI p)] σ = _ from c1, cV1_ok, xr_0_7 s1, xr_0_1 s1, xr_0_3 s1, xr_0_11 s1, c2.bk, e_Guess_findJoke (d + 28) 34 3 21 (bkA σ) (nI p) σ1 (by rw [k_34 s1]), xs_34 s1, xs_34 sA, show rn (d + 28 + 1) 108 13 [.ref 34, .ref 3, .ref 21, .ref (bkA σ), .int (nI p), .int 0, uv] [] (wI (wI σ1 34 4 (-1)) 34 5 (-1)) = _ from q1, cV1_ok, show rn (d + 31) 250 60 [.ref 53, .int (nI p), .int y, .int (-1), .int (-1), .int 0, uv] [] τ = _ from q2]
      refine ⟨_, σ', τ', ?_, rfl, a2.trans q3, q4, q5⟩
      by_cases z : y = 0
      · rw [if_pos z, if_pos z, xr_0_7 s', xg_34 s', e_W_look_74, nar0]
      · rw [if_neg z, if_neg z, xr_0_7 s', xg_34 s', e_W_look_74, nar0])
end LookV
