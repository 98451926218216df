/-! LAND as a text: a clause, all clauses -/
def fullL (l : Ln) (w : Nat) : Prop := (w = 0 ∧ nP l = 7) ∨ (w = 1 ∧ nJ l = 6) ∨ (w = 2 ∧ nS l = 12)
def CkP (m s k : Nat) (r : CR) : Prop := match r with
  | .inl (e, _) => 1 ≤ e ∧ e ≤ 3
  | .inr (s', l') => s < s' ∧ s' ≤ m ∧ LnOK l' ∧ k < 60
def CkR (t : Nat → Nat) (m k : Nat) (τ υ : mm_M) (r : CR) : Prop := match r with
  | .inl (e, p) => MF lzM lzF τ υ e p
  | .inr (s', l') => RM υ t m s' ∧ LzT υ (nP l') (nJ l') (nS l') l' ∧ mI υ 53 7 = nI (k + 1) ∧ AgM lzM lzF τ υ
section LandC
variable {σ τ σ' τ' υ φ : mm_M} {t : Nat → Nat} {m s k : Nat} {d : Nat} {l : Ln}
theorem u_kindHere (hr : RM τ t m s) : ∃ υ, ev (d + 4) 187 [.ref 53] τ = some (.inl (.int (oI32 (wN t m s wds0 0))), υ) ∧ RM υ t m s ∧ AgM nS0 f4 τ υ ∧ mI υ 53 4 = nI s := by
  rw [show wds0 = [[112, 101, 114, 115, 111, 110], [106, 111, 107, 101], [115, 116, 114, 101, 101, 116], [106, 117, 103], [100, 114, 105, 110, 107]] from rfl, e_M_kindHere (d + 3) 53 τ (by rw [k_53 hr.1])]
  have g0 := AgM.refl nS0 f4 τ
  have r0 := hr
  by_cases q0 : isW t m s [112, 101, 114, 115, 111, 110]
  · obtain ⟨υ, a, b, c, e⟩ := (u_iw (d := d) r0 [112, 101, 114, 115, 111, 110] 16 5 18 19 15 14 (by decide) (by decide)).1 q0; rw [a, cI_ok, if_neg (by decide), nar0, wN_hit q0]; exact ⟨υ, rfl, b, g0.trans c, e⟩
  obtain ⟨τ1, a0, r1, c0, e1⟩ := (u_iw (d := d) r0 [112, 101, 114, 115, 111, 110] 16 5 18 19 15 14 (by decide) (by decide)).2 q0
  rw [a0, cI_ok, if_pos rfl, wN_miss q0]
  have g1 := g0.trans c0
  by_cases q1 : isW t m s [106, 111, 107, 101]
  · obtain ⟨υ, a, b, c, e⟩ := (u_iw (d := d) r1 [106, 111, 107, 101] 10 15 11 5 0 0 (by decide) (by decide)).1 q1; rw [a, cI_ok, if_neg (by decide), nar0, wN_hit q1]; exact ⟨υ, rfl, b, g1.trans c, e⟩
  obtain ⟨τ2, a1, r2, c1, e2⟩ := (u_iw (d := d) r1 [106, 111, 107, 101] 10 15 11 5 0 0 (by decide) (by decide)).2 q1
  rw [a1, cI_ok, if_pos rfl, wN_miss q1]
  have g2 := g1.trans c1
  by_cases q2 : isW t m s [115, 116, 114, 101, 101, 116]
  · obtain ⟨υ, a, b, c, e⟩ := (u_iw (d := d) r2 [115, 116, 114, 101, 101, 116] 19 20 18 5 5 20 (by decide) (by decide)).1 q2; rw [a, cI_ok, if_neg (by decide), nar0, wN_hit q2]; exact ⟨υ, rfl, b, g2.trans c, e⟩
  obtain ⟨τ3, a2, r3, c2, e3⟩ := (u_iw (d := d) r2 [115, 116, 114, 101, 101, 116] 19 20 18 5 5 20 (by decide) (by decide)).2 q2
  rw [a2, cI_ok, if_pos rfl, wN_miss q2]
  have g3 := g2.trans c2
  by_cases q3 : isW t m s [106, 117, 103]
  · obtain ⟨υ, a, b, c, e⟩ := (u_iw (d := d) r3 [106, 117, 103] 10 21 7 0 0 0 (by decide) (by decide)).1 q3; rw [a, cI_ok, if_neg (by decide), nar0, wN_hit q3]; exact ⟨υ, rfl, b, g3.trans c, e⟩
  obtain ⟨τ4, a3, r4, c3, e4⟩ := (u_iw (d := d) r3 [106, 117, 103] 10 21 7 0 0 0 (by decide) (by decide)).2 q3
  rw [a3, cI_ok, if_pos rfl, wN_miss q3]
  have g4 := g3.trans c3
  by_cases q4 : isW t m s [100, 114, 105, 110, 107]
  · obtain ⟨υ, a, b, c, e⟩ := (u_iw (d := d) r4 [100, 114, 105, 110, 107] 4 18 9 14 11 0 (by decide) (by decide)).1 q4; rw [a, cI_ok, if_neg (by decide), e_M_kindHere_97, nar0, wN_hit q4]; exact ⟨υ, rfl, b, g4.trans c, e⟩
  obtain ⟨τ5, a4, r5, c4, e5⟩ := (u_iw (d := d) r4 [100, 114, 105, 110, 107] 4 18 9 14 11 0 (by decide) (by decide)).2 q4
  rw [a4, cI_ok, if_pos rfl, wN_miss q4]
  have g5 := g4.trans c4
  rw [e_M_kindHere_97, nar0]
  exact ⟨τ5, rfl, r5, g5, e5⟩
theorem wds0_lt {w : Nat} (h : wN t m s wds0 0 = some w) : w ≤ 4 ∧ tkK t m s = 2 := by
  have l := wN_some _ _ _ h
  have l3 : w < 0 + 5 := l.2.2
  exact ⟨by omega, l.1⟩
theorem c_isFullL {L w : Nat} (hL : isLd L) (h : Sh σ) (lz : LzC σ L l) (ok : LnOK l) (hw : w ≤ 4) : (fullL l w → ev d 49 [.ref L, .int (nI w)] σ = some (.inl (.int 1), σ)) ∧ (¬ fullL l w → ev d 49 [.ref L, .int (nI w)] σ = some (.inl (.int 0), σ)) := by
  have P7 := ok.1
  have J6 := ok.2.1
  have S12 := ok.2.2.1
  rw [e_Land_isFull d L (nI w) σ (by rw [k_ld0 h hL])]
  unfold fullL
  have hc : w = 0 ∨ w = 1 ∨ w = 2 ∨ w = 3 ∨ w = 4 := by omega
  rcases hc with rfl | rfl | rfl | rfl | rfl
  · rw [show swT 1 72 0 2 #[27, 42, 57] (nI 0) = 28 by decide, e_Land_isFull_28, xg_ld h hL, lz.1.1, e_Land_isFull_42, e_Land_isFull_42, nar1_0, nar1_1]
    exact ⟨fun q => by rw [if_neg (show ¬ nI (nP l) < (7 : Int32) from nI_nlt (b := 7) (by omega) (by omega))], fun q => by rw [if_pos (show nI (nP l) < (7 : Int32) from nI_lt (b := 7) (by omega) (by decide))]⟩
  · rw [show swT 1 72 0 2 #[27, 42, 57] (nI 1) = 43 by decide, e_Land_isFull_43, xg_ld h hL, lz.1.2.1, e_Land_isFull_57, e_Land_isFull_57, nar1_0, nar1_1]
    exact ⟨fun q => by rw [if_neg (show ¬ nI (nJ l) < (6 : Int32) from nI_nlt (b := 6) (by omega) (by omega))], fun q => by rw [if_pos (show nI (nJ l) < (6 : Int32) from nI_lt (b := 6) (by omega) (by decide))]⟩
  · rw [show swT 1 72 0 2 #[27, 42, 57] (nI 2) = 58 by decide, e_Land_isFull_58, xg_ld h hL, lz.1.2.2.1, e_Land_isFull_72, e_Land_isFull_72, nar1_0, nar1_1]
    exact ⟨fun q => by rw [if_neg (show ¬ nI (nS l) < (12 : Int32) from nI_nlt (b := 12) (by omega) (by omega))], fun q => by rw [if_pos (show nI (nS l) < (12 : Int32) from nI_lt (b := 12) (by omega) (by decide))]⟩
  · rw [show swT 1 72 0 2 #[27, 42, 57] (nI 3) = 73 by decide, e_Land_isFull_73, nar1_0]
    exact ⟨fun q => by omega, fun _ => rfl⟩
  · rw [show swT 1 72 0 2 #[27, 42, 57] (nI 4) = 73 by decide, e_Land_isFull_73, nar1_0]
    exact ⟨fun q => by omega, fun _ => rfl⟩
theorem cnt_at {P J S w : Nat} (h : LzT τ P J S l) (hP : P = nP l) (hJ : J = nJ l) (hS : S = nS l) (hw : w < 3) : mI τ 56 w = cnt l w := by
  obtain ⟨⟨a1, a2, a3, -⟩, -⟩ := h
  have hc : w = 0 ∨ w = 1 ∨ w = 2 := by omega
  rcases hc with rfl | rfl | rfl
  · rw [a1, hP]; rfl
  · rw [a2, hJ]; rfl
  · rw [a3, hS]; rfl
theorem m_most {w : Nat} (hw : w < 3) : ev d 188 [.int (nI w)] τ = some (.inl (.int (if w = 0 then 7 else if w = 1 then 6 else 12)), τ) := by
  have hc : w = 0 ∨ w = 1 ∨ w = 2 := by omega
  rw [e_M_mostOf]
  rcases hc with rfl | rfl | rfl
  · rw [if_pos (show nI 0 = (0 : Int32) from rfl), e_M_mostOf_21, nar0]; rfl
  · rw [if_neg (show ¬ nI 1 = (0 : Int32) by decide), if_pos (show nI 1 = (1 : Int32) from rfl), e_M_mostOf_21, nar0]; rfl
  · rw [if_neg (show ¬ nI 2 = (0 : Int32) by decide), if_neg (show ¬ nI 2 = (1 : Int32) by decide), e_M_mostOf_21, nar0]; rfl
theorem full_iff {w : Nat} (ok : LnOK l) (hw : w < 3) : cnt l w = (if w = 0 then 7 else if w = 1 then 6 else 12 : Int32) ↔ fullL l w := by
  have P7 := ok.1
  have J6 := ok.2.1
  have S12 := ok.2.2.1
  have hc : w = 0 ∨ w = 1 ∨ w = 2 := by omega
  unfold fullL
  rcases hc with rfl | rfl | rfl
  · show nI (nP l) = nI 7 ↔ _
    rw [nI_eq (by omega) (by decide)]; omega
  · show nI (nJ l) = nI 6 ↔ _
    rw [nI_eq (by omega) (by decide)]; omega
  · show nI (nS l) = nI 12 ↔ _
    rw [nI_eq (by omega) (by decide)]; omega
theorem mf_lz {e p : Nat} (h : MF nS0 f456 τ υ e p) : MF lzM lzF τ υ e p := h.mono (fun _ q => q.elim) (fun i q => by unfold f456 at q; unfold lzF; omega)
theorem ag_lz (h : AgM nS0 f4 τ υ) : AgM lzM lzF τ υ := h.mono (fun _ q => q.elim) (fun i q => Or.inl q)
theorem mf_lzt {e p : Nat} (a : AgM lzM lzF τ υ) (h : MF lzM lzF υ φ e p) : MF lzM lzF τ φ e p := ⟨a.trans h.1, h.2⟩
theorem mf_56 {e p i : Nat} {v : Int32} (h : MF lzM lzF τ υ e p) : MF lzM lzF τ (wI υ 56 i v) e p := by
  have f53 : mI (wI υ 56 i v) 53 = mI υ 53 := rI_o (by decide)
  exact ⟨h.1.trans (AgM.of (S := fun a => a = 56) (Ag.wI (S := fun a => a = 56) (Ag.refl _ υ) rfl _ _) (fun _ q => Or.inl q) (by omega)), by rw [f53]; exact h.2.1, by rw [f53]; exact h.2.2.1, by rw [f53]; exact h.2.2.2⟩
/-- behind a FAULT -/
theorem l316F {e p w : Nat} {x2 : Int32} {v3 v4 v5 : Value} (h : Sh υ) (mf : MF lzM lzF τ υ e p) (e1 : 1 ≤ e) (e3 : e ≤ 3) (hw : w ≤ 4) : ∃ φ, rn (d + 2) 190 316 [.ref 53, .int (nI w), .int x2, v3, v4, v5] [] υ = some (.inl uv, φ) ∧ MF lzM lzF τ φ e p := by
  have n5 := mf.bad e1 e3
  by_cases z : w < 3
  · refine ⟨wI υ 56 w (mI υ 56 w + 0), ?_, mf_56 mf⟩
    rw [e_M_clause_316, u_signF h n5, cV_ok, if_neg (show ¬ (3 : Int32) ≤ nI w from nI_ge (b := 3) z (by decide)), xr_53_11 h, xa_56 h (by omega), xg_53 h, if_neg n5, e_M_clause_346, xt_56 h (by omega), e_M_clause_348]
  · refine ⟨υ, ?_, mf⟩
    rw [e_M_clause_316, u_signF h n5, cV_ok, if_pos (show (3 : Int32) ≤ nI w from nI_le (a := 3) (by omega) (by omega)), e_M_clause_348]
theorem sp_num {w : Nat} (hs : s ≤ m) (ok : LnOK l) (hw : w ≤ 4) (nf : ¬ fullL l w) : SpN t m s w l := by
  have P7 := ok.1
  have J6 := ok.2.1
  have S12 := ok.2.2.1
  have hc : w = 0 ∨ w = 1 ∨ w = 2 ∨ w = 3 ∨ w = 4 := by omega
  unfold fullL at nf
  rcases hc with rfl | rfl | rfl | rfl | rfl
  · exact cn_0 hs ok (by omega)
  · exact cn_1 hs ok (by omega)
  · exact cn_2 hs ok (by omega)
  · exact cn_3 hs ok
  · exact cn_4 hs ok
theorem LzT_c {w : Nat} {l' : Ln} {v : Int32} (h : LzT υ (nP l) (nJ l) (nS l) l') (hP : nP l' = (if w = 0 then nP l + 1 else nP l)) (hJ : nJ l' = (if w = 1 then nJ l + 1 else nJ l)) (hS : nS l' = (if w = 2 then nS l + 1 else nS l)) (hw : w ≤ 4) (e : ∀ x, x ≠ 56 → mI φ x = mI υ x) (e56 : ∀ i, mI φ 56 i = if w < 3 ∧ i = w then cnt l w + 1 else mI υ 56 i) (hv : ∀ x, lzM x → x ≠ 56 → True) : LzT φ (nP l') (nJ l') (nS l') l' := by
  obtain ⟨⟨a1, a2, a3, a4, a5⟩, b1, b2, b3⟩ := h
  have hc : w = 0 ∨ w = 1 ∨ w = 2 ∨ w = 3 ∨ w = 4 := by omega
  refine ⟨⟨?_, ?_, ?_, ?_, ?_⟩, fun p hp => by rw [e _ (by omega)]; exact b1 p hp, fun p hp => by rw [e _ (by omega)]; exact b2 p hp, fun p hp => by rw [e _ (by omega)]; exact b3 p hp⟩
  · rw [e56, hP]
    by_cases z : w = 0
    · rw [if_pos ⟨by omega, z.symm⟩, if_pos z, z]; exact nI_1 _
    · rw [if_neg (fun y => z y.2.symm), if_neg z]; exact a1
  · rw [e56, hJ]
    by_cases z : w = 1
    · rw [if_pos ⟨by omega, z.symm⟩, if_pos z, z]; exact nI_1 _
    · rw [if_neg (fun y => z y.2.symm), if_neg z]; exact a2
  · rw [e56, hS]
    by_cases z : w = 2
    · rw [if_pos ⟨by omega, z.symm⟩, if_pos z, z]; exact nI_1 _
    · rw [if_neg (fun y => z y.2.symm), if_neg z]; exact a3
  · rw [e56, if_neg (by omega)]; exact a4
  · rw [e56, if_neg (by omega)]; exact a5
theorem cl_line (hs : s ≤ m) (ok : LnOK l) (hk : k ≤ 60) : ∃ r : CR, CkP m s k r ∧
    (∀ L σ d, isLd L → RS σ t m s → LzC σ L l → ∃ x υ, ev (d + 5) 48 [.ref L, .ref 1, .int (nI k)] σ = some (.inl (.int x), υ) ∧ CrC t m L σ υ x r) ∧
    (∀ τ d, RM τ t m s → LzT τ (nP l) (nJ l) (nS l) l → mI τ 53 7 = nI k → ∃ υ, ev (d + 5) 190 [.ref 53] τ = some (.inl uv, υ) ∧ CkR t m k τ υ r) := by
  cases hw : wN t m s wds0 0 with
  | none =>
    refine ⟨.inl (1, s), ⟨by decide, by decide⟩, fun L σ d hL hr lz => ?_, fun τ d hr lt e7 => ?_⟩
    · have w := t_wordOf (d := d) hr (i := 0) (by decide) str0
      rw [wN_ok, hw] at w
      obtain ⟨υ, f1, f2⟩ := t_fail (d := d + 4) hr 1 s
      refine ⟨0, υ, ?_, rfl, f2.mono (fun _ => at1_lz)⟩
      rw [e_Land_readClause (d + 4) L 1 (nI k) σ (by rw [k_ld0 hr.1 hL]), show ev (d + 4) 22 [.ref 1, .ref 1000002] σ = some (.inl (.int (-1)), σ) from w, cI1_ok, if_pos rfl, xg_1 hr.1, (t_kind hr).2, show ev (d + 4) 23 [.ref 1, .int 1, .int (nI s)] σ = _ from f1, cI1_ok, nar1_0]
    · obtain ⟨τ1, a1, a2, a3, a4⟩ := u_kindHere (d := d) hr
      rw [hw] at a1
      obtain ⟨υ, w1, w2⟩ := u_wrong (d := d + 4) a2 1 s
      have mf := mf_lzt (ag_lz a3) (mf_lz w2)
      have s2 := mf.1.sh hr.1
      refine ⟨υ, ?_, mf⟩
      rw [e_M_clause (d + 4) 53 τ (by rw [k_53 hr.1]), show ev (d + 4) 187 [.ref 53] τ = some (.inl (.int (-1)), τ1) from a1, cI_ok, if_pos rfl, xg_53 a2.1, a4, show ev (d + 4) 173 [.ref 53, .int 1, .int (nI s)] τ1 = _ from w1, cV_ok, e_M_clause_58, xg_53 s2, if_neg (mf.bad (by decide) (by decide))]
  | some w =>
    obtain ⟨w4, k2⟩ := wds0_lt hw
    have lt : s < m := tk_lt (t := t) (by rw [k2]; decide)
    have nx := nxt_le (t := t) hs
    have lnx := nx.2.2 lt
    have nm1 : ¬ oI32 (some w) = -1 := nI_m1 (show w < 2147483648 by omega)
    have cw : ∀ (L : Nat) (σ : mm_M) (d : Nat), isLd L → RS σ t m s → ev (d + 5) 48 [.ref L, .ref 1, .int (nI k)] σ = (if 60 ≤ nI k then rn (d + 5) 48 36 [.ref L, .ref 1, .int (nI k), .int (nI w)] [] σ else cI (ev (d + 4) 49 [.ref L, .int (nI w)] σ) fun r4 σ3 => if r4 = 0 then cV1 (ev (d + 4) 17 [.ref 1] σ3) fun σ5 => cI (ev (d + 4) 50 [.ref L, .ref 1, .int (nI w)] σ5) fun r7 σ6 => if r7 = 0 then rn (d + 5) 48 72 [.ref L, .ref 1, .int (nI k), .int (nI w)] [] σ6 else cI1 (ev (d + 4) 20 [.ref 1, .int 59] σ6) fun r9 σ8 => if r9 = 0 then rn (d + 5) 48 72 [.ref L, .ref 1, .int (nI k), .int (nI w)] [] σ8 else rn (d + 5) 48 73 [.ref L, .ref 1, .int (nI k), .int (nI w)] [.int 1] σ8 else rn (d + 5) 48 36 [.ref L, .ref 1, .int (nI k), .int (nI w)] [] σ3) := by
      intro L σ d hL hr
      have w' := t_wordOf (d := d) hr (i := 0) (by decide) str0
      rw [wN_ok, hw] at w'
      rw [e_Land_readClause (d + 4) L 1 (nI k) σ (by rw [k_ld0 hr.1 hL]), show ev (d + 4) 22 [.ref 1, .ref 1000002] σ = some (.inl (.int (oI32 (some w))), σ) from w', cI1_ok, if_neg nm1]
      rfl
    have mw : ∀ (τ : mm_M) (d : Nat), RM τ t m s → mI τ 53 7 = nI k → ∃ υ, ev (d + 5) 190 [.ref 53] τ = (if nI k = 60 then rn (d + 5) 190 49 [.ref 53, .int (nI w), uv, uv, uv, uv] [] υ else if 3 ≤ nI w then rn (d + 5) 190 58 [.ref 53, .int (nI w), uv, uv, uv, uv] [] υ else gR υ 12 53 11 fun r4 => aI υ r4 (nI w) fun r5 => cI1 (ev (d + 4) 188 [.int (nI w)] υ) fun r7 σ6 => if r5 = r7 then rn (d + 5) 190 49 [.ref 53, .int (nI w), uv, uv, uv, uv] [] σ6 else rn (d + 5) 190 58 [.ref 53, .int (nI w), uv, uv, uv, uv] [] σ6) ∧ RM υ t m s ∧ AgM nS0 f4 τ υ ∧ mI υ 53 4 = nI s := by
      intro τ d hr e7
      obtain ⟨τ1, a1, a2, a3, a4⟩ := u_kindHere (d := d) hr
      rw [hw] at a1
      refine ⟨τ1, ?_, a2, a3, a4⟩
      rw [e_M_clause (d + 4) 53 τ (by rw [k_53 hr.1]), show ev (d + 4) 187 [.ref 53] τ = some (.inl (.int (oI32 (some w))), τ1) from a1, cI_ok, if_neg nm1, xg_53 a2.1, a3.f (show ¬ (7 : Nat) = 4 by decide), e7]
      rfl
    by_cases fl : k = 60 ∨ fullL l w
    · refine ⟨.inl (3, s), ⟨by decide, by decide⟩, fun L σ d hL hr lz => ?_, fun τ d hr lt' e7 => ?_⟩
      · obtain ⟨υ, f1, f2⟩ := t_fail (d := d + 4) hr 3 s
        have e36 : rn (d + 5) 48 36 [.ref L, .ref 1, .int (nI k), .int (nI w)] [] σ = some (.inl (.int 0), υ) := by
          rw [e_Land_readClause_36, xg_1 hr.1, (t_kind hr).2, show ev (d + 4) 23 [.ref 1, .int 3, .int (nI s)] σ = _ from f1, cI1_ok, nar1_0]
        refine ⟨0, υ, ?_, rfl, f2.mono (fun _ => at1_lz)⟩
        rw [cw L σ d hL hr]
        by_cases z : k = 60
        · rw [if_pos (show (60 : Int32) ≤ nI k from nI_le (a := 60) (by omega) (by omega)), e36]
        · rw [if_neg (show ¬ (60 : Int32) ≤ nI k from nI_ge (b := 60) (by omega) (by decide)), (c_isFullL hL hr.1 lz ok w4).1 (fl.resolve_left z), cI_ok, if_neg (show ¬ (1 : Int32) = 0 by decide), e36]
      · obtain ⟨τ1, a1, a2, a3, a4⟩ := mw τ d hr e7
        obtain ⟨υ, w1, w2⟩ := u_wrong (d := d + 4) a2 3 s
        have mf := mf_lzt (ag_lz a3) (mf_lz w2)
        have s2 := mf.1.sh hr.1
        have lt2 : LzT τ1 (nP l) (nJ l) (nS l) l := LzT_o ok lt' (fun x hx => a3.at (fun z => by rw [z] at hx; unfold lzM at hx; omega) (fun q => q))
        have e49 : rn (d + 5) 190 49 [.ref 53, .int (nI w), uv, uv, uv, uv] [] τ1 = some (.inl uv, υ) := by
          rw [e_M_clause_49, xg_53 a2.1, a4, show ev (d + 4) 173 [.ref 53, .int 3, .int (nI s)] τ1 = _ from w1, cV_ok, e_M_clause_58, xg_53 s2, if_neg (mf.bad (by decide) (by decide))]
        refine ⟨υ, ?_, mf⟩
        rw [a1]
        by_cases z : k = 60
        · rw [if_pos (show nI k = (60 : Int32) by rw [z]; rfl), e49]
        · have fu := fl.resolve_left z
          have w3 : w < 3 := by unfold fullL at fu; omega
          rw [if_neg (show ¬ nI k = (60 : Int32) from fun y => z ((nI_eq (a := k) (b := 60) (by omega) (by decide)).mp y)), if_neg (show ¬ (3 : Int32) ≤ nI w from nI_ge (b := 3) w3 (by decide)), xr_53_11 a2.1, xa_56 a2.1 (by omega), cnt_at lt2 rfl rfl rfl w3, m_most w3, cI1_ok, if_pos ((full_iff ok w3).mpr fu), e49]
    · have k60 : k < 60 := by omega
      have nf : ¬ fullL l w := fun z => fl (Or.inr z)
      obtain ⟨r1, p1, c1, m1⟩ := sp_num (t := t) nx.2.1 ok w4 nf
      have cgo : ∀ (L : Nat) (σ : mm_M) (d : Nat), isLd L → RS σ t m s → LzC σ L l → ∃ x υ υ0, ev (d + 5) 48 [.ref L, .ref 1, .int (nI k)] σ = (if x = 0 then rn (d + 5) 48 72 [.ref L, .ref 1, .int (nI k), .int (nI w)] [] υ else cI1 (ev (d + 4) 20 [.ref 1, .int 59] υ) fun r9 σ8 => if r9 = 0 then rn (d + 5) 48 72 [.ref L, .ref 1, .int (nI k), .int (nI w)] [] σ8 else rn (d + 5) 48 73 [.ref L, .ref 1, .int (nI k), .int (nI w)] [.int 1] σ8) ∧ CrC t m L υ0 υ x r1 ∧ TG (lzS L) σ υ0 := by
        intro L σ d hL hr lz
        have hL' : L = 5 ∨ L = 38 := hL
        obtain ⟨υ0, n1, n2, n3⟩ := t_next (d := d + 4) hr
        obtain ⟨x, υ, b1, b2⟩ := c1 L υ0 (d + 1) hL n2 (LzC_o lz (fun k hk => n3.1.at (by unfold at1; omega)))
        refine ⟨x, υ, υ0, ?_, b2, n3.mono (fun _ => at1_lz)⟩
        rw [cw L σ d hL hr, if_neg (show ¬ (60 : Int32) ≤ nI k from nI_ge (b := 60) k60 (by decide)), (c_isFullL hL hr.1 lz ok w4).2 nf, cI_ok, if_pos (show (0 : Int32) = 0 from rfl), n1, cV1_ok, show ev (d + 4) 50 [.ref L, .ref 1, .int (nI w)] υ0 = _ from b1, cI_ok]
      have c72 : ∀ (L : Nat) (υ : mm_M) (d : Nat), rn (d + 5) 48 72 [.ref L, .ref 1, .int (nI k), .int (nI w)] [] υ = some (.inl (.int 0), υ) := by
        intro L υ d
        rw [e_Land_readClause_72, e_Land_readClause_73, nar1_0]
      have mgo : ∀ (τ : mm_M) (d : Nat), RM τ t m s → LzT τ (nP l) (nJ l) (nS l) l → mI τ 53 7 = nI k → ∃ υ υ0 v3 v4 v5, ev (d + 5) 190 [.ref 53] τ = rn (d + 5) 190 316 [.ref 53, .int (nI w), .int (cnt l w), v3, v4, v5] [] υ ∧ CrM t m l υ0 υ r1 ∧ AgM lzM lzF τ υ0 ∧ mI υ0 53 7 = nI (k + 1) ∧ Sh υ0 := by
        intro τ d hr lt' e7
        obtain ⟨τ1, a1, a2, a3, a4⟩ := mw τ d hr e7
        have lt2 : LzT τ1 (nP l) (nJ l) (nS l) l := LzT_o ok lt' (fun x hx => a3.at (fun z => by rw [z] at hx; unfold lzM at hx; omega) (fun q => q))
        obtain ⟨τ2, s1, s2, s3⟩ := u_skipWord (d := d + 3) a2 a4 k2
        have e7' : mI τ2 53 7 = nI k := by rw [s3.f (show ¬ (7 : Nat) = 4 by decide), a3.f (show ¬ (7 : Nat) = 4 by decide)]; exact e7
        have b2 : AgM nS0 (fun i => i = 7) τ2 (wI τ2 53 7 (nI (k + 1))) := AgM.w53 (F := fun i => i = 7) (AgM.refl _ _ τ2) rfl _
        have r2 : RM (wI τ2 53 7 (nI (k + 1))) t m (nxt t m s) := s2.agm b2 (fun z => z) (by omega) (by omega) (by omega)
        have A : AgM lzM lzF τ (wI τ2 53 7 (nI (k + 1))) := ((ag_lz a3).trans (ag_lz s3)).trans (b2.mono (fun _ q => q.elim) (fun i q => by unfold lzF; omega))
        have lt3 : LzT (wI τ2 53 7 (nI (k + 1))) (nP l) (nJ l) (nS l) l := LzT_o ok lt2 (fun x hx => by rw [rI_o (fun z => by rw [z] at hx; unfold lzM at hx; omega), s3.at (fun z => by rw [z] at hx; unfold lzM at hx; omega) (fun q => q)])
        obtain ⟨υ, v3, v4, v5, x1, x2⟩ := m1 (wI τ2 53 7 (nI (k + 1))) (d + 2) r2 lt3
        refine ⟨υ, _, v3, v4, v5, ?_, x2, A, w53e _ _ _, r2.1⟩
        have e58 : rn (d + 5) 190 58 [.ref 53, .int (nI w), uv, uv, uv, uv] [] τ1 = rn (d + 5) 190 316 [.ref 53, .int (nI w), .int (cnt l w), v3, v4, v5] [] υ := by
          rw [e_M_clause_58, xg_53 a2.1, a2.2.2.2.2.1, if_pos (show (0 : Int32) = 0 from rfl), show ev (d + 4) 180 [.ref 53] τ1 = _ from s1, cV_ok, xg_53 s2.1, e7', nI_1, xs_53 s2.1]
          by_cases z : w < 3
          · rw [if_neg (show ¬ (3 : Int32) ≤ nI w from nI_ge (b := 3) z (by decide)), xr_53_11 r2.1, xa_56 r2.1 (by omega), cnt_at lt3 rfl rfl rfl z]
            exact x1
          · have c0 : cnt l w = 0 := by unfold cnt; rw [if_neg (by omega), if_neg (by omega), if_neg (by omega)]
            rw [if_pos (show (3 : Int32) ≤ nI w from nI_le (a := 3) (by omega) (by omega))]
            rw [c0] at x1 ⊢
            exact x1
        rw [a1, if_neg (show ¬ nI k = (60 : Int32) from fun y => by have := (nI_eq (a := k) (b := 60) (by omega) (by decide)).mp y; omega)]
        by_cases z : w < 3
        · rw [if_neg (show ¬ (3 : Int32) ≤ nI w from nI_ge (b := 3) z (by decide)), xr_53_11 a2.1, xa_56 a2.1 (by omega), cnt_at lt2 rfl rfl rfl z, m_most z, cI1_ok, if_neg (fun y => nf ((full_iff ok z).mp y)), e58]
        · rw [if_pos (show (3 : Int32) ≤ nI w from nI_le (a := 3) (by omega) (by omega)), e58]
      clear c1 m1 cw mw
      match r1, p1, cgo, mgo with
      | .inl (e, p), p1, cgo, mgo =>
        refine ⟨.inl (e, p), p1, fun L σ d hL hr lz => ?_, fun τ d hr lt' e7 => ?_⟩
        · obtain ⟨x, υ, υ0, a1, ⟨rfl, a2⟩, a3⟩ := cgo L σ d hL hr lz
          exact ⟨0, υ, by rw [a1, if_pos rfl, c72], rfl, a3.tf a2⟩
        · obtain ⟨υ, υ0, v3, v4, v5, a1, a2, a3, a4, a5⟩ := mgo τ d hr lt' e7
          have a2 : MF lzM f456 υ0 υ e p := a2
          have mf : MF lzM lzF τ υ e p := mf_lzt a3 (a2.mono (fun _ q => q) (fun i q => by unfold f456 at q; unfold lzF; omega))
          obtain ⟨φ, l1, l2⟩ := l316F (d := d + 3) (x2 := cnt l w) (v3 := v3) (v4 := v4) (v5 := v5) (mf.1.sh hr.1) mf p1.1 p1.2 w4
          exact ⟨φ, by rw [a1]; exact l1, l2⟩
      | .inr (s2, l'), p1, cgo, mgo =>
        obtain ⟨q1, q2, q3, q4, q5, q6⟩ := p1
        have nx2 := nxt_le (t := t) q2
        by_cases sg : s2 < m ∧ t s2 = 59
        · have l2 := nx2.2.2 sg.1
          refine ⟨.inr (nxt t m s2, l'), ⟨by omega, nx2.2.1, q3, k60⟩, fun L σ d hL hr lz => ?_, fun τ d hr lt' e7 => ?_⟩
          · have hL' : L = 5 ∨ L = 38 := hL
            obtain ⟨x, υ, υ0, a1, ⟨rfl, b1, b2, b3⟩, a3⟩ := cgo L σ d hL hr lz
            obtain ⟨φ, w1, w2, w3⟩ := (t_take (d := d + 3) b1 sg59).1 sg
            refine ⟨1, φ, ?_, rfl, w2, LzC_o b2 (fun k hk => w3.1.at (by unfold at1; omega)), (a3.trans b3).trans (w3.mono (fun _ => at1_lz))⟩
            rw [a1, if_neg (show ¬ (1 : Int32) = 0 by decide), show ev (d + 4) 20 [.ref 1, .int 59] υ = _ from w1, cI1_ok, if_neg (show ¬ (1 : Int32) = 0 by decide), e_Land_readClause_73, nar1_1]
          · obtain ⟨υ, υ0, v3, v4, v5, a1, ⟨b1, b2, b3⟩, a3, a4, a5⟩ := mgo τ d hr lt' e7
            obtain ⟨φ, w1, w2, w3⟩ := (u_sign (d := d + 2) b1 sg59).1 sg
            have e7f : mI φ 53 7 = nI (k + 1) := by rw [w3.f (show ¬ (7 : Nat) = 4 by decide), b3.f (show ¬ (7 : Nat) = 4 by decide)]; exact a4
            have A : AgM lzM lzF τ φ := (a3.trans (b3.mono (fun _ q => q) (fun i q => Or.inl q))).trans (ag_lz w3)
            have ltf : LzT φ (nP l) (nJ l) (nS l) l' := LzT_o q3 b2 (fun x hx => w3.at (fun z => by rw [z] at hx; unfold lzM at hx; omega) (fun q => q))
            by_cases z : w < 3
            · have c5 : mI φ 56 w = cnt l w := by
                obtain ⟨⟨x1, x2, x3, -⟩, -⟩ := ltf
                have hc : w = 0 ∨ w = 1 ∨ w = 2 := by omega
                rcases hc with rfl | rfl | rfl
                · exact x1
                · exact x2
                · exact x3
              have ag0 : AgM lzM nS0 φ (wI φ 56 w (cnt l w + 1)) := AgM.of (S := fun a => a = 56) (Ag.wI (S := fun a => a = 56) (Ag.refl _ φ) rfl _ _) (fun _ q => Or.inl q) (by omega)
              refine ⟨wI φ 56 w (cnt l w + 1), ?_, w2.agm ag0 (by unfold lzM; omega) (fun q => q) (fun q => q) (fun q => q), LzT_c (v := 0) ltf q4 q5 q6 w4 (fun x hx => rI_o hx) (fun i => ?_) (fun _ _ _ => trivial), by rw [rI_o (by decide)]; exact e7f, A.trans (ag0.mono (fun _ q => q) (fun _ q => q.elim))⟩
              · rw [a1, e_M_clause_316, show ev (d + 4) 182 [.ref 53, .int 59] υ = _ from w1, cV_ok, if_neg (show ¬ (3 : Int32) ≤ nI w from nI_ge (b := 3) z (by decide)), xr_53_11 w2.1, xa_56 w2.1 (by omega), c5, xg_53 w2.1, w2.2.2.2.2.1, if_pos (show (0 : Int32) = 0 from rfl), e_M_clause_346, xt_56 w2.1 (by omega), e_M_clause_348]
              · rw [rI_w]
                by_cases y : i = w
                · rw [if_pos ⟨rfl, y⟩, if_pos ⟨z, y⟩]
                · rw [if_neg (fun x => y x.2), if_neg (fun x => y x.2)]
            · refine ⟨φ, ?_, w2, LzT_c (v := 0) ltf q4 q5 q6 w4 (fun x hx => rfl) (fun i => by rw [if_neg (fun x => z x.1)]) (fun _ _ _ => trivial), e7f, A⟩
              rw [a1, e_M_clause_316, show ev (d + 4) 182 [.ref 53, .int 59] υ = _ from w1, cV_ok, if_pos (show (3 : Int32) ≤ nI w from nI_le (a := 3) (by omega) (by omega)), e_M_clause_348]
        · refine ⟨.inl (1, s2), ⟨by decide, by decide⟩, fun L σ d hL hr lz => ?_, fun τ d hr lt' e7 => ?_⟩
          · obtain ⟨x, υ, υ0, a1, ⟨rfl, b1, b2, b3⟩, a3⟩ := cgo L σ d hL hr lz
            obtain ⟨φ, w1, w2⟩ := (t_take (d := d + 3) b1 sg59).2 sg
            refine ⟨0, φ, ?_, rfl, (a3.trans b3).tf (w2.mono (fun _ => at1_lz))⟩
            rw [a1, if_neg (show ¬ (1 : Int32) = 0 by decide), show ev (d + 4) 20 [.ref 1, .int 59] υ = _ from w1, cI1_ok, if_pos rfl, c72]
          · obtain ⟨υ, υ0, v3, v4, v5, a1, ⟨b1, b2, b3⟩, a3, a4, a5⟩ := mgo τ d hr lt' e7
            obtain ⟨φ, w1, w2⟩ := (u_sign (d := d + 2) b1 sg59).2 sg
            have mf : MF lzM lzF τ φ 1 s2 := mf_lzt (a3.trans (b3.mono (fun _ q => q) (fun i q => Or.inl q))) (mf_lz w2)
            have s4 := mf.1.sh hr.1
            have n5 := mf.bad (by decide) (by decide)
            by_cases z : w < 3
            · refine ⟨wI φ 56 w (mI φ 56 w + 0), ?_, mf_56 mf⟩
              rw [a1, e_M_clause_316, show ev (d + 4) 182 [.ref 53, .int 59] υ = _ from w1, cV_ok, if_neg (show ¬ (3 : Int32) ≤ nI w from nI_ge (b := 3) z (by decide)), xr_53_11 s4, xa_56 s4 (by omega), xg_53 s4, if_neg n5, e_M_clause_346, xt_56 s4 (by omega), e_M_clause_348]
            · refine ⟨φ, ?_, mf⟩
              rw [a1, e_M_clause_316, show ev (d + 4) 182 [.ref 53, .int 59] υ = _ from w1, cV_ok, if_pos (show (3 : Int32) ≤ nI w from nI_le (a := 3) (by omega) (by omega)), e_M_clause_348]
def LaP (r : (Nat × Nat) ⊕ Ln) : Prop := match r with
  | .inl (e, _) => 1 ≤ e ∧ e ≤ 3
  | .inr l' => LnOK l'
def LaC (L : Nat) (σ υ : mm_M) (x : Int32) (r : (Nat × Nat) ⊕ Ln) : Prop := match r with
  | .inl (e, p) => x = 0 ∧ TF (lzS L) σ υ e p
  | .inr l' => x = 1 ∧ LzC υ L l' ∧ TG (lzS L) σ υ
def LaM (τ υ : mm_M) (r : (Nat × Nat) ⊕ Ln) : Prop := match r with
  | .inl (e, p) => MF lzM lzF τ υ e p
  | .inr l' => mI υ 53 5 = 0 ∧ LzT υ (nP l') (nJ l') (nS l') l' ∧ AgM lzM lzF τ υ
theorem cl_all : ∀ g s l k, m - s = g → s ≤ m → LnOK l → k ≤ 60 → ∃ r : (Nat × Nat) ⊕ Ln, LaP r ∧
    (∀ L σ d, isLd L → RS σ t m s → LzC σ L l → ∃ x υ, rn (d + 6) 47 36 [.ref L, .ref 1, .int (nI k)] [] σ = some (.inl (.int x), υ) ∧ LaC L σ υ x r) ∧
    (∀ τ d x1, RM τ t m s → mI τ 53 4 = nI s → LzT τ (nP l) (nJ l) (nS l) l → mI τ 53 7 = nI k → ∃ υ, rn (d + 6) 191 42 [.ref 53, .int x1] [] τ = rn (d + 6) 191 71 [.ref 53, .int x1] [] υ ∧ LaM τ υ r) := by
  intro g
  induction g using Nat.strongRecOn with
  | _ g ih =>
    intro s l k hg hs ok hk
    have n60 : ¬ (60 : Int32) < nI k := nI_nlt (a := 60) (by omega) (by omega)
    by_cases z : s = m
    · subst z
      refine ⟨.inr l, ok, fun L σ d hL hr lz => ?_, fun τ d x1 hr e4 lt e7 => ?_⟩
      · refine ⟨1, σ, ?_, rfl, lz, TG.refl _ _⟩
        rw [e_Land_read_36, if_neg n60, xg_1 hr.1, (t_kind hr).1, (tk_end (Nat.le_refl _)).mpr rfl, if_pos (show nI 0 = (0 : Int32) from rfl), e_Land_read_66, nar1_1]
      · refine ⟨τ, ?_, hr.2.2.2.2.1, lt, AgM.refl _ _ _⟩
        rw [e_M_land_42, xg_53 hr.1, hr.2.2.2.2.1, if_pos (show (0 : Int32) = 0 from rfl), xg_53 hr.1, e4, xg_53 hr.1, hr.2.2.2.1, if_pos (nI_le (Nat.le_refl _) (by have := hr.2.1.1; omega))]
    · have lt : s < m := by omega
      have nk : ¬ nI (tkK t m s) = (0 : Int32) := fun y => by
        have := (nI_eq (a := tkK t m s) (b := 0) (by have := tkK_le (t := t) (n := m) (s := s); omega) (by decide)).mp y
        exact z ((tk_end hs).mp this)
      obtain ⟨r1, f1, c1, m1⟩ := cl_line (t := t) hs ok hk
      have cst : ∀ (L : Nat) (σ : mm_M) (d : Nat), isLd L → RS σ t m s → rn (d + 6) 47 36 [.ref L, .ref 1, .int (nI k)] [] σ = (cI (ev (d + 5) 48 [.ref L, .ref 1, .int (nI k)] σ) fun r3 σ2 => if r3 = 0 then some (Sum.inl (Value.int (nar 1 0)), σ2) else rn (d + 6) 47 36 [.ref L, .ref 1, .int (nI (k + 1))] [] σ2) := by
        intro L σ d hL hr
        rw [e_Land_read_36, if_neg n60, xg_1 hr.1, (t_kind hr).1, if_neg nk, nI_1]
      have mst : ∀ (τ : mm_M) (d : Nat) (x1 : Int32), RM τ t m s → mI τ 53 4 = nI s → rn (d + 6) 191 42 [.ref 53, .int x1] [] τ = (cV (ev (d + 5) 190 [.ref 53] τ) fun σ4 => cV (ev (d + 5) 172 [.ref 53] σ4) fun σ5 => rn (d + 6) 191 42 [.ref 53, .int x1] [] σ5) := by
        intro τ d x1 hr e4
        rw [e_M_land_42, xg_53 hr.1, hr.2.2.2.2.1, if_pos (show (0 : Int32) = 0 from rfl), xg_53 hr.1, e4, xg_53 hr.1, hr.2.2.2.1, if_neg (nI_ge lt (by have := hr.2.1.1; omega))]
      match r1, f1, c1, m1 with
      | .inl (e, p), f1, c1, m1 =>
        refine ⟨.inl (e, p), f1, fun L σ d hL hr lz => ?_, fun τ d x1 hr e4 lt' e7 => ?_⟩
        · obtain ⟨x, υ, q1, ⟨rfl, q2⟩⟩ := c1 L σ d hL hr lz
          refine ⟨0, υ, ?_, rfl, q2⟩
          rw [cst L σ d hL hr, q1, cI_ok, if_pos rfl, nar1_0]
        · obtain ⟨υ, q1, q2⟩ := m1 τ d hr lt' e7
          have q2 : MF lzM lzF τ υ e p := q2
          have s1 := q2.1.sh hr.1
          obtain ⟨i, i1, i2⟩ := q2.2.2.2
          have tx : TxM υ t m := ⟨hr.2.1.1, hr.2.1.2.1, fun k hk => by rw [q2.1.at (by decide) (by unfold lzM; omega)]; exact hr.2.1.2.2 k hk⟩
          obtain ⟨φ, v1, v2, v3⟩ := u_blanksF (d := d + 4) s1 tx (by rw [q2.1.f (by unfold lzF; omega)]; exact hr.2.2.2.1) i1 i2
          have s2 := v2.sh s1
          have mf : MF lzM lzF τ φ e p := ⟨q2.1.trans (ag_lz v2), by rw [v2.f (show ¬ (5 : Nat) = 4 by decide)]; exact q2.2.1, by rw [v2.f (show ¬ (6 : Nat) = 4 by decide)]; exact q2.2.2.1, v3⟩
          refine ⟨φ, ?_, mf⟩
          rw [mst τ d x1 hr e4, q1, cV_ok, show ev (d + 5) 172 [.ref 53] υ = _ from v1, cV_ok, e_M_land_42, xg_53 s2, if_neg (mf.bad f1.1 f1.2)]
      | .inr (s', l'), f1, c1, m1 =>
        obtain ⟨g1, g2, g3, g4⟩ := f1
        obtain ⟨r, k1, k2, k3⟩ := ih (m - s') (by omega) s' l' (k + 1) rfl g2 g3 (by omega)
        refine ⟨r, k1, fun L σ d hL hr lz => ?_, fun τ d x1 hr e4 lt' e7 => ?_⟩
        · obtain ⟨x, υ, q1, ⟨rfl, q2, q3, q4⟩⟩ := c1 L σ d hL hr lz
          obtain ⟨x', φ, p1, p2⟩ := k2 L υ d hL q2 q3
          refine ⟨x', φ, ?_, ?_⟩
          · rw [cst L σ d hL hr, q1, cI_ok, if_neg (show ¬ (1 : Int32) = 0 by decide)]
            exact p1
          · match r, p2 with
            | .inl (e, p), p2 => exact ⟨p2.1, q4.tf p2.2⟩
            | .inr b', p2 => exact ⟨p2.1, p2.2.1, q4.trans p2.2.2⟩
        · obtain ⟨υ, q1, ⟨q2, q3, q4, q5⟩⟩ := m1 τ d hr lt' e7
          obtain ⟨υ', y1, y2, y3, y4⟩ := u_blanks (d := d + 4) q2
          obtain ⟨φ, p1, p2⟩ := k3 υ' d x1 y2 y4 (LzT_o g3 q3 (fun x hx => y3.at (fun z => by rw [z] at hx; unfold lzM at hx; omega) (fun q => q))) (by rw [y3.f (show ¬ (7 : Nat) = 4 by decide)]; exact q4)
          have A := q5.trans (ag_lz y3)
          refine ⟨φ, ?_, ?_⟩
          · rw [mst τ d x1 hr e4, q1, cV_ok, show ev (d + 5) 172 [.ref 53] υ = _ from y1, cV_ok]
            exact p1
          · match r, p2 with
            | .inl (e, p), p2 => exact mf_lzt A p2
            | .inr b', p2 => exact ⟨p2.1, p2.2.1, A.trans p2.2.2⟩
end LandC
