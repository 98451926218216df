/-! reading a LAW: the reference, all of it -/
theorem wN_hit {t : Nat → Nat} {n s : Nat} {w : List Nat} {r : List (List Nat)} {k : Nat} (h : isW t n s w) : wN t n s (w :: r) k = some k := by
  show @ite _ (isW t n s w) (Classical.propDecidable _) (some k) (wN t n s r (k + 1)) = some k
  rw [if_pos h]
theorem wN_miss {t : Nat → Nat} {n s : Nat} {w : List Nat} {r : List (List Nat)} {k : Nat} (h : ¬ isW t n s w) : wN t n s (w :: r) k = wN t n s r (k + 1) := by
  show @ite _ (isW t n s w) (Classical.propDecidable _) (some k) (wN t n s r (k + 1)) = _
  rw [if_neg h]
def kNx (t : Nat → Nat) (n s : Nat) : Option Nat → Nat
  | none => s
  | some _ => nxt t n s
def wOK (w : List Nat) : Bool := decide (0 < w.length) && decide (w.length ≤ 6) && w.all (fun c => decide (97 ≤ c) && decide (c ≤ 122))
theorem wOK_ok {w : List Nat} (h : wOK w = true) : 0 < w.length ∧ w.length ≤ 6 ∧ ∀ j, j < w.length → 97 ≤ w.getD j 0 ∧ w.getD j 0 ≤ 122 := by
  unfold wOK at h
  simp only [Bool.and_eq_true, decide_eq_true_eq, List.all_eq_true] at h
  refine ⟨h.1.1, h.1.2, fun j hj => ?_⟩
  rw [List.getD_eq_getElem?_getD, List.getElem?_eq_getElem hj]
  exact h.2 _ (List.getElem_mem hj)
section LawN
variable {d : Nat} {t : Nat → Nat} {n s : Nat} {τ : mm_M}
theorem u_tk (h : RM τ t n s) (w : List Nat) (a b c x y z : Int32) (hw : wOK w = true) (e : sixF a b c x y z = nI (encN (fun j => w.getD j 0 - 96) w.length)) :
    (isW t n s w → ∃ υ, ev (d + 4) 181 [.ref 53, .int a, .int b, .int c, .int x, .int y, .int z] τ = some (.inl (.int 1), υ) ∧ RM υ t n (nxt t n s) ∧ AgM nS0 f4 τ υ) ∧
    (¬ isW t n s w → ∃ υ, ev (d + 4) 181 [.ref 53, .int a, .int b, .int c, .int x, .int y, .int z] τ = some (.inl (.int 0), υ) ∧ RM υ t n s ∧ AgM nS0 f4 τ υ) := by
  obtain ⟨h1, h2, h3⟩ := wOK_ok hw
  haveI := Classical.propDecidable (isW t n s w)
  obtain ⟨υ, r1, r2, r3⟩ := u_takes (d := d) h h1 h2 h3 e
  refine ⟨fun q => ?_, fun q => ?_⟩
  · rw [i01_p q] at r1; rw [if_pos q] at r2; exact ⟨υ, r1, r2, r3⟩
  · rw [i01_n q] at r1; rw [if_neg q] at r2; exact ⟨υ, r1, r2, r3⟩
theorem u_isW (h : RM τ t n s) (w : List Nat) (a b c x y z : Int32) (hw : wOK w = true) (e : sixF a b c x y z = nI (encN (fun j => w.getD j 0 - 96) w.length)) :
    (isW t n s w → ∃ υ, ev (d + 3) 179 [.ref 53, .int a, .int b, .int c, .int x, .int y, .int z] τ = some (.inl (.int 1), υ) ∧ RM υ t n s ∧ AgM nS0 f4 τ υ ∧ mI υ 53 4 = nI s) ∧
    (¬ isW t n s w → ∃ υ, ev (d + 3) 179 [.ref 53, .int a, .int b, .int c, .int x, .int y, .int z] τ = some (.inl (.int 0), υ) ∧ RM υ t n s ∧ AgM nS0 f4 τ υ ∧ mI υ 53 4 = nI s) := by
  obtain ⟨h1, h2, h3⟩ := wOK_ok hw
  haveI := Classical.propDecidable (isW t n s w)
  obtain ⟨υ, r1, r2, r3⟩ := u_isWord (d := d) h h1 h2 h3 e
  refine ⟨fun q => ?_, fun q => ?_⟩
  · rw [i01_p q] at r1; exact ⟨υ, r1, r2, r3⟩
  · rw [i01_n q] at r1; exact ⟨υ, r1, r2, r3⟩
theorem u_knownH (hr : RM τ t n s) : ∃ υ, ev (d + 5) 199 [.ref 53] τ = some (.inl (.int (oI32 (wN t n s wds1 0))), υ) ∧ RM υ t n (kNx t n s (wN t n s wds1 0)) ∧ AgM nS0 f4 τ υ := by
  rw [show wds1 = [[115, 116, 114, 111, 110, 103], [97, 112, 97, 114, 116], [119, 111, 114, 110], [116, 111, 108, 100], [100, 105, 109, 112, 108, 101, 115], [103, 114, 105, 101, 102], [110, 101, 97, 114], [116, 104, 105, 114, 115, 116], [100, 97, 121], [112, 101, 114, 115, 111, 110]] from rfl, e_M_knownHere (d + 4) 53 τ (by rw [k_53 hr.1])]
  have g0 := AgM.refl nS0 f4 τ
  have r0 := hr
  by_cases q0 : isW t n s [115, 116, 114, 111, 110, 103]
  · obtain ⟨υ, a, b, c⟩ := (u_tk (d := d) r0 [115, 116, 114, 111, 110, 103] 19 20 18 15 14 7 (by decide) (by decide)).1 q0; rw [a, cI_ok, if_neg (by decide), nar0, wN_hit q0]; exact ⟨υ, rfl, b, g0.trans c⟩
  obtain ⟨τ1, a0, r1, c0⟩ := (u_tk (d := d) r0 [115, 116, 114, 111, 110, 103] 19 20 18 15 14 7 (by decide) (by decide)).2 q0
  rw [a0, cI_ok, if_pos rfl, wN_miss q0]
  have g1 := g0.trans c0
  by_cases q1 : isW t n s [97, 112, 97, 114, 116]
  · obtain ⟨υ, a, b, c⟩ := (u_tk (d := d) r1 [97, 112, 97, 114, 116] 1 16 1 18 20 0 (by decide) (by decide)).1 q1; rw [a, cI_ok, if_neg (by decide), nar0, wN_hit q1]; exact ⟨υ, rfl, b, g1.trans c⟩
  obtain ⟨τ2, a1, r2, c1⟩ := (u_tk (d := d) r1 [97, 112, 97, 114, 116] 1 16 1 18 20 0 (by decide) (by decide)).2 q1
  rw [a1, cI_ok, if_pos rfl, wN_miss q1]
  have g2 := g1.trans c1
  by_cases q2 : isW t n s [119, 111, 114, 110]
  · obtain ⟨υ, a, b, c⟩ := (u_tk (d := d) r2 [119, 111, 114, 110] 23 15 18 14 0 0 (by decide) (by decide)).1 q2; rw [a, cI_ok, if_neg (by decide), nar0, wN_hit q2]; exact ⟨υ, rfl, b, g2.trans c⟩
  obtain ⟨τ3, a2, r3, c2⟩ := (u_tk (d := d) r2 [119, 111, 114, 110] 23 15 18 14 0 0 (by decide) (by decide)).2 q2
  rw [a2, cI_ok, if_pos rfl, wN_miss q2]
  have g3 := g2.trans c2
  by_cases q3 : isW t n s [116, 111, 108, 100]
  · obtain ⟨υ, a, b, c⟩ := (u_tk (d := d) r3 [116, 111, 108, 100] 20 15 12 4 0 0 (by decide) (by decide)).1 q3; rw [a, cI_ok, if_neg (by decide), nar0, wN_hit q3]; exact ⟨υ, rfl, b, g3.trans c⟩
  obtain ⟨τ4, a3, r4, c3⟩ := (u_tk (d := d) r3 [116, 111, 108, 100] 20 15 12 4 0 0 (by decide) (by decide)).2 q3
  rw [a3, cI_ok, if_pos rfl, wN_miss q3]
  have g4 := g3.trans c3
  rw [m_six, cI1_ok, show sixF 4 9 13 16 12 5 = nI (encN (fun j => [100, 105, 109, 112, 108, 101].getD j 0 - 96) 6) by decide]
  haveI := Classical.propDecidable (isW t n s [100, 105, 109, 112, 108, 101, 115])
  obtain ⟨τ5, a4, b4, c4⟩ := u_seven (d := d + 2) r4
  by_cases q4 : isW t n s [100, 105, 109, 112, 108, 101, 115]
  · rw [i01_p q4] at a4; rw [if_pos q4] at b4; rw [a4, cI_ok, if_neg (by decide), nar0, wN_hit q4]; exact ⟨τ5, rfl, b4, g4.trans c4⟩
  rw [i01_n q4] at a4; rw [if_neg q4] at b4; rw [a4, cI_ok, if_pos rfl, wN_miss q4]
  have g5 := g4.trans c4
  have r5 := b4
  by_cases q5 : isW t n s [103, 114, 105, 101, 102]
  · obtain ⟨υ, a, b, c⟩ := (u_tk (d := d) r5 [103, 114, 105, 101, 102] 7 18 9 5 6 0 (by decide) (by decide)).1 q5; rw [a, cI_ok, if_neg (by decide), nar0, wN_hit q5]; exact ⟨υ, rfl, b, g5.trans c⟩
  obtain ⟨τ6, a5, r6, c5⟩ := (u_tk (d := d) r5 [103, 114, 105, 101, 102] 7 18 9 5 6 0 (by decide) (by decide)).2 q5
  rw [a5, cI_ok, if_pos rfl, wN_miss q5]
  have g6 := g5.trans c5
  by_cases q6 : isW t n s [110, 101, 97, 114]
  · obtain ⟨υ, a, b, c⟩ := (u_tk (d := d) r6 [110, 101, 97, 114] 14 5 1 18 0 0 (by decide) (by decide)).1 q6; rw [a, cI_ok, if_neg (by decide), nar0, wN_hit q6]; exact ⟨υ, rfl, b, g6.trans c⟩
  obtain ⟨τ7, a6, r7, c6⟩ := (u_tk (d := d) r6 [110, 101, 97, 114] 14 5 1 18 0 0 (by decide) (by decide)).2 q6
  rw [a6, cI_ok, if_pos rfl, wN_miss q6]
  have g7 := g6.trans c6
  by_cases q7 : isW t n s [116, 104, 105, 114, 115, 116]
  · obtain ⟨υ, a, b, c⟩ := (u_tk (d := d) r7 [116, 104, 105, 114, 115, 116] 20 8 9 18 19 20 (by decide) (by decide)).1 q7; rw [a, cI_ok, if_neg (by decide), nar0, wN_hit q7]; exact ⟨υ, rfl, b, g7.trans c⟩
  obtain ⟨τ8, a7, r8, c7⟩ := (u_tk (d := d) r7 [116, 104, 105, 114, 115, 116] 20 8 9 18 19 20 (by decide) (by decide)).2 q7
  rw [a7, cI_ok, if_pos rfl, wN_miss q7]
  have g8 := g7.trans c7
  by_cases q8 : isW t n s [100, 97, 121]
  · obtain ⟨υ, a, b, c⟩ := (u_tk (d := d) r8 [100, 97, 121] 4 1 25 0 0 0 (by decide) (by decide)).1 q8; rw [a, cI_ok, if_neg (by decide), nar0, wN_hit q8]; exact ⟨υ, rfl, b, g8.trans c⟩
  obtain ⟨τ9, a8, r9, c8⟩ := (u_tk (d := d) r8 [100, 97, 121] 4 1 25 0 0 0 (by decide) (by decide)).2 q8
  rw [a8, cI_ok, if_pos rfl, wN_miss q8]
  have g9 := g8.trans c8
  by_cases q9 : isW t n s [112, 101, 114, 115, 111, 110]
  · obtain ⟨υ, a, b, c⟩ := (u_tk (d := d) r9 [112, 101, 114, 115, 111, 110] 16 5 18 19 15 14 (by decide) (by decide)).1 q9; rw [a, cI_ok, if_neg (by decide), e_M_knownHere_200, nar0, wN_hit q9]; exact ⟨υ, rfl, b, g9.trans c⟩
  obtain ⟨τ10, a9, r10, c9⟩ := (u_tk (d := d) r9 [112, 101, 114, 115, 111, 110] 16 5 18 19 15 14 (by decide) (by decide)).2 q9
  rw [a9, cI_ok, if_pos rfl, wN_miss q9]
  have g10 := g9.trans c9
  rw [e_M_knownHere_200, nar0]; exact ⟨τ10, rfl, r10, g10⟩
/-- how a reading ends -/
def MRes (t : Nat → Nat) (n op : Nat) (τ υ : mm_M) (r : PR) : Prop := match r with
  | .inr q => RM υ t n q.1 ∧ LM υ q.2 ∧ AgM lmS lmF τ υ ∧ mI υ 53 8 = nI op
  | .inl q => MF lmS lmF τ υ q.1 q.2 ∧ 1 ≤ q.1 ∧ q.1 ≤ 3
theorem MRes.after {op : Nat} {τ υ φ : mm_M} {r : PR} (h : AgM lmS lmF τ υ) (g : MRes t n op υ φ r) : MRes t n op τ φ r := by
  match r, g with
  | .inr q, g => exact ⟨g.1, g.2.1, h.trans g.2.2.1, g.2.2.2⟩
  | .inl q, g => exact ⟨g.1.after h, g.2⟩
def MU (d : Nat) (t : Nat → Nat) (n k : Nat) : Prop := ∀ op e s out τ r, op + e = 6 → lpF t n k 4 op s out = some r → RM τ t n s → LM τ out → out.length ≤ s → mI τ 53 8 = nI op → ∃ υ, ev (d + 6 + 3 * e) 200 [.ref 53] τ = some (.inl uv, υ) ∧ MRes t n op τ υ r
def MP (d : Nat) (t : Nat → Nat) (n k : Nat) : Prop := ∀ op e s out τ r, op + e = 6 → lpF t n k 2 op s out = some r → RM τ t n s → LM τ out → out.length ≤ s → mI τ 53 8 = nI op → ∃ υ, ev (d + 7 + 3 * e) 198 [.ref 53] τ = some (.inl uv, υ) ∧ MRes t n op τ υ r
def MSm (d : Nat) (t : Nat → Nat) (n k : Nat) : Prop := ∀ op e s out τ r, op + e = 6 → lpF t n k 0 op s out = some r → RM τ t n s → LM τ out → out.length ≤ s → mI τ 53 8 = nI op → ∃ υ, ev (d + 8 + 3 * e) 197 [.ref 53] τ = some (.inl uv, υ) ∧ MRes t n op τ υ r
def MPl (d : Nat) (t : Nat → Nat) (n k : Nat) : Prop := ∀ op e s out τ r v, op + e = 6 → lpF t n k 3 op s out = some r → RM τ t n s → LM τ out → out.length ≤ s → mI τ 53 8 = nI op → ∃ υ, rn (d + 7 + 3 * e) 198 4 [.ref 53, v] [] τ = some (.inl uv, υ) ∧ MRes t n op τ υ r
def MSl (d : Nat) (t : Nat → Nat) (n k : Nat) : Prop := ∀ op e s out τ r v, op + e = 6 → lpF t n k 1 op s out = some r → RM τ t n s → LM τ out → out.length ≤ s → mI τ 53 8 = nI op → ∃ υ, rn (d + 8 + 3 * e) 197 4 [.ref 53, v] [] τ = some (.inl uv, υ) ∧ MRes t n op τ υ r
theorem mf5 {e : Nat} (h1 : 1 ≤ e) (h3 : e ≤ 3) : ¬ nI e = (0 : Int32) := fun z => by
  have := (nI_eq (a := e) (b := 0) (by omega) (by decide)).mp z
  omega
theorem MF.bad {S F : Nat → Prop} {τ υ : mm_M} {e p : Nat} (h : MF S F τ υ e p) (h1 : 1 ≤ e) (h3 : e ≤ 3) : ¬ mI υ 53 5 = 0 := by rw [h.2.1]; exact mf5 h1 h3
theorem LM.go4 {τ υ : mm_M} {out : List Nat} (h : LM τ out) (hl : out.length ≤ 160) (a : AgM nS0 f4 τ υ) : LM υ out := h.agm a hl (fun _ _ z => z) (show ¬ (20 : Nat) = 4 by decide)
theorem AgM.f4up {τ υ : mm_M} (a : AgM nS0 f4 τ υ) : AgM lmS lmF τ υ := a.mono (fun _ => nS_lm) (fun _ => f4_lm)
theorem MF.up {τ υ : mm_M} {e p : Nat} (a : MF nS0 f456 τ υ e p) : MF lmS lmF τ υ e p := a.mono (fun _ => nS_lm) (fun _ => f456_lm)
/-- a sign, taken or not -/
theorem u_tS (h : RM τ t n s) {c : Nat} (hc : isS c) :
    ((s < n ∧ t s = c) → ∃ υ, ev (d + 2) 183 [.ref 53, .int (nI c)] τ = some (.inl (.int 1), υ) ∧ RM υ t n (nxt t n s) ∧ AgM nS0 f4 τ υ) ∧
    (¬ (s < n ∧ t s = c) → ∃ υ, ev (d + 2) 183 [.ref 53, .int (nI c)] τ = some (.inl (.int 0), υ) ∧ RM υ t n s ∧ AgM nS0 f4 τ υ) := by
  obtain ⟨υ, r1, r2, r3⟩ := u_takesSign (d := d) h hc
  refine ⟨fun q => ?_, fun q => ?_⟩
  · rw [i01_p q] at r1; rw [if_pos q] at r2; exact ⟨υ, r1, r2, r3⟩
  · rw [i01_n q] at r1; rw [if_neg q] at r2; exact ⟨υ, r1, r2, r3⟩
theorem men_op {k : Nat} (h1 : 1010 ≤ k) (h2 : k ≤ 1016) : MEn (nI k) (nI (2 + (k - 1010))) 0 := ⟨k, h2, rfl, Or.inr (Or.inr ⟨h1, rfl⟩)⟩
theorem m_Sl (hn : n ≤ 150) {k : Nat} (hU : MP d t n k) (hL : MSl d t n k) : MSl d t n (k + 1) := by
  intro op e s out τ r v he h hr hl ho e8
  have hs := hr.2.2.1
  have hsh := hr.1
  have e5 : mI τ 53 5 = 0 := hr.2.2.2.2.1
  have nx := nxt_le (t := t) hs
  have h : pls (sOp t n s) (some (.inr (s, out))) (fun c => pb (lpF t n k 2 op (nxt t n s) out) fun s' o' => lpF t n k 1 op s' (o' ++ [c])) = some r := h
  have go : ∀ c τ1, sOp t n s = some c → RM τ1 t n (nxt t n s) → AgM nS0 f4 τ τ1 → ∃ υ, rn (d + 7 + 3 * e + 1) 197 38 [.ref 53, v] [.int (nI (2 + (c - 1010)))] τ1 = some (.inl uv, υ) ∧ MRes t n op τ υ r := by
    intro c τ1 q n2 n3
    obtain ⟨z1, z2, z3, -⟩ := sOp_some q
    rw [q] at h
    have h : pb (lpF t n k 2 op (nxt t n s) out) (fun s' o' => lpF t n k 1 op s' (o' ++ [c])) = some r := h
    have lt := nx.2.2 z1
    rw [e_M_sum_38, if_neg (nI_m1 (by omega))]
    cases hx : lpF t n k 2 op (nxt t n s) out with
    | none => rw [hx] at h; cases h
    | some r1 =>
      rw [hx] at h
      obtain ⟨υ, u1, u2⟩ := hU op e (nxt t n s) out τ1 r1 he hx n2 (hl.go4 (by omega) n3) (by omega) (by rw [n3.f (by unfold f4; omega)]; exact e8)
      rw [u1, cV_ok]
      match r1, u2, h, hx with
      | .inl q, u2, h, _ =>
        obtain ⟨u3, u4, u5⟩ := u2
        cases h
        have sh := u3.1.sh n2.1
        have bad := u3.bad u4 u5
        rw [u_notesF sh bad, cV_ok, e_M_sum_4, xg_53 sh, if_neg bad]
        exact ⟨υ, rfl, u3.after n3.f4up, u4, u5⟩
      | .inr q, u2, h, hx =>
        obtain ⟨u3, u4, u5, u6⟩ := u2
        have ln := lpF_len k 2 op _ out q.1 q.2 nx.2.1 hx
        obtain ⟨υ2, a1, a2, a3, a4, a5⟩ := u_notes (d := d + 7 + 3 * e) u3 u4 (by omega) (men_op (k := c) (by omega) (by omega))
        rw [a1, cV_ok]
        obtain ⟨φ, v1, v2⟩ := hL op e q.1 (q.2 ++ [c]) υ2 r (.int (nI (2 + (c - 1010)))) he h a2 a3 (by rw [List.length_append]; show q.2.length + 1 ≤ q.1; omega) (by rw [a5]; exact u6)
        rw [show d + 8 + 3 * e = d + 7 + 3 * e + 1 by omega] at v1
        exact ⟨φ, v1, v2.after ((n3.f4up.trans u5).trans a4)⟩
  rw [show d + 8 + 3 * e = (d + 7 + 3 * e) + 1 by omega, e_M_sum_4, xg_53 hsh, if_pos e5, show d + 7 + 3 * e = d + 5 + 3 * e + 2 by omega, show (43 : Int32) = nI 43 from rfl, show (45 : Int32) = nI 45 from rfl]
  obtain ⟨y1, y2⟩ := u_tS (d := d + 5 + 3 * e) hr sg43
  by_cases p1 : s < n ∧ t s = 43
  · obtain ⟨τ1, b1, b2, b3⟩ := y1 p1
    rw [b1, cI_ok, if_neg (by decide), show d + 5 + 3 * e + 2 = d + 7 + 3 * e by omega]
    exact go 1010 τ1 (by unfold sOp; rw [if_pos p1]) b2 b3
  · obtain ⟨τ1, b1, b2, b3⟩ := y2 p1
    rw [b1, cI_ok, if_pos rfl]
    obtain ⟨y3, y4⟩ := u_tS (d := d + 5 + 3 * e) b2 sg45
    by_cases p2 : s < n ∧ t s = 45
    · obtain ⟨τ2, c1, c2, c3⟩ := y3 p2
      rw [c1, cI_ok, if_neg (by decide), show d + 5 + 3 * e + 2 = d + 7 + 3 * e by omega]
      exact go 1011 τ2 (by unfold sOp; rw [if_neg p1, if_pos p2]) c2 (b3.trans c3)
    · obtain ⟨τ2, c1, c2, c3⟩ := y4 p2
      have q : sOp t n s = none := by unfold sOp; rw [if_neg p1, if_neg p2]
      rw [q] at h
      cases h
      have a := b3.trans c3
      rw [c1, cI_ok, if_pos rfl, e_M_sum_38, if_pos rfl]
      exact ⟨τ2, rfl, c2, hl.go4 (by omega) a, a.f4up, by rw [a.f (by unfold f4; omega)]; exact e8⟩
theorem m_Sm {k : Nat} (hU : MP d t n k) (hL : MSl d t n k) : MSm d t n (k + 1) := by
  intro op e s out τ r he h hr hl ho e8
  have hs := hr.2.2.1
  have h : pb (lpF t n k 2 op s out) (fun s' o' => lpF t n k 1 op s' o') = some r := h
  rw [show d + 8 + 3 * e = (d + 7 + 3 * e) + 1 by omega, e_M_sum _ 53 τ (by rw [k_53 hr.1])]
  cases hx : lpF t n k 2 op s out with
  | none => rw [hx] at h; cases h
  | some r1 =>
    rw [hx] at h
    obtain ⟨υ, u1, u2⟩ := hU op e s out τ r1 he hx hr hl ho e8
    rw [u1, cV_ok]
    match r1, u2, h, hx with
    | .inl q, u2, h, _ =>
      obtain ⟨u3, u4, u5⟩ := u2
      cases h
      have sh := u3.1.sh hr.1
      rw [e_M_sum_4, xg_53 sh, if_neg (u3.bad u4 u5)]
      exact ⟨υ, rfl, u3, u4, u5⟩
    | .inr q, u2, h, hx =>
      obtain ⟨u3, u4, u5, u6⟩ := u2
      have ln := lpF_len k 2 op _ out q.1 q.2 hs hx
      obtain ⟨φ, v1, v2⟩ := hL op e q.1 q.2 υ r uv he h u3 u4 (by omega) u6
      rw [show d + 8 + 3 * e = d + 7 + 3 * e + 1 by omega] at v1
      exact ⟨φ, v1, v2.after u5⟩
theorem m_Pl (hn : n ≤ 150) {k : Nat} (hU : MU d t n k) (hL : MPl d t n k) : MPl d t n (k + 1) := by
  intro op e s out τ r v he h hr hl ho e8
  have hs := hr.2.2.1
  have hsh := hr.1
  have e5 : mI τ 53 5 = 0 := hr.2.2.2.2.1
  have nx := nxt_le (t := t) hs
  have h : pls (pOp t n s) (some (.inr (s, out))) (fun c => pb (lpF t n k 4 op (nxt t n s) out) fun s' o' => lpF t n k 3 op s' (o' ++ [c])) = some r := h
  have go : ∀ c τ1, pOp t n s = some c → RM τ1 t n (nxt t n s) → AgM nS0 f4 τ τ1 → ∃ υ, rn (d + 6 + 3 * e + 1) 198 52 [.ref 53, v] [.int (nI (2 + (c - 1010)))] τ1 = some (.inl uv, υ) ∧ MRes t n op τ υ r := by
    intro c τ1 q n2 n3
    obtain ⟨z1, z2, z3⟩ := pOp_some q
    rw [q] at h
    have h : pb (lpF t n k 4 op (nxt t n s) out) (fun s' o' => lpF t n k 3 op s' (o' ++ [c])) = some r := h
    have lt := nx.2.2 z1
    rw [e_M_product_52, if_neg (nI_m1 (by omega))]
    cases hx : lpF t n k 4 op (nxt t n s) out with
    | none => rw [hx] at h; cases h
    | some r1 =>
      rw [hx] at h
      obtain ⟨υ, u1, u2⟩ := hU op e (nxt t n s) out τ1 r1 he hx n2 (hl.go4 (by omega) n3) (by omega) (by rw [n3.f (by unfold f4; omega)]; exact e8)
      rw [u1, cV_ok]
      match r1, u2, h, hx with
      | .inl q, u2, h, _ =>
        obtain ⟨u3, u4, u5⟩ := u2
        cases h
        have sh := u3.1.sh n2.1
        have bad := u3.bad u4 u5
        rw [u_notesF sh bad, cV_ok, e_M_product_4, xg_53 sh, if_neg bad]
        exact ⟨υ, rfl, u3.after n3.f4up, u4, u5⟩
      | .inr q, u2, h, hx =>
        obtain ⟨u3, u4, u5, u6⟩ := u2
        have ln := lpF_len k 4 op _ out q.1 q.2 nx.2.1 hx
        obtain ⟨υ2, a1, a2, a3, a4, a5⟩ := u_notes (d := d + 6 + 3 * e) u3 u4 (by omega) (men_op (k := c) (by omega) (by omega))
        rw [a1, cV_ok]
        obtain ⟨φ, v1, v2⟩ := hL op e q.1 (q.2 ++ [c]) υ2 r (.int (nI (2 + (c - 1010)))) he h a2 a3 (by rw [List.length_append]; show q.2.length + 1 ≤ q.1; omega) (by rw [a5]; exact u6)
        rw [show d + 7 + 3 * e = d + 6 + 3 * e + 1 by omega] at v1
        exact ⟨φ, v1, v2.after ((n3.f4up.trans u5).trans a4)⟩
  rw [show d + 7 + 3 * e = (d + 6 + 3 * e) + 1 by omega, e_M_product_4, xg_53 hsh, if_pos e5, show d + 6 + 3 * e = d + 4 + 3 * e + 2 by omega, show (42 : Int32) = nI 42 from rfl, show (47 : Int32) = nI 47 from rfl, show (37 : Int32) = nI 37 from rfl]
  obtain ⟨y1, y2⟩ := u_tS (d := d + 4 + 3 * e) hr sg42
  by_cases p1 : s < n ∧ t s = 42
  · obtain ⟨τ1, b1, b2, b3⟩ := y1 p1
    rw [b1, cI_ok, if_neg (by decide), show d + 4 + 3 * e + 2 = d + 6 + 3 * e by omega]
    exact go 1012 τ1 (by unfold pOp; rw [if_pos p1]) b2 b3
  · obtain ⟨τ1, b1, b2, b3⟩ := y2 p1
    rw [b1, cI_ok, if_pos rfl]
    obtain ⟨y3, y4⟩ := u_tS (d := d + 4 + 3 * e) b2 sg47
    by_cases p2 : s < n ∧ t s = 47
    · obtain ⟨τ2, c1, c2, c3⟩ := y3 p2
      rw [c1, cI_ok, if_neg (by decide), show d + 4 + 3 * e + 2 = d + 6 + 3 * e by omega]
      exact go 1013 τ2 (by unfold pOp; rw [if_neg p1, if_pos p2]) c2 (b3.trans c3)
    · obtain ⟨τ2, c1, c2, c3⟩ := y4 p2
      rw [c1, cI_ok, if_pos rfl]
      obtain ⟨y5, y6⟩ := u_tS (d := d + 4 + 3 * e) c2 sg37
      by_cases p3 : s < n ∧ t s = 37
      · obtain ⟨τ3, f1, f2, f3⟩ := y5 p3
        rw [f1, cI_ok, if_neg (by decide), show d + 4 + 3 * e + 2 = d + 6 + 3 * e by omega]
        exact go 1014 τ3 (by unfold pOp; rw [if_neg p1, if_neg p2, if_pos p3]) f2 ((b3.trans c3).trans f3)
      · obtain ⟨τ3, f1, f2, f3⟩ := y6 p3
        have q : pOp t n s = none := by unfold pOp; rw [if_neg p1, if_neg p2, if_neg p3]
        rw [q] at h
        cases h
        have a := (b3.trans c3).trans f3
        rw [f1, cI_ok, if_pos rfl, e_M_product_52, if_pos rfl]
        exact ⟨τ3, rfl, f2, hl.go4 (by omega) a, a.f4up, by rw [a.f (by unfold f4; omega)]; exact e8⟩
theorem m_P {k : Nat} (hU : MU d t n k) (hL : MPl d t n k) : MP d t n (k + 1) := by
  intro op e s out τ r he h hr hl ho e8
  have hs := hr.2.2.1
  have h : pb (lpF t n k 4 op s out) (fun s' o' => lpF t n k 3 op s' o') = some r := h
  rw [show d + 7 + 3 * e = (d + 6 + 3 * e) + 1 by omega, e_M_product _ 53 τ (by rw [k_53 hr.1])]
  cases hx : lpF t n k 4 op s out with
  | none => rw [hx] at h; cases h
  | some r1 =>
    rw [hx] at h
    obtain ⟨υ, u1, u2⟩ := hU op e s out τ r1 he hx hr hl ho e8
    rw [u1, cV_ok]
    match r1, u2, h, hx with
    | .inl q, u2, h, _ =>
      obtain ⟨u3, u4, u5⟩ := u2
      cases h
      have sh := u3.1.sh hr.1
      rw [e_M_product_4, xg_53 sh, if_neg (u3.bad u4 u5)]
      exact ⟨υ, rfl, u3, u4, u5⟩
    | .inr q, u2, h, hx =>
      obtain ⟨u3, u4, u5, u6⟩ := u2
      have ln := lpF_len k 4 op _ out q.1 q.2 hs hx
      obtain ⟨φ, v1, v2⟩ := hL op e q.1 q.2 υ r uv he h u3 u4 (by omega) u6
      rw [show d + 7 + 3 * e = d + 6 + 3 * e + 1 by omega] at v1
      exact ⟨φ, v1, v2.after u5⟩
end LawN
