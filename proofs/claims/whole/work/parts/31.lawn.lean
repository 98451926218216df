/-! reading a LAW: the reference, all of it -/
theorem wN_hit {t : Nat → Nat} {n s : Nat} {w : List Nat} {r : List (List Nat)} {k : Nat} (h : isW t n s w) : wN t n s (w :: r) k = some k := by
  show @ite _ (isW t n s w) (Classical.propDecidable _) (some k) (wN t n s r (k + 1)) = some k
  rw [if_pos h]
theorem wN_miss {t : Nat → Nat} {n s : Nat} {w : List Nat} {r : List (List Nat)} {k : Nat} (h : ¬ isW t n s w) : wN t n s (w :: r) k = wN t n s r (k + 1) := by
  show @ite _ (isW t n s w) (Classical.propDecidable _) (some k) (wN t n s r (k + 1)) = _
  rw [if_neg h]
def kNx (t : Nat → Nat) (n s : Nat) : Option Nat → Nat
  | none => s
  | some _ => nxt t n s
def wOK (w : List Nat) : Bool := decide (0 < w.length) && decide (w.length ≤ 6) && w.all (fun c => decide (97 ≤ c) && decide (c ≤ 122))
theorem wOK_ok {w : List Nat} (h : wOK w = true) : 0 < w.length ∧ w.length ≤ 6 ∧ ∀ j, j < w.length → 97 ≤ w.getD j 0 ∧ w.getD j 0 ≤ 122 := by
  unfold wOK at h
  simp only [Bool.and_eq_true, decide_eq_true_eq, List.all_eq_true] at h
  refine ⟨h.1.1, h.1.2, fun j hj => ?_⟩
  rw [List.getD_eq_getElem?_getD, List.getElem?_eq_getElem hj]
  exact h.2 _ (List.getElem_mem hj)
section LawN
variable {d : Nat} {t : Nat → Nat} {n s : Nat} {τ : mm_M}
theorem u_tk (h : RM τ t n s) (w : List Nat) (a b c x y z : Int32) (hw : wOK w = true) (e : sixF a b c x y z = nI (encN (fun j => w.getD j 0 - 96) w.length)) :
    (isW t n s w → ∃ υ, ev (d + 4) 181 [.ref 53, .int a, .int b, .int c, .int x, .int y, .int z] τ = some (.inl (.int 1), υ) ∧ RM υ t n (nxt t n s) ∧ AgM nS0 f4 τ υ) ∧
    (¬ isW t n s w → ∃ υ, ev (d + 4) 181 [.ref 53, .int a, .int b, .int c, .int x, .int y, .int z] τ = some (.inl (.int 0), υ) ∧ RM υ t n s ∧ AgM nS0 f4 τ υ) := by
  obtain ⟨h1, h2, h3⟩ := wOK_ok hw
  haveI := Classical.propDecidable (isW t n s w)
  obtain ⟨υ, r1, r2, r3⟩ := u_takes (d := d) h h1 h2 h3 e
  refine ⟨fun q => ?_, fun q => ?_⟩
  · rw [i01_p q] at r1; rw [if_pos q] at r2; exact ⟨υ, r1, r2, r3⟩
  · rw [i01_n q] at r1; rw [if_neg q] at r2; exact ⟨υ, r1, r2, r3⟩
theorem u_isW (h : RM τ t n s) (w : List Nat) (a b c x y z : Int32) (hw : wOK w = true) (e : sixF a b c x y z = nI (encN (fun j => w.getD j 0 - 96) w.length)) :
    (isW t n s w → ∃ υ, ev (d + 3) 179 [.ref 53, .int a, .int b, .int c, .int x, .int y, .int z] τ = some (.inl (.int 1), υ) ∧ RM υ t n s ∧ AgM nS0 f4 τ υ ∧ mI υ 53 4 = nI s) ∧
    (¬ isW t n s w → ∃ υ, ev (d + 3) 179 [.ref 53, .int a, .int b, .int c, .int x, .int y, .int z] τ = some (.inl (.int 0), υ) ∧ RM υ t n s ∧ AgM nS0 f4 τ υ ∧ mI υ 53 4 = nI s) := by
  obtain ⟨h1, h2, h3⟩ := wOK_ok hw
  haveI := Classical.propDecidable (isW t n s w)
  obtain ⟨υ, r1, r2, r3⟩ := u_isWord (d := d) h h1 h2 h3 e
  refine ⟨fun q => ?_, fun q => ?_⟩
  · rw [i01_p q] at r1; exact ⟨υ, r1, r2, r3⟩
  · rw [i01_n q] at r1; exact ⟨υ, r1, r2, r3⟩
theorem u_knownH (hr : RM τ t n s) : ∃ υ, ev (d + 5) 199 [.ref 53] τ = some (.inl (.int (oI32 (wN t n s wds1 0))), υ) ∧ RM υ t n (kNx t n s (wN t n s wds1 0)) ∧ AgM nS0 f4 τ υ := by
  rw [show wds1 = [[115, 116, 114, 111, 110, 103], [97, 112, 97, 114, 116], [119, 111, 114, 110], [116, 111, 108, 100], [100, 105, 109, 112, 108, 101, 115], [103, 114, 105, 101, 102], [110, 101, 97, 114], [116, 104, 105, 114, 115, 116], [100, 97, 121], [112, 101, 114, 115, 111, 110]] from rfl, e_M_knownHere (d + 4) 53 τ (by rw [k_53 hr.1])]
  have g0 := AgM.refl nS0 f4 τ
  have r0 := hr
  by_cases q0 : isW t n s [115, 116, 114, 111, 110, 103]
  · obtain ⟨υ, a, b, c⟩ := (u_tk (d := d) r0 [115, 116, 114, 111, 110, 103] 19 20 18 15 14 7 (by decide) (by decide)).1 q0; rw [a, cI_ok, if_neg (by decide), nar0, wN_hit q0]; exact ⟨υ, rfl, b, g0.trans c⟩
  obtain ⟨τ1, a0, r1, c0⟩ := (u_tk (d := d) r0 [115, 116, 114, 111, 110, 103] 19 20 18 15 14 7 (by decide) (by decide)).2 q0
  rw [a0, cI_ok, if_pos rfl, wN_miss q0]
  have g1 := g0.trans c0
  by_cases q1 : isW t n s [97, 112, 97, 114, 116]
  · obtain ⟨υ, a, b, c⟩ := (u_tk (d := d) r1 [97, 112, 97, 114, 116] 1 16 1 18 20 0 (by decide) (by decide)).1 q1; rw [a, cI_ok, if_neg (by decide), nar0, wN_hit q1]; exact ⟨υ, rfl, b, g1.trans c⟩
  obtain ⟨τ2, a1, r2, c1⟩ := (u_tk (d := d) r1 [97, 112, 97, 114, 116] 1 16 1 18 20 0 (by decide) (by decide)).2 q1
  rw [a1, cI_ok, if_pos rfl, wN_miss q1]
  have g2 := g1.trans c1
  by_cases q2 : isW t n s [119, 111, 114, 110]
  · obtain ⟨υ, a, b, c⟩ := (u_tk (d := d) r2 [119, 111, 114, 110] 23 15 18 14 0 0 (by decide) (by decide)).1 q2; rw [a, cI_ok, if_neg (by decide), nar0, wN_hit q2]; exact ⟨υ, rfl, b, g2.trans c⟩
  obtain ⟨τ3, a2, r3, c2⟩ := (u_tk (d := d) r2 [119, 111, 114, 110] 23 15 18 14 0 0 (by decide) (by decide)).2 q2
  rw [a2, cI_ok, if_pos rfl, wN_miss q2]
  have g3 := g2.trans c2
  by_cases q3 : isW t n s [116, 111, 108, 100]
  · obtain ⟨υ, a, b, c⟩ := (u_tk (d := d) r3 [116, 111, 108, 100] 20 15 12 4 0 0 (by decide) (by decide)).1 q3; rw [a, cI_ok, if_neg (by decide), nar0, wN_hit q3]; exact ⟨υ, rfl, b, g3.trans c⟩
  obtain ⟨τ4, a3, r4, c3⟩ := (u_tk (d := d) r3 [116, 111, 108, 100] 20 15 12 4 0 0 (by decide) (by decide)).2 q3
  rw [a3, cI_ok, if_pos rfl, wN_miss q3]
  have g4 := g3.trans c3
  rw [m_six, cI1_ok, show sixF 4 9 13 16 12 5 = nI (encN (fun j => [100, 105, 109, 112, 108, 101].getD j 0 - 96) 6) by decide]
  haveI := Classical.propDecidable (isW t n s [100, 105, 109, 112, 108, 101, 115])
  obtain ⟨τ5, a4, b4, c4⟩ := u_seven (d := d + 2) r4
  by_cases q4 : isW t n s [100, 105, 109, 112, 108, 101, 115]
  · rw [i01_p q4] at a4; rw [if_pos q4] at b4; rw [a4, cI_ok, if_neg (by decide), nar0, wN_hit q4]; exact ⟨τ5, rfl, b4, g4.trans c4⟩
  rw [i01_n q4] at a4; rw [if_neg q4] at b4; rw [a4, cI_ok, if_pos rfl, wN_miss q4]
  have g5 := g4.trans c4
  have r5 := b4
  by_cases q5 : isW t n s [103, 114, 105, 101, 102]
  · obtain ⟨υ, a, b, c⟩ := (u_tk (d := d) r5 [103, 114, 105, 101, 102] 7 18 9 5 6 0 (by decide) (by decide)).1 q5; rw [a, cI_ok, if_neg (by decide), nar0, wN_hit q5]; exact ⟨υ, rfl, b, g5.trans c⟩
  obtain ⟨τ6, a5, r6, c5⟩ := (u_tk (d := d) r5 [103, 114, 105, 101, 102] 7 18 9 5 6 0 (by decide) (by decide)).2 q5
  rw [a5, cI_ok, if_pos rfl, wN_miss q5]
  have g6 := g5.trans c5
  by_cases q6 : isW t n s [110, 101, 97, 114]
  · obtain ⟨υ, a, b, c⟩ := (u_tk (d := d) r6 [110, 101, 97, 114] 14 5 1 18 0 0 (by decide) (by decide)).1 q6; rw [a, cI_ok, if_neg (by decide), nar0, wN_hit q6]; exact ⟨υ, rfl, b, g6.trans c⟩
  obtain ⟨τ7, a6, r7, c6⟩ := (u_tk (d := d) r6 [110, 101, 97, 114] 14 5 1 18 0 0 (by decide) (by decide)).2 q6
  rw [a6, cI_ok, if_pos rfl, wN_miss q6]
  have g7 := g6.trans c6
  by_cases q7 : isW t n s [116, 104, 105, 114, 115, 116]
  · obtain ⟨υ, a, b, c⟩ := (u_tk (d := d) r7 [116, 104, 105, 114, 115, 116] 20 8 9 18 19 20 (by decide) (by decide)).1 q7; rw [a, cI_ok, if_neg (by decide), nar0, wN_hit q7]; exact ⟨υ, rfl, b, g7.trans c⟩
  obtain ⟨τ8, a7, r8, c7⟩ := (u_tk (d := d) r7 [116, 104, 105, 114, 115, 116] 20 8 9 18 19 20 (by decide) (by decide)).2 q7
  rw [a7, cI_ok, if_pos rfl, wN_miss q7]
  have g8 := g7.trans c7
  by_cases q8 : isW t n s [100, 97, 121]
  · obtain ⟨υ, a, b, c⟩ := (u_tk (d := d) r8 [100, 97, 121] 4 1 25 0 0 0 (by decide) (by decide)).1 q8; rw [a, cI_ok, if_neg (by decide), nar0, wN_hit q8]; exact ⟨υ, rfl, b, g8.trans c⟩
  obtain ⟨τ9, a8, r9, c8⟩ := (u_tk (d := d) r8 [100, 97, 121] 4 1 25 0 0 0 (by decide) (by decide)).2 q8
  rw [a8, cI_ok, if_pos rfl, wN_miss q8]
  have g9 := g8.trans c8
  by_cases q9 : isW t n s [112, 101, 114, 115, 111, 110]
  · obtain ⟨υ, a, b, c⟩ := (u_tk (d := d) r9 [112, 101, 114, 115, 111, 110] 16 5 18 19 15 14 (by decide) (by decide)).1 q9; rw [a, cI_ok, if_neg (by decide), e_M_knownHere_200, nar0, wN_hit q9]; exact ⟨υ, rfl, b, g9.trans c⟩
  obtain ⟨τ10, a9, r10, c9⟩ := (u_tk (d := d) r9 [112, 101, 114, 115, 111, 110] 16 5 18 19 15 14 (by decide) (by decide)).2 q9
  rw [a9, cI_ok, if_pos rfl, wN_miss q9]
  have g10 := g9.trans c9
  rw [e_M_knownHere_200, nar0]; exact ⟨τ10, rfl, r10, g10⟩
end LawN
