/-! WORK as a text: its words and numbers -/
section WNum
variable {σ τ σ' τ' υ φ : mm_M} {t : Nat → Nat} {n s : Nat} {d : Nat}
theorem u_iw (h : RM τ t n s) (w : List Nat) (a b c x y z : Int32) (hw : wOK w = true) (e : sixF a b c x y z = nI (encN (fun j => w.getD j 0 - 96) w.length)) :
    (isW t n s w → ∃ υ, ev (d + 3) 179 [.ref 53, .int a, .int b, .int c, .int x, .int y, .int z] τ = some (.inl (.int 1), υ) ∧ RM υ t n s ∧ AgM nS0 f4 τ υ ∧ mI υ 53 4 = nI s) ∧
    (¬ isW t n s w → ∃ υ, ev (d + 3) 179 [.ref 53, .int a, .int b, .int c, .int x, .int y, .int z] τ = some (.inl (.int 0), υ) ∧ RM υ t n s ∧ AgM nS0 f4 τ υ ∧ mI υ 53 4 = nI s) := by
  obtain ⟨h1, h2, h3⟩ := wOK_ok hw
  haveI := Classical.propDecidable (isW t n s w)
  obtain ⟨υ, r1, r2, r3, r4⟩ := u_isWord (d := d) h h1 h2 h3 e
  refine ⟨fun q => ?_, fun q => ?_⟩
  · rw [i01_p q] at r1; exact ⟨υ, r1, r2, r3, r4⟩
  · rw [i01_n q] at r1; exact ⟨υ, r1, r2, r3, r4⟩
theorem u_stepHere (hr : RM τ t n s) : ∃ υ, ev (d + 4) 204 [.ref 53] τ = some (.inl (.int (oI32 (wN t n s wds3 0))), υ) ∧ RM υ t n s ∧ AgM nS0 f4 τ υ ∧ mI υ 53 4 = nI s := by
  rw [show wds3 = [[116, 101, 108, 108], [103, 114, 105, 101, 118, 101], [99, 104, 101, 101, 114], [112, 111, 117, 114], [100, 97, 121], [97, 103, 97, 105, 110]] from rfl, e_M_stepHere (d + 3) 53 τ (by rw [k_53 hr.1])]
  have g0 := AgM.refl nS0 f4 τ
  have r0 := hr
  by_cases q0 : isW t n s [116, 101, 108, 108]
  · obtain ⟨υ, a, b, c, e⟩ := (u_iw (d := d) r0 [116, 101, 108, 108] 20 5 12 12 0 0 (by decide) (by decide)).1 q0; rw [a, cI_ok, if_neg (by decide), nar0, wN_hit q0]; exact ⟨υ, rfl, b, g0.trans c, e⟩
  obtain ⟨τ1, a0, r1, c0, -⟩ := (u_iw (d := d) r0 [116, 101, 108, 108] 20 5 12 12 0 0 (by decide) (by decide)).2 q0
  rw [a0, cI_ok, if_pos rfl, wN_miss q0]
  have g1 := g0.trans c0
  by_cases q1 : isW t n s [103, 114, 105, 101, 118, 101]
  · obtain ⟨υ, a, b, c, e⟩ := (u_iw (d := d) r1 [103, 114, 105, 101, 118, 101] 7 18 9 5 22 5 (by decide) (by decide)).1 q1; rw [a, cI_ok, if_neg (by decide), nar0, wN_hit q1]; exact ⟨υ, rfl, b, g1.trans c, e⟩
  obtain ⟨τ2, a1, r2, c1, -⟩ := (u_iw (d := d) r1 [103, 114, 105, 101, 118, 101] 7 18 9 5 22 5 (by decide) (by decide)).2 q1
  rw [a1, cI_ok, if_pos rfl, wN_miss q1]
  have g2 := g1.trans c1
  by_cases q2 : isW t n s [99, 104, 101, 101, 114]
  · obtain ⟨υ, a, b, c, e⟩ := (u_iw (d := d) r2 [99, 104, 101, 101, 114] 3 8 5 5 18 0 (by decide) (by decide)).1 q2; rw [a, cI_ok, if_neg (by decide), nar0, wN_hit q2]; exact ⟨υ, rfl, b, g2.trans c, e⟩
  obtain ⟨τ3, a2, r3, c2, -⟩ := (u_iw (d := d) r2 [99, 104, 101, 101, 114] 3 8 5 5 18 0 (by decide) (by decide)).2 q2
  rw [a2, cI_ok, if_pos rfl, wN_miss q2]
  have g3 := g2.trans c2
  by_cases q3 : isW t n s [112, 111, 117, 114]
  · obtain ⟨υ, a, b, c, e⟩ := (u_iw (d := d) r3 [112, 111, 117, 114] 16 15 21 18 0 0 (by decide) (by decide)).1 q3; rw [a, cI_ok, if_neg (by decide), nar0, wN_hit q3]; exact ⟨υ, rfl, b, g3.trans c, e⟩
  obtain ⟨τ4, a3, r4, c3, -⟩ := (u_iw (d := d) r3 [112, 111, 117, 114] 16 15 21 18 0 0 (by decide) (by decide)).2 q3
  rw [a3, cI_ok, if_pos rfl, wN_miss q3]
  have g4 := g3.trans c3
  by_cases q4 : isW t n s [100, 97, 121]
  · obtain ⟨υ, a, b, c, e⟩ := (u_iw (d := d) r4 [100, 97, 121] 4 1 25 0 0 0 (by decide) (by decide)).1 q4; rw [a, cI_ok, if_neg (by decide), nar0, wN_hit q4]; exact ⟨υ, rfl, b, g4.trans c, e⟩
  obtain ⟨τ5, a4, r5, c4, -⟩ := (u_iw (d := d) r4 [100, 97, 121] 4 1 25 0 0 0 (by decide) (by decide)).2 q4
  rw [a4, cI_ok, if_pos rfl, wN_miss q4]
  have g5 := g4.trans c4
  by_cases q5 : isW t n s [97, 103, 97, 105, 110]
  · obtain ⟨υ, a, b, c, e⟩ := (u_iw (d := d) r5 [97, 103, 97, 105, 110] 1 7 1 9 14 0 (by decide) (by decide)).1 q5; rw [a, cI_ok, if_neg (by decide), e_M_stepHere_110, nar0, wN_hit q5]; exact ⟨υ, rfl, b, g5.trans c, e⟩
  obtain ⟨τ6, a5, r6, c5, e6⟩ := (u_iw (d := d) r5 [97, 103, 97, 105, 110] 1 7 1 9 14 0 (by decide) (by decide)).2 q5
  rw [a5, cI_ok, if_pos rfl, wN_miss q5, e_M_stepHere_110, nar0]
  exact ⟨τ6, rfl, r6, g5.trans c5, e6⟩
theorem wN_len {ws : List (List Nat)} : ∀ k i, wN t n s ws k = some i → ∃ w, w ∈ ws ∧ tkE t n s - s = w.length ∧ (ws.getD (i - k) [] = w) := by
  induction ws with
  | nil => intro k i h; cases h
  | cons w r ih =>
    intro k i h
    by_cases q : isW t n s w
    · rw [wN_hit q] at h
      cases h
      exact ⟨w, List.mem_cons_self, q.2.1, by rw [Nat.sub_self]; rfl⟩
    · rw [wN_miss q] at h
      obtain ⟨w', h1, h2, h3⟩ := ih (k + 1) i h
      have := wN_some r (k + 1) i h
      refine ⟨w', List.mem_cons_of_mem _ h1, h2, ?_⟩
      rw [show i - k = (i - (k + 1)) + 1 by omega]
      exact h3
theorem wds3_len {i : Nat} (h : wN t n s wds3 0 = some i) : s + 3 ≤ tkE t n s ∧ (i = 5 → s + 5 ≤ tkE t n s) ∧ i ≤ 5 := by
  obtain ⟨w, h1, h2, h3⟩ := wN_len 0 i h
  have l := wN_some _ _ _ h
  have l3 : i < 0 + 6 := l.2.2
  have w3 : 3 ≤ w.length := (show ∀ w, w ∈ wds3 → 3 ≤ w.length by decide) w h1
  refine ⟨by omega, fun e => ?_, by omega⟩
  rw [e] at h3
  have : w.length = 5 := by rw [← h3]; rfl
  omega
/-- the first number of a row, the second -/
def n18 (a : Nat) : Prop := a = 1 ∨ a = 18 ∨ a = 19
theorem c_first (hr : RS σ t n s) {row a m : Nat} {x : Int32} (h38 : row < 38) (ha : a ≤ 1) (hm : isHi x m) :
    (∀ V, pN t n s a m = .inr V → ∃ υ, ev (d + 2) 81 [.ref 16, .ref 1, .int (nI row), .int (nI a), .int x] σ = some (.inl (.int 1), υ) ∧ RS υ t n (nxt t n s) ∧ mI υ 18 row = nI V ∧ (∀ i, i ≠ row → mI υ 18 i = mI σ 18 i) ∧ mI υ 19 = mI σ 19 ∧ TG n18 σ υ) ∧
    (∀ e, pN t n s a m = .inl e → ∃ υ, ev (d + 2) 81 [.ref 16, .ref 1, .int (nI row), .int (nI a), .int x] σ = some (.inl (.int 0), υ) ∧ TF n18 σ υ e s) := by
  obtain ⟨n1, n2⟩ := t_takeNumber (d := d) hr ha hm
  rw [e_Steps_readFirst (d + 1) 16 1 (nI row) (nI a) x σ (by rw [k_16 hr.1]), xr_16_1 hr.1]
  refine ⟨fun V hV => ?_, fun e he => ?_⟩
  · obtain ⟨υ, c1, c2, c3, -⟩ := n1 V hV
    have sA : Sh (wI υ 18 row (nI V)) := c2.1
    have V0 : ¬ nI V = (-1 : Int32) := nI_m1 (by have := (pN_i hV).2.1; have := hm.1; omega)
    have ag : Ag (fun a => a = 18) υ (wI υ 18 row (nI V)) := Ag.wI (S := fun a => a = 18) (Ag.refl _ υ) rfl _ _
    have f1 : mI (wI υ 18 row (nI V)) 1 = mI υ 1 := rI_o (by decide)
    refine ⟨wI υ 18 row (nI V), ?_, c2.ag ag (by omega) (by omega) (fun x hx => by omega), by rw [rI_w, if_pos ⟨rfl, rfl⟩], fun i hi => ?_, ?_, ⟨(c3.1.mono (fun a q => Or.inl q)).trans (ag.mono (fun a q => Or.inr (Or.inl q))), by rw [f1]; exact c3.2.1, by rw [f1]; exact c3.2.2.1, by rw [f1]; exact c3.2.2.2⟩⟩
    · rw [c1, cI1_ok, xt_18 c2.1 h38, xr_16_1 sA, xa_18 sA h38, show mI (wI υ 18 row (nI V)) 18 row = nI V by (rw [rI_w, if_pos ⟨rfl, rfl⟩]), if_neg V0, e_Steps_readFirst_28, nar1_1]
    · rw [rI_w, if_neg (fun z => hi z.2), c3.1.at (show ¬ (18 : Nat) = 1 by decide)]
    · rw [rI_o (by decide), c3.1.at (show ¬ (19 : Nat) = 1 by decide)]
  · obtain ⟨υ, c1, c2⟩ := n2 e he
    have s1 := c2.1.sh hr.1
    have sA : Sh (wI υ 18 row (-1)) := s1
    have f1 : mI (wI υ 18 row (-1)) 1 = mI υ 1 := rI_o (by decide)
    refine ⟨wI υ 18 row (-1), ?_, ⟨(c2.1.mono (T := n18) (fun a q => Or.inl q)).wI (Or.inr (Or.inl rfl)) _ _, by rw [f1]; exact c2.2.1, by rw [f1]; exact c2.2.2.1, by rw [f1]; exact c2.2.2.2⟩⟩
    rw [c1, cI1_ok, xt_18 s1 h38, xr_16_1 sA, xa_18 sA h38, show mI (wI υ 18 row (-1)) 18 row = -1 by (rw [rI_w, if_pos ⟨rfl, rfl⟩]), if_pos rfl, e_Steps_readFirst_28, nar1_0]
theorem c_second (hr : RS σ t n s) {row a m : Nat} {x : Int32} (h38 : row < 38) (ha : a ≤ 1) (hm : isHi x m) :
    (∀ V, pN t n s a m = .inr V → ∃ υ, ev (d + 2) 82 [.ref 16, .ref 1, .int (nI row), .int (nI a), .int x] σ = some (.inl (.int 1), υ) ∧ RS υ t n (nxt t n s) ∧ mI υ 19 row = nI V ∧ (∀ i, i ≠ row → mI υ 19 i = mI σ 19 i) ∧ mI υ 18 = mI σ 18 ∧ TG n18 σ υ) ∧
    (∀ e, pN t n s a m = .inl e → ∃ υ, ev (d + 2) 82 [.ref 16, .ref 1, .int (nI row), .int (nI a), .int x] σ = some (.inl (.int 0), υ) ∧ TF n18 σ υ e s) := by
  obtain ⟨n1, n2⟩ := t_takeNumber (d := d) hr ha hm
  rw [e_Steps_readSecond (d + 1) 16 1 (nI row) (nI a) x σ (by rw [k_16 hr.1]), xr_16_2 hr.1]
  refine ⟨fun V hV => ?_, fun e he => ?_⟩
  · obtain ⟨υ, c1, c2, c3, -⟩ := n1 V hV
    have sA : Sh (wI υ 19 row (nI V)) := c2.1
    have V0 : ¬ nI V = (-1 : Int32) := nI_m1 (by have := (pN_i hV).2.1; have := hm.1; omega)
    have ag : Ag (fun a => a = 19) υ (wI υ 19 row (nI V)) := Ag.wI (S := fun a => a = 19) (Ag.refl _ υ) rfl _ _
    have f1 : mI (wI υ 19 row (nI V)) 1 = mI υ 1 := rI_o (by decide)
    refine ⟨wI υ 19 row (nI V), ?_, c2.ag ag (by omega) (by omega) (fun x hx => by omega), by rw [rI_w, if_pos ⟨rfl, rfl⟩], fun i hi => ?_, ?_, ⟨(c3.1.mono (fun a q => Or.inl q)).trans (ag.mono (fun a q => Or.inr (Or.inr q))), by rw [f1]; exact c3.2.1, by rw [f1]; exact c3.2.2.1, by rw [f1]; exact c3.2.2.2⟩⟩
    · rw [c1, cI1_ok, xt_19 c2.1 h38, xr_16_2 sA, xa_19 sA h38, show mI (wI υ 19 row (nI V)) 19 row = nI V by (rw [rI_w, if_pos ⟨rfl, rfl⟩]), if_neg V0, e_Steps_readSecond_28, nar1_1]
    · rw [rI_w, if_neg (fun z => hi z.2), c3.1.at (show ¬ (19 : Nat) = 1 by decide)]
    · rw [rI_o (by decide), c3.1.at (show ¬ (18 : Nat) = 1 by decide)]
  · obtain ⟨υ, c1, c2⟩ := n2 e he
    have s1 := c2.1.sh hr.1
    have sA : Sh (wI υ 19 row (-1)) := s1
    have f1 : mI (wI υ 19 row (-1)) 1 = mI υ 1 := rI_o (by decide)
    refine ⟨wI υ 19 row (-1), ?_, ⟨(c2.1.mono (T := n18) (fun a q => Or.inl q)).wI (Or.inr (Or.inr rfl)) _ _, by rw [f1]; exact c2.2.1, by rw [f1]; exact c2.2.2.1, by rw [f1]; exact c2.2.2.2⟩⟩
    rw [c1, cI1_ok, xt_19 s1 h38, xr_16_2 sA, xa_19 sA h38, show mI (wI υ 19 row (-1)) 19 row = -1 by (rw [rI_w, if_pos ⟨rfl, rfl⟩]), if_pos rfl, e_Steps_readSecond_28, nar1_0]
/-- the reference: one number into one place of its row -/
def stS (a : Nat) : Prop := 453 ≤ a ∧ a ≤ 532
theorem m_num {row k a m : Nat} {x : Int32} {K : mm_M → Option mm_R} (hr : RM τ t n s) (h80 : row < 80) (hk : k < 4) (ha : a ≤ 1) (hm : isHi x m) :
    (∀ V, pN t n s a m = .inr V → ∃ υ, (cI (ev (d + 2) 176 [.ref 53, .int (nI a), .int x] τ) fun r4 σ3 => tI σ3 (453 + row) (nI k) r4 K) = K υ ∧ RM υ t n (nxt t n s) ∧ mI υ (453 + row) k = nI V ∧ (∀ i, i ≠ k → mI υ (453 + row) i = mI τ (453 + row) i) ∧ AgM (fun a => a = 453 + row) f4 τ υ) ∧
    (∀ e, pN t n s a m = .inl e → ∃ υ, (cI (ev (d + 2) 176 [.ref 53, .int (nI a), .int x] τ) fun r4 σ3 => tI σ3 (453 + row) (nI k) r4 K) = K υ ∧ MF (fun a => a = 453 + row) f456 τ υ e s) := by
  obtain ⟨n1, n2⟩ := u_number (d := d) hr ha hm
  refine ⟨fun V hV => ?_, fun e he => ?_⟩
  · obtain ⟨υ, c1, c2, c3⟩ := n1 V hV
    have ag : AgM (fun a => a = 453 + row) nS0 υ (wI υ (453 + row) k (nI V)) := AgM.of (Ag.wI (S := fun a => a = 453 + row) (Ag.refl _ υ) rfl _ _) (fun _ q => q) (by omega)
    have ag4 : AgM (fun a => a = 453 + row) f4 υ (wI υ (453 + row) k (nI V)) := ag.mono (fun _ q => q) (fun _ q => q.elim)
    refine ⟨wI υ (453 + row) k (nI V), by rw [c1, cI_ok, xt_r452 c2.1 h80 hk], c2.agm ag (by omega) (fun q => q) (fun q => q) (fun q => q), by rw [rI_w, if_pos ⟨rfl, rfl⟩], fun i hi => ?_, (c3.mono (fun _ q => q.elim) (fun _ q => q)).trans ag4⟩
    rw [rI_w, if_neg (fun z => hi z.2), c3.at (by omega) (fun q => q)]
  · obtain ⟨υ, c1, c2⟩ := n2 e he
    have s1 := c2.1.sh hr.1
    have ag : AgM (fun a => a = 453 + row) f456 υ (wI υ (453 + row) k 0) := AgM.of (Ag.wI (S := fun a => a = 453 + row) (Ag.refl _ υ) rfl _ _) (fun _ q => q) (by omega)
    have f53 : mI (wI υ (453 + row) k 0) 53 = mI υ 53 := rI_o (by omega)
    refine ⟨wI υ (453 + row) k 0, by rw [c1, cI_ok, xt_r452 s1 h80 hk], (c2.1.mono (fun _ q => q.elim) (fun _ q => q)).trans ag, by rw [f53]; exact c2.2.1, by rw [f53]; exact c2.2.2.1, by rw [f53]; exact c2.2.2.2⟩
theorem m_numF {row k : Nat} {x y : Int32} {K : mm_M → Option mm_R} (h : Sh τ) (e5 : ¬ mI τ 53 5 = 0) (h80 : row < 80) (hk : k < 4) : (cI (ev (d + 1) 176 [.ref 53, .int x, .int y] τ) fun r4 σ3 => tI σ3 (453 + row) (nI k) r4 K) = K (wI τ (453 + row) k 0) := by
  rw [u_numberF h e5, cI_ok, xt_r452 h h80 hk]
end WNum
