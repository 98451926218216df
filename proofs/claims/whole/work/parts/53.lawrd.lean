/-! calls that change things: the wrappers; reading a LAW from its beginning to its end -/
section LawRd
variable {σ τ σ' τ' υ φ : mm_M} {t : Nat → Nat} {n : Nat} {l : Ln} {many : Nat} {cs : Nat → Int32} {w K : Nat} {b : List (Nat × Nat)} {d : Nat}
def OW (σ : mm_M) (Dw mw : Nat) (asw : List Value) (Dm mr : Nat) (asm : List Value) : Prop := ∃ x υ v φ, ev Dw mw asw σ = some (.inl (.int x), υ) ∧ Cst σ υ ∧ ev Dm mr asm υ = some (.inl (.int v), φ) ∧ Cst σ φ ∧ Inv φ ∧ mI φ 53 0 = x ∧ (x = 0 → mL φ 560 0 = Int32.toInt64 v)
theorem opw_e {Dw mw Dc mc Dm mr e : Nat} {c : Int32} {asw asc asm : List Value} {H : List (Nat × Int32)} (hw : ∀ σ, ev Dw mw asw σ = cIh H (ev Dc mc asc σ) fun r2 σ1 => tL σ1 560 0 (Int32.toInt64 r2) fun σ3 => some (Sum.inl (Value.int (nar 0 0)), σ3))
    (h : Iv σ t n l many cs w K b) (he : e = 1 ∨ e = 2) (hc : hget H e = some c) (c0 : c ≠ 0) (ca : Ag qc σ σ') (c1 : ev Dc mc asc σ = some (.inr e, exC σ' e)) (m : ∀ τ, Iw τ t n l many cs w K b → ev Dm mr asm τ = some (.inl (.int 0), exM τ c e)) : OW σ Dw mw asw Dm mr asm := by
  have z0 := ca.2.2.2.1
  have z1 := ca.2.2.2.2.1
  have z2 := ca.2.2.2.2.2.1
  have z3 := ca.1
  have z4 : ∀ a, 1000000 ≤ a → mI σ' a = mI σ a := fun a ha => ca.at (fun q => by have := q.2.2; omega)
  replace h := h.qc ca
  have h2 := h.1.ex e
  have m1 := m (exC σ' e) h2
  refine ⟨c, exC σ' e, 0, exM (exC σ' e) c e, ?_, ⟨z3, z0, by rw [← z1]; exact Nat.le_refl _, by rw [← z2]; exact Nat.le_refl _, fun a ha => ?_⟩, m1, ⟨z3, z0, by rw [← z1]; exact Nat.le_refl _, by rw [← z2]; exact Nat.le_refl _, fun a ha => ?_⟩, ⟨t, n, l, many, cs, w, K, b, ?_, ?_⟩, ?_, fun z => absurd z c0⟩
  · rw [hw, c1, cIh_ex hc]
  · show mI (wI σ' 0 (13 + e) (mI σ' 0 (13 + e) + 1)) a = _
    rw [rI_o (by omega)]; exact z4 a ha
  · show mI (wI (wI (wI (wI σ' 0 _ _) 53 0 _) 53 0 _) 55 _ _) a = _
    rw [rI_o (by omega), rI_o (by omega), rI_o (by omega), rI_o (by omega)]; exact z4 a ha
  · have a1 : AgM (fun x => x = 55) (fun i => i = 0) (exC σ' e) (wI (wI (exC σ' e) 53 0 0) 53 0 c) := AgM.w53 (F := fun i => i = 0) (AgM.w53 (F := fun i => i = 0) (AgM.refl _ _ _) rfl _) rfl _
    have a2 : AgM (fun x => x = 55) (fun i => i = 0) (exC σ' e) (exM (exC σ' e) c e) := by
      refine a1.trans ?_
      exact AgM.of (S := fun x => x = 55) (Ag.wI (S := fun x => x = 55) (Ag.refl _ _) rfl _ _) (fun _ q => q) (by omega)
    exact h2.keep a2 (fun x f q => by unfold fpI fxC at f; omega) (fun x f q => by unfold fF at f; omega)
  · obtain ⟨i1, i2, i3⟩ := h.2
    have r55 : ∀ i, mI (exM (exC σ' e) c e) 55 i = if i = e - 1 then mI σ' 55 (e - 1) + 1 else mI σ' 55 i := by
      intro i
      unfold exM
      rw [rI_w]
      have e1 : mI (exC σ' e) 55 = mI σ' 55 := by show mI (wI σ' 0 (13 + e) (mI σ' 0 (13 + e) + 1)) 55 = _; rw [rI_o (by decide)]
      by_cases z : i = e - 1
      · rw [if_pos ⟨rfl, z⟩, if_pos z, e1]
      · rw [if_neg (fun y => z y.2), if_neg z, rI_o (by decide), rI_o (by decide), e1]
    have r0 : ∀ i, mI (exM (exC σ' e) c e) 0 i = if i = 13 + e then mI σ' 0 (13 + e) + 1 else mI σ' 0 i := by
      intro i
      unfold exM
      rw [rI_o (by decide), rI_o (by decide), rI_o (by decide)]
      show mI (wI σ' 0 (13 + e) (mI σ' 0 (13 + e) + 1)) 0 i = _
      rw [rI_w]
      by_cases z : i = 13 + e
      · rw [if_pos ⟨rfl, z⟩, if_pos z]
      · rw [if_neg (fun y => z y.2), if_neg z]
    have r53 : mI (exM (exC σ' e) c e) 53 35 = mI σ' 53 35 := by
      unfold exM
      rw [rI_o (by decide), rI_w, if_neg (by omega), rI_w, if_neg (by omega)]
      show mI (wI σ' 0 (13 + e) (mI σ' 0 (13 + e) + 1)) 53 35 = _
      rw [rI_o (by decide)]
    refine ⟨?_, ?_, ?_⟩
    · rw [r53, r0, if_neg (by omega)]; exact i1
    · rw [r55, r0]
      rcases he with rfl | rfl
      · rw [if_pos rfl, if_pos rfl, i2]
      · rw [if_neg (by decide), if_neg (by decide)]; exact i2
    · rw [r55, r0]
      rcases he with rfl | rfl
      · rw [if_neg (by decide), if_neg (by decide)]; exact i3
      · rw [if_pos rfl, if_pos rfl, i3]
  · unfold exM
    rw [rI_o (by decide), rI_w, if_pos ⟨rfl, rfl⟩]
theorem opw_k {Dw mw Dc mc Dm mr : Nat} {asw asc asm : List Value} {H : List (Nat × Int32)} {v : Int32} (hw : ∀ σ, ev Dw mw asw σ = cIh H (ev Dc mc asc σ) fun r2 σ1 => tL σ1 560 0 (Int32.toInt64 r2) fun σ3 => some (Sum.inl (Value.int (nar 0 0)), σ3))
    (c1 : ev Dc mc asc σ = some (.inl (.int v), υ)) (su : Cst σ υ) (sh : Sh υ) (m1 : ev Dm mr asm (wL υ 560 0 (Int32.toInt64 v)) = some (.inl (.int v), φ)) (e0 : mI φ 53 0 = 0) (eL : mL φ = mL (wL υ 560 0 (Int32.toInt64 v))) (sf : Cst σ φ) (inv : Inv φ) : OW σ Dw mw asw Dm mr asm := by
  refine ⟨0, wL υ 560 0 (Int32.toInt64 v), v, φ, ?_, su, m1, sf, inv, e0, fun _ => ?_⟩
  · rw [hw, c1, cIh_ok, tL560 sh, nar0]
  · rw [eL]
    show (if 560 = 560 ∧ 0 = 0 then Int32.toInt64 v else mL υ 560 0) = _
    rw [if_pos ⟨rfl, rfl⟩]
/-- a LAW, whole -/
noncomputable def lawF (t : Nat → Nat) (m : Nat) : PR := match lpF t m (5 * m + 3) 0 0 (sp isB t m 0) [] with
  | some (.inr q) => if q.1 = m then .inr q else .inl (1, q.1)
  | some (.inl q) => .inl q
  | none => .inl (1, 0)
theorem c_lawRead {w m : Nat} (hw : isLw w) (hr : RS τ t m (sp isB t m 0)) (hm : m ≤ 150) : ∃ bb υ, ev (d + 26) 61 [.ref w, .ref 1] τ = some (.inl (.int bb), υ) ∧ (∀ q, lawF t m = .inr q → bb = 1 ∧ Sh υ ∧ LSq w υ q.2 ∧ TG (lwS w) τ υ) ∧ (∀ q, lawF t m = .inl q → bb = 0 ∧ TF (lwS w) τ υ q.1 q.2) := by
  have hw' : w = 13 ∨ w = 46 := hw
  have hs := hr.2.2.2.1
  have sh := hr.1
  have b1 : Ag (fun x => x = w) τ (wI τ w 2 0) := Ag.wI (S := fun x => x = w) (Ag.refl _ τ) rfl _ _
  have e1 : mI (wI τ w 2 0) 1 = mI τ 1 := b1.at (show ¬ 1 = w by omega)
  have r2 : RS (wI τ w 2 0) t m (sp isB t m 0) := hr.ag b1 (by omega) (by omega) (fun x hx => by omega)
  have l2 : LSq w (wI τ w 2 0) [] := ⟨by rw [rI_w, if_pos ⟨rfl, rfl⟩]; rfl, fun i hi => absurd hi (Nat.not_lt_zero i)⟩
  have g1 : TG (lwS w) τ (wI τ w 2 0) := ⟨b1.mono (fun x q => Or.inr (Or.inl q)), by rw [e1], by rw [e1], by rw [e1]⟩
  obtain ⟨r, er⟩ := lpF_tot (t := t) (n := m) (5 * m + 3) 0 0 (sp isB t m 0) [] hs (show 5 * (m - sp isB t m 0) + 3 ≤ 5 * m + 3 by omega)
  have cs := (c_lawAll (d := d) (t := t) hw hm (5 * m + 3)).2.2.2.2
  obtain ⟨bb, υ, u1, u2⟩ := cs 0 6 (sp isB t m 0) [] (wI τ w 2 0) r rfl er r2 l2 (Nat.zero_le _)
  rw [e_Law_read (d + 25) w 1 τ (by rw [k_lw0 sh hw]), xs_lw sh hw, show ev (d + 25) 62 [.ref w, .ref 1, .int 0] (wI τ w 2 0) = _ from u1, cI_ok]
  unfold lawF
  rw [er]
  match r, u2 with
  | .inl q, u2 =>
    obtain ⟨rfl, u3⟩ := u2
    rw [if_pos (show (0 : Int32) = 0 from rfl), e_Law_read_25, e_Law_read_26, nar1_0]
    exact ⟨0, υ, rfl, fun p z => (by cases z), fun p z => (by cases z; exact ⟨rfl, g1.tf u3⟩)⟩
  | .inr q, u2 =>
    obtain ⟨rfl, u3, u4, u5⟩ := u2
    have ln := lpF_len _ 0 0 _ [] q.1 q.2 hs er
    have q150 : q.2.length ≤ 150 := by have := ln.2.2; simp only [List.length_nil] at this; omega
    obtain ⟨a1, a2⟩ := t_atEnd (d := d + 24) u3
    rw [if_neg (show ¬ (1 : Int32) = 0 by decide)]
    show ∃ bb υ', _ ∧ (∀ p, (if q.1 = m then Sum.inr q else Sum.inl (1, q.1) : PR) = .inr p → _) ∧ (∀ p, (if q.1 = m then Sum.inr q else Sum.inl (1, q.1) : PR) = .inl p → _)
    by_cases z : q.1 = m
    · rw [a1 z, cI1_ok, if_neg (show ¬ (1 : Int32) = 0 by decide), e_Law_read_26, nar1_1]
      refine ⟨1, υ, rfl, fun p y => ?_, fun p y => ?_⟩
      · rw [if_pos z] at y
        cases y
        exact ⟨rfl, u3.1, u4, g1.trans u5⟩
      · rw [if_pos z] at y
        cases y
    · obtain ⟨υ2, v1, v2⟩ := a2 z
      rw [v1, cI1_ok, if_pos (show (0 : Int32) = 0 from rfl), e_Law_read_25, e_Law_read_26, nar1_0]
      refine ⟨0, υ2, rfl, fun p y => ?_, fun p y => ?_⟩
      · rw [if_neg z] at y
        cases y
      · rw [if_neg z] at y
        cases y
        exact ⟨rfl, (g1.trans u5).tf (v2.mono (fun _ => at1_lw))⟩
/-- the same by the reference, up to where it asks for a FAULT -/
theorem m_lawRead {m : Nat} {x : Int32} (hr : RM τ t m (sp isB t m 0)) (hm : m ≤ 150) (e8 : mI τ 53 8 = 0) : ∃ υ, (sI τ 12 53 20 0 fun σ4 => cV (ev (d + 26) 197 [.ref 53] σ4) fun σ5 => cV (ev (d + 26) 172 [.ref 53] σ5) fun σ6 => gI σ6 12 53 5 fun r7 => if r7 = 0 then gI σ6 12 53 4 fun r8 => gI σ6 12 53 2 fun r9 => if r9 ≤ r8 then rn (d + 27) 201 85 [.ref 53, .int x] [] σ6 else gI σ6 12 53 4 fun r10 => cV (ev (d + 26) 173 [.ref 53, .int 1, .int r10] σ6) fun σ11 => rn (d + 27) 201 85 [.ref 53, .int x] [] σ11 else rn (d + 27) 201 85 [.ref 53, .int x] [] σ6) = rn (d + 27) 201 85 [.ref 53, .int x] [] υ ∧ (∀ q, lawF t m = .inr q → Sh υ ∧ mI υ 53 5 = 0 ∧ LM υ q.2 ∧ AgM lmS lmF τ υ) ∧ (∀ q, lawF t m = .inl q → MF lmS lmF τ υ q.1 q.2 ∧ 1 ≤ q.1 ∧ q.1 ≤ 3) := by
  have sh := hr.1
  have hs := hr.2.2.1
  have b1 : AgM lmS lmF τ (wI τ 53 20 0) := AgM.w53 (AgM.refl _ _ τ) (Or.inr (Or.inr (Or.inr (Or.inr rfl)))) _
  have b2 : AgM nS0 (fun i => i = 20) τ (wI τ 53 20 0) := AgM.w53 (F := fun i => i = 20) (AgM.refl _ _ τ) rfl _
  have r2 : RM (wI τ 53 20 0) t m (sp isB t m 0) := hr.agm b2 (fun z => z) (by omega) (by omega) (by omega)
  have l2 : LM (wI τ 53 20 0) [] := ⟨by rw [w53e]; rfl, fun i hi => absurd hi (Nat.not_lt_zero i)⟩
  obtain ⟨r, er⟩ := lpF_tot (t := t) (n := m) (5 * m + 3) 0 0 (sp isB t m 0) [] hs (show 5 * (m - sp isB t m 0) + 3 ≤ 5 * m + 3 by omega)
  have ms := (m_lawAll (d := d) (t := t) hm (5 * m + 3)).2.2.2.2
  obtain ⟨υ, u1, u2⟩ := ms 0 6 (sp isB t m 0) [] (wI τ 53 20 0) r rfl er r2 l2 (Nat.zero_le _) (by rw [w53n _ (show (8 : Nat) ≠ 20 by decide)]; exact e8)
  rw [xs_53 sh, show ev (d + 26) 197 [.ref 53] (wI τ 53 20 0) = _ from u1, cV_ok]
  unfold lawF
  rw [er]
  match r, u2 with
  | .inl q, u2 =>
    obtain ⟨u3, u4, u5⟩ := u2
    have f := u3.after b1
    have s3 := f.1.sh sh
    obtain ⟨i, i1, i2⟩ := f.2.2.2
    have tx : TxM υ t m := ⟨hr.2.1.1, hr.2.1.2.1, fun k hk => by rw [f.1.at (by decide) (by unfold lmS; omega)]; exact hr.2.1.2.2 k hk⟩
    obtain ⟨φ, v1, v2, v3⟩ := u_blanksF (d := d + 25) s3 tx (by rw [f.1.f (by unfold lmF; omega)]; exact hr.2.2.2.1) i1 i2
    have s4 := v2.sh s3
    have e5 : mI φ 53 5 = nI q.1 := by rw [v2.f (show ¬ (5 : Nat) = 4 by decide)]; exact f.2.1
    refine ⟨φ, ?_, fun p z => (by cases z), fun p z => ?_⟩
    · rw [v1, cV_ok, xg_53 s4, e5, if_neg (mf5 u4 u5)]
    · cases z
      exact ⟨⟨f.1.trans v2.f4up, e5, by rw [v2.f (show ¬ (6 : Nat) = 4 by decide)]; exact f.2.2.1, v3⟩, u4, u5⟩
  | .inr q, u2 =>
    obtain ⟨u3, u4, u5, u6⟩ := u2
    have ln := lpF_len _ 0 0 _ [] q.1 q.2 hs er
    have q150 : q.2.length ≤ 150 := by have := ln.2.2; simp only [List.length_nil] at this; omega
    obtain ⟨φ, v1, v2, v3, v4⟩ := u_blanks (d := d + 25) u3
    have s4 := v2.1
    have e5 : mI φ 53 5 = 0 := v2.2.2.2.2.1
    have e2 : mI φ 53 2 = nI m := v2.2.2.2.1
    have A := (b1.trans u5).trans v3.f4up
    rw [v1, cV_ok, xg_53 s4, e5, if_pos (show (0 : Int32) = 0 from rfl), xg_53 s4, v4, xg_53 s4, e2]
    show ∃ υ', _ ∧ (∀ p, (if q.1 = m then Sum.inr q else Sum.inl (1, q.1) : PR) = .inr p → _) ∧ (∀ p, (if q.1 = m then Sum.inr q else Sum.inl (1, q.1) : PR) = .inl p → _)
    by_cases z : q.1 = m
    · rw [if_pos (show nI m ≤ nI q.1 from nI_le (by omega) (by omega))]
      refine ⟨φ, rfl, fun p y => ?_, fun p y => ?_⟩
      · rw [if_pos z] at y
        cases y
        exact ⟨s4, e5, u4.go4 (by omega) v3, A⟩
      · rw [if_pos z] at y
        cases y
    · obtain ⟨φ2, w1, w2⟩ := u_wrong (d := d + 26) v2 1 q.1
      rw [if_neg (show ¬ nI m ≤ nI q.1 from nI_ge (by omega) (by omega)), xg_53 s4, v4, show (1 : Int32) = nI 1 from rfl, w1, cV_ok]
      refine ⟨φ2, rfl, fun p y => ?_, fun p y => ?_⟩
      · rw [if_neg z] at y
        cases y
      · rw [if_neg z] at y
        cases y
        exact ⟨w2.up.after A, Nat.le_refl 1, (show (1 : Nat) ≤ 3 by decide)⟩
end LawRd
