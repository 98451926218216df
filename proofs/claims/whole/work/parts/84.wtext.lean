/-! WORK as a text, whole -/
section WText
variable {σ τ σ' τ' υ φ : mm_M} {t : Nat → Nat} {m s c op : Nat} {d : Nat}
def WtP (J P : Nat) (r : (Nat × Nat) ⊕ Wk) : Prop := match r with
  | .inl (e, _) => 1 ≤ e ∧ e ≤ 3
  | .inr w => w.1 ≤ 38 ∧ (∀ i, i < w.1 → RowOK J P (w.2 i)) ∧ ∃ k, blk w k 0 w.1 0
def WcR (σ υ : mm_M) (x : Int32) (r : (Nat × Nat) ⊕ Wk) : Prop := match r with
  | .inl (e, p) => x = 0 ∧ TF kS σ υ e p
  | .inr w => x = 1 ∧ mI υ 16 4 = nI w.1 ∧ (∀ i, i < w.1 → CRow υ i (w.2 i)) ∧ TG kS σ υ
def WmR (τ υ : mm_M) (r : (Nat × Nat) ⊕ Wk) : Prop := match r with
  | .inl (e, p) => MF stS sF τ υ e p
  | .inr w => mI υ 53 5 = 0 ∧ mI υ 53 28 = nI w.1 ∧ (∀ i, i < w.1 → MRow υ i (w.2 i)) ∧ AgM stS sF τ υ
theorem work_text {J P : Nat} (hm : m ≤ 150) (hJ : J ≤ 6) (hP : P ≤ 7) : ∃ r : (Nat × Nat) ⊕ Wk, WtP J P r ∧
    (∀ σ d, RS σ t m (sp isB t m 0) → LdC σ J P → ∃ x υ, ev (d + 20) 77 [.ref 16, .ref 1, .ref (ldA σ)] σ = some (.inl (.int x), υ) ∧ WcR σ υ x r) ∧
    (∀ τ d x1, RM τ t m (sp isB t m 0) → mI τ 53 4 = nI (sp isB t m 0) → LdM τ J P → mI τ 53 28 = 0 → mI τ 53 8 = 0 → ∃ υ, rn (d + 13) 221 72 [.ref 53, .int x1] [] τ = rn (d + 13) 221 101 [.ref 53, .int x1] [] υ ∧ WmR τ υ r) := by
  have s0 := (sp_all (P := isB) (t := t) (n := m) 0 (Nat.zero_le _)).2.1
  obtain ⟨r1, f1, c1, m1⟩ := sp_all6 (t := t) hm hJ hP 6 0 rfl (sp isB t m 0) 0 s0 (Nat.zero_le _)
  have cgo : ∀ (σ : mm_M) (d : Nat), RS σ t m (sp isB t m 0) → LdC σ J P → ∃ x υ σ1, ev (d + 20) 77 [.ref 16, .ref 1, .ref (ldA σ)] σ = (if x = 0 then rn (d + 20) 77 26 [.ref 16, .ref 1, .ref (ldA σ)] [] υ else cI1 (ev (d + 19) 19 [.ref 1] υ) fun r5 σ4 => if r5 = 0 then rn (d + 20) 77 26 [.ref 16, .ref 1, .ref (ldA σ)] [] σ4 else rn (d + 20) 77 27 [.ref 16, .ref 1, .ref (ldA σ)] [.int 1] σ4) ∧ CbR t m 0 x σ1 υ r1 ∧ TG kS σ σ1 := by
    intro σ d hr ld
    have ag : Ag (fun a => a = 16) σ (wI σ 16 4 0) := Ag.wI (S := fun a => a = 16) (Ag.refl _ σ) rfl _ _
    have rs := hr.ag ag (by omega) (by omega) (fun x hx => by omega)
    have f1' : mI (wI σ 16 4 0) 1 = mI σ 1 := rI_o (by decide)
    have tg : TG kS σ (wI σ 16 4 0) := ⟨ag.mono (fun a q => by unfold kS; omega), by rw [f1'], by rw [f1'], by rw [f1']⟩
    obtain ⟨x, υ, a1, a2⟩ := c1 (wI σ 16 4 0) d 0 (Nat.zero_le _) rs (kS_ld hr.1 tg.1 ld) (by rw [rI_w, if_pos ⟨rfl, rfl⟩]; rfl)
    rw [tg.1.ld] at a1
    refine ⟨x, υ, _, ?_, a2, tg⟩
    rw [e_Steps_read (d + 19) 16 1 (ldA σ) σ (by rw [k_16 hr.1]), xs_16 hr.1, e_Steps_readBlock (d + 18) 16 1 (ldA σ) 0 (wI σ 16 4 0) (by rw [k_16 rs.1]), show rn (d + 18 + 1) 78 3 [.ref 16, .ref 1, .ref (ldA σ), .int 0, .int 0] [] (wI σ 16 4 0) = _ from a1, cI_ok]
  have cbad : ∀ (υ : mm_M) (d L : Nat), rn (d + 20) 77 26 [.ref 16, .ref 1, .ref L] [] υ = some (.inl (.int 0), υ) := by
    intro υ d L
    rw [e_Steps_read_26, e_Steps_read_27, nar1_0]
  have mgo : ∀ (τ : mm_M) (d : Nat) (x1 : Int32), RM τ t m (sp isB t m 0) → mI τ 53 4 = nI (sp isB t m 0) → LdM τ J P → mI τ 53 28 = 0 → mI τ 53 8 = 0 → ∃ υ, MbR t m 0 0 (fun σ5 => rn (d + 13) 221 72 [.ref 53, .int x1] [] σ5) (fun σ5 => rn (d + 13) 221 101 [.ref 53, .int x1] [] σ5) (rn (d + 13) 221 72 [.ref 53, .int x1] [] τ) τ υ r1 := by
    intro τ d x1 hr e4 ld e28 e8
    exact m1 τ d (fun σ5 => rn (d + 13) 221 72 [.ref 53, .int x1] [] σ5) (fun σ5 => rn (d + 13) 221 101 [.ref 53, .int x1] [] σ5) (fun τ2 s2 r2 e2 k2 => by
      show rn (d + 13) 221 72 [.ref 53, .int x1] [] τ2 = _
      have lt2 : s2 < m := tk_lt (t := t) (by rw [k2]; decide)
      rw [e_M_work_72, xg_53 r2.1, r2.2.2.2.2.1, if_pos (show (0 : Int32) = 0 from rfl), xg_53 r2.1, e2, xg_53 r2.1, r2.2.2.2.1, if_neg (nI_ge lt2 (by omega))]) (fun τ2 h2 n5 => by
      show rn (d + 13) 221 72 [.ref 53, .int x1] [] τ2 = _
      rw [e_M_work_72, xg_53 h2, if_neg n5]) hr e4 ld e28 e8
  match r1, f1, cgo, mgo with
  | .inl (e, p), f1, cgo, mgo =>
    refine ⟨.inl (e, p), f1, fun σ d hr ld => ?_, fun τ d x1 hr e4 ld e28 e8 => ?_⟩
    · obtain ⟨x, υ, σ1, a1, ⟨rfl, a2⟩, a3⟩ := cgo σ d hr ld
      exact ⟨0, υ, by rw [a1, if_pos rfl, cbad], rfl, a3.tf a2⟩
    · obtain ⟨υ, a1, a2⟩ := mgo τ d x1 hr e4 ld e28 e8
      exact ⟨υ, a1, a2⟩
  | .inr (s', e, f), f1, cgo, mgo =>
    obtain ⟨q1, q2, q3, q4, q5, q6, q7⟩ := f1
    by_cases z : s' = m
    · refine ⟨.inr (e, f), ⟨by show e ≤ 38; omega, fun i hi => q5 i (Nat.zero_le _) hi, q6⟩, fun σ d hr ld => ?_, fun τ d x1 hr e4 ld e28 e8 => ?_⟩
      · obtain ⟨x, υ, σ1, a1, ⟨rfl, b1, b2, b3, b4, b5⟩, a3⟩ := cgo σ d hr ld
        refine ⟨1, υ, ?_, rfl, b2, fun i hi => b3 i (Nat.zero_le _) hi, a3.trans b5⟩
        rw [a1, if_neg (show ¬ (1 : Int32) = 0 by decide), (t_atEnd (d := d + 18) b1).1 z, cI1_ok, if_neg (show ¬ (1 : Int32) = 0 by decide), e_Steps_read_27, nar1_1]
      · obtain ⟨υ, a1, a2, b1, b2, b3, b4, b5, b6⟩ := mgo τ d x1 hr e4 ld e28 e8
        refine ⟨υ, ?_, b1.2.2.2.2.1, b2, fun i hi => b4 i (Nat.zero_le _) hi, b6⟩
        rw [show rn (d + 13) 221 72 [.ref 53, .int x1] [] τ = rn (d + 13) 221 72 [.ref 53, .int x1] [] υ from a1, e_M_work_72, xg_53 b1.1, b1.2.2.2.2.1, if_pos (show (0 : Int32) = 0 from rfl), xg_53 b1.1, a2, xg_53 b1.1, b1.2.2.2.1, if_pos (nI_le (by omega) (by omega))]
    · refine ⟨.inl (1, s'), ⟨by decide, by decide⟩, fun σ d hr ld => ?_, fun τ d x1 hr e4 ld e28 e8 => ?_⟩
      · obtain ⟨x, υ, σ1, a1, ⟨rfl, b1, b2, b3, b4, b5⟩, a3⟩ := cgo σ d hr ld
        obtain ⟨υ2, w1, w2⟩ := (t_atEnd (d := d + 18) b1).2 z
        refine ⟨0, υ2, ?_, rfl, (a3.trans b5).tf (w2.mono (fun _ => at1_kS))⟩
        rw [a1, if_neg (show ¬ (1 : Int32) = 0 by decide), show ev (d + 19) 19 [.ref 1] υ = _ from w1, cI1_ok, if_pos rfl, cbad]
      · obtain ⟨υ, a1, a2, b1, b2, b3, b4, b5, b6⟩ := mgo τ d x1 hr e4 ld e28 e8
        obtain ⟨υ3, w1, w2⟩ := m_noStep (d := d + 7) b1 (wN_no2 q7 0)
        have mf := mftr b6 w2
        obtain ⟨φ, v1, v2⟩ := blF (d := d + 11) hr.1 hr.2.1 hr.2.2.2.1 mf
        have s4 := v2.1.sh hr.1
        refine ⟨φ, ?_, v2⟩
        rw [show rn (d + 13) 221 72 [.ref 53, .int x1] [] τ = rn (d + 13) 221 72 [.ref 53, .int x1] [] υ from a1, e_M_work_72, xg_53 b1.1, b1.2.2.2.2.1, if_pos (show (0 : Int32) = 0 from rfl), xg_53 b1.1, a2, xg_53 b1.1, b1.2.2.2.1, if_neg (nI_ge (by omega) (by omega)), show ev (d + 12) 205 [.ref 53] υ = _ from w1, cV_ok, show ev (d + 12) 172 [.ref 53] υ3 = _ from v1, cV_ok, e_M_work_72, xg_53 s4, if_neg (v2.bad (by decide) (by decide))]
end WText
