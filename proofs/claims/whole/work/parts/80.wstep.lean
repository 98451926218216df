/-! WORK as a text: a step -/
abbrev RFn : Type := Nat → Nat × Nat × Nat × Nat
abbrev SR : Type := (Nat × Nat) ⊕ (Nat × Nat × RFn)
def RowOK (J P : Nat) (q : Nat × Nat × Nat × Nat) : Prop := q.1 ≤ 5 ∧ q.2.2.2 ≤ 38 ∧ (q.1 = 0 → q.2.1 < J ∧ q.2.2.1 < P) ∧ (q.1 = 1 → q.2.1 < P ∧ q.2.2.1 ≤ 9) ∧ (q.1 = 2 → q.2.1 < P) ∧ (q.1 = 3 → q.2.1 ≤ 99) ∧ (q.1 = 5 → q.2.1 ≤ 60)
def kS (a : Nat) : Prop := a = 1 ∨ (16 ≤ a ∧ a ≤ 20)
def sF (i : Nat) : Prop := i = 4 ∨ i = 5 ∨ i = 6 ∨ i = 8 ∨ i = 28
def CRow (σ : mm_M) (i : Nat) (q : Nat × Nat × Nat × Nat) : Prop := mI σ 17 i = nI q.1 ∧ (q.1 ≠ 4 → mI σ 18 i = nI q.2.1) ∧ (q.1 ≤ 1 → mI σ 19 i = nI q.2.2.1) ∧ mI σ 20 i = nI q.2.2.2
def MRow (τ : mm_M) (i : Nat) (q : Nat × Nat × Nat × Nat) : Prop := mI τ (453 + i) 0 = nI q.1 ∧ mI τ (453 + i) 3 = nI q.2.2.2 ∧ (q.1 = 0 → mI τ (453 + i) 1 = nI q.2.2.1 ∧ mI τ (453 + i) 2 = nI q.2.1) ∧ (q.1 = 1 → mI τ (453 + i) 1 = nI q.2.1 ∧ mI τ (453 + i) 2 = nI q.2.2.1) ∧ (2 ≤ q.1 → q.1 ≠ 4 → mI τ (453 + i) 1 = nI q.2.1)
def RSm (c : Nat) (σ υ : mm_M) : Prop := ∀ i, i < c → mI υ 17 i = mI σ 17 i ∧ mI υ 18 i = mI σ 18 i ∧ mI υ 19 i = mI σ 19 i ∧ mI υ 20 i = mI σ 20 i
def CSt (t : Nat → Nat) (m c : Nat) (σ υ : mm_M) (s' e : Nat) (f : RFn) : Prop := RS υ t m s' ∧ mI υ 16 4 = nI e ∧ (∀ i, c ≤ i → i < e → CRow υ i (f i)) ∧ RSm c σ υ ∧ TG kS σ υ
def MSt (t : Nat → Nat) (m c op : Nat) (τ υ : mm_M) (s' e : Nat) (f : RFn) : Prop := RM υ t m s' ∧ mI υ 53 28 = nI e ∧ mI υ 53 8 = nI op ∧ (∀ i, c ≤ i → i < e → MRow υ i (f i)) ∧ (∀ i, i < c → mI υ (453 + i) = mI τ (453 + i)) ∧ AgM stS sF τ υ
def LdC (σ : mm_M) (J P : Nat) : Prop := mI σ (ldA σ) 7 = nI P ∧ mI σ (ldA σ) 8 = nI J
def LdM (τ : mm_M) (J P : Nat) : Prop := mI τ 57 0 = nI P ∧ mI τ 57 1 = nI J
def FS (J P m op s c : Nat) (r : SR) : Prop := match r with
  | .inl (e, _) => 1 ≤ e ∧ e ≤ 3
  | .inr (s', e, f) => s < s' ∧ s' ≤ m ∧ c < e ∧ 4 * e ≤ s' ∧ (∀ i, c ≤ i → i < e → RowOK J P (f i)) ∧ (f c).2.2.2 = e ∧ ((f c).1 = 5 → op < 6 ∧ ∃ k, blk (e, f) k (c + 1) e (op + 1))
def FB (t : Nat → Nat) (J P m op s c : Nat) (r : SR) : Prop := match r with
  | .inl (e, _) => 1 ≤ e ∧ e ≤ 3
  | .inr (s', e, f) => s ≤ s' ∧ s' ≤ m ∧ c ≤ e ∧ 4 * e ≤ s' ∧ (∀ i, c ≤ i → i < e → RowOK J P (f i)) ∧ (∃ k, blk (e, f) k c e op) ∧ tkK t m s' ≠ 2
def CsR (t : Nat → Nat) (m c : Nat) (K0 K1 : mm_M → Option mm_R) (X : Option mm_R) (σ υ : mm_M) (r : SR) : Prop := match r with
  | .inl (e, p) => X = K0 υ ∧ TF kS σ υ e p
  | .inr (s', e, f) => X = K1 υ ∧ CSt t m c σ υ s' e f
def CbR (t : Nat → Nat) (m c : Nat) (x : Int32) (σ υ : mm_M) (r : SR) : Prop := match r with
  | .inl (e, p) => x = 0 ∧ TF kS σ υ e p
  | .inr (s', e, f) => x = 1 ∧ CSt t m c σ υ s' e f
def MsR (t : Nat → Nat) (m c op : Nat) (τ υ : mm_M) (r : SR) : Prop := match r with
  | .inl (e, p) => MF stS sF τ υ e p
  | .inr (s', e, f) => MSt t m c op τ υ s' e f
def MbR (t : Nat → Nat) (m c op : Nat) (L E : mm_M → Option mm_R) (X : Option mm_R) (τ υ : mm_M) (r : SR) : Prop := match r with
  | .inl (e, p) => X = E υ ∧ MF stS sF τ υ e p
  | .inr (s', e, f) => X = L υ ∧ mI υ 53 4 = nI s' ∧ MSt t m c op τ υ s' e f
/-- one step and its sign -/
def SpS (t : Nat → Nat) (J P m op e' s c : Nat) : Prop := ∃ r : SR, FS J P m op s c r ∧
  (∀ σ d K0 K1, RS σ t m s → LdC σ J P → mI σ 16 4 = nI c → ∃ υ, CsR t m c K0 K1 (cI (ev (d + 6 + 2 * e') 79 [.ref 16, .ref 1, .ref (ldA σ), .int (nI op)] σ) fun r3 σ2 => if r3 = 0 then K0 σ2 else cI1 (ev (d + 6 + 2 * e') 20 [.ref 1, .int 59] σ2) fun r5 σ4 => if r5 = 0 then K0 σ4 else K1 σ4) σ υ r) ∧
  (∀ τ d, RM τ t m s → LdM τ J P → mI τ 53 28 = nI c → mI τ 53 8 = nI op → ∃ υ, ev (d + 6 + e') 205 [.ref 53] τ = some (.inl uv, υ) ∧ MsR t m c op τ υ r)
/-- a block -/
def SpB (t : Nat → Nat) (J P m op e' s c : Nat) : Prop := ∃ r : SR, FB t J P m op s c r ∧
  (∀ σ d i, i ≤ s → RS σ t m s → LdC σ J P → mI σ 16 4 = nI c → ∃ x υ, rn (d + 7 + 2 * e') 78 3 [.ref 16, .ref 1, .ref (ldA σ), .int (nI op), .int (nI i)] [] σ = some (.inl (.int x), υ) ∧ CbR t m c x σ υ r) ∧
  (∀ τ d (L E : mm_M → Option mm_R), (∀ τ s, RM τ t m s → mI τ 53 4 = nI s → tkK t m s = 2 → L τ = cV (ev (d + 6 + e') 205 [.ref 53] τ) fun σ5 => cV (ev (d + 6 + e') 172 [.ref 53] σ5) L) → (∀ τ, Sh τ → ¬ mI τ 53 5 = 0 → L τ = E τ) →
    RM τ t m s → mI τ 53 4 = nI s → LdM τ J P → mI τ 53 28 = nI c → mI τ 53 8 = nI op → ∃ υ, MbR t m c op L E (L τ) τ υ r)
section WStep
variable {σ τ σ' τ' υ φ : mm_M} {t : Nat → Nat} {m s c op : Nat} {d : Nat}
theorem kS_ld {σ υ : mm_M} {J P : Nat} (h : Sh σ) (a : Ag kS σ υ) (l : LdC σ J P) : LdC υ J P := by
  have hl : ldA σ = 5 ∨ ldA σ = 38 := h.ld
  unfold LdC
  rw [a.ld, a.at (by unfold kS; omega)]
  exact l
theorem sF_ld {τ υ : mm_M} {J P : Nat} (a : AgM stS sF τ υ) (l : LdM τ J P) : LdM υ J P := by
  unfold LdM
  rw [a.at (by decide) (by unfold stS; omega)]
  exact l
theorem kS_RSm {σ υ : mm_M} {S : Nat → Prop} (a : Ag S σ υ) (h : ∀ x, 17 ≤ x → x ≤ 20 → ¬ S x) (c : Nat) : RSm c σ υ := fun i _ => by
  rw [a.at (h 17 (by decide) (by decide)), a.at (h 18 (by decide) (by decide)), a.at (h 19 (by decide) (by decide)), a.at (h 20 (by decide) (by decide))]
  exact ⟨rfl, rfl, rfl, rfl⟩
theorem RSm.trans {σ υ φ : mm_M} {c : Nat} (h : RSm c σ υ) (g : RSm c υ φ) : RSm c σ φ := fun i hi => by
  obtain ⟨h1, h2, h3, h4⟩ := h i hi
  obtain ⟨g1, g2, g3, g4⟩ := g i hi
  exact ⟨g1.trans h1, g2.trans h2, g3.trans h3, g4.trans h4⟩
theorem at1_kS {a : Nat} (h : at1 a) : kS a := Or.inl h
theorem n18_kS {a : Nat} (h : n18 a) : kS a := by unfold n18 at h; unfold kS; omega
theorem n1_17 : ∀ x, 17 ≤ x → x ≤ 20 → ¬ at1 x := fun x h1 h2 q => by unfold at1 at q; omega
theorem CRow_o {σ υ : mm_M} {i : Nat} {q : Nat × Nat × Nat × Nat} (h : CRow σ i q) (e1 : mI υ 17 i = mI σ 17 i) (e2 : mI υ 18 i = mI σ 18 i) (e3 : mI υ 19 i = mI σ 19 i) (e4 : mI υ 20 i = mI σ 20 i) : CRow υ i q := by
  unfold CRow
  rw [e1, e2, e3, e4]
  exact h
theorem MRow_o {σ υ : mm_M} {i : Nat} {q : Nat × Nat × Nat × Nat} (h : MRow σ i q) (e : mI υ (453 + i) = mI σ (453 + i)) : MRow υ i q := by
  unfold MRow
  rw [e]
  exact h
theorem mfw {row k e p : Nat} {v : Int32} (hr : row < 80) (h : MF stS sF τ υ e p) : MF stS sF τ (wI υ (453 + row) k v) e p := by
  have f53 : mI (wI υ (453 + row) k v) 53 = mI υ 53 := rI_o (by omega)
  exact ⟨h.1.trans (AgM.of (S := fun a => a = 453 + row) (Ag.wI (S := fun a => a = 453 + row) (Ag.refl _ υ) rfl _ _) (fun a q => by unfold stS; omega) (by omega)), by rw [f53]; exact h.2.1, by rw [f53]; exact h.2.2.1, by rw [f53]; exact h.2.2.2⟩
theorem mfup {row e p : Nat} (hr : row < 80) (h : MF (fun a => a = 453 + row) f456 τ υ e p) : MF stS sF τ υ e p := h.mono (fun a q => by unfold stS; omega) (fun i q => by unfold f456 at q; unfold sF; omega)
theorem agup {row : Nat} (hr : row < 80) (h : AgM (fun a => a = 453 + row) f4 τ υ) : AgM stS sF τ υ := h.mono (fun a q => by unfold stS; omega) (fun i q => Or.inl q)
theorem ag4 (h : AgM nS0 f4 τ υ) : AgM stS sF τ υ := h.mono (fun a q => q.elim) (fun i q => Or.inl q)
theorem mf4 {e p : Nat} (h : MF nS0 f456 τ υ e p) : MF stS sF τ υ e p := h.mono (fun a q => q.elim) (fun i q => by unfold f456 at q; unfold sF; omega)
theorem mftr {e p : Nat} (a : AgM stS sF τ υ) (h : MF stS sF υ φ e p) : MF stS sF τ φ e p := ⟨a.trans h.1, h.2⟩
/-- behind a FAULT the reference writes on, and nothing else -/
theorem l211F {row e p : Nat} {x : Int32} (hr : row < 80) (h : Sh υ) (mf : MF stS sF τ υ e p) (e1 : 1 ≤ e) (e3 : e ≤ 3) : ∃ φ, rn (d + 2) 205 211 [.ref 53, .int x, .ref (453 + row)] [] υ = some (.inl uv, φ) ∧ MF stS sF τ φ e p := by
  have n5 : ¬ mI (wI υ (453 + row) 3 (mI υ 53 28)) 53 5 = 0 := w_5 (mf.bad e1 e3)
  refine ⟨wI υ (453 + row) 3 (mI υ 53 28), ?_, mfw hr mf⟩
  rw [e_M_readsStep_211, xg_53 h, show tI υ (453 + row) 3 = tI υ (453 + row) (nI 3) from rfl, xt_r452 h hr (by decide), u_signF (sh_w h) n5, cV_ok]
theorem mf8 {e p : Nat} {v : Int32} (h : MF stS sF τ υ e p) : MF stS sF τ (wI υ 53 8 v) e p := by
  refine ⟨h.1.w53 (Or.inr (Or.inr (Or.inr (Or.inl rfl)))) _, ?_, ?_, ?_⟩
  · rw [rI_w, if_neg (by omega)]; exact h.2.1
  · rw [rI_w, if_neg (by omega)]; exact h.2.2.1
  · rw [rI_w, if_neg (by omega)]; exact h.2.2.2
theorem l195F {row e p : Nat} {x : Int32} (hr : row < 80) (h : Sh υ) (mf : MF stS sF τ υ e p) (e1 : 1 ≤ e) (e3 : e ≤ 3) : ∃ φ, rn (d + 2) 205 195 [.ref 53, .int x, .ref (453 + row)] [] υ = some (.inl uv, φ) ∧ MF stS sF τ φ e p := by
  have n5 : ¬ mI υ 53 5 = 0 := mf.bad e1 e3
  obtain ⟨φ, l1, l2⟩ := l211F (d := d) (x := x) hr (show Sh (wI υ 53 8 (mI υ 53 8 - 1)) from h) (mf8 mf) e1 e3
  refine ⟨φ, ?_, l2⟩
  rw [e_M_readsStep_195, u_signF h n5, cV_ok, xg_53 h, xs_53 h]
  exact l1
theorem l164F {row e p : Nat} {x : Int32} (hr : row < 80) (h : Sh υ) (mf : MF stS sF τ υ e p) (e1 : 1 ≤ e) (e3 : e ≤ 3) : ∃ φ, rn (d + 2) 205 164 [.ref 53, .int x, .ref (453 + row)] [] υ = some (.inl uv, φ) ∧ MF stS sF τ φ e p := by
  obtain ⟨φ, l1, l2⟩ := l195F (d := d) (x := x) hr h mf e1 e3
  refine ⟨φ, ?_, l2⟩
  rw [e_M_readsStep_164, xg_53 h, if_neg (mf.bad e1 e3)]
  exact l1
/-- blanks behind a FAULT -/
theorem blF {e p : Nat} (h : Sh τ) (hx : TxM τ t m) (e2 : mI τ 53 2 = nI m) (mf : MF stS sF τ υ e p) : ∃ φ, ev (d + 1) 172 [.ref 53] υ = some (.inl uv, φ) ∧ MF stS sF τ φ e p := by
  obtain ⟨i, i1, i2⟩ := mf.2.2.2
  have tx : TxM υ t m := ⟨hx.1, hx.2.1, fun k hk => by rw [mf.1.at (by decide) (by unfold stS; omega)]; exact hx.2.2 k hk⟩
  obtain ⟨φ, v1, v2, v3⟩ := u_blanksF (d := d) (mf.1.sh h) tx (by rw [mf.1.f (by unfold sF; omega)]; exact e2) i1 i2
  exact ⟨φ, v1, mf.1.trans (ag4 v2), by rw [v2.f (show ¬ (5 : Nat) = 4 by decide)]; exact mf.2.1, by rw [v2.f (show ¬ (6 : Nat) = 4 by decide)]; exact mf.2.2.1, v3⟩
/-- where no step stands -/
theorem m_noStep (hr : RM τ t m s) (h : wN t m s wds3 0 = none) : ∃ υ, ev (d + 5) 205 [.ref 53] τ = some (.inl uv, υ) ∧ MF stS sF τ υ 1 s := by
  obtain ⟨τ1, a1, a2, a3, a4⟩ := u_stepHere (d := d) hr
  rw [h] at a1
  obtain ⟨υ, w1, w2⟩ := u_wrong (d := d + 4) a2 1 s
  have mf := mftr (ag4 a3) (mf4 w2)
  have s2 := mf.1.sh hr.1
  refine ⟨υ, ?_, mf⟩
  rw [e_M_readsStep (d + 4) 53 τ (by rw [k_53 hr.1]), a1, cI_ok, if_pos (show oI32 none = -1 from rfl), xg_53 a2.1, a4, show (1 : Int32) = nI 1 from rfl, w1, cV_ok, e_M_readsStep_19, if_neg (show ¬ oI32 none = 5 by decide), e_M_readsStep_32, xg_53 s2, if_neg (mf.bad (by decide) (by decide))]
/-- the class up to the numbers -/
theorem c_pre (hr : RS σ t m s) {k : Nat} (hw : wN t m s wds3 0 = some k) (hop : op ≤ 6) (h5 : k = 5 → op < 6) (hc : c < 38) (e4 : mI σ 16 4 = nI c) {L : Nat} : ∃ υ, ev (d + 5) 79 [.ref 16, .ref 1, .ref L, .int (nI op)] σ = (cI (ev (d + 4) 80 [.ref 16, .ref 1, .ref L, .int (nI c)] υ) fun r9 σ8 => if r9 = 0 then rn (d + 5) 79 152 [.ref 16, .ref 1, .ref L, .int (nI op), .int (nI k), .int (nI c), .int r9] [] σ8 else if nI k = 5 then cI1 (ev (d + 4) 20 [.ref 1, .int 91] σ8) fun r11 σ10 => if r11 = 0 then rn (d + 5) 79 149 [.ref 16, .ref 1, .ref L, .int (nI op), .int (nI k), .int (nI c), .int r9] [] σ10 else cI (ev (d + 4) 78 [.ref 16, .ref 1, .ref L, .int (nI op + (1 : Int32))] σ10) fun r13 σ12 => if r13 = 0 then rn (d + 5) 79 149 [.ref 16, .ref 1, .ref L, .int (nI op), .int (nI k), .int (nI c), .int r9] [] σ12 else cI1 (ev (d + 4) 20 [.ref 1, .int 93] σ12) fun r15 σ14 => if r15 = 0 then rn (d + 5) 79 149 [.ref 16, .ref 1, .ref L, .int (nI op), .int (nI k), .int (nI c), .int r9] [] σ14 else rn (d + 5) 79 150 [.ref 16, .ref 1, .ref L, .int (nI op), .int (nI k), .int (nI c), .int r9] [.int 1] σ14 else rn (d + 5) 79 152 [.ref 16, .ref 1, .ref L, .int (nI op), .int (nI k), .int (nI c), .int r9] [] σ8) ∧
    RS υ t m (nxt t m s) ∧ mI υ 17 c = nI k ∧ mI υ 16 4 = nI (c + 1) ∧ (∀ i, i ≠ c → mI υ 17 i = mI σ 17 i) ∧ mI υ 18 = mI σ 18 ∧ mI υ 19 = mI σ 19 ∧ mI υ 20 = mI σ 20 ∧ TG kS σ υ := by
  have k5 := (wds3_len hw).2.2
  have sA : Sh (wI σ 16 4 (nI (c + 1))) := hr.1
  have ag : Ag (fun a => a = 16 ∨ a = 17) σ (wI (wI σ 16 4 (nI (c + 1))) 17 c (nI k)) := Ag.wI (S := fun a => a = 16 ∨ a = 17) (Ag.wI (S := fun a => a = 16 ∨ a = 17) (Ag.refl _ σ) (Or.inl rfl) _ _) (Or.inr rfl) _ _
  have r2 : RS (wI (wI σ 16 4 (nI (c + 1))) 17 c (nI k)) t m s := hr.ag ag (by omega) (by omega) (fun x hx => by omega)
  obtain ⟨υ, n1, n2, n3⟩ := t_next (d := d + 4) r2
  have f1 : mI (wI (wI σ 16 4 (nI (c + 1))) 17 c (nI k)) 1 = mI σ 1 := ag.at (by omega)
  have w := t_wordOf (d := d) hr (i := 3) (by decide) str3
  rw [wN_ok, hw] at w
  refine ⟨υ, ?_, n2, ?_, ?_, fun i hi => ?_, ?_, ?_, ?_, ⟨(ag.mono (fun a q => by unfold kS; omega)).trans (n3.1.mono (fun _ => at1_kS)), by rw [n3.2.1, f1], by rw [n3.2.2.1, f1], by rw [n3.2.2.2, f1]⟩⟩
  · have go := e_Steps_readStep_46 (d + 4) 16 1 L (nI op) (nI k) σ
    rw [xg_16 hr.1, e4, if_pos (show nI c < (38 : Int32) from nI_lt (b := 38) hc (by decide)), xg_16 hr.1, e4, xg_16 hr.1, e4, xs_16 hr.1, nI_1, xr_16_0 sA, xt_17 sA hc, n1, cV1_ok] at go
    rw [e_Steps_readStep (d + 4) 16 1 L (nI op) σ (by rw [k_16 hr.1]), show ev (d + 4) 22 [.ref 1, .ref 1000005] σ = _ from w, cI1_ok, if_neg (show ¬ oI32 (some k) = -1 from nI_m1 (by omega))]
    by_cases z : k = 5
    · subst z
      rw [if_pos (show oI32 (some 5) = 5 from rfl), if_pos (show nI op < (6 : Int32) from nI_lt (b := 6) (h5 rfl) (by decide))]
      exact go
    · rw [if_neg (show ¬ oI32 (some k) = 5 from fun y => z ((nI_eq (a := k) (b := 5) (by omega) (by decide)).mp y))]
      exact go
  · rw [n3.1.at (show ¬ (17 : Nat) = 1 by decide), rI_w, if_pos ⟨rfl, rfl⟩]
  · rw [n3.1.at (show ¬ (16 : Nat) = 1 by decide), rI_o (by decide), rI_w, if_pos ⟨rfl, rfl⟩]
  · rw [n3.1.at (show ¬ (17 : Nat) = 1 by decide), rI_w, if_neg (fun z => hi z.2), rI_o (by decide)]
  · rw [n3.1.at (show ¬ (18 : Nat) = 1 by decide), rI_o (by decide), rI_o (by decide)]
  · rw [n3.1.at (show ¬ (19 : Nat) = 1 by decide), rI_o (by decide), rI_o (by decide)]
  · rw [n3.1.at (show ¬ (20 : Nat) = 1 by decide), rI_o (by decide), rI_o (by decide)]
/-- the reference up to the numbers -/
theorem m_pre (hr : RM τ t m s) {k : Nat} (hw : wN t m s wds3 0 = some k) (hop : op ≤ 6) (h5 : k = 5 → op < 6) (hc : c < 80) (e28 : mI τ 53 28 = nI c) (e8 : mI τ 53 8 = nI op) : ∃ υ, ev (d + 5) 205 [.ref 53] τ = Ex (d + 4) k c υ ∧ RM υ t m (nxt t m s) ∧ mI υ (453 + c) 0 = nI k ∧ mI υ 53 28 = nI (c + 1) ∧ mI υ 53 8 = nI (if k = 5 then op + 1 else op) ∧ (∀ i, i ≠ c → mI υ (453 + i) = mI τ (453 + i)) ∧ AgM stS sF τ υ := by
  have k5 := (wds3_len hw).2.2
  have kw := (wN_some _ _ _ hw).1
  obtain ⟨τ1, a1, a2, a3, a4⟩ := u_stepHere (d := d) hr
  rw [hw] at a1
  have e8' : mI τ1 53 8 = nI op := by rw [a3.f (show ¬ (8 : Nat) = 4 by decide)]; exact e8
  have e28' : mI τ1 53 28 = nI c := by rw [a3.f (show ¬ (28 : Nat) = 4 by decide)]; exact e28
  have tail : ∀ τ2, RM τ2 t m s → mI τ2 53 4 = nI s → mI τ2 53 28 = nI c → ∃ υ, rn (d + 5) 205 32 [.ref 53, .int (nI k), uv] [] τ2 = Ex (d + 4) k c υ ∧ RM υ t m (nxt t m s) ∧ mI υ (453 + c) 0 = nI k ∧ mI υ 53 28 = nI (c + 1) ∧ mI υ 53 8 = mI τ2 53 8 ∧ (∀ i, i ≠ c → mI υ (453 + i) = mI τ2 (453 + i)) ∧ AgM stS sF τ2 υ := by
    intro τ2 r2 z4 z28
    obtain ⟨τ3, s1, s2, s3⟩ := u_skipWord (d := d + 3) r2 z4 kw
    have y28 : mI τ3 53 28 = nI c := by rw [s3.f (show ¬ (28 : Nat) = 4 by decide)]; exact z28
    have sA : Sh (wI τ3 53 28 (nI (c + 1))) := s2.1
    have b1 : AgM stS (fun i => i = 28) τ3 (wI τ3 53 28 (nI (c + 1))) := AgM.w53 (F := fun i => i = 28) (AgM.refl _ _ τ3) rfl _
    have b2 : AgM stS (fun i => i = 28) τ3 (wI (wI τ3 53 28 (nI (c + 1))) (453 + c) 0 (nI k)) := b1.trans (AgM.of (S := fun a => a = 453 + c) (Ag.wI (S := fun a => a = 453 + c) (Ag.refl _ _) rfl _ _) (fun a q => by unfold stS; omega) (by omega))
    refine ⟨wI (wI τ3 53 28 (nI (c + 1))) (453 + c) 0 (nI k), ?_, s2.agm b2 (by unfold stS; omega) (by omega) (by omega) (by omega), by rw [rI_w, if_pos ⟨rfl, rfl⟩], ?_, ?_, fun i hi => ?_, (ag4 s3).trans (b2.mono (fun _ q => q) (fun i q => by unfold sF; omega))⟩
    · rw [e_M_readsStep_32, xg_53 r2.1, r2.2.2.2.2.1, if_pos (show (0 : Int32) = 0 from rfl), s1, cV_ok, xr_53_27 s2.1, xg_53 s2.1, y28, xR_452 s2.1 hc, xg_53 s2.1, y28, xs_53 s2.1, nI_1, show tI (wI τ3 53 28 (nI (c + 1))) (453 + c) 0 = tI (wI τ3 53 28 (nI (c + 1))) (453 + c) (nI 0) from rfl, xt_r452 sA hc (by decide)]
      rfl
    · rw [rI_o (by omega), w53e]
    · rw [rI_o (by omega), w53n _ (show (8 : Nat) ≠ 28 by decide), s3.f (show ¬ (8 : Nat) = 4 by decide)]
    · rw [rI_o (by omega), rI_o (by omega), s3.at (by omega) (fun q => q)]
  rw [e_M_readsStep (d + 4) 53 τ (by rw [k_53 hr.1]), a1, cI_ok, if_neg (show ¬ oI32 (some k) = -1 from nI_m1 (by omega)), e_M_readsStep_19]
  by_cases z : k = 5
  · subst z
    obtain ⟨o1, -⟩ := u_opens (d := d + 3) a2 a4 e8' hop
    obtain ⟨τ2, g1, g2, g3, g4⟩ := o1 (h5 rfl)
    obtain ⟨υ, t1, t2, t3, t4, t5, t6, t7⟩ := tail τ2 g2 (by rw [g3.f (by omega)]; exact a4) (by rw [g3.f (by omega)]; exact e28')
    refine ⟨υ, ?_, t2, t3, t4, by rw [t5, g4, if_pos rfl], fun i hi => by rw [t6 i hi, g3.at (by omega) (fun q => q), a3.at (by omega) (fun q => q)], ((ag4 a3).trans (g3.mono (fun _ q => q.elim) (fun i q => by unfold sF; omega))).trans t7⟩
    rw [if_pos (show oI32 (some 5) = 5 from rfl), g1, cI_ok, if_neg (show ¬ (1 : Int32) = 0 by decide)]
    exact t1
  · obtain ⟨υ, t1, t2, t3, t4, t5, t6, t7⟩ := tail τ1 a2 a4 e28'
    refine ⟨υ, ?_, t2, t3, t4, by rw [t5, e8', if_neg z], fun i hi => by rw [t6 i hi, a3.at (by omega) (fun q => q)], (ag4 a3).trans t7⟩
    rw [if_neg (show ¬ oI32 (some k) = 5 from fun y => z ((nI_eq (a := k) (b := 5) (by omega) (by decide)).mp y))]
    exact t1
end WStep
