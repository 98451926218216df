/-! WORK: its steps, done on both sides -/
/-- how many rows; row i: word, first, second, the row behind -/
abbrev Wk : Type := Nat × (Nat → Nat × Nat × Nat × Nat)
def kW (w : Wk) (i : Nat) : Nat := (w.2 i).1
def kX (w : Wk) (i : Nat) : Nat := (w.2 i).2.1
def kY (w : Wk) (i : Nat) : Nat := (w.2 i).2.2.1
def kB (w : Wk) (i : Nat) : Nat := (w.2 i).2.2.2
def WkOK (l : Ln) (w : Wk) : Prop := w.1 ≤ 38 ∧ ∀ i, i < w.1 → kW w i ≤ 5 ∧ kB w i ≤ 38 ∧ (kW w i = 0 → kX w i < nJ l ∧ kY w i < nP l) ∧ (kW w i = 1 → kX w i < nP l ∧ kY w i ≤ 9) ∧ (kW w i = 2 → kX w i < nP l) ∧ (kW w i = 3 → kX w i ≤ 99) ∧ (kW w i = 5 → kX w i ≤ 60)
/-- the rows from .. to - 1 are a block at this depth -/
def blk (w : Wk) : Nat → Nat → Nat → Nat → Prop
  | 0, from_, to_, _ => from_ = to_
  | k + 1, from_, to_, op => from_ = to_ ∨ (from_ < to_ ∧ to_ ≤ w.1 ∧ from_ < kB w from_ ∧ (kW w from_ = 5 → op < 6 ∧ blk w k (from_ + 1) (kB w from_) (op + 1)) ∧ blk w k (kB w from_) to_ op)
def CWk (σ : mm_M) (w : Wk) : Prop := ∀ i, i < w.1 → mI σ 17 i = nI (kW w i) ∧ (kW w i ≠ 4 → mI σ 18 i = nI (kX w i)) ∧ (kW w i ≤ 1 → mI σ 19 i = nI (kY w i)) ∧ mI σ 20 i = nI (kB w i)
def MWk (σ : mm_M) (w : Wk) : Prop := ∀ i, i < w.1 → mI σ (453 + i) 0 = nI (kW w i) ∧ mI σ (453 + i) 3 = nI (kB w i) ∧ (kW w i = 0 → mI σ (453 + i) 1 = nI (kY w i) ∧ mI σ (453 + i) 2 = nI (kX w i)) ∧ (kW w i = 1 → mI σ (453 + i) 1 = nI (kX w i) ∧ mI σ (453 + i) 2 = nI (kY w i)) ∧ (2 ≤ kW w i → kW w i ≠ 4 → mI σ (453 + i) 1 = nI (kX w i))
/-- one step: is it done, and the row behind it -/
def dos (l : Ln) (many : Nat) (cs : Nat → Int32) (q : Nat × Nat × Nat) (r : Nat → Int32) : Bool × (Nat → Int32) := match q.1 with
  | 0 => (decide (r (14 + q.2.2) ≠ 1), rTell l many cs r q.2.1 q.2.2)
  | 1 => if r q.2.1 < nI q.2.2 then (true, up r q.2.1 (nI q.2.2)) else (false, r)
  | 2 => if r q.2.1 = 0 then (false, r) else (true, up r q.2.1 0)
  | 3 => if nI q.2.1 ≤ r 77 then (true, up r 77 (r 77 - nI q.2.1)) else (false, r)
  | _ => if r 78 < 400 then (true, rDay (nP l) (lW l) r) else (false, r)
theorem dos_0 (l : Ln) (many : Nat) (cs r : Nat → Int32) (x y : Nat) : dos l many cs (0, x, y) r = (decide (r (14 + y) ≠ 1), rTell l many cs r x y) := rfl
theorem dos_1 (l : Ln) (many : Nat) (cs r : Nat → Int32) (x y : Nat) : dos l many cs (1, x, y) r = if r x < nI y then (true, up r x (nI y)) else (false, r) := rfl
theorem dos_2 (l : Ln) (many : Nat) (cs r : Nat → Int32) (x y : Nat) : dos l many cs (2, x, y) r = if r x = 0 then (false, r) else (true, up r x 0) := rfl
theorem dos_3 (l : Ln) (many : Nat) (cs r : Nat → Int32) (x y : Nat) : dos l many cs (3, x, y) r = if nI x ≤ r 77 then (true, up r 77 (r 77 - nI x)) else (false, r) := rfl
theorem dos_4 (l : Ln) (many : Nat) (cs r : Nat → Int32) (w x y : Nat) : dos l many cs (w + 4, x, y) r = if r 78 < 400 then (true, rDay (nP l) (lW l) r) else (false, r) := rfl
theorem CRc_up3 {c r : Nat → Int32} {n p : Nat} (h : CRc c n r) (hn : n ≤ 7) (hp : p < 7) (v : Int32) : CRc (up c (3 + p) v) n (up r p v) := by
  obtain ⟨⟨a1, a2, a3, a4⟩, a5⟩ := h
  have U : ∀ (f : Nat → Int32) (i k : Nat) (v : Int32), k ≠ i → up f i v k = f k := fun f i k v h => up_n h
  refine ⟨⟨?_, ?_, fun q hq => ⟨?_, ?_, ?_, ?_⟩, fun i hi => ⟨?_, fun q hq => ?_⟩⟩, ?_⟩
  · simp (disch := omega) only [U, a1]
  · simp (disch := omega) only [U, a2]
  · by_cases e : q = p
    · subst e; rw [up_e, up_e]
    · simp (disch := omega) only [U, (a3 q hq).1]
  · simp (disch := omega) only [U, (a3 q hq).2.1]
  · simp (disch := omega) only [U, (a3 q hq).2.2.1]
  · simp (disch := omega) only [U, (a3 q hq).2.2.2]
  · rw [tS_as (s := r) (fun q hq => by simp (disch := omega) only [U])]
    simp (disch := omega) only [U, (a4 i hi).1]
  · simp (disch := omega) only [U, (a4 i hi).2 q hq]
  · rw [whoB_as (g := fun p => r (14 + p)) (fun q hq => by simp (disch := omega) only [U])]
    simp (disch := omega) only [U, a5]
theorem CRc_up1 {c r : Nat → Int32} {n : Nat} (h : CRc c n r) (hn : n ≤ 7) (v : Int32) : CRc (up c 1 v) n (up r 77 v) := by
  obtain ⟨⟨a1, a2, a3, a4⟩, a5⟩ := h
  have U : ∀ (f : Nat → Int32) (i k : Nat) (v : Int32), k ≠ i → up f i v k = f k := fun f i k v h => up_n h
  refine ⟨⟨?_, ?_, fun q hq => ⟨?_, ?_, ?_, ?_⟩, fun i hi => ⟨?_, fun q hq => ?_⟩⟩, ?_⟩
  · simp (disch := omega) only [U, a1]
  · rw [up_e, up_e]
  · simp (disch := omega) only [U, (a3 q hq).1]
  · simp (disch := omega) only [U, (a3 q hq).2.1]
  · simp (disch := omega) only [U, (a3 q hq).2.2.1]
  · simp (disch := omega) only [U, (a3 q hq).2.2.2]
  · rw [tS_as (s := r) (fun q hq => by simp (disch := omega) only [U])]
    simp (disch := omega) only [U, (a4 i hi).1]
  · simp (disch := omega) only [U, (a4 i hi).2 q hq]
  · rw [whoB_as (g := fun p => r (14 + p)) (fun q hq => by simp (disch := omega) only [U])]
    simp (disch := omega) only [U, a5]
theorem rTell_ROK {l : Ln} {many : Nat} {cs r : Nat → Int32} (ok : OKx l many cs) {j p : Nat} (rok : ROK (nP l) r) (hj : j < nJ l) (hp : p < nP l) : ROK (nP l) (rTell l many cs r j p) := by
  have hP : nP l ≤ 7 := ok.1.1
  have hJ : nJ l ≤ 6 := ok.1.2.1
  unfold rTell
  split
  · exact rok
  · obtain ⟨w, hw, ew⟩ := wt_ok ok hp (gvs l r j p (lT l p) (r p) 0)
    exact rHear_ROK rok (by omega) (by omega) hw ew
theorem rTell_RZ {l : Ln} {many : Nat} {cs r : Nat → Int32} (ok : OKx l many cs) {j p : Nat} (h : RZ r) (hj : j < nJ l) (hp : p < nP l) : RZ (rTell l many cs r j p) := by
  have hP : nP l ≤ 7 := ok.1.1
  have hJ : nJ l ≤ 6 := ok.1.2.1
  unfold rTell
  split
  · exact h
  · exact rHear_RZ h (by omega) (by omega) _ _
/-- the grief of a person set -/
theorem ROK_grief {n : Nat} {r : Nat → Int32} (h : ROK n r) {p : Nat} (hp : p < n) (hn : n ≤ 7) (v : Int32) : ROK n (up r p v) := by
  refine ⟨fun q h1 h2 => ?_, fun q hq => ?_, fun q hq => ?_, ?_⟩
  · rw [up_n (by omega), up_n (by omega)]; exact h.1 q h1 h2
  · rw [up_n (by omega)]; exact h.2.1 q hq
  · rw [up_n (by omega)]; exact h.2.2.1 q hq
  · rw [up_n (by omega)]; exact h.2.2.2
theorem dos_ROK {l : Ln} {many : Nat} {cs r : Nat → Int32} (ok : OKx l many cs) (rok : ROK (nP l) r) (rz : RZ r) {q : Nat × Nat × Nat} (h0 : q.1 = 0 → q.2.1 < nJ l ∧ q.2.2 < nP l) (h1 : q.1 = 1 → q.2.1 < nP l) (h2 : q.1 = 2 → q.2.1 < nP l) (h3 : q.1 = 3 → q.2.1 ≤ 99) : ROK (nP l) (dos l many cs q r).2 ∧ RZ (dos l many cs q r).2 := by
  have hP : nP l ≤ 7 := ok.1.1
  obtain ⟨w, x, y⟩ := q
  dsimp only at h0 h1 h2 h3
  match w, h0, h1, h2, h3 with
  | 0, h0, _, _, _ => exact ⟨rTell_ROK ok rok (h0 rfl).1 (h0 rfl).2, rTell_RZ ok rz (h0 rfl).1 (h0 rfl).2⟩
  | 1, _, h1, _, _ =>
    have := h1 rfl
    rw [dos_1]
    split
    · exact ⟨ROK_grief rok this hP _, up_RZ rz (by omega) _⟩
    · exact ⟨rok, rz⟩
  | 2, _, _, h2, _ =>
    have := h2 rfl
    rw [dos_2]
    split
    · exact ⟨rok, rz⟩
    · exact ⟨ROK_grief rok this hP _, up_RZ rz (by omega) _⟩
  | 3, _, _, _, h3 =>
    have := h3 rfl
    rw [dos_3]
    split
    · rename_i hle
      dsimp only
      refine ⟨ROK_o rok (fun q hq => ⟨up_n (by omega), up_n (by omega), by rw [up_n (by omega)]; exact rok.2.1 q hq⟩) ?_, up_RZ rz (by omega) _⟩
      rw [up_e]
      obtain ⟨g, hg, eg⟩ := rok.2.2.2
      rw [eg] at hle ⊢
      rw [pk_sub ((nI_leI (by omega) (by omega)).mp hle)]
      exact ⟨g - x, by omega, rfl⟩
    · exact ⟨rok, rz⟩
  | w + 4, _, _, _, _ =>
    rw [dos_4]
    split
    · exact ⟨rDay_ROK rok hP ok.1.2.2.2.2.2.2.2, rDay_RZ rz _ hP⟩
    · exact ⟨rok, rz⟩
section StepV
variable {σ : mm_M} {d : Nat} {l : Ln} {many : Nat} {cs r : Nat → Int32} {w : Wk}
theorem c_isDone (h : CX σ l many cs) (ok : OKx l many cs) (wok : WkOK l w) (hw : CWk σ w) {i : Nat} (hi : i < w.1) (h5 : kW w i ≠ 5) (hr : CRc (mI σ 22) (nP l) r) (rok : ROK (nP l) r) :
    ∃ τ, ev (d + 4) 85 [.ref 16, .ref 3, .ref 21, .int (nI i)] σ = some (.inl (.int (if (dos l many cs (kW w i, kX w i, kY w i) r).1 then 1 else 0)), τ) ∧ Ag (fun x => scC x ∨ x = 22) σ τ ∧ CRc (mI τ 22) (nP l) (dos l many cs (kW w i, kX w i, kY w i) r).2 := by
  have hs := h.1
  have hP : nP l ≤ 7 := ok.1.1
  have hi2 : i < 38 := by have := wok.1; omega
  have h21 : isDa 21 := Or.inl rfl
  obtain ⟨w1, -, w2, w3, w4, w5, w6⟩ := wok.2 i hi
  obtain ⟨e1, e2, e3, -⟩ := hw i hi
  rw [e_Steps_isDone (d + 3) 16 3 21 (nI i) σ (by rw [k_16 hs])]
  simp (disch := first | assumption | decide | (simp only [Sh_wI, Sh_wA, Sh_wL, Sh_mT, ldA_wI, lwA_wI, bkA_wI, ldA_wA, lwA_wA, bkA_wA]; assumption) | omega) only [xr_16_0, xa_17, e1]
  have hc : kW w i = 0 ∨ kW w i = 1 ∨ kW w i = 2 ∨ kW w i = 3 ∨ kW w i = 4 := by omega
  rcases hc with hc | hc | hc | hc | hc
  · rw [hc]
    show ∃ τ, rn (d + 4) 85 36 [.ref 16, .ref 3, .ref 21, .int (nI i)] [] σ = _ ∧ _
    have e2 := e2 (by omega)
    have e3 := e3 (by omega)
    obtain ⟨x1, x2⟩ := w2 hc
    rw [e_Steps_isDone_36]
    simp (disch := first | assumption | decide | (simp only [Sh_wI, Sh_wA, Sh_wL, Sh_mT, ldA_wI, lwA_wI, bkA_wI, ldA_wA, lwA_wA, bkA_wA]; assumption) | omega) only [xr_16_1, xr_16_2, xa_18, xa_19, e2, e3]
    obtain ⟨τ, e, a, c⟩ := c_tell (d := d) h ok h21 hr rok x1 x2
    rw [e]
    dsimp only [cI1]
    refine ⟨τ, ?_, a, c⟩
    rw [dos_0]
    dsimp only
    by_cases q : r (14 + kY w i) = 1
    · rw [if_pos q, if_pos rfl, e_Steps_isDone_62, nar1_0, if_neg (by simp [q])]
    · rw [if_neg q, if_neg, e_Steps_isDone_62, nar1_1, if_pos (by simp [q])]
      obtain ⟨k, hk, ek⟩ := lgv_in many cs (gvs l r (kX w i) (kY w i) (lT l (kY w i)) (r (kY w i)) 0)
      unfold lgh
      rw [ek]
      intro z
      have z2 : (nI k).toInt = (-1 : Int32).toInt := by rw [z]
      rw [nI_toInt (by omega)] at z2
      have : (-1 : Int32).toInt = -1 := by decide
      omega
  · rw [hc]
    show ∃ τ, rn (d + 4) 85 63 [.ref 16, .ref 3, .ref 21, .int (nI i)] [] σ = _ ∧ _
    have e2 := e2 (by omega)
    have e3 := e3 (by omega)
    obtain ⟨x1, x2⟩ := w3 hc
    rw [e_Steps_isDone_63]
    simp (disch := first | assumption | decide | (simp only [Sh_wI, Sh_wA, Sh_wL, Sh_mT, ldA_wI, lwA_wI, bkA_wI, ldA_wA, lwA_wA, bkA_wA]; assumption) | omega) only [xr_16_1, xr_16_2, xa_18, xa_19, e2, e3]
    rw [c_grieve hs h21 (by omega)]
    rw [dos_1]
    rw [(hr.1.2.2.1 (kX w i) (by omega)).1]
    by_cases q : r (kX w i) < nI (kY w i)
    · rw [if_pos q, if_pos q]
      refine ⟨_, rfl, (Ag.refl _ σ).wA (a := 22) (Or.inr rfl) _, ?_⟩
      rw [rA_a]
      exact CRc_up3 hr hP (by omega) _
    · rw [if_neg q, if_neg q]
      exact ⟨σ, rfl, Ag.refl _ σ, hr⟩
  · rw [hc]
    show ∃ τ, rn (d + 4) 85 80 [.ref 16, .ref 3, .ref 21, .int (nI i)] [] σ = _ ∧ _
    have e2 := e2 (by omega)
    have x1 := w4 hc
    rw [e_Steps_isDone_80]
    simp (disch := first | assumption | decide | (simp only [Sh_wI, Sh_wA, Sh_wL, Sh_mT, ldA_wI, lwA_wI, bkA_wI, ldA_wA, lwA_wA, bkA_wA]; assumption) | omega) only [xr_16_1, xa_18, e2]
    rw [c_cheer hs h21 (by omega)]
    rw [dos_2]
    rw [(hr.1.2.2.1 (kX w i) (by omega)).1]
    by_cases q : r (kX w i) = 0
    · rw [if_pos q, if_pos q]
      exact ⟨σ, rfl, Ag.refl _ σ, hr⟩
    · rw [if_neg q, if_neg q]
      refine ⟨_, rfl, (Ag.refl _ σ).wA (a := 22) (Or.inr rfl) _, ?_⟩
      rw [rA_a]
      exact CRc_up3 hr hP (by omega) _
  · rw [hc]
    show ∃ τ, rn (d + 4) 85 91 [.ref 16, .ref 3, .ref 21, .int (nI i)] [] σ = _ ∧ _
    have e2 := e2 (by omega)
    rw [e_Steps_isDone_91]
    simp (disch := first | assumption | decide | (simp only [Sh_wI, Sh_wA, Sh_wL, Sh_mT, ldA_wI, lwA_wI, bkA_wI, ldA_wA, lwA_wA, bkA_wA]; assumption) | omega) only [xr_16_1, xa_18, e2]
    rw [c_pour hs h21]
    rw [dos_3]
    rw [hr.1.2.1]
    by_cases q : nI (kX w i) ≤ r 77
    · rw [if_pos q, if_pos q]
      refine ⟨_, rfl, (Ag.refl _ σ).wA (a := 22) (Or.inr rfl) _, ?_⟩
      rw [rA_a]
      exact CRc_up1 hr hP _
    · rw [if_neg q, if_neg q]
      exact ⟨σ, rfl, Ag.refl _ σ, hr⟩
  · rw [hc]
    show ∃ τ, rn (d + 4) 85 102 [.ref 16, .ref 3, .ref 21, .int (nI i)] [] σ = _ ∧ _
    rw [e_Steps_isDone_102, c_dayNumber hs h21]
    dsimp only [cI1]
    rw [show dos l many cs (4, kX w i, kY w i) _ = _ from dos_4 l many cs _ 0 _ _]
    rw [hr.1.1]
    by_cases q : r 78 < 400
    · rw [if_pos q, if_pos q, xr_3_1 hs, c_passDay hs h21 hs.ld hP h.2.1.1.1]
      dsimp only [cV1, uv]
      refine ⟨_, rfl, (Ag.refl _ σ).wA (a := 22) (Or.inr rfl) _, ?_⟩
      rw [rA_a, h.2.1.1.2.2.2.2]
      exact day_ok hr.1 hP
    · rw [if_neg q, if_neg q]
      exact ⟨σ, rfl, Ag.refl _ σ, hr⟩
theorem m_does (h : MX σ l many cs) (ok : OKx l many cs) (wok : WkOK l w) (hw : MWk σ w) {i : Nat} (hi : i < w.1) (h5 : kW w i ≠ 5) (hr : mI σ 533 = r) :
    ∃ τ, ev (d + 7) 219 [.ref 53, .ref 533, .ref (453 + i)] σ = some (.inl (.int (if (dos l many cs (kW w i, kX w i, kY w i) r).1 then 1 else 0)), τ) ∧ Ag (fun x => scM x ∨ x = 533) σ τ ∧ mI τ 533 = (dos l many cs (kW w i, kX w i, kY w i) r).2 := by
  have hs := h.1
  have hP : nP l ≤ 7 := ok.1.1
  have hi2 : i < 80 := by have := wok.1; omega
  have h33 : isRw 533 := Or.inl rfl
  obtain ⟨w1, -, w2, w3, w4, w5, w6⟩ := wok.2 i hi
  obtain ⟨e1, -, e2, e3, e4⟩ := hw i hi
  have e0 : ∀ p, (0 : Int32) + nI p = nI p := fun p => by rw [la_0, Nat.zero_add]
  rw [e_M_does (d + 6) 53 533 (453 + i) σ (by rw [k_53 hs])]
  simp (disch := first | assumption | decide | (simp only [Sh_wI, Sh_wA, Sh_wL, Sh_mT, ldA_wI, lwA_wI, bkA_wI, ldA_wA, lwA_wA, bkA_wA]; assumption) | omega) only [xa_r452, al_0, al_1, e1]
  subst hr
  have hc : kW w i = 0 ∨ kW w i = 1 ∨ kW w i = 2 ∨ kW w i = 3 ∨ kW w i = 4 := by omega
  rcases hc with hc | hc | hc | hc | hc
  · rw [hc]
    obtain ⟨e5, e6⟩ := e2 hc
    obtain ⟨x1, x2⟩ := w2 hc
    rw [e5]
    show ∃ τ, rn (d + 7) 219 36 [.ref 53, .ref 533, .ref (453 + i), .int (nI (kY w i))] [] σ = _ ∧ _
    rw [e_M_does_36]
    simp (disch := first | assumption | decide | (simp only [Sh_wI, Sh_wA, Sh_wL, Sh_mT, ldA_wI, lwA_wI, bkA_wI, ldA_wA, lwA_wA, bkA_wA]; assumption) | omega) only [xa_r452, al_2, e6]
    obtain ⟨τ, e, a, c⟩ := m_tells (d := d) h ok h33 x1 x2
    rw [e]
    refine ⟨τ, ?_, a, c⟩
    rw [dos_0]
    dsimp only [cI]
    by_cases q : mI σ 533 (14 + kY w i) = 1
    · rw [if_pos q, nar1_0, if_neg (by simp [q])]
    · rw [if_neg q, nar1_1, if_pos (by simp [q])]
  · rw [hc]
    obtain ⟨e5, e6⟩ := e3 hc
    obtain ⟨x1, x2⟩ := w3 hc
    rw [e5]
    show ∃ τ, rn (d + 7) 219 46 [.ref 53, .ref 533, .ref (453 + i), .int (nI (kX w i))] [] σ = _ ∧ _
    rw [e_M_does_46]
    simp (disch := first | assumption | decide | (simp only [Sh_wI, Sh_wA, Sh_wL, Sh_mT, ldA_wI, lwA_wI, bkA_wI, ldA_wA, lwA_wA, bkA_wA]; assumption) | omega) only [xa_r452, al_2, e6]
    rw [m_grieves (k_533 hs) (by omega)]
    rw [dos_1]
    by_cases q : mI σ 533 (kX w i) < nI (kY w i)
    · rw [if_pos q, if_pos q]
      exact ⟨_, rfl, (Ag.refl _ σ).wA (a := 533) (Or.inr rfl) _, rA_a⟩
    · rw [if_neg q, if_neg q]
      exact ⟨σ, rfl, Ag.refl _ σ, rfl⟩
  · rw [hc]
    have e5 := e4 (by omega) (by omega)
    have x1 := w4 hc
    rw [e5]
    show ∃ τ, rn (d + 7) 219 55 [.ref 53, .ref 533, .ref (453 + i), .int (nI (kX w i))] [] σ = _ ∧ _
    rw [e_M_does_55, e0, xa_533 hs (by omega), yt_rw hs h33 (by omega)]
    rw [dos_2]
    by_cases q : mI σ 533 (kX w i) = 0
    · rw [if_pos q, if_pos q]
      exact ⟨σ, rfl, Ag.refl _ σ, rfl⟩
    · rw [if_neg q, if_neg q]
      exact ⟨_, rfl, (Ag.refl _ σ).wA (a := 533) (Or.inr rfl) _, rA_a⟩
  · rw [hc]
    have e5 := e4 (by omega) (by omega)
    rw [e5]
    show ∃ τ, rn (d + 7) 219 73 [.ref 53, .ref 533, .ref (453 + i), .int (nI (kX w i))] [] σ = _ ∧ _
    rw [e_M_does_73]
    simp (disch := first | assumption | decide | (simp only [Sh_wI, Sh_wA, Sh_wL, Sh_mT, ldA_wI, lwA_wI, bkA_wI, ldA_wA, lwA_wA, bkA_wA]; assumption) | omega) only [xa_533, yt_rw, al_77, tl_77]
    rw [dos_3]
    by_cases q : nI (kX w i) ≤ mI σ 533 77
    · rw [if_pos q, if_pos q]
      exact ⟨_, rfl, (Ag.refl _ σ).wA (a := 533) (Or.inr rfl) _, rA_a⟩
    · rw [if_neg q, if_neg q]
      exact ⟨σ, rfl, Ag.refl _ σ, rfl⟩
  · rw [hc]
    show ∃ τ, rn (d + 7) 219 93 [.ref 53, .ref 533, .ref (453 + i), .int (mI σ (453 + i) 1)] [] σ = _ ∧ _
    rw [e_M_does_93]
    simp (disch := first | assumption | decide | (simp only [Sh_wI, Sh_wA, Sh_wL, Sh_mT, ldA_wI, lwA_wI, bkA_wI, ldA_wA, lwA_wA, bkA_wA]; assumption) | omega) only [xa_533, al_78]
    rw [show dos l many cs (4, kX w i, kY w i) _ = _ from dos_4 l many cs _ 0 _ _]
    by_cases q : mI σ 533 78 < 400
    · rw [if_pos q, if_pos q, m_dayEnds hs h33 hP h.2.1.1.1, h.2.1.1.2.2.2.2]
      exact ⟨_, rfl, (Ag.refl _ σ).wA (a := 533) (Or.inr rfl) _, rA_a⟩
    · rw [if_neg q, if_neg q]
      exact ⟨σ, rfl, Ag.refl _ σ, rfl⟩
end StepV
