/-! WORK as a text: the numbers behind a word -/
abbrev NR : Type := (Nat × Nat) ⊕ (Nat × Nat × Nat)
def NrP (J P k s n : Nat) (r : NR) : Prop := match r with
  | .inl (e, _) => 1 ≤ e ∧ e ≤ 3
  | .inr (s', X, Y) => s ≤ s' ∧ s' ≤ n ∧ (k = 0 → X < J ∧ Y < P) ∧ (k = 1 → X < P ∧ Y ≤ 9) ∧ (k = 2 → X < P) ∧ (k = 3 → X ≤ 99)
def NrC (t : Nat → Nat) (n k row : Nat) (σ υ : mm_M) (x : Int32) (r : NR) : Prop := match r with
  | .inl (e, p) => x = 0 ∧ TF n18 σ υ e p
  | .inr (s', X, Y) => x = 1 ∧ RS υ t n s' ∧ (k ≠ 4 → mI υ 18 row = nI X) ∧ (k ≤ 1 → mI υ 19 row = nI Y) ∧ (∀ i, i ≠ row → mI υ 18 i = mI σ 18 i ∧ mI υ 19 i = mI σ 19 i) ∧ TG n18 σ υ
def NrM (t : Nat → Nat) (n k row : Nat) (τ υ : mm_M) (r : NR) : Prop := match r with
  | .inl (e, p) => MF (fun a => a = 453 + row) f456 τ υ e p
  | .inr (s', X, Y) => RM υ t n s' ∧ (k = 0 → mI υ (453 + row) 1 = nI Y ∧ mI υ (453 + row) 2 = nI X) ∧ (k = 1 → mI υ (453 + row) 1 = nI X ∧ mI υ (453 + row) 2 = nI Y) ∧ (2 ≤ k → k ≠ 4 → mI υ (453 + row) 1 = nI X) ∧ mI υ (453 + row) 0 = mI τ (453 + row) 0 ∧ AgM (fun a => a = 453 + row) f4 τ υ
section WNums
variable {σ τ σ' τ' υ φ : mm_M} {t : Nat → Nat} {n s : Nat} {d : Nat}
theorem mf_w {row k e p : Nat} {v : Int32} (h : MF (fun a => a = 453 + row) f456 τ υ e p) : MF (fun a => a = 453 + row) f456 τ (wI υ (453 + row) k v) e p := by
  have f53 : mI (wI υ (453 + row) k v) 53 = mI υ 53 := rI_o (by omega)
  exact ⟨h.1.trans (AgM.of (Ag.wI (S := fun a => a = 453 + row) (Ag.refl _ υ) rfl _ _) (fun _ q => q) (by omega)), by rw [f53]; exact h.2.1, by rw [f53]; exact h.2.2.1, by rw [f53]; exact h.2.2.2⟩
theorem mf_tr {row e p : Nat} (a : AgM (fun a => a = 453 + row) f4 τ υ) (h : MF (fun a => a = 453 + row) f456 υ φ e p) : MF (fun a => a = 453 + row) f456 τ φ e p := ⟨(a.mono (fun _ q => q) (fun _ q => Or.inl q)).trans h.1, h.2⟩
theorem sh_w {row k : Nat} {v : Int32} (h : Sh υ) : Sh (wI υ (453 + row) k v) := h
theorem w_5 {row k : Nat} {v : Int32} (h : ¬ mI υ 53 5 = 0) : ¬ mI (wI υ (453 + row) k v) 53 5 = 0 := by rw [rI_o (by omega)]; exact h
/-- what the reference does behind the word -/
noncomputable def Ex (d k row : Nat) (τ : mm_M) : Option mm_R := if nI k = 0 then gR τ 12 53 12 fun r9 => aI τ r9 1 fun r10 => cI (ev d 176 [.ref 53, .int 0, .int (r10 - (1 : Int32))] τ) fun r12 σ11 => tI σ11 (453 + row) 2 r12 fun σ13 => rn (d + 1) 205 88 [.ref 53, .int (nI k), .ref (453 + row)] [] σ13 else rn (d + 1) 205 88 [.ref 53, .int (nI k), .ref (453 + row)] [] τ
theorem nums {J P k : Nat} (hs : s ≤ n) (hJ : J ≤ 6) (hP : P ≤ 7) (hk : k ≤ 4) : ∃ r : NR, NrP J P k s n r ∧
    (∀ σ d row L, row < 38 → isLd L → RS σ t n s → mI σ 17 row = nI k → mI σ L 7 = nI P → mI σ L 8 = nI J → ∃ x υ, ev (d + 3) 80 [.ref 16, .ref 1, .ref L, .int (nI row)] σ = some (.inl (.int x), υ) ∧ NrC t n k row σ υ x r) ∧
    (∀ τ d row, row < 80 → RM τ t n s → mI τ 57 0 = nI P → mI τ 57 1 = nI J → ∃ υ, Ex (d + 2) k row τ = rn (d + 3) 205 211 [.ref 53, .int (nI k), .ref (453 + row)] [] υ ∧ NrM t n k row τ υ r) := by
  have nx := nxt_le (t := t) hs
  have nx2 := nxt_le (t := t) nx.2.1
  have hiJ := hi_m (m := J) (by omega)
  have hiP := hi_m (m := P) (by omega)
  have hi9 : isHi 9 10 := hi_s (m := 9) (by decide)
  have hi99 : isHi 99 100 := hi_s (m := 99) (by decide)
  rcases (show k = 0 ∨ k = 1 ∨ k = 2 ∨ k = 3 ∨ k = 4 by omega) with rfl | rfl | rfl | rfl | rfl
  · -- tell
    have tl : ∀ (υ : mm_M) (d row : Nat), rn (d + 3) 205 109 [.ref 53, .int (nI 0), .ref (453 + row)] [] υ = rn (d + 3) 205 211 [.ref 53, .int (nI 0), .ref (453 + row)] [] υ := fun υ d row => by
      rw [e_M_readsStep_109, if_neg (by decide), e_M_readsStep_124, if_neg (by decide), e_M_readsStep_139, if_neg (by decide)]
    have st : ∀ (σ : mm_M) (d row L : Nat), row < 38 → isLd L → RS σ t n s → mI σ 17 row = nI 0 → mI σ L 8 = nI J → ev (d + 3) 80 [.ref 16, .ref 1, .ref L, .int (nI row)] σ = cI (ev (d + 2) 81 [.ref 16, .ref 1, .int (nI row), .int 0, .int (nI J - (1 : Int32))] σ) fun r3 σ2 => if r3 = 0 then rn (d + 3) 80 80 [.ref 16, .ref 1, .ref L, .int (nI row)] [] σ2 else gI σ2 3 L 7 fun r4 => cI (ev (d + 2) 82 [.ref 16, .ref 1, .int (nI row), .int 0, .int (r4 - (1 : Int32))] σ2) fun r6 σ5 => if r6 = 0 then rn (d + 3) 80 80 [.ref 16, .ref 1, .ref L, .int (nI row)] [] σ5 else rn (d + 3) 80 81 [.ref 16, .ref 1, .ref L, .int (nI row)] [.int 1] σ5 := fun σ d row L h38 hL hr e17 e8 => by
      rw [e_Steps_readNumbers (d + 2) 16 1 L (nI row) σ (by rw [k_16 hr.1]), xr_16_0 hr.1, xa_17 hr.1 h38, e17, show swT 6 144 0 5 #[38, 76, 110, 124, 144, 134] (nI 0) = 44 by decide, e_Steps_readNumbers_44, xg_ld hr.1 hL, e8]
    have mt : ∀ (τ : mm_M) (d row : Nat), RM τ t n s → mI τ 57 1 = nI J → Ex (d + 2) 0 row τ = cI (ev (d + 2) 176 [.ref 53, .int (nI 0), .int (nI J - (1 : Int32))] τ) fun r12 σ11 => tI σ11 (453 + row) (nI 2) r12 fun σ13 => rn (d + 3) 205 88 [.ref 53, .int (nI 0), .ref (453 + row)] [] σ13 := fun τ d row hr eJ => by
      unfold Ex
      rw [if_pos (show nI 0 = (0 : Int32) from rfl), xr_53_12 hr.1, show aI τ 57 1 = aI τ 57 (nI 1) from rfl, xa_57 hr.1 (by decide), eJ]
      rfl
    cases hj : pN t n s 0 J with
    | inl e =>
      obtain ⟨e1, e3⟩ := pN_e hj
      refine ⟨.inl (e, s), ⟨e1, e3⟩, fun σ d row L h38 hL hr e17 e7 e8 => ?_, fun τ d row h80 hr eP eJ => ?_⟩
      · obtain ⟨υ, c1, c2⟩ := (c_first (d := d) hr h38 (Nat.zero_le 1) hiJ).2 e hj
        refine ⟨0, υ, ?_, rfl, c2⟩
        rw [st σ d row L h38 hL hr e17 e8, show ev (d + 2) 81 [.ref 16, .ref 1, .int (nI row), .int 0, .int (nI J - (1 : Int32))] σ = _ from c1, cI_ok, if_pos rfl, e_Steps_readNumbers_80, e_Steps_readNumbers_81, nar1_0]
      · obtain ⟨υ, c1, c2⟩ := (m_num (d := d) (K := fun σ13 => rn (d + 3) 205 88 [.ref 53, .int (nI 0), .ref (453 + row)] [] σ13) hr h80 (show 2 < 4 by decide) (Nat.zero_le 1) hiJ).2 e hj
        have s1 := c2.1.sh hr.1
        have eP' : mI υ 57 0 = nI P := by rw [c2.1.at (by decide) (by omega)]; exact eP
        refine ⟨wI υ (453 + row) 1 0, ?_, mf_w c2⟩
        rw [mt τ d row hr eJ, c1, e_M_readsStep_88, if_neg (by decide), xr_53_12 s1, show aI υ 57 0 = aI υ 57 (nI 0) from rfl, xa_57 s1 (by decide), eP']
        rw [show (cI (ev (d + 2) 176 [.ref 53, .int 0, .int (nI P - (1 : Int32))] υ) fun r4 σ3 => tI σ3 (453 + row) 1 r4 fun σ5 => rn (d + 3) 205 109 [.ref 53, .int (nI 0), .ref (453 + row)] [] σ5) = _ from m_numF (d := d + 1) (k := 1) s1 (c2.bad e1 e3) h80 (by decide)]
        exact tl _ d row
    | inr X =>
      cases hp : pN t n (nxt t n s) 0 P with
      | inl e =>
        obtain ⟨e1, e3⟩ := pN_e hp
        refine ⟨.inl (e, nxt t n s), ⟨e1, e3⟩, fun σ d row L h38 hL hr e17 e7 e8 => ?_, fun τ d row h80 hr eP eJ => ?_⟩
        · obtain ⟨υ, c1, c2, c3, c4, c5, c6⟩ := (c_first (d := d) hr h38 (Nat.zero_le 1) hiJ).1 X hj
          obtain ⟨υ2, w1, w2⟩ := (c_second (d := d) c2 h38 (Nat.zero_le 1) hiP).2 e hp
          have hL' : L = 5 ∨ L = 38 := hL
          have e7' : mI υ L 7 = nI P := by rw [c6.1.at (by unfold n18; omega)]; exact e7
          refine ⟨0, υ2, ?_, rfl, c6.tf w2⟩
          rw [st σ d row L h38 hL hr e17 e8, show ev (d + 2) 81 [.ref 16, .ref 1, .int (nI row), .int 0, .int (nI J - (1 : Int32))] σ = _ from c1, cI_ok, if_neg (show ¬ (1 : Int32) = 0 by decide), xg_ld c2.1 hL, e7', show ev (d + 2) 82 [.ref 16, .ref 1, .int (nI row), .int 0, .int (nI P - (1 : Int32))] υ = _ from w1, cI_ok, if_pos rfl, e_Steps_readNumbers_80, e_Steps_readNumbers_81, nar1_0]
        · obtain ⟨υ, c1, c2, c3, c4, c5⟩ := (m_num (d := d) (K := fun σ13 => rn (d + 3) 205 88 [.ref 53, .int (nI 0), .ref (453 + row)] [] σ13) hr h80 (show 2 < 4 by decide) (Nat.zero_le 1) hiJ).1 X hj
          have eP' : mI υ 57 0 = nI P := by rw [c5.at (by decide) (by omega)]; exact eP
          obtain ⟨υ2, w1, w2⟩ := (m_num (d := d) (K := fun σ5 => rn (d + 3) 205 109 [.ref 53, .int (nI 0), .ref (453 + row)] [] σ5) c2 h80 (show 1 < 4 by decide) (Nat.zero_le 1) hiP).2 e hp
          refine ⟨υ2, ?_, mf_tr c5 w2⟩
          rw [mt τ d row hr eJ, c1, e_M_readsStep_88, if_neg (by decide), xr_53_12 c2.1, show aI υ 57 0 = aI υ 57 (nI 0) from rfl, xa_57 c2.1 (by decide), eP']
          exact w1.trans (tl _ d row)
      | inr Y =>
        have bX := pN_i hj
        have bY := pN_i hp
        refine ⟨.inr (nxt t n (nxt t n s), X, Y), ⟨by omega, nx2.2.1, fun _ => ⟨bX.2.1, bY.2.1⟩, fun z => absurd z (by decide), fun z => absurd z (by decide), fun z => absurd z (by decide)⟩, fun σ d row L h38 hL hr e17 e7 e8 => ?_, fun τ d row h80 hr eP eJ => ?_⟩
        · obtain ⟨υ, c1, c2, c3, c4, c5, c6⟩ := (c_first (d := d) hr h38 (Nat.zero_le 1) hiJ).1 X hj
          obtain ⟨υ2, w1, w2, w3, w4, w5, w6⟩ := (c_second (d := d) c2 h38 (Nat.zero_le 1) hiP).1 Y hp
          have hL' : L = 5 ∨ L = 38 := hL
          have e7' : mI υ L 7 = nI P := by rw [c6.1.at (by unfold n18; omega)]; exact e7
          refine ⟨1, υ2, ?_, rfl, w2, fun _ => by rw [w5]; exact c3, fun _ => w3, fun i hi => ⟨by rw [w5]; exact c4 i hi, by rw [w4 i hi, c5]⟩, c6.trans w6⟩
          rw [st σ d row L h38 hL hr e17 e8, show ev (d + 2) 81 [.ref 16, .ref 1, .int (nI row), .int 0, .int (nI J - (1 : Int32))] σ = _ from c1, cI_ok, if_neg (show ¬ (1 : Int32) = 0 by decide), xg_ld c2.1 hL, e7', show ev (d + 2) 82 [.ref 16, .ref 1, .int (nI row), .int 0, .int (nI P - (1 : Int32))] υ = _ from w1, cI_ok, if_neg (show ¬ (1 : Int32) = 0 by decide), e_Steps_readNumbers_81, nar1_1]
        · obtain ⟨υ, c1, c2, c3, c4, c5⟩ := (m_num (d := d) (K := fun σ13 => rn (d + 3) 205 88 [.ref 53, .int (nI 0), .ref (453 + row)] [] σ13) hr h80 (show 2 < 4 by decide) (Nat.zero_le 1) hiJ).1 X hj
          have eP' : mI υ 57 0 = nI P := by rw [c5.at (by decide) (by omega)]; exact eP
          obtain ⟨υ2, w1, w2, w3, w4, w5⟩ := (m_num (d := d) (K := fun σ5 => rn (d + 3) 205 109 [.ref 53, .int (nI 0), .ref (453 + row)] [] σ5) c2 h80 (show 1 < 4 by decide) (Nat.zero_le 1) hiP).1 Y hp
          refine ⟨υ2, ?_, w2, fun _ => ⟨w3, by rw [w4 2 (by decide)]; exact c3⟩, fun z => absurd z (by decide), fun z => absurd z (by decide), by rw [w4 0 (by decide), c4 0 (by decide)], c5.trans w5⟩
          rw [mt τ d row hr eJ, c1, e_M_readsStep_88, if_neg (by decide), xr_53_12 c2.1, show aI υ 57 0 = aI υ 57 (nI 0) from rfl, xa_57 c2.1 (by decide), eP']
          exact w1.trans (tl _ d row)
  · -- grieve
    have tl : ∀ (υ : mm_M) (d row : Nat), rn (d + 3) 205 124 [.ref 53, .int (nI 1), .ref (453 + row)] [] υ = rn (d + 3) 205 211 [.ref 53, .int (nI 1), .ref (453 + row)] [] υ := fun υ d row => by
      rw [e_M_readsStep_124, if_neg (by decide), e_M_readsStep_139, if_neg (by decide)]
    have st : ∀ (σ : mm_M) (d row L : Nat), row < 38 → isLd L → RS σ t n s → mI σ 17 row = nI 1 → mI σ L 7 = nI P → ev (d + 3) 80 [.ref 16, .ref 1, .ref L, .int (nI row)] σ = cI (ev (d + 2) 81 [.ref 16, .ref 1, .int (nI row), .int 0, .int (nI P - (1 : Int32))] σ) fun r3 σ2 => if r3 = 0 then rn (d + 3) 80 114 [.ref 16, .ref 1, .ref L, .int (nI row)] [] σ2 else cI (ev (d + 2) 82 [.ref 16, .ref 1, .int (nI row), .int 1, .int 9] σ2) fun r5 σ4 => if r5 = 0 then rn (d + 3) 80 114 [.ref 16, .ref 1, .ref L, .int (nI row)] [] σ4 else rn (d + 3) 80 115 [.ref 16, .ref 1, .ref L, .int (nI row)] [.int 1] σ4 := fun σ d row L h38 hL hr e17 e7 => by
      rw [e_Steps_readNumbers (d + 2) 16 1 L (nI row) σ (by rw [k_16 hr.1]), xr_16_0 hr.1, xa_17 hr.1 h38, e17, show swT 6 144 0 5 #[38, 76, 110, 124, 144, 134] (nI 1) = 82 by decide, e_Steps_readNumbers_82, xg_ld hr.1 hL, e7]
    have mt : ∀ (τ : mm_M) (d row : Nat), RM τ t n s → mI τ 57 0 = nI P → Ex (d + 2) 1 row τ = cI (ev (d + 2) 176 [.ref 53, .int (nI 0), .int (nI P - (1 : Int32))] τ) fun r4 σ3 => tI σ3 (453 + row) (nI 1) r4 fun σ5 => rn (d + 3) 205 109 [.ref 53, .int (nI 1), .ref (453 + row)] [] σ5 := fun τ d row hr eP => by
      unfold Ex
      rw [if_neg (show ¬ nI 1 = (0 : Int32) by decide), e_M_readsStep_88, if_neg (by decide), xr_53_12 hr.1, show aI τ 57 0 = aI τ 57 (nI 0) from rfl, xa_57 hr.1 (by decide), eP]
      rfl
    cases hj : pN t n s 0 P with
    | inl e =>
      obtain ⟨e1, e3⟩ := pN_e hj
      refine ⟨.inl (e, s), ⟨e1, e3⟩, fun σ d row L h38 hL hr e17 e7 e8 => ?_, fun τ d row h80 hr eP eJ => ?_⟩
      · obtain ⟨υ, c1, c2⟩ := (c_first (d := d) hr h38 (Nat.zero_le 1) hiP).2 e hj
        refine ⟨0, υ, ?_, rfl, c2⟩
        rw [st σ d row L h38 hL hr e17 e7, show ev (d + 2) 81 [.ref 16, .ref 1, .int (nI row), .int 0, .int (nI P - (1 : Int32))] σ = _ from c1, cI_ok, if_pos rfl, e_Steps_readNumbers_114, e_Steps_readNumbers_115, nar1_0]
      · obtain ⟨υ, c1, c2⟩ := (m_num (d := d) (K := fun σ13 => rn (d + 3) 205 109 [.ref 53, .int (nI 1), .ref (453 + row)] [] σ13) hr h80 (show 1 < 4 by decide) (Nat.zero_le 1) hiP).2 e hj
        have s1 := c2.1.sh hr.1
        refine ⟨wI υ (453 + row) 2 0, ?_, mf_w c2⟩
        rw [mt τ d row hr eP, c1, e_M_readsStep_109, if_pos (show nI 1 = (1 : Int32) from rfl)]
        rw [show (cI (ev (d + 2) 176 [.ref 53, .int 1, .int 9] υ) fun r4 σ3 => tI σ3 (453 + row) 2 r4 fun σ5 => rn (d + 3) 205 124 [.ref 53, .int (nI 1), .ref (453 + row)] [] σ5) = _ from m_numF (d := d + 1) (k := 2) s1 (c2.bad e1 e3) h80 (by decide)]
        exact tl _ d row
    | inr X =>
      cases hp : pN t n (nxt t n s) 1 10 with
      | inl e =>
        obtain ⟨e1, e3⟩ := pN_e hp
        refine ⟨.inl (e, nxt t n s), ⟨e1, e3⟩, fun σ d row L h38 hL hr e17 e7 e8 => ?_, fun τ d row h80 hr eP eJ => ?_⟩
        · obtain ⟨υ, c1, c2, c3, c4, c5, c6⟩ := (c_first (d := d) hr h38 (Nat.zero_le 1) hiP).1 X hj
          obtain ⟨υ2, w1, w2⟩ := (c_second (d := d) c2 h38 (Nat.le_refl 1) hi9).2 e hp
          refine ⟨0, υ2, ?_, rfl, c6.tf w2⟩
          rw [st σ d row L h38 hL hr e17 e7, show ev (d + 2) 81 [.ref 16, .ref 1, .int (nI row), .int 0, .int (nI P - (1 : Int32))] σ = _ from c1, cI_ok, if_neg (show ¬ (1 : Int32) = 0 by decide), show ev (d + 2) 82 [.ref 16, .ref 1, .int (nI row), .int 1, .int 9] υ = _ from w1, cI_ok, if_pos rfl, e_Steps_readNumbers_114, e_Steps_readNumbers_115, nar1_0]
        · obtain ⟨υ, c1, c2, c3, c4, c5⟩ := (m_num (d := d) (K := fun σ13 => rn (d + 3) 205 109 [.ref 53, .int (nI 1), .ref (453 + row)] [] σ13) hr h80 (show 1 < 4 by decide) (Nat.zero_le 1) hiP).1 X hj
          obtain ⟨υ2, w1, w2⟩ := (m_num (d := d) (K := fun σ5 => rn (d + 3) 205 124 [.ref 53, .int (nI 1), .ref (453 + row)] [] σ5) c2 h80 (show 2 < 4 by decide) (Nat.le_refl 1) hi9).2 e hp
          refine ⟨υ2, ?_, mf_tr c5 w2⟩
          rw [mt τ d row hr eP, c1, e_M_readsStep_109, if_pos (show nI 1 = (1 : Int32) from rfl)]
          exact w1.trans (tl _ d row)
      | inr Y =>
        have bX := pN_i hj
        have bY := pN_i hp
        refine ⟨.inr (nxt t n (nxt t n s), X, Y), ⟨by omega, nx2.2.1, fun z => absurd z (by decide), fun _ => ⟨bX.2.1, by omega⟩, fun z => absurd z (by decide), fun z => absurd z (by decide)⟩, fun σ d row L h38 hL hr e17 e7 e8 => ?_, fun τ d row h80 hr eP eJ => ?_⟩
        · obtain ⟨υ, c1, c2, c3, c4, c5, c6⟩ := (c_first (d := d) hr h38 (Nat.zero_le 1) hiP).1 X hj
          obtain ⟨υ2, w1, w2, w3, w4, w5, w6⟩ := (c_second (d := d) c2 h38 (Nat.le_refl 1) hi9).1 Y hp
          refine ⟨1, υ2, ?_, rfl, w2, fun _ => by rw [w5]; exact c3, fun _ => w3, fun i hi => ⟨by rw [w5]; exact c4 i hi, by rw [w4 i hi, c5]⟩, c6.trans w6⟩
          rw [st σ d row L h38 hL hr e17 e7, show ev (d + 2) 81 [.ref 16, .ref 1, .int (nI row), .int 0, .int (nI P - (1 : Int32))] σ = _ from c1, cI_ok, if_neg (show ¬ (1 : Int32) = 0 by decide), show ev (d + 2) 82 [.ref 16, .ref 1, .int (nI row), .int 1, .int 9] υ = _ from w1, cI_ok, if_neg (show ¬ (1 : Int32) = 0 by decide), e_Steps_readNumbers_115, nar1_1]
        · obtain ⟨υ, c1, c2, c3, c4, c5⟩ := (m_num (d := d) (K := fun σ13 => rn (d + 3) 205 109 [.ref 53, .int (nI 1), .ref (453 + row)] [] σ13) hr h80 (show 1 < 4 by decide) (Nat.zero_le 1) hiP).1 X hj
          obtain ⟨υ2, w1, w2, w3, w4, w5⟩ := (m_num (d := d) (K := fun σ5 => rn (d + 3) 205 124 [.ref 53, .int (nI 1), .ref (453 + row)] [] σ5) c2 h80 (show 2 < 4 by decide) (Nat.le_refl 1) hi9).1 Y hp
          refine ⟨υ2, ?_, w2, fun z => absurd z (by decide), fun _ => ⟨by rw [w4 1 (by decide)]; exact c3, w3⟩, fun z => absurd z (by decide), by rw [w4 0 (by decide), c4 0 (by decide)], c5.trans w5⟩
          rw [mt τ d row hr eP, c1, e_M_readsStep_109, if_pos (show nI 1 = (1 : Int32) from rfl)]
          exact w1.trans (tl _ d row)
  · -- cheer
    have tl : ∀ (υ : mm_M) (d row : Nat), rn (d + 3) 205 109 [.ref 53, .int (nI 2), .ref (453 + row)] [] υ = rn (d + 3) 205 211 [.ref 53, .int (nI 2), .ref (453 + row)] [] υ := fun υ d row => by
      rw [e_M_readsStep_109, if_neg (by decide), e_M_readsStep_124, if_neg (by decide), e_M_readsStep_139, if_neg (by decide)]
    have mt : ∀ (τ : mm_M) (d row : Nat), RM τ t n s → mI τ 57 0 = nI P → Ex (d + 2) 2 row τ = cI (ev (d + 2) 176 [.ref 53, .int (nI 0), .int (nI P - (1 : Int32))] τ) fun r4 σ3 => tI σ3 (453 + row) (nI 1) r4 fun σ5 => rn (d + 3) 205 109 [.ref 53, .int (nI 2), .ref (453 + row)] [] σ5 := fun τ d row hr eP => by
      unfold Ex
      rw [if_neg (show ¬ nI 2 = (0 : Int32) by decide), e_M_readsStep_88, if_neg (by decide), xr_53_12 hr.1, show aI τ 57 0 = aI τ 57 (nI 0) from rfl, xa_57 hr.1 (by decide), eP]
      rfl
    have st : ∀ (σ : mm_M) (d row L : Nat), row < 38 → isLd L → RS σ t n s → mI σ 17 row = nI 2 → mI σ L 7 = nI P → ev (d + 3) 80 [.ref 16, .ref 1, .ref L, .int (nI row)] σ = cI (ev (d + 2) 81 [.ref 16, .ref 1, .int (nI row), .int 0, .int (nI P - (1 : Int32))] σ) fun r3 σ2 => some (Sum.inl (Value.int (nar 1 r3)), σ2) := fun σ d row L h38 hL hr e17 e7 => by
      rw [e_Steps_readNumbers (d + 2) 16 1 L (nI row) σ (by rw [k_16 hr.1]), xr_16_0 hr.1, xa_17 hr.1 h38, e17, show swT 6 144 0 5 #[38, 76, 110, 124, 144, 134] (nI 2) = 116 by decide, e_Steps_readNumbers_116, xg_ld hr.1 hL, e7]
    cases hj : pN t n s 0 P with
    | inl e =>
      obtain ⟨e1, e3⟩ := pN_e hj
      refine ⟨.inl (e, s), ⟨e1, e3⟩, fun σ d row L h38 hL hr e17 e7 e8 => ?_, fun τ d row h80 hr eP eJ => ?_⟩
      · obtain ⟨υ, c1, c2⟩ := (c_first (d := d) hr h38 (Nat.zero_le 1) hiP).2 e hj
        refine ⟨0, υ, ?_, rfl, c2⟩
        rw [st σ d row L h38 hL hr e17 e7, show ev (d + 2) 81 [.ref 16, .ref 1, .int (nI row), .int 0, .int (nI P - (1 : Int32))] σ = _ from c1, cI_ok, nar1_0]
      · obtain ⟨υ, c1, c2⟩ := (m_num (d := d) (K := fun σ13 => rn (d + 3) 205 109 [.ref 53, .int (nI 2), .ref (453 + row)] [] σ13) hr h80 (show 1 < 4 by decide) (Nat.zero_le 1) hiP).2 e hj
        exact ⟨υ, by rw [mt τ d row hr eP]; exact c1.trans (tl _ d row), c2⟩
    | inr X =>
      have bX := pN_i hj
      refine ⟨.inr (nxt t n s, X, 0), ⟨nx.1, nx.2.1, fun z => absurd z (by decide), fun z => absurd z (by decide), fun _ => bX.2.1, fun z => absurd z (by decide)⟩, fun σ d row L h38 hL hr e17 e7 e8 => ?_, fun τ d row h80 hr eP eJ => ?_⟩
      · obtain ⟨υ, c1, c2, c3, c4, c5, c6⟩ := (c_first (d := d) hr h38 (Nat.zero_le 1) hiP).1 X hj
        refine ⟨1, υ, ?_, rfl, c2, fun _ => c3, fun z => absurd z (by decide), fun i hi => ⟨c4 i hi, by rw [c5]⟩, c6⟩
        rw [st σ d row L h38 hL hr e17 e7, show ev (d + 2) 81 [.ref 16, .ref 1, .int (nI row), .int 0, .int (nI P - (1 : Int32))] σ = _ from c1, cI_ok, nar1_1]
      · obtain ⟨υ, c1, c2, c3, c4, c5⟩ := (m_num (d := d) (K := fun σ13 => rn (d + 3) 205 109 [.ref 53, .int (nI 2), .ref (453 + row)] [] σ13) hr h80 (show 1 < 4 by decide) (Nat.zero_le 1) hiP).1 X hj
        exact ⟨υ, by rw [mt τ d row hr eP]; exact c1.trans (tl _ d row), c2, fun z => absurd z (by decide), fun z => absurd z (by decide), fun _ _ => c3, c4 0 (by decide), c5⟩
  · -- pour
    have mt : ∀ (τ : mm_M) (d row : Nat), Ex (d + 2) 3 row τ = cI (ev (d + 2) 176 [.ref 53, .int (nI 1), .int 99] τ) fun r4 σ3 => tI σ3 (453 + row) (nI 1) r4 fun σ5 => rn (d + 3) 205 139 [.ref 53, .int (nI 3), .ref (453 + row)] [] σ5 := fun τ d row => by
      unfold Ex
      rw [if_neg (show ¬ nI 3 = (0 : Int32) by decide), e_M_readsStep_88, if_pos (by decide), e_M_readsStep_109, if_neg (by decide), e_M_readsStep_124, if_pos (show nI 3 = (3 : Int32) from rfl)]
      rfl
    have tl : ∀ (υ : mm_M) (d row : Nat), rn (d + 3) 205 139 [.ref 53, .int (nI 3), .ref (453 + row)] [] υ = rn (d + 3) 205 211 [.ref 53, .int (nI 3), .ref (453 + row)] [] υ := fun υ d row => by
      rw [e_M_readsStep_139, if_neg (by decide)]
    have st : ∀ (σ : mm_M) (d row L : Nat), row < 38 → isLd L → RS σ t n s → mI σ 17 row = nI 3 → ev (d + 3) 80 [.ref 16, .ref 1, .ref L, .int (nI row)] σ = cI (ev (d + 2) 81 [.ref 16, .ref 1, .int (nI row), .int 1, .int 99] σ) fun r3 σ2 => some (Sum.inl (Value.int (nar 1 r3)), σ2) := fun σ d row L h38 hL hr e17 => by
      rw [e_Steps_readNumbers (d + 2) 16 1 L (nI row) σ (by rw [k_16 hr.1]), xr_16_0 hr.1, xa_17 hr.1 h38, e17, show swT 6 144 0 5 #[38, 76, 110, 124, 144, 134] (nI 3) = 130 by decide, e_Steps_readNumbers_130]
    cases hj : pN t n s 1 100 with
    | inl e =>
      obtain ⟨e1, e3⟩ := pN_e hj
      refine ⟨.inl (e, s), ⟨e1, e3⟩, fun σ d row L h38 hL hr e17 e7 e8 => ?_, fun τ d row h80 hr eP eJ => ?_⟩
      · obtain ⟨υ, c1, c2⟩ := (c_first (d := d) hr h38 (Nat.le_refl 1) hi99).2 e hj
        refine ⟨0, υ, ?_, rfl, c2⟩
        rw [st σ d row L h38 hL hr e17, show ev (d + 2) 81 [.ref 16, .ref 1, .int (nI row), .int 1, .int 99] σ = _ from c1, cI_ok, nar1_0]
      · obtain ⟨υ, c1, c2⟩ := (m_num (d := d) (K := fun σ13 => rn (d + 3) 205 139 [.ref 53, .int (nI 3), .ref (453 + row)] [] σ13) hr h80 (show 1 < 4 by decide) (Nat.le_refl 1) hi99).2 e hj
        exact ⟨υ, by rw [mt τ d row]; exact c1.trans (tl _ d row), c2⟩
    | inr X =>
      have bX := pN_i hj
      refine ⟨.inr (nxt t n s, X, 0), ⟨nx.1, nx.2.1, fun z => absurd z (by decide), fun z => absurd z (by decide), fun z => absurd z (by decide), fun _ => by omega⟩, fun σ d row L h38 hL hr e17 e7 e8 => ?_, fun τ d row h80 hr eP eJ => ?_⟩
      · obtain ⟨υ, c1, c2, c3, c4, c5, c6⟩ := (c_first (d := d) hr h38 (Nat.le_refl 1) hi99).1 X hj
        refine ⟨1, υ, ?_, rfl, c2, fun _ => c3, fun z => absurd z (by decide), fun i hi => ⟨c4 i hi, by rw [c5]⟩, c6⟩
        rw [st σ d row L h38 hL hr e17, show ev (d + 2) 81 [.ref 16, .ref 1, .int (nI row), .int 1, .int 99] σ = _ from c1, cI_ok, nar1_1]
      · obtain ⟨υ, c1, c2, c3, c4, c5⟩ := (m_num (d := d) (K := fun σ13 => rn (d + 3) 205 139 [.ref 53, .int (nI 3), .ref (453 + row)] [] σ13) hr h80 (show 1 < 4 by decide) (Nat.le_refl 1) hi99).1 X hj
        exact ⟨υ, by rw [mt τ d row]; exact c1.trans (tl _ d row), c2, fun z => absurd z (by decide), fun z => absurd z (by decide), fun _ _ => c3, c4 0 (by decide), c5⟩
  · -- day
    refine ⟨.inr (s, 0, 0), ⟨Nat.le_refl _, hs, fun z => absurd z (by decide), fun z => absurd z (by decide), fun z => absurd z (by decide), fun z => absurd z (by decide)⟩, fun σ d row L h38 hL hr e17 e7 e8 => ?_, fun τ d row h80 hr eP eJ => ?_⟩
    · refine ⟨1, σ, ?_, rfl, hr, fun z => absurd rfl z, fun z => absurd z (by decide), fun i hi => ⟨rfl, rfl⟩, TG.refl _ _⟩
      rw [e_Steps_readNumbers (d + 2) 16 1 L (nI row) σ (by rw [k_16 hr.1]), xr_16_0 hr.1, xa_17 hr.1 h38, e17, show swT 6 144 0 5 #[38, 76, 110, 124, 144, 134] (nI 4) = 150 by decide, e_Steps_readNumbers_150, nar1_1]
    · refine ⟨τ, ?_, hr, fun z => absurd z (by decide), fun z => absurd z (by decide), fun _ z => absurd rfl z, rfl, AgM.refl _ _ _⟩
      unfold Ex
      rw [if_neg (show ¬ nI 4 = (0 : Int32) by decide), e_M_readsStep_88, if_pos (by decide), e_M_readsStep_109, if_neg (by decide), e_M_readsStep_124, if_neg (by decide), e_M_readsStep_139, if_neg (by decide)]
end WNums
