/-! LAND as a text: the numbers behind a word -/
abbrev CR : Type := (Nat × Nat) ⊕ (Nat × Ln)
def CrP (m s w : Nat) (l : Ln) (r : CR) : Prop := match r with
  | .inl (e, _) => 1 ≤ e ∧ e ≤ 3
  | .inr (s', l') => s ≤ s' ∧ s' ≤ m ∧ LnOK l' ∧ nP l' = (if w = 0 then nP l + 1 else nP l) ∧ nJ l' = (if w = 1 then nJ l + 1 else nJ l) ∧ nS l' = (if w = 2 then nS l + 1 else nS l)
def CrC (t : Nat → Nat) (m L : Nat) (σ υ : mm_M) (x : Int32) (r : CR) : Prop := match r with
  | .inl (e, p) => x = 0 ∧ TF (lzS L) σ υ e p
  | .inr (s', l') => x = 1 ∧ RS υ t m s' ∧ LzC υ L l' ∧ TG (lzS L) σ υ
def CrM (t : Nat → Nat) (m : Nat) (l : Ln) (τ υ : mm_M) (r : CR) : Prop := match r with
  | .inl (e, p) => MF lzM f456 τ υ e p
  | .inr (s', l') => RM υ t m s' ∧ LzT υ (nP l) (nJ l) (nS l) l' ∧ AgM lzM f4 τ υ
def cnt (l : Ln) (w : Nat) : Int32 := if w = 0 then nI (nP l) else if w = 1 then nI (nJ l) else if w = 2 then nI (nS l) else 0
def SpN (t : Nat → Nat) (m s w : Nat) (l : Ln) : Prop := ∃ r : CR, CrP m s w l r ∧
    (∀ L σ d, isLd L → RS σ t m s → LzC σ L l → ∃ x υ, ev (d + 3) 50 [.ref L, .ref 1, .int (nI w)] σ = some (.inl (.int x), υ) ∧ CrC t m L σ υ x r) ∧
    (∀ τ d, RM τ t m s → LzT τ (nP l) (nJ l) (nS l) l → ∃ υ v3 v4 v5, rn (d + 3) 190 95 [.ref 53, .int (nI w), uv, uv, uv, uv] [.int (cnt l w)] τ = rn (d + 3) 190 316 [.ref 53, .int (nI w), .int (cnt l w), v3, v4, v5] [] υ ∧ CrM t m l τ υ r)
section LandN
variable {σ τ σ' τ' υ φ : mm_M} {t : Nat → Nat} {m s : Nat} {d : Nat} {l : Ln}
theorem at1_lz {L a : Nat} (h : at1 a) : lzS L a := Or.inl h
theorem LzC_P {L D T : Nat} (h : LzC σ L l) (hL : ∀ i, mI υ L i = if i = 7 then nI (nP l + 1) else mI σ L i) (h1 : ∀ i, mI υ (L + 1) i = if i = nP l then nI D else mI σ (L + 1) i) (h2 : ∀ i, mI υ (L + 2) i = if i = nP l then nI T else mI σ (L + 2) i) (ho : ∀ k, 3 ≤ k → k ≤ 7 → mI υ (L + k) = mI σ (L + k)) : LzC υ L (addP l D T) := by
  obtain ⟨⟨a1, a2, a3, a4, a5⟩, b1, b2, b3, b4⟩ := h
  obtain ⟨o1, o2, o3, o4, o5, o6⟩ := addP_o l D T
  refine ⟨⟨by rw [hL, if_pos rfl]; rfl, by rw [hL, if_neg (by decide)]; exact a2, by rw [hL, if_neg (by decide)]; exact a3, by rw [hL, if_neg (by decide), o5]; exact a4, by rw [hL, if_neg (by decide), o6]; exact a5⟩, fun p hp => ?_, fun p hp => by rw [ho 3 (by decide) (by decide), addP_near]; exact b2 p hp, fun j hj => by rw [ho 4 (by decide) (by decide), ho 5 (by decide) (by decide), o1, o2]; exact b3 j hj, fun i hi => by rw [ho 6 (by decide) (by decide), ho 7 (by decide) (by decide), o3, o4]; exact b4 i hi⟩
  have hp : p < nP l + 1 := hp
  rw [h1, h2, addP_D, addP_T]
  by_cases e : p = nP l
  · rw [if_pos e, if_pos e, if_pos e, if_pos e]; exact ⟨rfl, rfl⟩
  · rw [if_neg e, if_neg e, if_neg e, if_neg e]; exact b1 p (by omega)
theorem LzC_J {L D T : Nat} (h : LzC σ L l) (hL : ∀ i, mI υ L i = if i = 8 then nI (nJ l + 1) else mI σ L i) (h1 : ∀ i, mI υ (L + 4) i = if i = nJ l then nI D else mI σ (L + 4) i) (h2 : ∀ i, mI υ (L + 5) i = if i = nJ l then nI T else mI σ (L + 5) i) (ho : ∀ k, 1 ≤ k → k ≤ 7 → k ≠ 4 → k ≠ 5 → mI υ (L + k) = mI σ (L + k)) : LzC υ L (addJ l D T) := by
  obtain ⟨⟨a1, a2, a3, a4, a5⟩, b1, b2, b3, b4⟩ := h
  obtain ⟨o1, o2, o3, o4, o5, o6⟩ := addJ_o l D T
  refine ⟨⟨by rw [hL, if_neg (by decide)]; exact a1, by rw [hL, if_pos rfl]; rfl, by rw [hL, if_neg (by decide)]; exact a3, by rw [hL, if_neg (by decide), o5]; exact a4, by rw [hL, if_neg (by decide), o6]; exact a5⟩, fun p hp => by rw [ho 1 (by decide) (by decide) (by decide) (by decide), ho 2 (by decide) (by decide) (by decide) (by decide), o1, o2]; exact b1 p hp, fun p hp => by rw [ho 3 (by decide) (by decide) (by decide) (by decide), addJ_near]; exact b2 p hp, fun p hp => ?_, fun i hi => by rw [ho 6 (by decide) (by decide) (by decide) (by decide), ho 7 (by decide) (by decide) (by decide) (by decide), o3, o4]; exact b4 i hi⟩
  have hp : p < nJ l + 1 := hp
  rw [h1, h2, addJ_K, addJ_S]
  by_cases e : p = nJ l
  · rw [if_pos e, if_pos e, if_pos e, if_pos e]; exact ⟨rfl, rfl⟩
  · rw [if_neg e, if_neg e, if_neg e, if_neg e]; exact b3 p (by omega)
theorem LzC_S {L D T : Nat} (h : LzC σ L l) (hL : ∀ i, mI υ L i = if i = 9 then nI (nS l + 1) else mI σ L i) (h1 : ∀ i, mI υ (L + 6) i = if i = nS l then nI D else mI σ (L + 6) i) (h2 : ∀ i, mI υ (L + 7) i = if i = nS l then nI T else mI σ (L + 7) i) (h3 : ∀ p, p < 7 → mI υ (L + 3) p = near l (nI p) ||| (if nI D = nI p then bI (nI T) else if nI T = nI p then bI (nI D) else 0)) (ho : ∀ k, 1 ≤ k → k ≤ 5 → k ≠ 3 → mI υ (L + k) = mI σ (L + k)) : LzC υ L (addS l D T) := by
  obtain ⟨⟨a1, a2, a3, a4, a5⟩, b1, b2, b3, b4⟩ := h
  obtain ⟨o1, o2, o3, o4, o5, o6⟩ := addS_o l D T
  refine ⟨⟨by rw [hL, if_neg (by decide)]; exact a1, by rw [hL, if_neg (by decide)]; exact a2, by rw [hL, if_pos rfl]; rfl, by rw [hL, if_neg (by decide), o5]; exact a4, by rw [hL, if_neg (by decide), o6]; exact a5⟩, fun p hp => by rw [ho 1 (by decide) (by decide) (by decide), ho 2 (by decide) (by decide) (by decide), o1, o2]; exact b1 p hp, fun p hp => by rw [addS_near]; exact h3 p hp, fun j hj => by rw [ho 4 (by decide) (by decide) (by decide), ho 5 (by decide) (by decide) (by decide), o3, o4]; exact b3 j hj, fun p hp => ?_⟩
  have hp : p < nS l + 1 := hp
  rw [h1, h2, addS_A, addS_B]
  by_cases e : p = nS l
  · rw [if_pos e, if_pos e, if_pos e, if_pos e]; exact ⟨rfl, rfl⟩
  · rw [if_neg e, if_neg e, if_neg e, if_neg e]; exact b4 p (by omega)
theorem LzC_j {L D : Nat} (h : LzC σ L l) (hL : ∀ i, mI υ L i = if i = 10 then nI D else mI σ L i) (ho : ∀ k, 1 ≤ k → k ≤ 7 → mI υ (L + k) = mI σ (L + k)) : LzC υ L (setJ l D) := by
  obtain ⟨⟨a1, a2, a3, a4, a5⟩, b1, b2, b3, b4⟩ := h
  obtain ⟨o1, o2, o3, o4, o5, o6, o7, o8⟩ := setJ_o l D
  exact ⟨⟨by rw [hL, if_neg (by decide)]; exact a1, by rw [hL, if_neg (by decide)]; exact a2, by rw [hL, if_neg (by decide)]; exact a3, by rw [hL, if_pos rfl, o7], by rw [hL, if_neg (by decide), o8]; exact a5⟩, fun p hp => by rw [ho 1 (by decide) (by decide), ho 2 (by decide) (by decide), o1, o2]; exact b1 p hp, fun p hp => by rw [ho 3 (by decide) (by decide), setJ_near]; exact b2 p hp, fun j hj => by rw [ho 4 (by decide) (by decide), ho 5 (by decide) (by decide), o3, o4]; exact b3 j hj, fun i hi => by rw [ho 6 (by decide) (by decide), ho 7 (by decide) (by decide), o5, o6]; exact b4 i hi⟩
theorem LzC_w {L D : Nat} (h : LzC σ L l) (hL : ∀ i, mI υ L i = if i = 11 then nI D else mI σ L i) (ho : ∀ k, 1 ≤ k → k ≤ 7 → mI υ (L + k) = mI σ (L + k)) : LzC υ L (setW l D) := by
  obtain ⟨⟨a1, a2, a3, a4, a5⟩, b1, b2, b3, b4⟩ := h
  obtain ⟨o1, o2, o3, o4, o5, o6, o7, o8⟩ := setW_o l D
  exact ⟨⟨by rw [hL, if_neg (by decide)]; exact a1, by rw [hL, if_neg (by decide)]; exact a2, by rw [hL, if_neg (by decide)]; exact a3, by rw [hL, if_neg (by decide), o7]; exact a4, by rw [hL, if_pos rfl, o8]⟩, fun p hp => by rw [ho 1 (by decide) (by decide), ho 2 (by decide) (by decide), o1, o2]; exact b1 p hp, fun p hp => by rw [ho 3 (by decide) (by decide), setW_near]; exact b2 p hp, fun j hj => by rw [ho 4 (by decide) (by decide), ho 5 (by decide) (by decide), o3, o4]; exact b3 j hj, fun i hi => by rw [ho 6 (by decide) (by decide), ho 7 (by decide) (by decide), o5, o6]; exact b4 i hi⟩
theorem LzT_P {P J S D T : Nat} (ok : LnOK l) (hf : nP l < 7) (h : LzT τ P J S l) (h1 : mI υ (59 + nP l) 0 = nI D) (h2 : mI υ (59 + nP l) 1 = nI T) (ho : ∀ x, lzM x → x ≠ 59 + nP l → mI υ x = mI τ x) : LzT υ P J S (addP l D T) := by
  obtain ⟨a1, b1, b2, b3⟩ := h
  obtain ⟨o1, o2, o3, o4, o5, o6⟩ := addP_o l D T
  have J6 := ok.2.1
  have S12 := ok.2.2.1
  refine ⟨by rw [ho 56 (by unfold lzM; omega) (by omega), o5, o6]; exact a1, fun p hp => ?_, fun j hj => by rw [ho (75 + j) (by have hj : j < nJ l := hj; unfold lzM; omega) (by omega), o1, o2]; exact b2 j hj, fun i hi => by rw [ho (89 + i) (by have hi : i < nS l := hi; unfold lzM; omega) (by omega), o3, o4]; exact b3 i hi⟩
  have hp : p < nP l + 1 := hp
  rw [addP_D, addP_T]
  by_cases e : p = nP l
  · rw [if_pos e, if_pos e, e]; exact ⟨h1, h2⟩
  · rw [if_neg e, if_neg e, ho (59 + p) (by unfold lzM; omega) (by omega)]; exact b1 p (by omega)
theorem LzT_J {P J S D T : Nat} (ok : LnOK l) (hf : nJ l < 6) (h : LzT τ P J S l) (h1 : mI υ (75 + nJ l) 0 = nI D) (h2 : mI υ (75 + nJ l) 1 = nI T) (ho : ∀ x, lzM x → x ≠ 75 + nJ l → mI υ x = mI τ x) : LzT υ P J S (addJ l D T) := by
  obtain ⟨a1, b1, b2, b3⟩ := h
  obtain ⟨o1, o2, o3, o4, o5, o6⟩ := addJ_o l D T
  have P7 := ok.1
  have S12 := ok.2.2.1
  refine ⟨by rw [ho 56 (by unfold lzM; omega) (by omega), o5, o6]; exact a1, fun j hj => by rw [ho (59 + j) (by have hj : j < nP l := hj; unfold lzM; omega) (by have hj : j < nP l := hj; omega), o1, o2]; exact b1 j hj, fun p hp => ?_, fun i hi => by rw [ho (89 + i) (by have hi : i < nS l := hi; unfold lzM; omega) (by omega), o3, o4]; exact b3 i hi⟩
  have hp : p < nJ l + 1 := hp
  rw [addJ_K, addJ_S]
  by_cases e : p = nJ l
  · rw [if_pos e, if_pos e, e]; exact ⟨h1, h2⟩
  · rw [if_neg e, if_neg e, ho (75 + p) (by unfold lzM; omega) (by omega)]; exact b2 p (by omega)
theorem LzT_S {P J S D T : Nat} (ok : LnOK l) (hf : nS l < 12) (h : LzT τ P J S l) (h1 : mI υ (89 + nS l) 0 = nI D) (h2 : mI υ (89 + nS l) 1 = nI T) (ho : ∀ x, lzM x → x ≠ 89 + nS l → mI υ x = mI τ x) : LzT υ P J S (addS l D T) := by
  obtain ⟨a1, b1, b2, b3⟩ := h
  obtain ⟨o1, o2, o3, o4, o5, o6⟩ := addS_o l D T
  have P7 := ok.1
  have J6 := ok.2.1
  refine ⟨by rw [ho 56 (by unfold lzM; omega) (by omega), o5, o6]; exact a1, fun j hj => by rw [ho (59 + j) (by have hj : j < nP l := hj; unfold lzM; omega) (by have hj : j < nP l := hj; omega), o1, o2]; exact b1 j hj, fun j hj => by rw [ho (75 + j) (by have hj : j < nJ l := hj; unfold lzM; omega) (by have hj : j < nJ l := hj; omega), o3, o4]; exact b2 j hj, fun p hp => ?_⟩
  have hp : p < nS l + 1 := hp
  rw [addS_A, addS_B]
  by_cases e : p = nS l
  · rw [if_pos e, if_pos e, e]; exact ⟨h1, h2⟩
  · rw [if_neg e, if_neg e, ho (89 + p) (by unfold lzM; omega) (by omega)]; exact b3 p (by omega)
theorem LzT_j {P J S D : Nat} (ok : LnOK l) (h : LzT τ P J S l) (h1 : ∀ i, mI υ 56 i = if i = 3 then nI D else mI τ 56 i) (ho : ∀ x, lzM x → x ≠ 56 → mI υ x = mI τ x) : LzT υ P J S (setJ l D) := by
  obtain ⟨⟨a1, a2, a3, a4, a5⟩, b1, b2, b3⟩ := h
  obtain ⟨o1, o2, o3, o4, o5, o6, o7, o8⟩ := setJ_o l D
  have P7 := ok.1
  have J6 := ok.2.1
  have S12 := ok.2.2.1
  exact ⟨⟨by rw [h1, if_neg (by decide)]; exact a1, by rw [h1, if_neg (by decide)]; exact a2, by rw [h1, if_neg (by decide)]; exact a3, by rw [h1, if_pos rfl, o7], by rw [h1, if_neg (by decide), o8]; exact a5⟩, fun j hj => by rw [ho (59 + j) (by have hj : j < nP l := hj; unfold lzM; omega) (by omega), o1, o2]; exact b1 j hj, fun j hj => by rw [ho (75 + j) (by have hj : j < nJ l := hj; unfold lzM; omega) (by omega), o3, o4]; exact b2 j hj, fun j hj => by rw [ho (89 + j) (by have hj : j < nS l := hj; unfold lzM; omega) (by omega), o5, o6]; exact b3 j hj⟩
theorem LzT_w {P J S D : Nat} (ok : LnOK l) (h : LzT τ P J S l) (h1 : ∀ i, mI υ 56 i = if i = 4 then nI D else mI τ 56 i) (ho : ∀ x, lzM x → x ≠ 56 → mI υ x = mI τ x) : LzT υ P J S (setW l D) := by
  obtain ⟨⟨a1, a2, a3, a4, a5⟩, b1, b2, b3⟩ := h
  obtain ⟨o1, o2, o3, o4, o5, o6, o7, o8⟩ := setW_o l D
  have P7 := ok.1
  have J6 := ok.2.1
  have S12 := ok.2.2.1
  exact ⟨⟨by rw [h1, if_neg (by decide)]; exact a1, by rw [h1, if_neg (by decide)]; exact a2, by rw [h1, if_neg (by decide)]; exact a3, by rw [h1, if_neg (by decide), o7]; exact a4, by rw [h1, if_pos rfl, o8]⟩, fun j hj => by rw [ho (59 + j) (by have hj : j < nP l := hj; unfold lzM; omega) (by omega), o1, o2]; exact b1 j hj, fun j hj => by rw [ho (75 + j) (by have hj : j < nJ l := hj; unfold lzM; omega) (by omega), o3, o4]; exact b2 j hj, fun j hj => by rw [ho (89 + j) (by have hj : j < nS l := hj; unfold lzM; omega) (by omega), o5, o6]; exact b3 j hj⟩
/-- writing into the land keeps the TAPE -/
theorem lz_tg {L : Nat} (hL : isLd L) (g : TG at1 σ υ) (a : Ag (fun a => L ≤ a ∧ a ≤ L + 7) υ φ) : TG (lzS L) σ φ := by
  have hL' : L = 5 ∨ L = 38 := hL
  have f1 : mI φ 1 = mI υ 1 := a.at (by omega)
  exact ⟨(g.1.mono (fun _ q => Or.inl q)).trans (a.mono (fun _ q => Or.inr q)), by rw [f1]; exact g.2.1, by rw [f1]; exact g.2.2.1, by rw [f1]; exact g.2.2.2⟩
theorem lz_rs {L : Nat} (hL : isLd L) (h : RS υ t m s) (a : Ag (fun a => L ≤ a ∧ a ≤ L + 7) υ φ) : RS φ t m s := by
  have hL' : L = 5 ∨ L = 38 := hL
  exact h.ag a (by omega) (by omega) (fun x hx => by omega)
/-- a person -/
theorem cn_0 (hs : s ≤ m) (ok : LnOK l) (hf : nP l < 7) : SpN t m s 0 l := by
  have nx := nxt_le (t := t) hs
  have nx2 := nxt_le (t := t) nx.2.1
  have hi1 : isHi 3 4 := hi_s (m := 3) (by decide)
  have hi2 : isHi 9 10 := hi_s (m := 9) (by decide)
  have st : ∀ (L : Nat) (σ : mm_M) (d : Nat), isLd L → RS σ t m s → ev (d + 3) 50 [.ref L, .ref 1, .int (nI 0)] σ = (cI (cI1 (ev (d + 1) 21 [.ref 1, .int 0, .int 3] σ) fun r2 σ1 => if r2 = (-1) then rn (d + 2) 51 23 [.ref L, .ref 1, .int r2, uv] [.int (-1)] σ1 else cI1 (ev (d + 1) 21 [.ref 1, .int 0, .int 9] σ1) fun r4 σ3 => rn (d + 2) 51 23 [.ref L, .ref 1, .int r2, uv] [.int r4] σ3) fun r2 σ1 => some (Sum.inl (Value.int (nar 1 r2)), σ1)) := by
    intro L σ d hL hr
    rw [e_Land_readNumbers (d + 2) L 1 (nI 0) σ (by rw [k_ld0 hr.1 hL]), show swT 1 75 0 3 #[31, 37, 43, 49] (nI 0) = 32 by decide, e_Land_readNumbers_32, e_Land_readPerson (d + 1) L 1 σ (by rw [k_ld0 hr.1 hL])]
  have bad : ∀ (L : Nat) (υ : mm_M) (d : Nat) (x : Int32), rn (d + 2) 51 23 [.ref L, .ref 1, .int x, uv] [.int (-1)] υ = some (.inl (.int 0), υ) := by
    intro L υ d x
    rw [e_Land_readPerson_23, if_pos rfl, e_Land_readPerson_38, nar1_0]
  have kA : ∀ σ', Sh σ' → mK σ' (59 + nP l) = (1, 2) := fun σ' h => k_r58 h hf
  have nA : 59 + nP l ≠ 53 ∧ 59 + nP l ≠ 54 := by omega
  have mt : ∀ (τ : mm_M) (d : Nat), Sh τ → rn (d + 3) 190 95 [.ref 53, .int (nI 0), uv, uv, uv, uv] [.int (nI (nP l))] τ = cI (ev (d + 2) 176 [.ref 53, .int (nI 0), .int 3] τ) fun r4 σ3 => tI σ3 (59 + nP l) (nI 0) r4 fun σ5 => gR σ5 12 53 13 fun r6 => aR σ5 r6 (nI (nP l)) fun r7 => cI (ev (d + 2) 176 [.ref 53, .int 0, .int 9] σ5) fun r9 σ8 => tI σ8 r7 1 r9 fun σ10 => rn (d + 3) 190 316 [.ref 53, .int (nI 0), .int (nI (nP l)), uv, uv, uv] [] σ10 := by
    intro τ d h
    rw [e_M_clause_95, show swT 97 183 0 2 #[27, 59, 92] (nI 0) = 124 by decide, e_M_clause_124, xr_53_13 h, xR_58 h hf]
    rfl
  have mk : ∀ (τ : mm_M) (d : Nat), Sh τ → (gR τ 12 53 13 fun r6 => aR τ r6 (nI (nP l)) fun r7 => cI (ev (d + 2) 176 [.ref 53, .int 0, .int 9] τ) fun r9 σ8 => tI σ8 r7 1 r9 fun σ10 => rn (d + 3) 190 316 [.ref 53, .int (nI 0), .int (nI (nP l)), uv, uv, uv] [] σ10) = cI (ev (d + 2) 176 [.ref 53, .int (nI 0), .int 9] τ) fun r9 σ8 => tI σ8 (59 + nP l) (nI 1) r9 fun σ10 => rn (d + 3) 190 316 [.ref 53, .int (nI 0), .int (nI (nP l)), uv, uv, uv] [] σ10 := by
    intro τ d h
    rw [xr_53_13 h, xR_58 h hf]
    rfl
  have inl : ∀ a, a = 59 + nP l → lzM a := fun a q => by unfold lzM; omega
  cases hD : pN t m s 0 4 with
  | inl e =>
    obtain ⟨e1, e3⟩ := pN_e hD
    refine ⟨.inl (e, s), ⟨e1, e3⟩, fun L σ d hL hr lz => ?_, fun τ d hr lt => ?_⟩
    · obtain ⟨υ, c1, c2⟩ := (t_takeNumber (d := d) hr (a := 0) (by decide) hi1).2 e hD
      refine ⟨0, υ, ?_, rfl, c2.mono (fun _ => at1_lz)⟩
      rw [st L σ d hL hr, show ev (d + 1) 21 [.ref 1, .int 0, .int 3] σ = _ from c1, cI1_ok, if_pos rfl, bad, cI_ok, nar1_0]
    · obtain ⟨υ, c1, c2⟩ := (m_numG (d := d) (K := fun σ5 => gR σ5 12 53 13 fun r6 => aR σ5 r6 (nI (nP l)) fun r7 => cI (ev (d + 2) 176 [.ref 53, .int 0, .int 9] σ5) fun r9 σ8 => tI σ8 r7 1 r9 fun σ10 => rn (d + 3) 190 316 [.ref 53, .int (nI 0), .int (nI (nP l)), uv, uv, uv] [] σ10) hr kA nA (show 0 < 2 by decide) (Nat.zero_le 1) hi1).2 e hD
      have s1 := c2.1.sh hr.1
      refine ⟨wI υ (59 + nP l) 1 0, uv, uv, uv, ?_, (mf_wG nA.1 c2).mono inl (fun _ q => q)⟩
      rw [show cnt l 0 = nI (nP l) from rfl, mt τ d hr.1]
      refine c1.trans ?_
      rw [mk υ d s1]
      exact m_numGF (d := d + 1) s1 (c2.bad e1 e3) (kA _ s1) (by decide)
  | inr D =>
    have bD := pN_i hD
    cases hT : pN t m (nxt t m s) 0 10 with
    | inl e =>
      obtain ⟨e1, e3⟩ := pN_e hT
      refine ⟨.inl (e, nxt t m s), ⟨e1, e3⟩, fun L σ d hL hr lz => ?_, fun τ d hr lt => ?_⟩
      · obtain ⟨υ, c1, c2, c3, -⟩ := (t_takeNumber (d := d) hr (a := 0) (by decide) hi1).1 D hD
        obtain ⟨υ2, w1, w2⟩ := (t_takeNumber (d := d) c2 (a := 0) (by decide) hi2).2 e hT
        refine ⟨0, υ2, ?_, rfl, (c3.tf w2).mono (fun _ => at1_lz)⟩
        rw [st L σ d hL hr, show ev (d + 1) 21 [.ref 1, .int 0, .int 3] σ = _ from c1, cI1_ok, if_neg (nI_m1 (by omega)), show ev (d + 1) 21 [.ref 1, .int 0, .int 9] υ = _ from w1, cI1_ok, bad, cI_ok, nar1_0]
      · obtain ⟨υ, c1, c2, c3, c4, c5⟩ := (m_numG (d := d) (K := fun σ5 => gR σ5 12 53 13 fun r6 => aR σ5 r6 (nI (nP l)) fun r7 => cI (ev (d + 2) 176 [.ref 53, .int 0, .int 9] σ5) fun r9 σ8 => tI σ8 r7 1 r9 fun σ10 => rn (d + 3) 190 316 [.ref 53, .int (nI 0), .int (nI (nP l)), uv, uv, uv] [] σ10) hr kA nA (show 0 < 2 by decide) (Nat.zero_le 1) hi1).1 D hD
        obtain ⟨υ2, w1, w2⟩ := (m_numG (d := d) (K := fun σ10 => rn (d + 3) 190 316 [.ref 53, .int (nI 0), .int (nI (nP l)), uv, uv, uv] [] σ10) c2 kA nA (show 1 < 2 by decide) (show 0 ≤ 1 by decide) hi2).2 e hT
        refine ⟨υ2, uv, uv, uv, ?_, (mf_trG c5 w2).mono inl (fun _ q => q)⟩
        rw [show cnt l 0 = nI (nP l) from rfl, mt τ d hr.1]
        refine c1.trans ?_
        rw [mk υ d c2.1]
        exact w1
    | inr T =>
      have bT := pN_i hT
      refine ⟨.inr (nxt t m (nxt t m s), addP l D T), ⟨by omega, nx2.2.1, addP_ok ok hf (by omega) (by omega), rfl, rfl, rfl⟩, fun L σ d hL hr lz => ?_, fun τ d hr lt => ?_⟩
      · obtain ⟨υ, c1, c2, c3, -⟩ := (t_takeNumber (d := d) hr (a := 0) (by decide) hi1).1 D hD
        obtain ⟨υ2, w1, w2, w3, -⟩ := (t_takeNumber (d := d) c2 (a := 0) (by decide) hi2).1 T hT
        have hL' : L = 5 ∨ L = 38 := hL
        have tg := c3.trans w3
        have eL : ∀ k, k ≤ 7 → mI υ2 (L + k) = mI σ (L + k) := fun k hk => tg.1.at (by unfold at1; omega)
        have eL0 : mI υ2 L = mI σ L := eL 0 (by omega)
        have e7 : mI υ2 L 7 = nI (nP l) := by rw [eL0]; exact lz.1.1
        have sA : Sh (wI υ2 (L + 1) (nP l) (nI D)) := w2.1
        have sB : Sh (wI (wI υ2 (L + 1) (nP l) (nI D)) (L + 2) (nP l) (nI T)) := w2.1
        have ag : Ag (fun a => L ≤ a ∧ a ≤ L + 7) υ2 (wI (wI (wI υ2 (L + 1) (nP l) (nI D)) (L + 2) (nP l) (nI T)) L 7 (nI (nP l + 1))) := Ag.wI (S := fun a => L ≤ a ∧ a ≤ L + 7) (Ag.wI (S := fun a => L ≤ a ∧ a ≤ L + 7) (Ag.wI (S := fun a => L ≤ a ∧ a ≤ L + 7) (Ag.refl _ υ2) ⟨by omega, by omega⟩ _ _) ⟨by omega, by omega⟩ _ _) ⟨by omega, by omega⟩ _ _
        refine ⟨1, wI (wI (wI υ2 (L + 1) (nP l) (nI D)) (L + 2) (nP l) (nI T)) L 7 (nI (nP l + 1)), ?_, rfl, lz_rs hL w2 ag, LzC_P lz (fun i => ?_) (fun i => ?_) (fun i => ?_) (fun k h1 h2 => ?_), lz_tg hL tg ag⟩
        · rw [st L σ d hL hr, show ev (d + 1) 21 [.ref 1, .int 0, .int 3] σ = _ from c1, cI1_ok, if_neg (nI_m1 (by omega)), show ev (d + 1) 21 [.ref 1, .int 0, .int 9] υ = _ from w1, cI1_ok, e_Land_readPerson_23, if_neg (nI_m1 (by omega)), xg_ld w2.1 hL, e7, if_pos (show nI (nP l) < (7 : Int32) from nI_lt (b := 7) hf (by decide)), xr_ld0 w2.1 hL, xg_ld w2.1 hL, e7, xt_ld1 w2.1 hL hf, xr_ld1 sA hL, xg_ld sA hL, rI_o (show L ≠ L + 1 by omega), e7, xt_ld2 sA hL hf, xg_ld sB hL, rI_o (show L ≠ L + 2 by omega), rI_o (show L ≠ L + 1 by omega), e7, nI_1, xs_ld sB hL, nar1_1, cI_ok, nar1_1]
        · rw [rI_w]
          by_cases z : i = 7
          · rw [if_pos ⟨rfl, z⟩, if_pos z]
          · rw [if_neg (fun y => z y.2), if_neg z, rI_o (by omega), rI_o (by omega), eL0]
        · rw [rI_o (by omega), rI_o (by omega), rI_w]
          by_cases z : i = nP l
          · rw [if_pos ⟨rfl, z⟩, if_pos z]
          · rw [if_neg (fun y => z y.2), if_neg z, eL 1 (by omega)]
        · rw [rI_o (by omega), rI_w]
          by_cases z : i = nP l
          · rw [if_pos ⟨rfl, z⟩, if_pos z]
          · rw [if_neg (fun y => z y.2), if_neg z, rI_o (by omega), eL 2 (by omega)]
        · rw [rI_o (by omega), rI_o (by omega), rI_o (by omega), eL k (by omega)]
      · obtain ⟨υ, c1, c2, c3, c4, c5⟩ := (m_numG (d := d) (K := fun σ5 => gR σ5 12 53 13 fun r6 => aR σ5 r6 (nI (nP l)) fun r7 => cI (ev (d + 2) 176 [.ref 53, .int 0, .int 9] σ5) fun r9 σ8 => tI σ8 r7 1 r9 fun σ10 => rn (d + 3) 190 316 [.ref 53, .int (nI 0), .int (nI (nP l)), uv, uv, uv] [] σ10) hr kA nA (show 0 < 2 by decide) (Nat.zero_le 1) hi1).1 D hD
        obtain ⟨υ2, w1, w2, w3, w4, w5⟩ := (m_numG (d := d) (K := fun σ10 => rn (d + 3) 190 316 [.ref 53, .int (nI 0), .int (nI (nP l)), uv, uv, uv] [] σ10) c2 kA nA (show 1 < 2 by decide) (show 0 ≤ 1 by decide) hi2).1 T hT
        have ag := c5.trans w5
        refine ⟨υ2, uv, uv, uv, ?_, w2, LzT_P ok hf lt (by rw [w4 0 (by decide)]; exact c3) w3 (fun x hx hne => ag.at (fun z => by rw [z] at hx; unfold lzM at hx; omega) hne), ag.mono inl (fun _ q => q)⟩
        rw [show cnt l 0 = nI (nP l) from rfl, mt τ d hr.1]
        refine c1.trans ?_
        rw [mk υ d c2.1]
        exact w1
/-- a joke -/
theorem cn_1 (hs : s ≤ m) (ok : LnOK l) (hf : nJ l < 6) : SpN t m s 1 l := by
  have nx := nxt_le (t := t) hs
  have nx2 := nxt_le (t := t) nx.2.1
  have hi1 : isHi 9 10 := hi_s (m := 9) (by decide)
  have hi2 : isHi 20 21 := hi_s (m := 20) (by decide)
  have st : ∀ (L : Nat) (σ : mm_M) (d : Nat), isLd L → RS σ t m s → ev (d + 3) 50 [.ref L, .ref 1, .int (nI 1)] σ = (cI (cI1 (ev (d + 1) 21 [.ref 1, .int 0, .int 9] σ) fun r2 σ1 => if r2 = (-1) then rn (d + 2) 52 24 [.ref L, .ref 1, .int r2, uv] [.int (-1)] σ1 else cI1 (ev (d + 1) 21 [.ref 1, .int 1, .int 20] σ1) fun r4 σ3 => rn (d + 2) 52 24 [.ref L, .ref 1, .int r2, uv] [.int r4] σ3) fun r2 σ1 => some (Sum.inl (Value.int (nar 1 r2)), σ1)) := by
    intro L σ d hL hr
    rw [e_Land_readNumbers (d + 2) L 1 (nI 1) σ (by rw [k_ld0 hr.1 hL]), show swT 1 75 0 3 #[31, 37, 43, 49] (nI 1) = 38 by decide, e_Land_readNumbers_38, e_Land_readJoke (d + 1) L 1 σ (by rw [k_ld0 hr.1 hL])]
  have bad : ∀ (L : Nat) (υ : mm_M) (d : Nat) (x : Int32), rn (d + 2) 52 24 [.ref L, .ref 1, .int x, uv] [.int (-1)] υ = some (.inl (.int 0), υ) := by
    intro L υ d x
    rw [e_Land_readJoke_24, if_pos rfl, e_Land_readJoke_39, nar1_0]
  have kA : ∀ σ', Sh σ' → mK σ' (75 + nJ l) = (1, 2) := fun σ' h => k_r74 h hf
  have nA : 75 + nJ l ≠ 53 ∧ 75 + nJ l ≠ 54 := by omega
  have mt : ∀ (τ : mm_M) (d : Nat), Sh τ → rn (d + 3) 190 95 [.ref 53, .int (nI 1), uv, uv, uv, uv] [.int (nI (nJ l))] τ = cI (ev (d + 2) 176 [.ref 53, .int (nI 0), .int 9] τ) fun r4 σ3 => tI σ3 (75 + nJ l) (nI 0) r4 fun σ5 => gR σ5 12 53 15 fun r6 => aR σ5 r6 (nI (nJ l)) fun r7 => cI (ev (d + 2) 176 [.ref 53, .int 1, .int 20] σ5) fun r9 σ8 => tI σ8 r7 1 r9 fun σ10 => rn (d + 3) 190 316 [.ref 53, .int (nI 1), .int (nI (nJ l)), uv, uv, uv] [] σ10 := by
    intro τ d h
    rw [e_M_clause_95, show swT 97 183 0 2 #[27, 59, 92] (nI 1) = 156 by decide, e_M_clause_156, xr_53_15 h, xR_74 h hf]
    rfl
  have mk : ∀ (τ : mm_M) (d : Nat), Sh τ → (gR τ 12 53 15 fun r6 => aR τ r6 (nI (nJ l)) fun r7 => cI (ev (d + 2) 176 [.ref 53, .int 1, .int 20] τ) fun r9 σ8 => tI σ8 r7 1 r9 fun σ10 => rn (d + 3) 190 316 [.ref 53, .int (nI 1), .int (nI (nJ l)), uv, uv, uv] [] σ10) = cI (ev (d + 2) 176 [.ref 53, .int (nI 1), .int 20] τ) fun r9 σ8 => tI σ8 (75 + nJ l) (nI 1) r9 fun σ10 => rn (d + 3) 190 316 [.ref 53, .int (nI 1), .int (nI (nJ l)), uv, uv, uv] [] σ10 := by
    intro τ d h
    rw [xr_53_15 h, xR_74 h hf]
    rfl
  have inl : ∀ a, a = 75 + nJ l → lzM a := fun a q => by unfold lzM; omega
  cases hD : pN t m s 0 10 with
  | inl e =>
    obtain ⟨e1, e3⟩ := pN_e hD
    refine ⟨.inl (e, s), ⟨e1, e3⟩, fun L σ d hL hr lz => ?_, fun τ d hr lt => ?_⟩
    · obtain ⟨υ, c1, c2⟩ := (t_takeNumber (d := d) hr (a := 0) (by decide) hi1).2 e hD
      refine ⟨0, υ, ?_, rfl, c2.mono (fun _ => at1_lz)⟩
      rw [st L σ d hL hr, show ev (d + 1) 21 [.ref 1, .int 0, .int 9] σ = _ from c1, cI1_ok, if_pos rfl, bad, cI_ok, nar1_0]
    · obtain ⟨υ, c1, c2⟩ := (m_numG (d := d) (K := fun σ5 => gR σ5 12 53 15 fun r6 => aR σ5 r6 (nI (nJ l)) fun r7 => cI (ev (d + 2) 176 [.ref 53, .int 1, .int 20] σ5) fun r9 σ8 => tI σ8 r7 1 r9 fun σ10 => rn (d + 3) 190 316 [.ref 53, .int (nI 1), .int (nI (nJ l)), uv, uv, uv] [] σ10) hr kA nA (show 0 < 2 by decide) (Nat.zero_le 1) hi1).2 e hD
      have s1 := c2.1.sh hr.1
      refine ⟨wI υ (75 + nJ l) 1 0, uv, uv, uv, ?_, (mf_wG nA.1 c2).mono inl (fun _ q => q)⟩
      rw [show cnt l 1 = nI (nJ l) from rfl, mt τ d hr.1]
      refine c1.trans ?_
      rw [mk υ d s1]
      exact m_numGF (d := d + 1) s1 (c2.bad e1 e3) (kA _ s1) (by decide)
  | inr D =>
    have bD := pN_i hD
    cases hT : pN t m (nxt t m s) 1 21 with
    | inl e =>
      obtain ⟨e1, e3⟩ := pN_e hT
      refine ⟨.inl (e, nxt t m s), ⟨e1, e3⟩, fun L σ d hL hr lz => ?_, fun τ d hr lt => ?_⟩
      · obtain ⟨υ, c1, c2, c3, -⟩ := (t_takeNumber (d := d) hr (a := 0) (by decide) hi1).1 D hD
        obtain ⟨υ2, w1, w2⟩ := (t_takeNumber (d := d) c2 (a := 1) (by decide) hi2).2 e hT
        refine ⟨0, υ2, ?_, rfl, (c3.tf w2).mono (fun _ => at1_lz)⟩
        rw [st L σ d hL hr, show ev (d + 1) 21 [.ref 1, .int 0, .int 9] σ = _ from c1, cI1_ok, if_neg (nI_m1 (by omega)), show ev (d + 1) 21 [.ref 1, .int 1, .int 20] υ = _ from w1, cI1_ok, bad, cI_ok, nar1_0]
      · obtain ⟨υ, c1, c2, c3, c4, c5⟩ := (m_numG (d := d) (K := fun σ5 => gR σ5 12 53 15 fun r6 => aR σ5 r6 (nI (nJ l)) fun r7 => cI (ev (d + 2) 176 [.ref 53, .int 1, .int 20] σ5) fun r9 σ8 => tI σ8 r7 1 r9 fun σ10 => rn (d + 3) 190 316 [.ref 53, .int (nI 1), .int (nI (nJ l)), uv, uv, uv] [] σ10) hr kA nA (show 0 < 2 by decide) (Nat.zero_le 1) hi1).1 D hD
        obtain ⟨υ2, w1, w2⟩ := (m_numG (d := d) (K := fun σ10 => rn (d + 3) 190 316 [.ref 53, .int (nI 1), .int (nI (nJ l)), uv, uv, uv] [] σ10) c2 kA nA (show 1 < 2 by decide) (show 1 ≤ 1 by decide) hi2).2 e hT
        refine ⟨υ2, uv, uv, uv, ?_, (mf_trG c5 w2).mono inl (fun _ q => q)⟩
        rw [show cnt l 1 = nI (nJ l) from rfl, mt τ d hr.1]
        refine c1.trans ?_
        rw [mk υ d c2.1]
        exact w1
    | inr T =>
      have bT := pN_i hT
      refine ⟨.inr (nxt t m (nxt t m s), addJ l D T), ⟨by omega, nx2.2.1, addJ_ok ok hf (by omega) (by omega) (by omega), rfl, rfl, rfl⟩, fun L σ d hL hr lz => ?_, fun τ d hr lt => ?_⟩
      · obtain ⟨υ, c1, c2, c3, -⟩ := (t_takeNumber (d := d) hr (a := 0) (by decide) hi1).1 D hD
        obtain ⟨υ2, w1, w2, w3, -⟩ := (t_takeNumber (d := d) c2 (a := 1) (by decide) hi2).1 T hT
        have hL' : L = 5 ∨ L = 38 := hL
        have tg := c3.trans w3
        have eL : ∀ k, k ≤ 7 → mI υ2 (L + k) = mI σ (L + k) := fun k hk => tg.1.at (by unfold at1; omega)
        have eL0 : mI υ2 L = mI σ L := eL 0 (by omega)
        have e7 : mI υ2 L 8 = nI (nJ l) := by rw [eL0]; exact lz.1.2.1
        have sA : Sh (wI υ2 (L + 4) (nJ l) (nI D)) := w2.1
        have sB : Sh (wI (wI υ2 (L + 4) (nJ l) (nI D)) (L + 5) (nJ l) (nI T)) := w2.1
        have ag : Ag (fun a => L ≤ a ∧ a ≤ L + 7) υ2 (wI (wI (wI υ2 (L + 4) (nJ l) (nI D)) (L + 5) (nJ l) (nI T)) L 8 (nI (nJ l + 1))) := Ag.wI (S := fun a => L ≤ a ∧ a ≤ L + 7) (Ag.wI (S := fun a => L ≤ a ∧ a ≤ L + 7) (Ag.wI (S := fun a => L ≤ a ∧ a ≤ L + 7) (Ag.refl _ υ2) ⟨by omega, by omega⟩ _ _) ⟨by omega, by omega⟩ _ _) ⟨by omega, by omega⟩ _ _
        refine ⟨1, wI (wI (wI υ2 (L + 4) (nJ l) (nI D)) (L + 5) (nJ l) (nI T)) L 8 (nI (nJ l + 1)), ?_, rfl, lz_rs hL w2 ag, LzC_J lz (fun i => ?_) (fun i => ?_) (fun i => ?_) (fun k h1 h2 h3 h4 => ?_), lz_tg hL tg ag⟩
        · rw [st L σ d hL hr, show ev (d + 1) 21 [.ref 1, .int 0, .int 9] σ = _ from c1, cI1_ok, if_neg (nI_m1 (by omega)), show ev (d + 1) 21 [.ref 1, .int 1, .int 20] υ = _ from w1, cI1_ok, e_Land_readJoke_24, if_neg (nI_m1 (by omega)), xg_ld w2.1 hL, e7, if_pos (show nI (nJ l) < (6 : Int32) from nI_lt (b := 6) hf (by decide)), xr_ld3 w2.1 hL, xg_ld w2.1 hL, e7, xt_ld4 w2.1 hL hf, xr_ld4 sA hL, xg_ld sA hL, rI_o (show L ≠ L + 4 by omega), e7, xt_ld5 sA hL hf, xg_ld sB hL, rI_o (show L ≠ L + 5 by omega), rI_o (show L ≠ L + 4 by omega), e7, nI_1, xs_ld sB hL, nar1_1, cI_ok, nar1_1]
        · rw [rI_w]
          by_cases z : i = 8
          · rw [if_pos ⟨rfl, z⟩, if_pos z]
          · rw [if_neg (fun y => z y.2), if_neg z, rI_o (by omega), rI_o (by omega), eL0]
        · rw [rI_o (by omega), rI_o (by omega), rI_w]
          by_cases z : i = nJ l
          · rw [if_pos ⟨rfl, z⟩, if_pos z]
          · rw [if_neg (fun y => z y.2), if_neg z, eL 4 (by omega)]
        · rw [rI_o (by omega), rI_w]
          by_cases z : i = nJ l
          · rw [if_pos ⟨rfl, z⟩, if_pos z]
          · rw [if_neg (fun y => z y.2), if_neg z, rI_o (by omega), eL 5 (by omega)]
        · rw [rI_o (by omega), rI_o (by omega), rI_o (by omega), eL k (by omega)]
      · obtain ⟨υ, c1, c2, c3, c4, c5⟩ := (m_numG (d := d) (K := fun σ5 => gR σ5 12 53 15 fun r6 => aR σ5 r6 (nI (nJ l)) fun r7 => cI (ev (d + 2) 176 [.ref 53, .int 1, .int 20] σ5) fun r9 σ8 => tI σ8 r7 1 r9 fun σ10 => rn (d + 3) 190 316 [.ref 53, .int (nI 1), .int (nI (nJ l)), uv, uv, uv] [] σ10) hr kA nA (show 0 < 2 by decide) (Nat.zero_le 1) hi1).1 D hD
        obtain ⟨υ2, w1, w2, w3, w4, w5⟩ := (m_numG (d := d) (K := fun σ10 => rn (d + 3) 190 316 [.ref 53, .int (nI 1), .int (nI (nJ l)), uv, uv, uv] [] σ10) c2 kA nA (show 1 < 2 by decide) (show 1 ≤ 1 by decide) hi2).1 T hT
        have ag := c5.trans w5
        refine ⟨υ2, uv, uv, uv, ?_, w2, LzT_J ok hf lt (by rw [w4 0 (by decide)]; exact c3) w3 (fun x hx hne => ag.at (fun z => by rw [z] at hx; unfold lzM at hx; omega) hne), ag.mono inl (fun _ q => q)⟩
        rw [show cnt l 1 = nI (nJ l) from rfl, mt τ d hr.1]
        refine c1.trans ?_
        rw [mk υ d c2.1]
        exact w1
/-- the jug -/
theorem cn_3 (hs : s ≤ m) (ok : LnOK l) : SpN t m s 3 l := by
  have nx := nxt_le (t := t) hs
  have hi1 : isHi 200 201 := hi_s (m := 200) (by decide)
  have st : ∀ (L : Nat) (σ : mm_M) (d : Nat), isLd L → RS σ t m s → ev (d + 3) 50 [.ref L, .ref 1, .int (nI 3)] σ = (cI1 (ev (d + 2) 21 [.ref 1, .int 0, .int 200] σ) fun r2 σ1 => sI σ1 3 L 10 r2 fun σ3 => gI σ3 3 L 10 fun r4 => if r4 = (-1) then rn (d + 3) 50 75 [.ref L, .ref 1, .int (nI 3)] [.int 0] σ3 else rn (d + 3) 50 75 [.ref L, .ref 1, .int (nI 3)] [.int 1] σ3) := by
    intro L σ d hL hr
    rw [e_Land_readNumbers (d + 2) L 1 (nI 3) σ (by rw [k_ld0 hr.1 hL]), show swT 1 75 0 3 #[31, 37, 43, 49] (nI 3) = 50 by decide, e_Land_readNumbers_50]
  have mt : ∀ (τ : mm_M) (d : Nat), Sh τ → rn (d + 3) 190 95 [.ref 53, .int (nI 3), uv, uv, uv, uv] [.int 0] τ = cI (ev (d + 2) 176 [.ref 53, .int (nI 0), .int 200] τ) fun r2 σ1 => gI σ1 12 53 5 fun r3 => if r3 = 0 then gR σ1 12 53 11 fun r4 => tI σ1 r4 (nI 3) r2 fun σ5 => rn (d + 3) 190 316 [.ref 53, .int (nI 3), .int 0, .int r2, uv, uv] [] σ5 else rn (d + 3) 190 316 [.ref 53, .int (nI 3), .int 0, .int r2, uv, uv] [] σ1 := by
    intro τ d h
    rw [e_M_clause_95, show swT 97 183 0 2 #[27, 59, 92] (nI 3) = 280 by decide, e_M_clause_280, if_pos (show nI 3 = (3 : Int32) from rfl), e_M_clause_295]
    rfl
  cases hD : pN t m s 0 201 with
  | inl e =>
    obtain ⟨e1, e3⟩ := pN_e hD
    refine ⟨.inl (e, s), ⟨e1, e3⟩, fun L σ d hL hr lz => ?_, fun τ d hr lt => ?_⟩
    · obtain ⟨υ, c1, c2⟩ := (t_takeNumber (d := d + 1) hr (a := 0) (by decide) hi1).2 e hD
      have hL' : L = 5 ∨ L = 38 := hL
      have s1 := c2.1.sh hr.1
      have sA : Sh (wI υ L 10 (-1)) := s1
      have f1 : mI (wI υ L 10 (-1)) 1 = mI υ 1 := rI_o (by omega)
      have tf : TF (lzS L) σ υ e s := c2.mono (fun _ => at1_lz)
      refine ⟨0, wI υ L 10 (-1), ?_, rfl, tf.1.wI (Or.inr ⟨by omega, by omega⟩) _ _, by rw [f1]; exact tf.2.1, by rw [f1]; exact tf.2.2.1, by rw [f1]; exact tf.2.2.2⟩
      rw [st L σ d hL hr, show ev (d + 2) 21 [.ref 1, .int 0, .int 200] σ = _ from c1, cI1_ok, xs_ld s1 hL, xg_ld sA hL, show mI (wI υ L 10 (-1)) L 10 = -1 by (rw [rI_w, if_pos ⟨rfl, rfl⟩]), if_pos rfl, e_Land_readNumbers_75, nar1_0]
    · obtain ⟨υ, c1, c2⟩ := (u_number (d := d) hr (Nat.zero_le 1) hi1).2 e hD
      have s1 := c2.1.sh hr.1
      refine ⟨υ, .int 0, uv, uv, ?_, c2.mono (fun _ q => q.elim) (fun _ q => q)⟩
      rw [show cnt l 3 = 0 from rfl, mt τ d hr.1, c1, cI_ok, xg_53 s1, if_neg (c2.bad e1 e3)]
  | inr D =>
    have bD := pN_i hD
    refine ⟨.inr (nxt t m s, setJ l D), ⟨by omega, nx.2.1, setJ_ok ok (by omega), rfl, rfl, rfl⟩, fun L σ d hL hr lz => ?_, fun τ d hr lt => ?_⟩
    · obtain ⟨υ, c1, c2, c3, -⟩ := (t_takeNumber (d := d + 1) hr (a := 0) (by decide) hi1).1 D hD
      have hL' : L = 5 ∨ L = 38 := hL
      have eL : ∀ k, k ≤ 7 → mI υ (L + k) = mI σ (L + k) := fun k hk => c3.1.at (by unfold at1; omega)
      have eL0 : mI υ L = mI σ L := eL 0 (by omega)
      have sA : Sh (wI υ L 10 (nI D)) := c2.1
      have ag : Ag (fun a => L ≤ a ∧ a ≤ L + 7) υ (wI υ L 10 (nI D)) := Ag.wI (S := fun a => L ≤ a ∧ a ≤ L + 7) (Ag.refl _ υ) ⟨by omega, by omega⟩ _ _
      refine ⟨1, wI υ L 10 (nI D), ?_, rfl, lz_rs hL c2 ag, LzC_j lz (fun i => ?_) (fun k h1 h2 => ?_), lz_tg hL c3 ag⟩
      · rw [st L σ d hL hr, show ev (d + 2) 21 [.ref 1, .int 0, .int 200] σ = _ from c1, cI1_ok, xs_ld c2.1 hL, xg_ld sA hL, show mI (wI υ L 10 (nI D)) L 10 = nI D by (rw [rI_w, if_pos ⟨rfl, rfl⟩]), if_neg (nI_m1 (by omega)), e_Land_readNumbers_75, nar1_1]
      · rw [rI_w]
        by_cases z : i = 10
        · rw [if_pos ⟨rfl, z⟩, if_pos z]
        · rw [if_neg (fun y => z y.2), if_neg z, eL0]
      · rw [rI_o (by omega), eL k (by omega)]
    · obtain ⟨υ, c1, c2, c3⟩ := (u_number (d := d) hr (Nat.zero_le 1) hi1).1 D hD
      have ag0 : AgM lzM nS0 υ (wI υ 56 3 (nI D)) := AgM.of (S := fun a => a = 56) (Ag.wI (S := fun a => a = 56) (Ag.refl _ υ) rfl _ _) (fun _ q => Or.inl q) (by omega)
      refine ⟨wI υ 56 3 (nI D), .int (nI D), uv, uv, ?_, c2.agm ag0 (by unfold lzM; omega) (fun q => q) (fun q => q) (fun q => q), LzT_j ok lt (fun i => ?_) (fun x hx hne => ?_), (c3.mono (fun _ q => q.elim) (fun _ q => q)).trans (ag0.mono (fun _ q => q) (fun _ q => q.elim))⟩
      · rw [show cnt l 3 = 0 from rfl, mt τ d hr.1, c1, cI_ok, xg_53 c2.1, c2.2.2.2.2.1, if_pos rfl, xr_53_11 c2.1, xt_56 c2.1 (by decide)]
      · rw [rI_w]
        by_cases z : i = 3
        · rw [if_pos ⟨rfl, z⟩, if_pos z]
        · rw [if_neg (fun y => z y.2), if_neg z, c3.at (by decide) (fun q => q)]
      · rw [rI_o hne, c3.at (fun z => by rw [z] at hx; unfold lzM at hx; omega) (fun q => q)]
/-- what one drinks -/
theorem cn_4 (hs : s ≤ m) (ok : LnOK l) : SpN t m s 4 l := by
  have nx := nxt_le (t := t) hs
  have hi1 : isHi 9 10 := hi_s (m := 9) (by decide)
  have st : ∀ (L : Nat) (σ : mm_M) (d : Nat), isLd L → RS σ t m s → ev (d + 3) 50 [.ref L, .ref 1, .int (nI 4)] σ = (cI1 (ev (d + 2) 21 [.ref 1, .int 0, .int 9] σ) fun r2 σ1 => sI σ1 3 L 11 r2 fun σ3 => gI σ3 3 L 11 fun r4 => if r4 = (-1) then rn (d + 3) 50 100 [.ref L, .ref 1, .int (nI 4)] [.int 0] σ3 else rn (d + 3) 50 100 [.ref L, .ref 1, .int (nI 4)] [.int 1] σ3) := by
    intro L σ d hL hr
    rw [e_Land_readNumbers (d + 2) L 1 (nI 4) σ (by rw [k_ld0 hr.1 hL]), show swT 1 75 0 3 #[31, 37, 43, 49] (nI 4) = 76 by decide, e_Land_readNumbers_76]
  have mt : ∀ (τ : mm_M) (d : Nat), Sh τ → rn (d + 3) 190 95 [.ref 53, .int (nI 4), uv, uv, uv, uv] [.int 0] τ = cI (ev (d + 2) 176 [.ref 53, .int (nI 0), .int 9] τ) fun r2 σ1 => gI σ1 12 53 5 fun r3 => if r3 = 0 then gR σ1 12 53 11 fun r4 => tI σ1 r4 (nI 4) r2 fun σ5 => rn (d + 3) 190 316 [.ref 53, .int (nI 4), .int 0, .int r2, uv, uv] [] σ5 else rn (d + 3) 190 316 [.ref 53, .int (nI 4), .int 0, .int r2, uv, uv] [] σ1 := by
    intro τ d h
    rw [e_M_clause_95, show swT 97 183 0 2 #[27, 59, 92] (nI 4) = 280 by decide, e_M_clause_280, if_neg (show ¬ nI 4 = (3 : Int32) by decide), e_M_clause_295]
    rfl
  cases hD : pN t m s 0 10 with
  | inl e =>
    obtain ⟨e1, e3⟩ := pN_e hD
    refine ⟨.inl (e, s), ⟨e1, e3⟩, fun L σ d hL hr lz => ?_, fun τ d hr lt => ?_⟩
    · obtain ⟨υ, c1, c2⟩ := (t_takeNumber (d := d + 1) hr (a := 0) (by decide) hi1).2 e hD
      have hL' : L = 5 ∨ L = 38 := hL
      have s1 := c2.1.sh hr.1
      have sA : Sh (wI υ L 11 (-1)) := s1
      have f1 : mI (wI υ L 11 (-1)) 1 = mI υ 1 := rI_o (by omega)
      have tf : TF (lzS L) σ υ e s := c2.mono (fun _ => at1_lz)
      refine ⟨0, wI υ L 11 (-1), ?_, rfl, tf.1.wI (Or.inr ⟨by omega, by omega⟩) _ _, by rw [f1]; exact tf.2.1, by rw [f1]; exact tf.2.2.1, by rw [f1]; exact tf.2.2.2⟩
      rw [st L σ d hL hr, show ev (d + 2) 21 [.ref 1, .int 0, .int 9] σ = _ from c1, cI1_ok, xs_ld s1 hL, xg_ld sA hL, show mI (wI υ L 11 (-1)) L 11 = -1 by (rw [rI_w, if_pos ⟨rfl, rfl⟩]), if_pos rfl, e_Land_readNumbers_100, nar1_0]
    · obtain ⟨υ, c1, c2⟩ := (u_number (d := d) hr (Nat.zero_le 1) hi1).2 e hD
      have s1 := c2.1.sh hr.1
      refine ⟨υ, .int 0, uv, uv, ?_, c2.mono (fun _ q => q.elim) (fun _ q => q)⟩
      rw [show cnt l 4 = 0 from rfl, mt τ d hr.1, c1, cI_ok, xg_53 s1, if_neg (c2.bad e1 e3)]
  | inr D =>
    have bD := pN_i hD
    refine ⟨.inr (nxt t m s, setW l D), ⟨by omega, nx.2.1, setW_ok ok (by omega), rfl, rfl, rfl⟩, fun L σ d hL hr lz => ?_, fun τ d hr lt => ?_⟩
    · obtain ⟨υ, c1, c2, c3, -⟩ := (t_takeNumber (d := d + 1) hr (a := 0) (by decide) hi1).1 D hD
      have hL' : L = 5 ∨ L = 38 := hL
      have eL : ∀ k, k ≤ 7 → mI υ (L + k) = mI σ (L + k) := fun k hk => c3.1.at (by unfold at1; omega)
      have eL0 : mI υ L = mI σ L := eL 0 (by omega)
      have sA : Sh (wI υ L 11 (nI D)) := c2.1
      have ag : Ag (fun a => L ≤ a ∧ a ≤ L + 7) υ (wI υ L 11 (nI D)) := Ag.wI (S := fun a => L ≤ a ∧ a ≤ L + 7) (Ag.refl _ υ) ⟨by omega, by omega⟩ _ _
      refine ⟨1, wI υ L 11 (nI D), ?_, rfl, lz_rs hL c2 ag, LzC_w lz (fun i => ?_) (fun k h1 h2 => ?_), lz_tg hL c3 ag⟩
      · rw [st L σ d hL hr, show ev (d + 2) 21 [.ref 1, .int 0, .int 9] σ = _ from c1, cI1_ok, xs_ld c2.1 hL, xg_ld sA hL, show mI (wI υ L 11 (nI D)) L 11 = nI D by (rw [rI_w, if_pos ⟨rfl, rfl⟩]), if_neg (nI_m1 (by omega)), e_Land_readNumbers_100, nar1_1]
      · rw [rI_w]
        by_cases z : i = 11
        · rw [if_pos ⟨rfl, z⟩, if_pos z]
        · rw [if_neg (fun y => z y.2), if_neg z, eL0]
      · rw [rI_o (by omega), eL k (by omega)]
    · obtain ⟨υ, c1, c2, c3⟩ := (u_number (d := d) hr (Nat.zero_le 1) hi1).1 D hD
      have ag0 : AgM lzM nS0 υ (wI υ 56 4 (nI D)) := AgM.of (S := fun a => a = 56) (Ag.wI (S := fun a => a = 56) (Ag.refl _ υ) rfl _ _) (fun _ q => Or.inl q) (by omega)
      refine ⟨wI υ 56 4 (nI D), .int (nI D), uv, uv, ?_, c2.agm ag0 (by unfold lzM; omega) (fun q => q) (fun q => q) (fun q => q), LzT_w ok lt (fun i => ?_) (fun x hx hne => ?_), (c3.mono (fun _ q => q.elim) (fun _ q => q)).trans (ag0.mono (fun _ q => q) (fun _ q => q.elim))⟩
      · rw [show cnt l 4 = 0 from rfl, mt τ d hr.1, c1, cI_ok, xg_53 c2.1, c2.2.2.2.2.1, if_pos rfl, xr_53_11 c2.1, xt_56 c2.1 (by decide)]
      · rw [rI_w]
        by_cases z : i = 4
        · rw [if_pos ⟨rfl, z⟩, if_pos z]
        · rw [if_neg (fun y => z y.2), if_neg z, c3.at (by decide) (fun q => q)]
      · rw [rI_o hne, c3.at (fun z => by rw [z] at hx; unfold lzM at hx; omega) (fun q => q)]
/-- a street -/
theorem cn_2 (hs : s ≤ m) (ok : LnOK l) (hf : nS l < 12) : SpN t m s 2 l := by
  have nx := nxt_le (t := t) hs
  have nx2 := nxt_le (t := t) nx.2.1
  have P7 := ok.1
  have hiP : isHi (nI (nP l) - 1) (nP l) := hi_m (m := nP l) (by omega)
  have st : ∀ (L : Nat) (σ : mm_M) (d : Nat), isLd L → RS σ t m s → mI σ L 7 = nI (nP l) → ev (d + 3) 50 [.ref L, .ref 1, .int (nI 2)] σ = (cI (cI1 (ev (d + 1) 21 [.ref 1, .int 0, .int (nI (nP l) - 1)] σ) fun r3 σ2 => if r3 = (-1) then rn (d + 2) 53 32 [.ref L, .ref 1, .int r3, uv] [.int (-1)] σ2 else gI σ2 3 L 7 fun r4 => cI1 (ev (d + 1) 21 [.ref 1, .int 0, .int (r4 - (1 : Int32))] σ2) fun r6 σ5 => rn (d + 2) 53 32 [.ref L, .ref 1, .int r3, uv] [.int r6] σ5) fun r2 σ1 => some (Sum.inl (Value.int (nar 1 r2)), σ1)) := by
    intro L σ d hL hr e7
    rw [e_Land_readNumbers (d + 2) L 1 (nI 2) σ (by rw [k_ld0 hr.1 hL]), show swT 1 75 0 3 #[31, 37, 43, 49] (nI 2) = 44 by decide, e_Land_readNumbers_44, e_Land_readStreet (d + 1) L 1 σ (by rw [k_ld0 hr.1 hL]), xg_ld hr.1 hL, e7]
  have bad : ∀ (L : Nat) (υ : mm_M) (d : Nat) (x : Int32), rn (d + 2) 53 32 [.ref L, .ref 1, .int x, uv] [.int (-1)] υ = some (.inl (.int 0), υ) := by
    intro L υ d x
    rw [e_Land_readStreet_32, if_pos rfl, e_Land_readStreet_47, nar1_0]
  have mt : ∀ (τ : mm_M) (d : Nat), Sh τ → mI τ 56 0 = nI (nP l) → rn (d + 3) 190 95 [.ref 53, .int (nI 2), uv, uv, uv, uv] [.int (nI (nS l))] τ = (cI (ev (d + 2) 176 [.ref 53, .int (nI 0), .int (nI (nP l) - 1)] τ) fun r4 σ3 => cV (ev (d + 2) 172 [.ref 53] σ3) fun σ5 => gI σ5 12 53 4 fun r6 => gR σ5 12 53 11 fun r7 => aI σ5 r7 0 fun r8 => cI (ev (d + 2) 176 [.ref 53, .int 0, .int (r8 - (1 : Int32))] σ5) fun r10 σ9 => gI σ9 12 53 5 fun r11 => if r11 = 0 then if r4 = r10 then rn (d + 3) 190 251 [.ref 53, .int (nI 2), .int (nI (nS l)), .int r4, .int r6, .int r10] [] σ9 else cI (ev (d + 2) 189 [.ref 53, .int r4, .int r10] σ9) fun r13 σ12 => if r13 = 0 then rn (d + 3) 190 258 [.ref 53, .int (nI 2), .int (nI (nS l)), .int r4, .int r6, .int r10] [] σ12 else rn (d + 3) 190 251 [.ref 53, .int (nI 2), .int (nI (nS l)), .int r4, .int r6, .int r10] [] σ12 else rn (d + 3) 190 258 [.ref 53, .int (nI 2), .int (nI (nS l)), .int r4, .int r6, .int r10] [] σ9) := by
    intro τ d h e0
    rw [e_M_clause_95, show swT 97 183 0 2 #[27, 59, 92] (nI 2) = 189 by decide, e_M_clause_189, xr_53_11 h, show aI τ 56 0 = aI τ 56 (nI 0) from rfl, xa_56 h (by decide), e0]
    rfl
  have m258 : ∀ (υ : mm_M) (d : Nat) (x3 x4 x5 : Int32), Sh υ → rn (d + 3) 190 258 [.ref 53, .int (nI 2), .int (nI (nS l)), .int x3, .int x4, .int x5] [] υ = rn (d + 3) 190 316 [.ref 53, .int (nI 2), .int (nI (nS l)), .int x3, .int x4, .int x5] [] (wI (wI υ (89 + nS l) 0 x3) (89 + nS l) 1 x5) := by
    intro υ d x3 x4 x5 h
    have sA : Sh (wI υ (89 + nS l) 0 x3) := h
    rw [e_M_clause_258, xr_53_17 h, xR_88 h hf, show tI υ (89 + nS l) 0 = tI υ (89 + nS l) (nI 0) from rfl, xt_r88 h hf (by decide), xr_53_17 sA, xR_88 sA hf, show tI (wI υ (89 + nS l) 0 x3) (89 + nS l) 1 = tI (wI υ (89 + nS l) 0 x3) (89 + nS l) (nI 1) from rfl, xt_r88 sA hf (by decide)]
  have mfW : ∀ (τ υ : mm_M) (e p : Nat) (x y : Int32), MF nS0 f456 τ υ e p → MF lzM f456 τ (wI (wI υ (89 + nS l) 0 x) (89 + nS l) 1 y) e p := by
    intro τ υ e p x y h
    have f53 : mI (wI (wI υ (89 + nS l) 0 x) (89 + nS l) 1 y) 53 = mI υ 53 := by rw [rI_o (by omega), rI_o (by omega)]
    refine ⟨(h.1.mono (fun _ q => q.elim) (fun _ q => q)).trans (AgM.of (S := fun a => a = 89 + nS l) (Ag.wI (S := fun a => a = 89 + nS l) (Ag.wI (S := fun a => a = 89 + nS l) (Ag.refl _ υ) rfl _ _) rfl _ _) (fun a q => by unfold lzM; omega) (by omega)), by rw [f53]; exact h.2.1, by rw [f53]; exact h.2.2.1, by rw [f53]; exact h.2.2.2⟩
  cases hD : pN t m s 0 (nP l) with
  | inl e =>
    obtain ⟨e1, e3⟩ := pN_e hD
    refine ⟨.inl (e, s), ⟨e1, e3⟩, fun L σ d hL hr lz => ?_, fun τ d hr lt => ?_⟩
    · obtain ⟨υ, c1, c2⟩ := (t_takeNumber (d := d) hr (a := 0) (by decide) hiP).2 e hD
      refine ⟨0, υ, ?_, rfl, c2.mono (fun _ => at1_lz)⟩
      rw [st L σ d hL hr lz.1.1, show ev (d + 1) 21 [.ref 1, .int 0, .int (nI (nP l) - 1)] σ = _ from c1, cI1_ok, if_pos rfl, bad, cI_ok, nar1_0]
    · obtain ⟨υ, c1, c2⟩ := (u_number (d := d) hr (Nat.zero_le 1) hiP).2 e hD
      have s1 := c2.1.sh hr.1
      obtain ⟨i, i1, i2⟩ := c2.2.2.2
      have tx : TxM υ t m := ⟨hr.2.1.1, hr.2.1.2.1, fun k hk => by rw [c2.1.at (by decide) (fun q => q)]; exact hr.2.1.2.2 k hk⟩
      obtain ⟨φ, v1, v2, v3⟩ := u_blanksF (d := d + 1) s1 tx (by rw [c2.1.f (by unfold f456; omega)]; exact hr.2.2.2.1) i1 i2
      have s2 := v2.sh s1
      have e5 : mI φ 53 5 = nI e := by rw [v2.f (show ¬ (5 : Nat) = 4 by decide)]; exact c2.2.1
      have n5 : ¬ mI φ 53 5 = 0 := by rw [e5]; exact mf5 e1 e3
      have e56 : mI φ 56 0 = nI (nP l) := by rw [v2.at (by decide) (fun q => q), c2.1.at (by decide) (fun q => q)]; exact lt.1.1
      have mf : MF nS0 f456 τ φ e s := ⟨c2.1.trans (v2.mono (fun _ q => q) (fun _ q => Or.inl q)), e5, by rw [v2.f (show ¬ (6 : Nat) = 4 by decide)]; exact c2.2.2.1, v3⟩
      refine ⟨_, .int 0, .int (mI φ 53 4), .int 0, ?_, mfW τ φ e s 0 0 mf⟩
      rw [show cnt l 2 = nI (nS l) from rfl, mt τ d hr.1 lt.1.1, c1, cI_ok, v1, cV_ok, xg_53 s2, xr_53_11 s2, show aI φ 56 0 = aI φ 56 (nI 0) from rfl, xa_56 s2 (by decide), e56, u_numberF s2 n5, cI_ok, xg_53 s2, if_neg n5, m258 φ d _ _ _ s2]
  | inr D =>
    have bD := pN_i hD
    cases hT : pN t m (nxt t m s) 0 (nP l) with
    | inl e =>
      obtain ⟨e1, e3⟩ := pN_e hT
      refine ⟨.inl (e, nxt t m s), ⟨e1, e3⟩, fun L σ d hL hr lz => ?_, fun τ d hr lt => ?_⟩
      · obtain ⟨υ, c1, c2, c3, -⟩ := (t_takeNumber (d := d) hr (a := 0) (by decide) hiP).1 D hD
        obtain ⟨υ2, w1, w2⟩ := (t_takeNumber (d := d) c2 (a := 0) (by decide) hiP).2 e hT
        have hL' : L = 5 ∨ L = 38 := hL
        have e7 : mI υ L 7 = nI (nP l) := by rw [c3.1.at (by unfold at1; omega)]; exact lz.1.1
        refine ⟨0, υ2, ?_, rfl, (c3.tf w2).mono (fun _ => at1_lz)⟩
        rw [st L σ d hL hr lz.1.1, show ev (d + 1) 21 [.ref 1, .int 0, .int (nI (nP l) - 1)] σ = _ from c1, cI1_ok, if_neg (nI_m1 (by omega)), xg_ld c2.1 hL, e7, show ev (d + 1) 21 [.ref 1, .int 0, .int (nI (nP l) - 1)] υ = _ from w1, cI1_ok, bad, cI_ok, nar1_0]
      · obtain ⟨υ, c1, c2, c3⟩ := (u_number (d := d) hr (Nat.zero_le 1) hiP).1 D hD
        obtain ⟨υ1, b1, b2, b3, b4⟩ := u_blanks (d := d + 1) c2
        obtain ⟨υ2, w1, w2⟩ := (u_number (d := d) b2 (Nat.zero_le 1) hiP).2 e hT
        have s2 := w2.1.sh b2.1
        have e56 : mI υ1 56 0 = nI (nP l) := by rw [b3.at (by decide) (fun q => q), c3.at (by decide) (fun q => q)]; exact lt.1.1
        have mf : MF nS0 f456 τ υ2 e (nxt t m s) := ⟨((c3.trans b3).mono (fun _ q => q) (fun _ q => Or.inl q)).trans w2.1, w2.2⟩
        refine ⟨_, .int (nI D), .int (nI (nxt t m s)), .int 0, ?_, mfW τ υ2 e (nxt t m s) (nI D) 0 mf⟩
        rw [show cnt l 2 = nI (nS l) from rfl, mt τ d hr.1 lt.1.1, c1, cI_ok, b1, cV_ok, xg_53 b2.1, b4, xr_53_11 b2.1, show aI υ1 56 0 = aI υ1 56 (nI 0) from rfl, xa_56 b2.1 (by decide), e56, show ev (d + 2) 176 [.ref 53, .int 0, .int (nI (nP l) - 1)] υ1 = _ from w1, cI_ok, xg_53 s2, if_neg (w2.bad e1 e3), m258 υ2 d _ _ _ s2]
    | inr T =>
      have bT := pN_i hT
      -- both sides behind the two numbers
      have cgo : ∀ (L : Nat) (σ : mm_M) (d : Nat), isLd L → RS σ t m s → LzC σ L l → ∃ υ, ev (d + 3) 50 [.ref L, .ref 1, .int (nI 2)] σ = (cI (rn (d + 2) 53 32 [.ref L, .ref 1, .int (nI D), uv] [.int (nI T)] υ) fun r2 σ1 => some (Sum.inl (Value.int (nar 1 r2)), σ1)) ∧ RS υ t m (nxt t m (nxt t m s)) ∧ TG at1 σ υ ∧ mI υ 1 7 = nI (nxt t m s) := by
        intro L σ d hL hr lz
        obtain ⟨υ, c1, c2, c3, -⟩ := (t_takeNumber (d := d) hr (a := 0) (by decide) hiP).1 D hD
        obtain ⟨υ2, w1, w2, w3, w4⟩ := (t_takeNumber (d := d) c2 (a := 0) (by decide) hiP).1 T hT
        have hL' : L = 5 ∨ L = 38 := hL
        have e7 : mI υ L 7 = nI (nP l) := by rw [c3.1.at (by unfold at1; omega)]; exact lz.1.1
        refine ⟨υ2, ?_, w2, c3.trans w3, w4⟩
        rw [st L σ d hL hr lz.1.1, show ev (d + 1) 21 [.ref 1, .int 0, .int (nI (nP l) - 1)] σ = _ from c1, cI1_ok, if_neg (nI_m1 (by omega)), xg_ld c2.1 hL, e7, show ev (d + 1) 21 [.ref 1, .int 0, .int (nI (nP l) - 1)] υ = _ from w1, cI1_ok]
      have mgo : ∀ (τ : mm_M) (d : Nat), RM τ t m s → LzT τ (nP l) (nJ l) (nS l) l → ∃ υ, rn (d + 3) 190 95 [.ref 53, .int (nI 2), uv, uv, uv, uv] [.int (nI (nS l))] τ = (if nI D = nI T then rn (d + 3) 190 251 [.ref 53, .int (nI 2), .int (nI (nS l)), .int (nI D), .int (nI (nxt t m s)), .int (nI T)] [] υ else cI (ev (d + 2) 189 [.ref 53, .int (nI D), .int (nI T)] υ) fun r13 σ12 => if r13 = 0 then rn (d + 3) 190 258 [.ref 53, .int (nI 2), .int (nI (nS l)), .int (nI D), .int (nI (nxt t m s)), .int (nI T)] [] σ12 else rn (d + 3) 190 251 [.ref 53, .int (nI 2), .int (nI (nS l)), .int (nI D), .int (nI (nxt t m s)), .int (nI T)] [] σ12) ∧ RM υ t m (nxt t m (nxt t m s)) ∧ AgM nS0 f4 τ υ := by
        intro τ d hr lt
        obtain ⟨υ, c1, c2, c3⟩ := (u_number (d := d) hr (Nat.zero_le 1) hiP).1 D hD
        obtain ⟨υ1, b1, b2, b3, b4⟩ := u_blanks (d := d + 1) c2
        obtain ⟨υ2, w1, w2, w3⟩ := (u_number (d := d) b2 (Nat.zero_le 1) hiP).1 T hT
        have e56 : mI υ1 56 0 = nI (nP l) := by rw [b3.at (by decide) (fun q => q), c3.at (by decide) (fun q => q)]; exact lt.1.1
        refine ⟨υ2, ?_, w2, (c3.trans b3).trans w3⟩
        rw [mt τ d hr.1 lt.1.1, c1, cI_ok, b1, cV_ok, xg_53 b2.1, b4, xr_53_11 b2.1, show aI υ1 56 0 = aI υ1 56 (nI 0) from rfl, xa_56 b2.1 (by decide), e56, show ev (d + 2) 176 [.ref 53, .int 0, .int (nI (nP l) - 1)] υ1 = _ from w1, cI_ok, xg_53 w2.1, w2.2.2.2.2.1, if_pos (show (0 : Int32) = 0 from rfl)]
      have eDT : nI D = nI T ↔ D = T := nI_eq (by omega) (by omega)
      by_cases dup : D = T ∨ isSt l D T
      · refine ⟨.inl (2, nxt t m s), ⟨by decide, by decide⟩, fun L σ d hL hr lz => ?_, fun τ d hr lt => ?_⟩
        · obtain ⟨υ, c1, c2, c3, c4⟩ := cgo L σ d hL hr lz
          obtain ⟨υ2, w1, w2⟩ := t_fail (d := d + 1) c2 2 (nxt t m s)
          have hL' : L = 5 ∨ L = 38 := hL
          have e9 : mI υ L 9 = nI (nS l) := by rw [c3.1.at (by unfold at1; omega)]; exact lz.1.2.2.1
          have eN : mI υ (L + 3) D = near l (nI D) := by rw [c3.1.at (by unfold at1; omega)]; exact lz.2.2.1 D (by omega)
          have e67 : rn (d + 2) 53 67 [.ref L, .ref 1, .int (nI D), .int (nI T)] [] υ = some (.inl (.int 0), υ2) := by
            rw [e_Land_readStreet_67, xg_1 c2.1, c4, show ev (d + 1) 23 [.ref 1, .int 2, .int (nI (nxt t m s))] υ = _ from w1, cI1_ok, nar1_0]
          refine ⟨0, υ2, ?_, rfl, (c3.tf w2).mono (fun _ => at1_lz)⟩
          have e32 : rn (d + 2) 53 32 [.ref L, .ref 1, .int (nI D), uv] [.int (nI T)] υ = some (.inl (.int 0), υ2) := by
            rw [e_Land_readStreet_32, if_neg (nI_m1 (by omega)), xg_ld c2.1 hL, e9, if_pos (show nI (nS l) < (12 : Int32) from nI_lt (b := 12) hf (by decide))]
            by_cases z : D = T
            · rw [if_pos (eDT.mpr z), e67]
            · have b1 : bt (near l (nI D)) T = 1 := (near_bit ok (by omega) (by omega)).mpr (dup.resolve_left z)
              rw [if_neg (fun y => z (eDT.mp y)), xr_ld2 c2.1 hL, xa_ld3 c2.1 hL (by omega), eN, show ((near l (nI D) >>> (nI T &&& 31)) &&& (1 : Int32)) = 1 from b1, if_neg (show ¬ (1 : Int32) = 0 by decide), e67]
          rw [c1, e32, cI_ok, nar1_0]
        · obtain ⟨υ, c1, c2, c3⟩ := mgo τ d hr lt
          obtain ⟨υ2, w1, w2⟩ := u_wrong (d := d + 2) c2 2 (nxt t m s)
          have s2 := w2.1.sh c2.1
          have lt2 : LzT υ (nP l) (nJ l) (nS l) l := LzT_o ok lt (fun x hx => c3.at (fun z => by rw [z] at hx; unfold lzM at hx; omega) (fun q => q))
          have mf : MF nS0 f456 τ υ2 2 (nxt t m s) := ⟨(c3.mono (fun _ q => q) (fun _ q => Or.inl q)).trans w2.1, w2.2⟩
          have e251 : rn (d + 3) 190 251 [.ref 53, .int (nI 2), .int (nI (nS l)), .int (nI D), .int (nI (nxt t m s)), .int (nI T)] [] υ = rn (d + 3) 190 316 [.ref 53, .int (nI 2), .int (nI (nS l)), .int (nI D), .int (nI (nxt t m s)), .int (nI T)] [] (wI (wI υ2 (89 + nS l) 0 (nI D)) (89 + nS l) 1 (nI T)) := by
            rw [e_M_clause_251, show ev (d + 2) 173 [.ref 53, .int 2, .int (nI (nxt t m s))] υ = _ from w1, cV_ok, m258 υ2 d _ _ _ s2]
          refine ⟨_, .int (nI D), .int (nI (nxt t m s)), .int (nI T), ?_, mfW τ υ2 2 (nxt t m s) (nI D) (nI T) mf⟩
          rw [show cnt l 2 = nI (nS l) from rfl, c1]
          by_cases z : D = T
          · rw [if_pos (eDT.mpr z), e251]
          · rw [if_neg (fun y => z (eDT.mp y)), (m_isRS c2.1 lt2 rfl ok).1 (dup.resolve_left z), cI_ok, if_neg (show ¬ (1 : Int32) = 0 by decide), e251]
      · have ne : D ≠ T := fun z => dup (Or.inl z)
        have ns : ¬ isSt l D T := fun z => dup (Or.inr z)
        have b0 : bt (near l (nI D)) T = 0 := by
          rcases bt01 (near l (nI D)) T with z | z
          · exact z
          · exact absurd ((near_bit ok (by omega) (by omega)).mp z) ns
        refine ⟨.inr (nxt t m (nxt t m s), addS l D T), ⟨by omega, nx2.2.1, addS_ok ok hf bD.2.1 bT.2.1 ne, rfl, rfl, rfl⟩, fun L σ d hL hr lz => ?_, fun τ d hr lt => ?_⟩
        · obtain ⟨υ, c1, c2, c3, c4⟩ := cgo L σ d hL hr lz
          have hL' : L = 5 ∨ L = 38 := hL
          have eL : ∀ k, k ≤ 7 → mI υ (L + k) = mI σ (L + k) := fun k hk => c3.1.at (by unfold at1; omega)
          have eL0 : mI υ L = mI σ L := eL 0 (by omega)
          have e9 : mI υ L 9 = nI (nS l) := by rw [eL0]; exact lz.1.2.2.1
          have eN : ∀ p, p < 7 → mI υ (L + 3) p = near l (nI p) := fun p hp => by rw [eL 3 (by omega)]; exact lz.2.2.1 p hp
          have s1 : Sh (wI υ (L + 3) D (near l (nI D) ||| bI (nI T))) := c2.1
          have r1 : mI (wI υ (L + 3) D (near l (nI D) ||| bI (nI T))) (L + 3) T = near l (nI T) := by rw [rI_w, if_neg (fun y => ne y.2.symm), eN T (by omega)]
          have s2 : Sh (wI (wI υ (L + 3) D (near l (nI D) ||| bI (nI T))) (L + 3) T (near l (nI T) ||| bI (nI D))) := c2.1
          have s3 : Sh (wI (wI (wI υ (L + 3) D (near l (nI D) ||| bI (nI T))) (L + 3) T (near l (nI T) ||| bI (nI D))) (L + 6) (nS l) (nI D)) := c2.1
          have s4 : Sh (wI (wI (wI (wI υ (L + 3) D (near l (nI D) ||| bI (nI T))) (L + 3) T (near l (nI T) ||| bI (nI D))) (L + 6) (nS l) (nI D)) (L + 7) (nS l) (nI T)) := c2.1
          have ag : Ag (fun a => L ≤ a ∧ a ≤ L + 7) υ (wI (wI (wI (wI (wI υ (L + 3) D (near l (nI D) ||| bI (nI T))) (L + 3) T (near l (nI T) ||| bI (nI D))) (L + 6) (nS l) (nI D)) (L + 7) (nS l) (nI T)) L 9 (nI (nS l + 1))) := Ag.wI (S := fun a => L ≤ a ∧ a ≤ L + 7) (Ag.wI (S := fun a => L ≤ a ∧ a ≤ L + 7) (Ag.wI (S := fun a => L ≤ a ∧ a ≤ L + 7) (Ag.wI (S := fun a => L ≤ a ∧ a ≤ L + 7) (Ag.wI (S := fun a => L ≤ a ∧ a ≤ L + 7) (Ag.refl _ υ) ⟨by omega, by omega⟩ _ _) ⟨by omega, by omega⟩ _ _) ⟨by omega, by omega⟩ _ _) ⟨by omega, by omega⟩ _ _) ⟨by omega, by omega⟩ _ _
          have e32 : rn (d + 2) 53 32 [.ref L, .ref 1, .int (nI D), uv] [.int (nI T)] υ = some (.inl (.int 1), wI (wI (wI (wI (wI υ (L + 3) D (near l (nI D) ||| bI (nI T))) (L + 3) T (near l (nI T) ||| bI (nI D))) (L + 6) (nS l) (nI D)) (L + 7) (nS l) (nI T)) L 9 (nI (nS l + 1))) := by
            rw [e_Land_readStreet_32, if_neg (nI_m1 (by omega)), xg_ld c2.1 hL, e9, if_pos (show nI (nS l) < (12 : Int32) from nI_lt (b := 12) hf (by decide)), if_neg (fun y => ne (eDT.mp y)), xr_ld2 c2.1 hL, xa_ld3 c2.1 hL (by omega), eN D (by omega), show ((near l (nI D) >>> (nI T &&& 31)) &&& (1 : Int32)) = 0 from b0, if_pos (show (0 : Int32) = 0 from rfl), xr_ld2 c2.1 hL, xa_ld3 c2.1 hL (by omega), eN D (by omega), xt_ld3 c2.1 hL (by omega)]
            rw [show (near l (nI D) ||| ((1 : Int32) <<< (nI T &&& 31))) = near l (nI D) ||| bI (nI T) from rfl, xr_ld2 s1 hL, xa_ld3 s1 hL (by omega), r1, xt_ld3 s1 hL (by omega)]
            rw [show (near l (nI T) ||| ((1 : Int32) <<< (nI D &&& 31))) = near l (nI T) ||| bI (nI D) from rfl, xr_ld5 s2 hL, xg_ld s2 hL, rI_o (show L ≠ L + 3 by omega), rI_o (show L ≠ L + 3 by omega), e9, xt_ld6 s2 hL hf, xr_ld6 s3 hL, xg_ld s3 hL, rI_o (show L ≠ L + 6 by omega), rI_o (show L ≠ L + 3 by omega), rI_o (show L ≠ L + 3 by omega), e9, xt_ld7 s3 hL hf, xg_ld s4 hL, rI_o (show L ≠ L + 7 by omega), rI_o (show L ≠ L + 6 by omega), rI_o (show L ≠ L + 3 by omega), rI_o (show L ≠ L + 3 by omega), e9, nI_1, xs_ld s4 hL, nar1_1]
          refine ⟨1, _, by rw [c1, e32, cI_ok, nar1_1], rfl, lz_rs hL c2 ag, LzC_S lz (fun i => ?_) (fun i => ?_) (fun i => ?_) (fun p hp => ?_) (fun k h1 h2 h3 => ?_), lz_tg hL c3 ag⟩
          · rw [rI_w]
            by_cases z : i = 9
            · rw [if_pos ⟨rfl, z⟩, if_pos z]
            · rw [if_neg (fun y => z y.2), if_neg z, rI_o (by omega), rI_o (by omega), rI_o (by omega), rI_o (by omega), eL0]
          · rw [rI_o (by omega), rI_o (by omega), rI_w]
            by_cases z : i = nS l
            · rw [if_pos ⟨rfl, z⟩, if_pos z]
            · rw [if_neg (fun y => z y.2), if_neg z, rI_o (by omega), rI_o (by omega), eL 6 (by omega)]
          · rw [rI_o (by omega), rI_w]
            by_cases z : i = nS l
            · rw [if_pos ⟨rfl, z⟩, if_pos z]
            · rw [if_neg (fun y => z y.2), if_neg z, rI_o (by omega), rI_o (by omega), rI_o (by omega), eL 7 (by omega)]
          · have eDp : nI D = nI p ↔ D = p := nI_eq (by omega) (by omega)
            have eTp : nI T = nI p ↔ T = p := nI_eq (by omega) (by omega)
            rw [rI_o (by omega), rI_o (by omega), rI_o (by omega), rI_w]
            by_cases z : p = T
            · rw [if_pos ⟨rfl, z⟩, if_neg (fun y => ne ((eDp.mp y).trans z)), if_pos (eTp.mpr z.symm), z]
            · rw [if_neg (fun y => z y.2), rI_w]
              by_cases z2 : p = D
              · rw [if_pos ⟨rfl, z2⟩, if_pos (eDp.mpr z2.symm), z2]
              · rw [if_neg (fun y => z2 y.2), if_neg (fun y => z2 (eDp.mp y).symm), if_neg (fun y => z (eTp.mp y).symm), i_or0, eN p hp]
          · rw [rI_o (by omega), rI_o (by omega), rI_o (by omega), rI_o (by omega), rI_o (by omega), eL k (by omega)]
        · obtain ⟨υ, c1, c2, c3⟩ := mgo τ d hr lt
          have lt2 : LzT υ (nP l) (nJ l) (nS l) l := LzT_o ok lt (fun x hx => c3.at (fun z => by rw [z] at hx; unfold lzM at hx; omega) (fun q => q))
          have ag0 : AgM lzM nS0 υ (wI (wI υ (89 + nS l) 0 (nI D)) (89 + nS l) 1 (nI T)) := AgM.of (S := fun a => a = 89 + nS l) (Ag.wI (S := fun a => a = 89 + nS l) (Ag.wI (S := fun a => a = 89 + nS l) (Ag.refl _ υ) rfl _ _) rfl _ _) (fun a q => by unfold lzM; omega) (by omega)
          refine ⟨wI (wI υ (89 + nS l) 0 (nI D)) (89 + nS l) 1 (nI T), .int (nI D), .int (nI (nxt t m s)), .int (nI T), ?_, c2.agm ag0 (by unfold lzM; omega) (fun q => q) (fun q => q) (fun q => q), LzT_S ok hf lt2 (by rw [rI_w, if_neg (by omega), rI_w, if_pos ⟨rfl, rfl⟩]) (by rw [rI_w, if_pos ⟨rfl, rfl⟩]) (fun x hx hne => by rw [rI_o hne, rI_o hne]), (c3.mono (fun _ q => q.elim) (fun _ q => q)).trans (ag0.mono (fun _ q => q) (fun _ q => q.elim))⟩
          rw [show cnt l 2 = nI (nS l) from rfl, c1, if_neg (fun y => ne (eDT.mp y)), (m_isRS c2.1 lt2 rfl ok).2 ns, cI_ok, if_pos (show (0 : Int32) = 0 from rfl), m258 υ d _ _ _ c2.1]
end LandN
