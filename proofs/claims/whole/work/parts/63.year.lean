/-! a year by a seed -/
theorem sh16 (x : Int32) : (((Int32.toUInt32 x >>> (Int32.toUInt32 16 &&& Int32.toUInt32 31)).toInt32) &&& (32767 : Int32)) = ((x >>> ((16 : Int32) &&& 31)) &&& (32767 : Int32)) := by
  rw [pk_and _ 15 (by decide +kernel), pk_and _ 15 (by decide +kernel), pk_ushr x 16 16 (by decide +kernel)]
  have e : (x >>> ((16 : Int32) &&& 31)).toInt = x.toInt >>> 16 := pk_shr x _ 16 (by decide +kernel)
  generalize x >>> ((16 : Int32) &&& 31) = y at e ⊢
  have hx : x.toInt = if 2 * x.toBitVec.toNat < 2 ^ 32 then (x.toBitVec.toNat : Int) else (x.toBitVec.toNat : Int) - (2 ^ 32 : Nat) := BitVec.toInt_eq_toNat_cond x.toBitVec
  have hy : y.toInt = if 2 * y.toBitVec.toNat < 2 ^ 32 then (y.toBitVec.toNat : Int) else (y.toBitVec.toNat : Int) - (2 ^ 32 : Nat) := BitVec.toInt_eq_toNat_cond y.toBitVec
  rw [Int.shiftRight_eq_div_pow] at e
  have l1 := x.toBitVec.isLt
  have l2 := y.toBitVec.isLt
  refine congrArg nI ?_
  generalize x.toBitVec.toNat = X at *
  generalize y.toBitVec.toNat = Y at *
  generalize x.toInt = a at *
  generalize y.toInt = c at *
  have e2 : ((2 ^ 16 : Nat) : Int) = 65536 := by decide
  have e3 : ((2 ^ 32 : Nat) : Int) = 4294967296 := by decide
  rw [e2] at e
  rw [e3] at hx hy
  split at hx <;> split at hy <;> omega
def dw (s : Int32) : Int32 := s * 1103515245 + 12345
def dwv (s : Int32) (m : Nat) : Nat := ((dw s >>> ((16 : Int32) &&& 31)).toBitVec.toNat % 2 ^ 15) % m
theorem dwv_lt (s : Int32) {m : Nat} (h : 0 < m) : dwv s m < m := Nat.mod_lt _ h
def sL (n : Nat) (r : Nat → Int32) : Int32 := fo n (fun p s => s + r (28 + p)) 0
theorem sL_as {n : Nat} {r s : Nat → Int32} (h : ∀ p, p < n → r (28 + p) = s (28 + p)) : sL n r = sL n s := fo_as n (fun i hi x => by rw [h i hi])
theorem sL_one {r s : Nat → Int32} {p : Nat} {x : Int32} (h1 : s (28 + p) = r (28 + p) + x) : ∀ n, p < n → (∀ q, q < n → q ≠ p → s (28 + q) = r (28 + q)) → sL n s = sL n r + x
  | 0, hp, _ => absurd hp (Nat.not_lt_zero p)
  | n + 1, hp, ho => by
    show sL n s + s (28 + n) = (sL n r + r (28 + n)) + x
    by_cases e : p = n
    · subst e
      rw [h1, sL_as (fun q hq => ho q (by omega) (by omega)), Int32.add_assoc]
    · rw [sL_one h1 n (by omega) (fun q hq hn => ho q (by omega) hn), ho n (by omega) (fun q => e q.symm), Int32.add_assoc, Int32.add_assoc, Int32.add_comm x]
theorem rDay1_L (dk : Int32) {p : Nat} (hp : p < 7) (r : Nat → Int32) {q : Nat} (hq : q < 7) : rDay1 dk p r (28 + q) = r (28 + q) := by
  unfold rDay1
  simp (disch := omega) only [up_n]
theorem rDayN_L (dk : Int32) (r : Nat → Int32) {q : Nat} (hq : q < 7) : ∀ n, n ≤ 7 → fo n (rDay1 dk) r (28 + q) = r (28 + q)
  | 0, _ => rfl
  | n + 1, h => by rw [fo_s, rDay1_L dk (by omega) _ hq, rDayN_L dk r hq n (by omega)]
theorem rDay_L (dk : Int32) (r : Nat → Int32) {n : Nat} (hn : n ≤ 7) : sL n (rDay n dk r) = sL n r := sL_as (fun q hq => by
  unfold rDay
  rw [up_n (by omega), rDayN_L dk r (by omega) n hn])
theorem mxx_0 {k : Nat} (h : k < 1000) : mxx 0 (nI k) = nI k := by
  unfold mxx
  by_cases q : k = 0
  · subst q; rfl
  · rw [if_pos (show (0 : Int32) < nI k from nI_lt (a := 0) (by omega) (by omega))]
theorem rTell_L {l : Ln} {many : Nat} {cs r : Nat → Int32} {j p : Nat} (h7 : nP l ≤ 7) (hp : p < nP l) : sL (nP l) (rTell l many cs r j p) = sL (nP l) r + mxx 0 (if r (14 + p) = 1 then -1 else lgh l many cs r j p) := by
  unfold rTell
  by_cases q : r (14 + p) = 1
  · rw [if_pos q, if_pos q, show mxx 0 (-1) = 0 by decide, Int32.add_zero]
  · rw [if_neg q, if_neg q]
    obtain ⟨k, hk, e⟩ := lgv_in many cs (gvs l r j p (lT l p) (r p) 0)
    have e' : lgh l many cs r j p = nI k := e
    rw [e', mxx_0 (by omega)]
    refine sL_one (p := p) ?_ (nP l) hp (fun x hx hn => ?_)
    · unfold rHear
      simp (disch := omega) only [up_n, up_e]
    · unfold rHear
      simp (disch := omega) only [up_n]
section YearV
variable {σ τ σ' τ' υ φ : mm_M} {t : Nat → Nat} {n : Nat} {l : Ln} {many : Nat} {cs : Nat → Int32} {w K : Nat} {b : List (Nat × Nat)} {d : Nat}
theorem c_draw (h : Sh σ) {m : Nat} (h0 : 0 < m) (hm : m < 100) : ev d 113 [.ref 37, .int (nI m)] σ = some (.inl (.int (nI (dwv (mI σ 37 0) m))), wI σ 37 0 (dw (mI σ 37 0))) := by
  have h1 : Sh (wI σ 37 0 ((mI σ 37 0 * (1103515245 : Int32)) + (12345 : Int32))) := h
  rw [e_Years_draw d 37 (nI m) σ (by rw [k_37 h]), xg_37 h, xs_37 h, if_neg (nI_nle h0 (by omega)), xg_37 h1, if_neg (nI_ne0 h0 (by omega)), rI_w, if_pos ⟨rfl, rfl⟩, sh16, pk_and _ 15 (by decide +kernel), pk_rem (by omega) h0 (by omega), e_Years_draw_36]
  rfl
theorem m_draw (h : Sh σ) {m : Nat} (h0 : 0 < m) (hm : m < 100) : ev d 265 [.ref 53, .int (nI m)] σ = some (.inl (.int (nI (dwv (mI σ 53 45) m))), wI σ 53 45 (dw (mI σ 53 45))) := by
  have h1 : Sh (wI σ 53 45 ((mI σ 53 45 * (1103515245 : Int32)) + (12345 : Int32))) := h
  rw [e_M_draw d 53 (nI m) σ (by rw [k_53 h]), xg_53 h, xs_53 h, xg_53 h1, if_neg (nI_ne0 h0 (by omega)), rI_w, if_pos ⟨rfl, rfl⟩, pk_and _ 15 (by decide +kernel), pk_rem (by omega) h0 (by omega)]
  rfl
theorem qc37 : qc 37 := by unfold qc fpI fxC; omega
theorem qF45 : qF 45 := by unfold qF fF; omega
/-- both trial rows, the seeds, and who laughed -/
def B4 (σ τ : mm_M) (t : Nat → Nat) (n : Nat) (l : Ln) (many : Nat) (cs : Nat → Int32) (w K : Nat) (b : List (Nat × Nat)) : Prop := B3 σ τ t n l many cs w K b ∧ mI σ 37 0 = mI τ 53 45 ∧ mI σ 37 1 = sL (nP l) (mI τ 534) - sL (nP l) (mI τ 533)
theorem B3.go (h : B3 σ τ t n l many cs w K b) (a : Ag qc σ σ') (c : AgM qm qF τ τ') (e : mI τ' 53 0 = 0) (r : RP (nP l) (mI σ' 24) (mI τ' 534)) : B3 σ' τ' t n l many cs w K b := ⟨h.1.go a c e, r⟩
theorem b4_draw {dc dm : Nat} (h : B4 σ τ t n l many cs w K b) {m : Nat} (h0 : 0 < m) (hm : m < 100) : ∃ j σ' τ', j < m ∧ ev dc 113 [.ref 37, .int (nI m)] σ = some (.inl (.int (nI j)), σ') ∧ ev dm 265 [.ref 53, .int (nI m)] τ = some (.inl (.int (nI j)), τ') ∧ Ag qc σ σ' ∧ AgM qm qF τ τ' ∧ B4 σ' τ' t n l many cs w K b := by
  have a := (Ag.refl qc σ).wI qc37 0 (dw (mI σ 37 0))
  have c := (AgM.refl qm qF τ).w53 qF45 (dw (mI τ 53 45))
  refine ⟨_, _, _, dwv_lt (mI σ 37 0) h0, c_draw h.1.1.1.1.sh h0 hm, by rw [m_draw h.1.1.2.1.1.sh h0 hm, h.2.1], a, c, h.1.go a c (by rw [rI_w, if_neg (by omega)]; exact h.1.1.2.2.2) (by rw [rI_o (by decide), rI_o (by decide)]; exact h.1.2), ?_, ?_⟩
  · rw [rI_w, if_pos ⟨rfl, rfl⟩, rI_w, if_pos ⟨rfl, rfl⟩, h.2.1]
  · rw [rI_w, if_neg (by omega), rI_o (by decide), rI_o (by decide)]; exact h.2.2
theorem qc_tell : ∀ x, (scC x ∨ x = 24) → qc x := by
  intro x hx
  rcases hx with hx | rfl
  · exact sc_qc x hx
  · exact qc24
theorem qm_tell : ∀ x, (scM x ∨ x = 534) → qm x := by
  intro x hx
  rcases hx with hx | rfl
  · exact sc_qm x hx
  · exact qm534
/-- a joke told; the class adds the laugh up -/
theorem b4_tell {dc dm : Nat} (h : B4 σ τ t n l many cs w K b) {j p : Nat} (hj : j < nJ l) (hp : p < nP l) : ∃ v u σ' τ', ev (dc + 3) 74 [.ref 3, .ref 23, .int (nI j), .int (nI p)] σ = some (.inl (.int v), σ') ∧ ev (dm + 6) 216 [.ref 53, .ref 534, .int (nI j), .int (nI p)] τ = some (.inl (.int u), τ') ∧
    Ag qc σ (wI σ' 37 1 (mI σ 37 1 + mxx 0 v)) ∧ AgM qm qF τ τ' ∧ Sh σ' ∧ B4 (wI σ' 37 1 (mI σ 37 1 + mxx 0 v)) τ' t n l many cs w K b := by
  have hw := h.1.1.1.1
  have hg := h.1.1.2.1.1
  have h7 := hw.ok.1.1
  obtain ⟨υ, c1, c2, c3⟩ := c_tell (d := dc) hw.cx hw.ok da23 (r := mI τ 534) h.1.2.1 h.1.2.2 hj hp
  obtain ⟨φ, m1, m2, m3⟩ := m_tells (d := dm) hg.mx hg.ok rw534 hj hp
  have a : Ag qc σ υ := c2.mono qc_tell
  have a' := a.wI qc37 1 (mI σ 37 1 + mxx 0 (if mI τ 534 (14 + p) = 1 then -1 else lgh l many cs (mI τ 534) j p))
  have c : AgM qm qF τ φ := AgM.of m2 qm_tell (by unfold scM; omega)
  have e37 : mI υ 37 = mI σ 37 := c2.at (by unfold scC; omega)
  have e53 : mI φ 53 = mI τ 53 := m2.at (by unfold scM; omega)
  have e533 : mI φ 533 = mI τ 533 := m2.at (by unfold scM; omega)
  refine ⟨_, _, υ, φ, c1, m1, a', c, a.sh hw.sh, h.1.go a' c (by rw [e53]; exact h.1.1.2.2.2) ?_, ?_, ?_⟩
  · rw [rI_o (by decide), m3]
    exact ⟨c3, rTell_ROK hw.ok h.1.2.2 hj hp⟩
  · rw [rI_w, if_neg (by omega), e37, e53]; exact h.2.1
  · rw [rI_w, if_pos ⟨rfl, rfl⟩, m3, e533, rTell_L h7 hp, h.2.2]
    rw [Int32.sub_eq_add_neg, Int32.sub_eq_add_neg, Int32.add_assoc, Int32.add_assoc, Int32.add_comm (-_)]
theorem b4_grieve {dc dm : Nat} (h : B4 σ τ t n l many cs w K b) {p : Nat} (hp : p < nP l) : ∃ v u σ' τ', ev dc 42 [.ref 23, .int (nI p), .int 3] σ = some (.inl (.int v), σ') ∧ ev dm 217 [.ref 534, .int (nI p), .int 3] τ = some (.inl (.int u), τ') ∧ Ag qc σ σ' ∧ AgM qm qF τ τ' ∧ B4 σ' τ' t n l many cs w K b := by
  have hw := h.1.1.1.1
  have hg := h.1.1.2.1.1
  have h7 := hw.ok.1.1
  have e := (h.1.2.1.1.2.2.1 p (by omega)).1
  rw [c_grieve hw.sh da23 (by omega), m_grieves (k_534 hg.sh) (by omega), show mI σ (23 + 1) (3 + p) = mI τ 534 p from e]
  by_cases q : mI τ 534 p < 3
  · rw [if_pos q, if_pos q]
    have a := (Ag.refl qc σ).wA qc24 (up (mI σ 24) (3 + p) 3)
    have c := (AgM.refl qm qF τ).wA qm534 (by decide) (up (mI τ 534) p 3)
    refine ⟨_, _, _, _, rfl, rfl, a, c, h.1.go a c (by rw [rA_o (by decide)]; exact h.1.1.2.2.2) ?_, ?_, ?_⟩
    · rw [rA_a, rA_a]
      exact ⟨CRc_up3 h.1.2.1 h7 (by omega) 3, ROK_grief h.1.2.2 hp h7 3⟩
    · rw [rA_o (by decide), rA_o (by decide)]; exact h.2.1
    · rw [rA_o (by decide), rA_a, rA_o (by decide), h.2.2]
      rw [sL_as (n := nP l) (r := up (mI τ 534) p 3) (s := mI τ 534) (fun x hx => up_n (by omega))]
  · rw [if_neg q, if_neg q]
    exact ⟨_, _, _, _, rfl, rfl, Ag.refl _ _, AgM.refl _ _ _, h⟩
theorem b4_day {dc dm : Nat} (h : B4 σ τ t n l many cs w K b) : ∃ σ' τ', ev (dc + 1) 45 [.ref 23, .ref (ldA σ)] σ = some (.inl uv, σ') ∧ ev (dm + 1) 218 [.ref 53, .ref 534] τ = some (.inl uv, τ') ∧ Ag qc σ σ' ∧ AgM qm qF τ τ' ∧ B4 σ' τ' t n l many cs w K b := by
  have hw := h.1.1.1.1
  have hg := h.1.1.2.1.1
  have h7 := hw.ok.1.1
  have a := (Ag.refl qc σ).wA qc24 (dayC (nP l) (mI σ (ldA σ) 11) (mI σ (23 + 1)))
  have c := (AgM.refl qm qF τ).wA qm534 (by decide) (rDay (nP l) (mI τ 57 4) (mI τ 534))
  refine ⟨_, _, c_passDay hw.sh da23 hw.sh.ld h7 hw.cx.2.1.1.1, m_dayEnds hg.sh rw534 h7 hg.mx.2.1.1.1, a, c, h.1.go a c (by rw [rA_o (by decide)]; exact h.1.1.2.2.2) ?_, ?_, ?_⟩
  · rw [rA_a, rA_a, hw.cx.2.1.1.2.2.2.2, hg.mx.2.1.1.2.2.2.2]
    exact ⟨day_ok h.1.2.1.1 h7, rDay_ROK h.1.2.2 h7 hw.ok.1.2.2.2.2.2.2.2⟩
  · rw [rA_o (by decide), rA_o (by decide)]; exact h.2.1
  · rw [rA_o (by decide), rA_a, rA_o (by decide), rDay_L _ _ h7]; exact h.2.2
end YearV
