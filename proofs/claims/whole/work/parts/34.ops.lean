/-! one call of the class beside one of the reference -/
def Inv (σ : mm_M) : Prop := ∃ t n l many cs w K b, Iv σ t n l many cs w K b
/-- what a call may cost -/
def Cst (σ τ : mm_M) : Prop := mK τ = mK σ ∧ mN τ = mN σ ∧ mX τ ≤ mX σ + 1 ∧ mS τ ≤ mS σ + 6 ∧ ∀ a, 1000000 ≤ a → mI τ a = mI σ a
def qc (a : Nat) : Prop := ¬ fpI a ∧ a ≠ 0 ∧ a < 53
def qm (a : Nat) : Prop := ¬ fpI a ∧ a ≠ 55 ∧ 53 < a ∧ a < 560
def qF (i : Nat) : Prop := ¬ fF i ∧ i ≠ 35
def CQu (σ : mm_M) (R : Option mm_R) (v : Int32) : Prop := ∃ υ, R = some (.inl (.int v), υ) ∧ Ag qc σ υ
def MQu (σ : mm_M) (R : Option mm_R) (v : Int32) : Prop := ∃ φ, R = some (.inl (.int v), φ) ∧ AgM qm qF σ φ ∧ mI φ 53 0 = 0
def exC (σ : mm_M) (e : Nat) : mm_M := mT (wI σ 0 (13 + e) (mI σ 0 (13 + e) + 1))
def exM (τ : mm_M) (c : Int32) (e : Nat) : mm_M := wI (wI (wI τ 53 0 0) 53 0 c) 55 (e - 1) (mI τ 55 (e - 1) + 1)
/-- the same, as far as it counts -/
def Same (σ τ : mm_M) : Prop := (∀ a, fpI a → mI τ a = mI σ a) ∧ mI τ 55 = mI σ 55 ∧ (∀ i, fF i ∨ i = 35 → mI τ 53 i = mI σ 53 i) ∧ mI τ 0 = mI σ 0
/-- a question: both answer the same, or both refuse -/
def OpQ (Dc mc : Nat) (asc : List Value) (Dm mr : Nat) (asm : List Value) (H : List (Nat × Int32)) : Prop := ∀ σ t n l many cs w K b, Iv σ t n l many cs w K b →
  (∃ v, CQu σ (ev Dc mc asc σ) v ∧ ∀ τ, Iv τ t n l many cs w K b → Same σ τ → MQu τ (ev Dm mr asm τ) v) ∨
  (∃ e c σ', (e = 1 ∨ e = 2) ∧ hget H e = some c ∧ c ≠ 0 ∧ Ag qc σ σ' ∧ ev Dc mc asc σ = some (.inr e, exC σ' e) ∧ ∀ τ, Iw τ t n l many cs w K b → ev Dm mr asm τ = some (.inl (.int 0), exM τ c e))
def OpW (Dw mw : Nat) (asw : List Value) (Dm mr : Nat) (asm : List Value) : Prop := ∀ σ, Inv σ → ∃ x υ v φ, ev Dw mw asw σ = some (.inl (.int x), υ) ∧ Cst σ υ ∧ ev Dm mr asm υ = some (.inl (.int v), φ) ∧ Cst σ φ ∧ Inv φ ∧ mI φ 53 0 = x ∧ (x = 0 → mL φ 560 0 = Int32.toInt64 v)
def OpN (Dc mc : Nat) (asc : List Value) (Dm mr : Nat) (asm : List Value) : Prop := ∀ σ, Inv σ → ∃ v υ φ, ev Dc mc asc σ = some (.inl (.int v), υ) ∧ Cst σ υ ∧ ev Dm mr asm υ = some (.inl (.int v), φ) ∧ Cst σ φ ∧ Inv φ
section OpsV
variable {σ τ υ φ : mm_M} {t : Nat → Nat} {n : Nat} {l : Ln} {many : Nat} {cs : Nat → Int32} {w K : Nat} {b : List (Nat × Nat)} {S F : Nat → Prop} {d : Nat}
theorem Cst.refl (σ : mm_M) : Cst σ σ := ⟨rfl, rfl, by omega, by omega, fun _ _ => rfl⟩
theorem Cst.ag (h : Cst σ τ) (a : AgM S F τ υ) (hS : ∀ x, S x → x < 1000000) : Cst σ υ :=
  ⟨a.1.trans h.1, a.2.2.2.1.trans h.2.1, by rw [a.2.2.2.2.1]; exact h.2.2.1, by rw [a.2.2.2.2.2.1]; exact h.2.2.2.1, fun x hx => (a.at (by omega) (fun q => by have := hS x q; omega)).trans (h.2.2.2.2 x hx)⟩
theorem qcM (a : Ag qc σ υ) : AgM qc nS0 σ υ := AgM.of a (fun _ q => q) (fun q => by have := q.2.2; omega)
theorem Iv.qc (h : Iv σ t n l many cs w K b) (a : Ag qc σ υ) : Iv υ t n l many cs w K b :=
  h.keep (qcM a) (fun x f q => q.1 f) (fun _ _ q => q) (fun q => q.2.1 rfl) (fun q => by have := q.2.2; omega) (fun q => q)
theorem Iv.qm (h : Iv σ t n l many cs w K b) (a : AgM qm qF σ υ) : Iv υ t n l many cs w K b :=
  h.keep a (fun x f q => q.1 f) (fun _ f q => q.1 f) (fun q => by have := q.2.2.1; omega) (fun q => q.2.1 rfl) (fun q => q.2 rfl)
theorem qcS (a : Ag qc σ υ) : Same σ υ := ⟨fun x f => a.at (fun q => q.1 f), a.at (fun q => by have := q.2.2; omega), fun i _ => by rw [a.at (fun q => by have := q.2.2; omega)], a.at (fun q => q.2.1 rfl)⟩
theorem tL560 (h : Sh σ) (v : Int64) (k : mm_M → Option mm_R) : tL σ 560 0 v k = k (wL σ 560 0 v) := by
  unfold tL
  rw [k_560 h, if_pos ⟨rfl, by decide, by decide⟩]
  rfl
theorem Iw.ex (h : Iw σ t n l many cs w K b) (e : Nat) : Iw (exC σ e) t n l many cs w K b := by
  have a : Ag (fun x => x = 0) σ (wI σ 0 (13 + e) (mI σ 0 (13 + e) + 1)) := Ag.wI (S := fun x => x = 0) (Ag.refl _ σ) rfl _ _
  have b : AgM (fun x => x = 0) nS0 σ (wI σ 0 (13 + e) (mI σ 0 (13 + e) + 1)) := AgM.of a (fun _ q => q) (by omega)
  exact (h.keep b (fun x f q => by unfold fpI fxC at f; omega) (fun _ _ q => q)).mT'
theorem cIh_ok (H : List (Nat × Int32)) (v : Int32) (τ : mm_M) (k : Int32 → mm_M → Option mm_R) : cIh H (some (.inl (.int v), τ)) k = k v τ := by simp only [cIh]
theorem cIh_ex {H : List (Nat × Int32)} {e : Nat} {c : Int32} (hc : hget H e = some c) (τ : mm_M) (k : Int32 → mm_M → Option mm_R) : cIh H (some (.inr e, τ)) k = some (.inl (.int c), τ) := by simp only [cIh, hc]
theorem opw {Dw mw Dc mc Dm mr : Nat} {asw asc asm : List Value} {H : List (Nat × Int32)} (hw : ∀ σ, ev Dw mw asw σ = cIh H (ev Dc mc asc σ) fun r2 σ1 => tL σ1 560 0 (Int32.toInt64 r2) fun σ3 => some (Sum.inl (Value.int (nar 0 0)), σ3))
    (q : OpQ Dc mc asc Dm mr asm H) : OpW Dw mw asw Dm mr asm := by
  intro σ hI
  obtain ⟨t, n, l, many, cs, w, K, b, h⟩ := hI
  rcases q σ t n l many cs w K b h with ⟨v, ⟨υ, c1, c2⟩, m⟩ | ⟨e, c, σ', he, hc, c0, ca, c1, m⟩
  · have h2 := h.qc c2
    obtain ⟨φ, m1, m2, m3⟩ := m (wL υ 560 0 (Int32.toInt64 v)) (h2.wL' _ _ _) (show Same σ υ from qcS c2)
    have s1 : Cst σ υ := (Cst.refl σ).ag (qcM c2) (fun x q => by have := q.2.2; omega)
    have s2 : Cst σ (wL υ 560 0 (Int32.toInt64 v)) := s1
    refine ⟨0, wL υ 560 0 (Int32.toInt64 v), v, φ, ?_, s2, m1, s2.ag m2 (fun x q => by have := q.2.2.2; omega), ⟨t, n, l, many, cs, w, K, b, (h2.wL' _ _ _).qm m2⟩, m3, fun _ => ?_⟩
    · rw [hw, c1, cIh_ok, tL560 h2.1.1.1, nar0]
    · rw [m2.2.2.1]
      show (if 560 = 560 ∧ 0 = 0 then Int32.toInt64 v else mL υ 560 0) = _
      rw [if_pos ⟨rfl, rfl⟩]
  · have z0 := ca.2.2.2.1
    have z1 := ca.2.2.2.2.1
    have z2 := ca.2.2.2.2.2.1
    have z3 := ca.1
    have z4 : ∀ a, 1000000 ≤ a → mI σ' a = mI σ a := fun a ha => ca.at (fun q => by have := q.2.2; omega)
    replace h := h.qc ca
    have h2 := h.1.ex e
    have m1 := m (exC σ' e) h2
    refine ⟨c, exC σ' e, 0, exM (exC σ' e) c e, ?_, ⟨z3, z0, by rw [← z1]; exact Nat.le_refl _, by rw [← z2]; exact Nat.le_refl _, fun a ha => ?_⟩, m1, ⟨z3, z0, by rw [← z1]; exact Nat.le_refl _, by rw [← z2]; exact Nat.le_refl _, fun a ha => ?_⟩, ⟨t, n, l, many, cs, w, K, b, ?_, ?_⟩, ?_, fun z => absurd z c0⟩
    · rw [hw, c1, cIh_ex hc]
    · show mI (wI σ' 0 (13 + e) (mI σ' 0 (13 + e) + 1)) a = _
      rw [rI_o (by omega)]; exact z4 a ha
    · show mI (wI (wI (wI (wI σ' 0 _ _) 53 0 _) 53 0 _) 55 _ _) a = _
      rw [rI_o (by omega), rI_o (by omega), rI_o (by omega), rI_o (by omega)]; exact z4 a ha
    · have a1 : AgM (fun x => x = 55) (fun i => i = 0) (exC σ' e) (wI (wI (exC σ' e) 53 0 0) 53 0 c) := AgM.w53 (F := fun i => i = 0) (AgM.w53 (F := fun i => i = 0) (AgM.refl _ _ _) rfl _) rfl _
      have a2 : AgM (fun x => x = 55) (fun i => i = 0) (exC σ' e) (exM (exC σ' e) c e) := by
        refine a1.trans ?_
        exact AgM.of (S := fun x => x = 55) (Ag.wI (S := fun x => x = 55) (Ag.refl _ _) rfl _ _) (fun _ q => q) (by omega)
      exact h2.keep a2 (fun x f q => by unfold fpI fxC at f; omega) (fun x f q => by unfold fF at f; omega)
    · obtain ⟨i1, i2, i3⟩ := h.2
      have r55 : ∀ i, mI (exM (exC σ' e) c e) 55 i = if i = e - 1 then mI σ' 55 (e - 1) + 1 else mI σ' 55 i := by
        intro i
        unfold exM
        rw [rI_w]
        have e1 : mI (exC σ' e) 55 = mI σ' 55 := by show mI (wI σ' 0 (13 + e) (mI σ' 0 (13 + e) + 1)) 55 = _; rw [rI_o (by decide)]
        by_cases z : i = e - 1
        · rw [if_pos ⟨rfl, z⟩, if_pos z, e1]
        · rw [if_neg (fun y => z y.2), if_neg z, rI_o (by decide), rI_o (by decide), e1]
      have r0 : ∀ i, mI (exM (exC σ' e) c e) 0 i = if i = 13 + e then mI σ' 0 (13 + e) + 1 else mI σ' 0 i := by
        intro i
        unfold exM
        rw [rI_o (by decide), rI_o (by decide), rI_o (by decide)]
        show mI (wI σ' 0 (13 + e) (mI σ' 0 (13 + e) + 1)) 0 i = _
        rw [rI_w]
        by_cases z : i = 13 + e
        · rw [if_pos ⟨rfl, z⟩, if_pos z]
        · rw [if_neg (fun y => z y.2), if_neg z]
      have r53 : mI (exM (exC σ' e) c e) 53 35 = mI σ' 53 35 := by
        unfold exM
        rw [rI_o (by decide), rI_w, if_neg (by omega), rI_w, if_neg (by omega)]
        show mI (wI σ' 0 (13 + e) (mI σ' 0 (13 + e) + 1)) 53 35 = _
        rw [rI_o (by decide)]
      refine ⟨?_, ?_, ?_⟩
      · rw [r53, r0, if_neg (by omega)]; exact i1
      · rw [r55, r0]
        rcases he with rfl | rfl
        · rw [if_pos rfl, if_pos rfl, i2]
        · rw [if_neg (by decide), if_neg (by decide)]; exact i2
      · rw [r55, r0]
        rcases he with rfl | rfl
        · rw [if_neg (by decide), if_neg (by decide)]; exact i3
        · rw [if_pos rfl, if_pos rfl, i3]
    · unfold exM
      rw [rI_o (by decide), rI_w, if_pos ⟨rfl, rfl⟩]
/-- a question without refusals -/
theorem opn {Dc mc Dm mr : Nat} {asc asm : List Value} (q : ∀ σ t n l many cs w K b, Iv σ t n l many cs w K b → ∃ v, CQu σ (ev Dc mc asc σ) v ∧ ∀ τ, Iv τ t n l many cs w K b → Same σ τ → MQu τ (ev Dm mr asm τ) v) : OpN Dc mc asc Dm mr asm := by
  intro σ hI
  obtain ⟨t, n, l, many, cs, w, K, b, h⟩ := hI
  obtain ⟨v, ⟨υ, c1, c2⟩, m⟩ := q σ t n l many cs w K b h
  have h2 := h.qc c2
  obtain ⟨φ, m1, m2, m3⟩ := m υ h2 (qcS c2)
  have s1 : Cst σ υ := (Cst.refl σ).ag (qcM c2) (fun x q => by have := q.2.2; omega)
  exact ⟨v, υ, φ, c1, s1, m1, s1.ag m2 (fun x q => by have := q.2.2.2; omega), t, n, l, many, cs, w, K, b, h2.qm m2⟩
/-- numbers that are allowed -/
def inN (x : Int32) (n : Nat) : Prop := ∃ p, p < n ∧ x = nI p
theorem inN_iff {x : Int32} {n : Nat} (hn : n < 2147483648) : inN x n ↔ ¬ x < 0 ∧ x < nI n := by
  refine ⟨fun h => ?_, fun h => ?_⟩
  · obtain ⟨p, hp, rfl⟩ := h
    exact ⟨nI_pos (by omega), nI_lt hp (by omega)⟩
  · obtain ⟨h1, h2⟩ := h
    rw [Int32.lt_iff_toInt_lt] at h1 h2
    rw [nI_toInt hn] at h2
    have h1 : ¬ x.toInt < 0 := h1
    refine ⟨x.toInt.toNat, by omega, ?_⟩
    apply Int32.toInt_inj.mp
    rw [nI_toInt (by omega)]
    omega
theorem inN_le {x : Int32} {n : Nat} (hn : n < 2147483647) : inN x (n + 1) ↔ ¬ x < 0 ∧ x ≤ nI n := by
  rw [inN_iff (by omega)]
  refine and_congr_right (fun _ => ?_)
  rw [Int32.lt_iff_toInt_lt, Int32.le_iff_toInt_le, nI_toInt (by omega), nI_toInt (by omega)]
  omega
theorem inN_m {x : Int32} {n : Nat} (hn : n ≤ 1000) : (0 ≤ x ∧ x ≤ nI n - 1) ↔ inN x n := by
  rw [inN_iff (by omega), Int32.le_iff_toInt_le, Int32.le_iff_toInt_le, Int32.lt_iff_toInt_lt, Int32.lt_iff_toInt_lt, show (1 : Int32) = nI 1 from rfl, pk_sub_toInt (by omega) (by omega), nI_toInt (by omega)]
  show 0 ≤ x.toInt ∧ _ ↔ ¬ x.toInt < 0 ∧ _
  omega
theorem inN_r {x : Int32} {n : Nat} (hn : n < 2147483647) : (0 ≤ x ∧ x ≤ nI n) ↔ inN x (n + 1) := by
  rw [inN_le hn]
  refine and_congr_left (fun _ => ?_)
  rw [Int32.le_iff_toInt_le, Int32.lt_iff_toInt_lt]
  show 0 ≤ x.toInt ↔ ¬ x.toInt < 0
  omega
theorem exC1 (h : Sh σ) (x : Int32) : (gI σ 0 0 14 fun r1 => sI σ 0 0 14 (r1 + (1 : Int32)) fun σ2 => some (Sum.inr 1, mT σ2)) = some (.inr 1, exC σ 1) := by rw [xg_0 h, xs_0 h]; rfl
theorem exC2 (h : Sh σ) (x : Int32) : (gI σ 0 0 15 fun r1 => sI σ 0 0 15 (r1 + (1 : Int32)) fun σ2 => some (Sum.inr 2, mT σ2)) = some (.inr 2, exC σ 2) := by rw [xg_0 h, xs_0 h]; rfl
theorem c_needP (h : CX σ l many cs) (ok : LnOK l) (x : Int32) : (inN x (nP l) → ev d 156 [.ref 0, .int x] σ = some (.inl uv, σ)) ∧ (¬ inN x (nP l) → ev d 156 [.ref 0, .int x] σ = some (.inr 1, exC σ 1)) := by
  have hsh := h.1
  have h7 := ok.1
  have e7 : mI σ (ldA σ) 7 = nI (nP l) := h.2.1.1.1
  have ex : rn d 156 18 [.ref 0, .int x] [] σ = some (.inr 1, exC σ 1) := by rw [e_W_needPerson_18, exC1 hsh x]
  rw [e_W_needPerson d 0 x σ (by rw [k_0 hsh]), xr_0_1 hsh, xr_3_1 hsh, xg_ld hsh hsh.ld, e7, ex, inN_iff (by omega)]
  refine ⟨fun q => by rw [if_neg q.1, if_pos q.2], fun q => ?_⟩
  by_cases z : x < 0
  · rw [if_pos z]
  · rw [if_neg z, if_neg (fun y => q ⟨z, y⟩)]
theorem c_needJ (h : CX σ l many cs) (ok : LnOK l) (x : Int32) : (inN x (nJ l) → ev d 157 [.ref 0, .int x] σ = some (.inl uv, σ)) ∧ (¬ inN x (nJ l) → ev d 157 [.ref 0, .int x] σ = some (.inr 1, exC σ 1)) := by
  have hsh := h.1
  have h7 := ok.2.1
  have e7 : mI σ (ldA σ) 8 = nI (nJ l) := h.2.1.1.2.1
  have ex : rn d 157 18 [.ref 0, .int x] [] σ = some (.inr 1, exC σ 1) := by rw [e_W_needJoke_18, exC1 hsh x]
  rw [e_W_needJoke d 0 x σ (by rw [k_0 hsh]), xr_0_1 hsh, xr_3_1 hsh, xg_ld hsh hsh.ld, e7, ex, inN_iff (by omega)]
  refine ⟨fun q => by rw [if_neg q.1, if_pos q.2], fun q => ?_⟩
  by_cases z : x < 0
  · rw [if_pos z]
  · rw [if_neg z, if_neg (fun y => q ⟨z, y⟩)]
theorem c_needR (hsh : Sh σ) (x : Int32) {m : Nat} (hm : m < 2147483647) : (inN x (m + 1) → ev d 155 [.ref 0, .int x, .int 0, .int (nI m)] σ = some (.inl (.int x), σ)) ∧ (¬ inN x (m + 1) → ev d 155 [.ref 0, .int x, .int 0, .int (nI m)] σ = some (.inr 2, exC σ 2)) := by
  have ex : rn d 155 10 [.ref 0, .int x, .int 0, .int (nI m)] [] σ = some (.inr 2, exC σ 2) := by rw [e_W_needRange_10, exC2 hsh x]
  rw [e_W_needRange d 0 x 0 (nI m) σ (by rw [k_0 hsh]), ex, inN_le hm]
  refine ⟨fun q => by rw [if_neg q.1, if_pos q.2, nar0], fun q => ?_⟩
  by_cases z : x < 0
  · rw [if_pos z]
  · rw [if_neg z, if_neg (fun y => q ⟨z, y⟩)]
theorem c_needJP (h : CX σ l many cs) (ok : LnOK l) (x y : Int32) : (inN x (nJ l) ∧ inN y (nP l) → ev (d + 1) 158 [.ref 0, .int x, .int y] σ = some (.inl uv, σ)) ∧ (¬ (inN x (nJ l) ∧ inN y (nP l)) → ev (d + 1) 158 [.ref 0, .int x, .int y] σ = some (.inr 1, exC σ 1)) := by
  rw [e_W_needJokeAndPerson d 0 x y σ (by rw [k_0 h.1])]
  obtain ⟨a1, a2⟩ := c_needJ (d := d) h ok x
  obtain ⟨b1, b2⟩ := c_needP (d := d) h ok y
  refine ⟨fun q => by rw [a1 q.1, cV_ok, b1 q.2, cV_ok], fun q => ?_⟩
  by_cases z : inN x (nJ l)
  · rw [a1 z, cV_ok, b2 (fun y => q ⟨z, y⟩)]; rfl
  · rw [a2 z]; rfl
/-- the reference's guards -/
theorem i01_if (p q : Prop) [Decidable p] [Decidable q] (h : p ↔ q) : i01 p = i01 q := by unfold i01; simp only [h]
theorem m_isP (h : MX σ l many cs) (ok : LnOK l) (x : Int32) [Decidable (inN x (nP l))] : ev (d + 1) 225 [.ref 53, .int x] σ = some (.inl (.int (i01 (inN x (nP l)))), σ) := by
  have hsh := h.1
  have h7 := ok.1
  rw [e_M_isPerson d 53 x σ (by rw [k_53 hsh]), xr_53_12 hsh, show (0 : Int32) = nI 0 from rfl, xa_57 hsh (by decide), h.2.1.1.1, m_in, cI1_ok, show nI 0 = (0 : Int32) from rfl, i01_if _ (inN x (nP l)) (inN_m (by omega))]
  unfold i01
  split
  · rw [nar1_1]
  · rw [nar1_0]
theorem m_isJ (h : MX σ l many cs) (ok : LnOK l) (x : Int32) [Decidable (inN x (nJ l))] : ev (d + 1) 226 [.ref 53, .int x] σ = some (.inl (.int (i01 (inN x (nJ l)))), σ) := by
  have hsh := h.1
  have h7 := ok.2.1
  rw [e_M_isJoke d 53 x σ (by rw [k_53 hsh]), xr_53_12 hsh, show (1 : Int32) = nI 1 from rfl, xa_57 hsh (by decide), h.2.1.1.2.1, m_in, cI1_ok, show nI 1 = (1 : Int32) from rfl, i01_if _ (inN x (nJ l)) (inN_m (by omega))]
  unfold i01
  split
  · rw [nar1_1]
  · rw [nar1_0]
theorem m_isN (h : MX σ l many cs) (ok : LnOK l) (x y : Int32) [Decidable (inN x (nJ l) ∧ inN y (nP l))] : ev (d + 2) 227 [.ref 53, .int x, .int y] σ = some (.inl (.int (i01 (¬ (inN x (nJ l) ∧ inN y (nP l))))), σ) := by
  haveI := Classical.propDecidable (inN x (nJ l))
  haveI := Classical.propDecidable (inN y (nP l))
  rw [e_M_isNone (d + 1) 53 x y σ (by rw [k_53 h.1]), m_isJ h ok x, cI_ok]
  by_cases z : inN x (nJ l)
  · rw [i01_p z, if_neg (by decide), m_isP h ok y, cI_ok]
    by_cases z2 : inN y (nP l)
    · rw [i01_p z2, if_neg (by decide), e_M_isNone_21, nar1_0, i01_n (fun q => q ⟨z, z2⟩)]
    · rw [i01_n z2, if_pos rfl, e_M_isNone_16, e_M_isNone_21, nar1_1, i01_p (show ¬ (inN x (nJ l) ∧ inN y (nP l)) from fun q => z2 q.2)]
  · rw [i01_n z, if_pos rfl, e_M_isNone_16, e_M_isNone_21, nar1_1, i01_p (show ¬ (inN x (nJ l) ∧ inN y (nP l)) from fun q => z q.1)]
theorem m_bad0 (hsh : Sh σ) (e0 : mI σ 53 0 = 0) (x y : Int32) : ev d 165 [.ref 53, .int 0, .int x, .int y] σ = some (.inl (.int 0), σ) := by
  rw [e_M_bad d 53 0 x y σ (by rw [k_53 hsh]), if_pos rfl, e_M_bad_26, xg_53 hsh, if_pos e0, e_M_bad_38, nar1_0]
theorem m_bad1 (hsh : Sh σ) (e0 : mI σ 53 0 = 0) {c : Int32} (hc : c ≠ 0) {i : Nat} (hi : i < 2) : ev d 165 [.ref 53, .int 1, .int c, .int (nI i)] σ = some (.inl (.int 1), wI (wI σ 53 0 c) 55 i (mI σ 55 i + 1)) := by
  have h1 : Sh (wI σ 53 0 c) := hsh
  have h2 : Sh (wI (wI σ 53 0 c) 55 i (mI σ 55 i + 1)) := hsh
  rw [e_M_bad d 53 1 c (nI i) σ (by rw [k_53 hsh]), if_neg (by decide), xg_53 hsh, if_pos e0, xs_53 hsh, xr_53_10 h1, xa_55 h1 hi, xt_55 h1 hi, rI_o (show 55 ≠ 53 by decide), e_M_bad_26, xg_53 h2, rI_o (show 53 ≠ 55 by decide), show mI (wI σ 53 0 c) 53 0 = c by (rw [rI_w, if_pos ⟨rfl, rfl⟩]), if_neg hc, e_M_bad_38, nar1_1]
/-- at the beginning of a call nothing is thrown -/
theorem Iw.th (h : Iw σ t n l many cs w K b) : Iw (wI σ 53 0 0) t n l many cs w K b :=
  h.keep (S := nS0) (F := fun i => i = 0) (AgM.w53 (F := fun i => i = 0) (AgM.refl _ _ _) rfl _) (fun _ _ q => q) (fun x f q => by unfold fF at f; omega)
theorem Iv.th (h : Iv σ t n l many cs w K b) : Iv (wI σ 53 0 0) t n l many cs w K b :=
  h.keep (S := nS0) (F := fun i => i = 0) (AgM.w53 (F := fun i => i = 0) (AgM.refl _ _ _) rfl _) (fun _ _ q => q) (fun x f q => by unfold fF at f; omega) (fun q => q) (fun q => q) (by omega)
theorem th0 (σ : mm_M) : mI (wI σ 53 0 0) 53 0 = 0 := by rw [rI_w, if_pos ⟨rfl, rfl⟩]
theorem exM_of {c : Int32} {e : Nat} : wI (wI (wI σ 53 0 0) 53 0 c) 55 (e - 1) (mI (wI σ 53 0 0) 55 (e - 1) + 1) = exM σ c e := by unfold exM; rw [rI_o (show 55 ≠ 53 by decide)]
theorem Same.th (s : Same σ τ) : Same σ (wI τ 53 0 0) := ⟨fun a f => by rw [rI_o (fun e => by rw [e] at f; unfold fpI fxC at f; omega)]; exact s.1 a f, by rw [rI_o (by decide)]; exact s.2.1, fun i hi => by rw [rI_w, if_neg (fun z => by rw [z.2] at hi; unfold fF at hi; omega)]; exact s.2.2.1 i hi, by rw [rI_o (by decide)]; exact s.2.2.2⟩
theorem m_bx0 (h : Sh σ) {c : Int32} (hc : c ≠ 0) : ev d 165 [.ref 53, .int 1, .int c, .int 0] (wI σ 53 0 0) = some (.inl (.int 1), exM σ c 1) := by
  rw [← exM_of]
  exact m_bad1 (σ := wI σ 53 0 0) (i := 0) h (th0 σ) hc (by decide)
theorem m_bx1 (h : Sh σ) {c : Int32} (hc : c ≠ 0) : ev d 165 [.ref 53, .int 1, .int c, .int 1] (wI σ 53 0 0) = some (.inl (.int 1), exM σ c 2) := by
  rw [← exM_of]
  exact m_bad1 (σ := wI σ 53 0 0) (i := 1) h (th0 σ) hc (by decide)
theorem AgM.th (σ : mm_M) : AgM qm qF σ (wI σ 53 0 0) := AgM.w53 (AgM.refl _ _ _) (show qF 0 from ⟨by unfold fF; omega, by decide⟩) _
/-- the projections -/
theorem Iw.sh (h : Iw σ t n l many cs w K b) : Sh σ := h.1.1
theorem Iw.cx (h : Iw σ t n l many cs w K b) : CX σ l many cs := h.2.2.1.2.1
theorem Iw.mx (h : Iw σ t n l many cs w K b) : MX σ l many cs := h.2.2.1.2.2
theorem Iw.ok (h : Iw σ t n l many cs w K b) : OKx l many cs := h.2.2.1.1
theorem Iw.row (h : Iw σ t n l many cs w K b) : RP (nP l) (mI σ 22) (mI σ 533) := h.2.2.2.1.1
end OpsV
