/-! the class's table -/
section PlanC
variable {σ τ σ' τ' υ φ : mm_M} {t : Nat → Nat} {n : Nat} {l : Ln} {many : Nat} {cs : Nat → Int32} {w K : Nat} {b : List (Nat × Nat)} {d : Nat}
theorem qc31 : qc 31 := by unfold qc fpI fxC; omega
theorem qc32 : qc 32 := by unfold qc fpI fxC; omega
theorem qc33 : qc 33 := by unfold qc fpI fxC; omega
/-- from the JOKE j on the table is full -/
def DPm (l : Ln) (g : Nat → Nat → Nat) (σ : mm_M) (j : Nat) : Prop := ∀ i, j ≤ i → i ≤ nJ l → ∀ T, T < 2 ^ nP l → mI σ 31 (i * 128 + T) = nI (dpM g (nP l) (nJ l - i) i T)
def DPg (l : Ln) (g : Nat → Nat → Nat) (σ : mm_M) (j : Nat) : Prop := ∀ i, j ≤ i → i < nJ l → ∀ p, p < nP l → mI σ 32 (i * 7 + p) = nI (g i p)
theorem ix7 (j p : Nat) : nI j * (7 : Int32) + nI p = nI (j * 7 + p) := by rw [show (7 : Int32) = nI 7 from rfl, pk_mul, nI_add]
theorem ix128 (j p : Nat) : nI j * (128 : Int32) + nI p = nI (j * 128 + p) := by rw [show (128 : Int32) = nI 128 from rfl, pk_mul, nI_add]
theorem c_withGiven {g : Nat → Nat → Nat} (h : Sh σ) (h7 : nP l ≤ 7) (h6 : nJ l ≤ 6) {k j T p : Nat} (hk : j + (k + 1) = nJ l) (hT : T < 2 ^ nP l) (hp : p < nP l) (m : DPm l g σ (j + 1)) (e : mI σ 32 (j * 7 + p) = nI (g j p)) : ev d 100 [.ref 29, .int (nI j), .int (nI T), .int (nI p)] σ = some (.inl (.int (nI (dpv g (nP l) k j T p))), σ) := by
  have T128 := p128 h7 (or_lt hT hp)
  have := m (j + 1) (Nat.le_refl _) (by omega) (T ||| 2 ^ p) (or_lt hT hp)
  rw [e_Plan_withGiven d 29 _ _ _ σ (by rw [k_29 h]), xr_29_2 h, ix7, xa_32 h (by omega), xr_29_1 h, nI_1, show nI T ||| ((1 : Int32) <<< (nI p &&& 31)) = nI (T ||| 2 ^ p) from (or_small T (p128 h7 hT) p (by omega)).1, ix128, xa_31 h (by omega), e, this, nI_add, nar0, show nJ l - (j + 1) = k by omega]
  rfl
theorem c_mostBy {g : Nat → Nat → Nat} (hg : ∀ j p, g j p ≤ 120) (h : Sh σ) (h7 : nP l ≤ 7) (h6 : nJ l ≤ 6) {k j T : Nat} (hk : j + (k + 1) = nJ l) (hT : T < 2 ^ nP l) (m : DPm l g σ (j + 1)) (e : ∀ p, p < nP l → mI σ 32 (j * 7 + p) = nI (g j p)) : ev (d + 1) 99 [.ref 29, .int (nI j), .int (nI T), .int (nI (nP l))] σ = some (.inl (.int (nI (dpM g (nP l) (k + 1) j T))), σ) := by
  have T128 := p128 h7 hT
  have e0 := m (j + 1) (Nat.le_refl _) (by omega) T hT
  rw [show nJ l - (j + 1) = k by omega] at e0
  rw [e_Plan_mostBy d 29 _ _ _ σ (by rw [k_29 h]), xr_29_1 h, nI_1, ix128, xa_31 h (by omega), e0]
  have loop : ∀ m i, nP l - i = m → i ≤ nP l → rn (d + 1) 99 19 [.ref 29, .int (nI j), .int (nI T), .int (nI (nP l)), .int (nI (fo i (fun p s => if bt (nI T) p = 0 then max s (g j p + dpM g (nP l) k (j + 1) (T ||| 2 ^ p)) else s) (dpM g (nP l) k (j + 1) T))), .int (nI i)] [] σ = some (.inl (.int (nI (dpM g (nP l) (k + 1) j T))), σ) := by
    intro m'
    induction m' with
    | zero =>
      intro i hm hi
      have ei : i = nP l := by omega
      subst ei
      rw [e_Plan_mostBy_19, if_pos (nI_le (by omega) (by omega)), nar0]
      rfl
    | succ m' ih =>
      intro i hm hi
      have ih' := ih (i + 1) (by omega) (by omega)
      rw [fo_s] at ih'
      have le : fo i (fun p s => if bt (nI T) p = 0 then max s (g j p + dpM g (nP l) k (j + 1) (T ||| 2 ^ p)) else s) (dpM g (nP l) k (j + 1) T) ≤ 120 * (k + 1) := by
        rcases fm_e (c := fun p => bt (nI T) p = 0) (f := fun p => g j p + dpM g (nP l) k (j + 1) (T ||| 2 ^ p)) (s0 := dpM g (nP l) k (j + 1) T) i with z | ⟨p, z1, z2, z3⟩
        · rw [z]; have := dp_le (n := nP l) hg k (j + 1) T; omega
        · rw [z3]; have := dp_le (n := nP l) hg k (j + 1) (T ||| 2 ^ p); have := hg j p; omega
      have dv : dpv g (nP l) k j T i ≤ 120 * (k + 1) := by
        have := dp_le (n := nP l) hg k (j + 1) (T ||| 2 ^ i); have := hg j i
        unfold dpv; omega
      rw [e_Plan_mostBy_19, if_neg (nI_ge (by omega) (by omega))]
      show (if bt (nI T) i = 0 then _ else _) = _
      by_cases z : bt (nI T) i = 0
      · rw [if_pos z] at ih'
        rw [if_pos z, c_withGiven h h7 h6 hk hT (by omega) m (e i (by omega)), cI_ok, c_max, cI1_ok, mxx_nI (by omega) (by omega), e_Plan_mostBy_49, nI_1]
        exact ih'
      · rw [if_neg z] at ih'
        rw [if_neg z, e_Plan_mostBy_49, nI_1]
        exact ih'
  exact loop (nP l) 0 rfl (Nat.zero_le _)
/-- the last row: nothing comes any more -/
theorem gb_0 {a1 a2 : Nat} (h6 : nJ l ≤ 6) : ∀ m T σ, Sh σ → mI σ (ldA σ) 8 = nI (nJ l) → 128 - T = m → T ≤ 128 → (∀ q, q < T → mI σ 31 (nJ l * 128 + q) = 0) → ∃ τ, rn (d + 1) 98 16 [.ref 29, .ref a1, .ref a2, .ref (ldA σ), .int (nI T), uv] [] σ = rn (d + 1) 98 55 [.ref 29, .ref a1, .ref a2, .ref (ldA σ), .int (nI (nJ l) + (-1)), uv] [] τ ∧ Ag (fun a => a = 31) σ τ ∧ ∀ q, q < 128 → mI τ 31 (nJ l * 128 + q) = 0
  | 0, T, σ, h, e, hm, hT, z => ⟨σ, by rw [e_Plan_giveBest_16, if_pos (show (128 : Int32) ≤ nI T from nI_le (a := 128) (by omega) (by omega)), xg_ld h h.ld, e, Int32.sub_eq_add_neg], Ag.refl _ _, fun q hq => z q (by omega)⟩
  | m + 1, T, σ, h, e, hm, hT, z => by
    have hl : ldA σ = 5 ∨ ldA σ = 38 := h.ld
    have a := Ag.wI (S := fun a => a = 31) (Ag.refl _ σ) rfl (nJ l * 128 + T) 0
    obtain ⟨τ, r1, r2, r3⟩ := gb_0 (a1 := a1) (a2 := a2) h6 m (T + 1) (wI σ 31 (nJ l * 128 + T) 0) h (by rw [rI_o (by show ldA σ ≠ 31; omega)]; exact e) (by omega) (by omega) (fun q hq => by
      rw [rI_w]
      by_cases y : q = T
      · rw [if_pos ⟨rfl, by omega⟩]
      · rw [if_neg (by omega)]; exact z q (by omega))
    refine ⟨τ, ?_, a.trans r2, r3⟩
    rw [e_Plan_giveBest_16, if_neg (show ¬ (128 : Int32) ≤ nI T from nI_ge (b := 128) (by omega) (by omega)), xr_29_1 h, xg_ld h h.ld, e, ix128, xt_31 h (by omega), nI_1]
    exact r1
/-- what each gives at this JOKE -/
theorem gb_g {r : Nat → Int32} {j : Nat} (hj : j < nJ l) : ∀ m p σ, Iv σ t n l many cs w K b → mI σ 533 = r → nP l - p = m → p ≤ nP l → (∀ q, q < p → mI σ 32 (j * 7 + q) = nI (gw l many cs r j q)) →
    ∃ τ, rn (d + 5) 98 63 [.ref 29, .ref 3, .ref 21, .ref (ldA σ), .int (nI j), .int (nI p)] [] σ = rn (d + 5) 98 103 [.ref 29, .ref 3, .ref 21, .ref (ldA σ), .int (nI j), .int 0] [] τ ∧ Ag (fun a => scC a ∨ a = 32) σ τ ∧ (∀ q, q < nP l → mI τ 32 (j * 7 + q) = nI (gw l many cs r j q)) ∧ ∀ x, (x < j * 7 ∨ j * 7 + 7 ≤ x) → mI τ 32 x = mI σ 32 x
  | 0, p, σ, h, hr, hm, hp, e => by
    have hw := h.1
    have h7 := hw.ok.1.1
    exact ⟨σ, by rw [e_Plan_giveBest_63, xg_ld hw.sh hw.sh.ld, hw.cx.2.1.1.1, if_pos (nI_le (by omega) (by omega))], Ag.refl _ _, fun q hq => e q (by omega), fun _ _ => rfl⟩
  | m + 1, p, σ, h, hr, hm, hp, e => by
    have hw := h.1
    have h7 := hw.ok.1.1
    have h6 := hw.ok.1.2.1
    obtain ⟨σ1, c1, c2⟩ := c_waterOf (d := d) hw.sh hw.cx.2.1 hw.ok.1 hw.ok.2 hw.cx.2.2 da21 hw.row.1 hw.row.2 hj (p := p) (by omega)
    rw [hr, gw_ok hw.ok (by omega)] at c1
    have a1 : Ag qc σ σ1 := c2.mono sc_qc
    have a2 := a1.wI qc32 (j * 7 + p) (nI (gw l many cs r j p))
    have aa : Ag (fun a => scC a ∨ a = 32) σ (wI σ1 32 (j * 7 + p) (nI (gw l many cs r j p))) := (c2.mono (T := fun a => scC a ∨ a = 32) (fun _ q => Or.inl q)).wI (Or.inr rfl) _ _
    have e32 : mI σ1 32 = mI σ 32 := c2.at (by unfold scC; omega)
    obtain ⟨τ, r1, r2, r3, r4⟩ := gb_g (r := r) hj m (p + 1) (wI σ1 32 (j * 7 + p) (nI (gw l many cs r j p))) (h.qc a2) (by rw [aa.at (by unfold scC; omega)]; exact hr) (by omega) (by omega) (fun q hq => by
      rw [rI_w, e32]
      by_cases y : q = p
      · rw [if_pos ⟨rfl, by omega⟩, y]
      · rw [if_neg (by omega)]; exact e q (by omega))
    have el : ldA (wI σ1 32 (j * 7 + p) (nI (gw l many cs r j p))) = ldA σ := a2.ld
    rw [el] at r1
    refine ⟨τ, ?_, aa.trans r2, r3, fun x hx => by rw [r4 x hx, rI_w, if_neg (by omega), e32]⟩
    rw [e_Plan_giveBest_63, xg_ld hw.sh hw.sh.ld, hw.cx.2.1.1.1, if_neg (nI_ge (by omega) (by omega)), xr_29_2 hw.sh, c1, cI1_ok, ix7, xt_32 (c2.sh hw.sh) (by omega), nI_1]
    exact r1
/-- one row of the table -/
theorem gb_m {r : Nat → Int32} {k j : Nat} (hk : j + (k + 1) = nJ l) : ∀ m T σ, Iv σ t n l many cs w K b → DPm l (gw l many cs r) σ (j + 1) → (∀ p, p < nP l → mI σ 32 (j * 7 + p) = nI (gw l many cs r j p)) → 2 ^ nP l - T = m → T ≤ 2 ^ nP l → (∀ q, q < T → mI σ 31 (j * 128 + q) = nI (dpM (gw l many cs r) (nP l) (k + 1) j q)) →
    ∃ τ v, rn (d + 5) 98 103 [.ref 29, .ref 3, .ref 21, .ref (ldA σ), .int (nI j), .int (nI T)] [] σ = rn (d + 5) 98 55 [.ref 29, .ref 3, .ref 21, .ref (ldA σ), .int (nI j + (-1)), v] [] τ ∧ Ag (fun a => a = 31) σ τ ∧ DPm l (gw l many cs r) τ j
  | 0, T, σ, h, dm, eg, hm, hT, z => by
    have hw := h.1
    have h7 := hw.ok.1.1
    have pp := pow7 h7
    have pos : 1 ≤ 2 ^ nP l := Nat.one_le_two_pow
    refine ⟨σ, .int (nI T), by rw [e_Plan_giveBest_103, c_allP hw.cx hw.ok.1, cI1_ok, if_pos (nI_lt (by omega) (by omega))], Ag.refl _ _, fun i h1 h2 q hq => ?_⟩
    by_cases y : i = j
    · rw [y, z q (by omega), show nJ l - j = k + 1 by omega]
    · exact dm i (by omega) h2 q hq
  | m + 1, T, σ, h, dm, eg, hm, hT, z => by
    have hw := h.1
    have h7 := hw.ok.1.1
    have h6 := hw.ok.1.2.1
    have pp := pow7 h7
    have pos : 1 ≤ 2 ^ nP l := Nat.one_le_two_pow
    have hl : ldA σ = 5 ∨ ldA σ = 38 := hw.sh.ld
    have a : Ag (fun a => a = 31) σ (wI σ 31 (j * 128 + T) (nI (dpM (gw l many cs r) (nP l) (k + 1) j T))) := Ag.wI (S := fun a => a = 31) (Ag.refl _ σ) rfl _ _
    have a' : Ag qc σ (wI σ 31 (j * 128 + T) (nI (dpM (gw l many cs r) (nP l) (k + 1) j T))) := a.mono (fun _ q => by rw [q]; exact qc31)
    obtain ⟨τ, v, r1, r2, r3⟩ := gb_m (r := r) hk m (T + 1) (wI σ 31 (j * 128 + T) (nI (dpM (gw l many cs r) (nP l) (k + 1) j T))) (h.qc a') (fun i h1 h2 q hq => by
      have := p128 h7 hq
      rw [rI_w, if_neg (by omega)]; exact dm i h1 h2 q hq) (fun p hp => by rw [rI_o (by decide)]; exact eg p hp) (by omega) (by omega) (fun q hq => by
      rw [rI_w]
      by_cases y : q = T
      · rw [if_pos ⟨rfl, by omega⟩, y]
      · rw [if_neg (by omega)]; exact z q (by omega))
    have el : ldA (wI σ 31 (j * 128 + T) (nI (dpM (gw l many cs r) (nP l) (k + 1) j T))) = ldA σ := rfl
    rw [el] at r1
    refine ⟨τ, v, ?_, a.trans r2, r3⟩
    have T128 := p128 h7 (show T < 2 ^ nP l by omega)
    rw [e_Plan_giveBest_103, c_allP hw.cx hw.ok.1, cI1_ok, if_neg (nI_nlt (by omega) (by omega)), xr_29_1 hw.sh, xg_ld hw.sh hw.sh.ld, hw.cx.2.1.1.1, c_mostBy (gw_le l many cs r) hw.sh h7 h6 hk (by omega) dm eg, cI_ok, ix128, xt_31 hw.sh (by omega), nI_1]
    exact r1
/-- all the table -/
theorem gb_all {r : Nat → Int32} : ∀ j v σ, Iv σ t n l many cs w K b → mI σ 533 = r → j ≤ nJ l → DPm l (gw l many cs r) σ j → DPg l (gw l many cs r) σ j →
    ∃ τ v', rn (d + 5) 98 55 [.ref 29, .ref 3, .ref 21, .ref (ldA σ), .int (nI j + (-1)), v] [] σ = rn (d + 5) 98 55 [.ref 29, .ref 3, .ref 21, .ref (ldA σ), .int (-1), v'] [] τ ∧ Ag (fun a => scC a ∨ a = 31 ∨ a = 32) σ τ ∧ DPm l (gw l many cs r) τ 0 ∧ DPg l (gw l many cs r) τ 0
  | 0, v, σ, h, hr, hj, dm, dg => ⟨σ, v, by rw [show nI 0 + (-1 : Int32) = -1 by decide], Ag.refl _ _, dm, dg⟩
  | j + 1, v, σ, h, hr, hj, dm, dg => by
    have hw := h.1
    have h6 := hw.ok.1.2.1
    obtain ⟨σ1, c1, c2, c3, c4⟩ := gb_g (d := d) (r := r) (j := j) (by omega) (nP l) 0 σ h hr rfl (Nat.zero_le _) (fun q hq => absurd hq (Nat.not_lt_zero q))
    have a1 : Ag qc σ σ1 := c2.mono (fun a q => by
      rcases q with q | q
      · exact sc_qc a q
      · rw [q]; exact qc32)
    have h1 := h.qc a1
    have e31 : mI σ1 31 = mI σ 31 := c2.at (by unfold scC; omega)
    obtain ⟨σ2, v2, k1, k2, k3⟩ := gb_m (d := d) (r := r) (k := nJ l - (j + 1)) (j := j) (by omega) (2 ^ nP l) 0 σ1 h1 (fun i h1 h2 q hq => by rw [e31]; exact dm i h1 h2 q hq) c3 rfl (Nat.zero_le _) (fun q hq => absurd hq (Nat.not_lt_zero q))
    rw [a1.ld] at k1
    have a2 : Ag qc σ1 σ2 := k2.mono (fun a q => by rw [q]; exact qc31)
    have h2 := h1.qc a2
    have e32 : mI σ2 32 = mI σ1 32 := k2.at (by omega)
    obtain ⟨τ, v', r1, r2, r3, r4⟩ := gb_all (r := r) j v2 σ2 h2 (by rw [k2.at (by omega), c2.at (by unfold scC; omega)]; exact hr) (by omega) k3 (fun i h1 h2 p hp => by
      rw [e32]
      by_cases y : i = j
      · rw [y]; exact c3 p hp
      · rw [c4 _ (by omega)]; exact dg i (by omega) h2 p hp)
    rw [(a1.trans a2).ld] at r1
    refine ⟨τ, v', ?_, ((c2.mono (T := fun a => scC a ∨ a = 31 ∨ a = 32) (fun _ q => by rcases q with q | q; exact Or.inl q; exact Or.inr (Or.inr q))).trans (k2.mono (fun _ q => Or.inr (Or.inl q)))).trans r2, r3, r4⟩
    rw [pk_m1, e_Plan_giveBest_55, if_neg (nI_pos (by omega)), show rn (d + 4 + 1) 98 63 [.ref 29, .ref 3, .ref 21, .ref (ldA σ), .int (nI j), .int 0] [] σ = _ from c1, show rn (d + 5) 98 103 [.ref 29, .ref 3, .ref 21, .ref (ldA σ), .int (nI j), .int 0] [] σ1 = _ from k1]
    exact r1
/-- whom one JOKE goes to -/
theorem ch_in {g : Nat → Nat → Nat} (hgl : ∀ j p, g j p ≤ 120) (h7 : nP l ≤ 7) (h6 : nJ l ≤ 6) {k j T : Nat} {x2 : Int32} (hk : j + (k + 1) = nJ l) (hT : T < 2 ^ nP l) : ∀ m p v6 σ, Sh σ → mI σ (ldA σ) 7 = nI (nP l) → DPm l g σ 0 → DPg l g σ 0 → mI σ 33 j = -1 → nP l - p = m → p ≤ nP l → (∀ q, q < p → ¬ PkP g (nP l) k j T q) →
    ∃ τ q x5 v6', rn (d + 1) 101 17 [.ref 29, .ref (ldA σ), .int x2, .int (nI T), .int (nI j), .int (nI p), v6] [] σ = rn (d + 1) 101 98 [.ref 29, .ref (ldA σ), .int x2, .int (nI T), .int (nI j), .int x5, v6'] [] τ ∧ PickR (PkP g (nP l) k j T) (nP l) q ∧ mI τ 33 j = (if q < nP l then nI q else -1) ∧ Ag (fun a => a = 33) σ τ ∧ ∀ i, i ≠ j → mI τ 33 i = mI σ 33 i
  | 0, p, v6, σ, h, e7, dm, dg, e, hm, hp, no => by
    have ep : p = nP l := by omega
    subst ep
    exact ⟨σ, nP l, nI (nP l), v6, by rw [e_Plan_choose_17, xg_ld h h.ld, e7, if_pos (nI_le (by omega) (by omega))], Or.inr ⟨rfl, no⟩, by rw [if_neg (by omega)]; exact e, Ag.refl _ _, fun _ _ => rfl⟩
  | m + 1, p, v6, σ, h, e7, dm, dg, e, hm, hp, no => by
    have T128 := p128 h7 hT
    have hl : ldA σ = 5 ∨ ldA σ = 38 := h.ld
    rw [e_Plan_choose_17, xg_ld h h.ld, e7, if_neg (nI_ge (by omega) (by omega)), xr_29_3 h, xa_33 h (by omega), if_pos e]
    show ∃ τ q x5 v6', (if bt (nI T) p = 0 then _ else _) = _ ∧ _
    by_cases z : bt (nI T) p = 0
    · rw [if_pos z, e_Plan_choose_51, if_neg (show ¬ (1 : Int32) = 0 by decide), c_withGiven h h7 h6 hk hT (by omega) (fun i h1 h2 => dm i (by omega) h2) (dg j (by omega) (by omega) p (by omega)), cI_ok, xr_29_1 h, ix128, xa_31 h (by omega), dm j (by omega) (by omega) T hT, show nJ l - j = k + 1 by omega]
      have b1 := dp_le (n := nP l) hgl k (j + 1) (T ||| 2 ^ p)
      have b2 := hgl j p
      have b3 := dp_le (n := nP l) hgl (k + 1) j T
      by_cases y : dpv g (nP l) k j T p = dpM g (nP l) (k + 1) j T
      · have s1 : Sh (wI σ 33 j (nI p)) := h
        have a : Ag (fun a => a = 33) σ (wI σ 33 j (nI p)) := Ag.wI (S := fun a => a = 33) (Ag.refl _ σ) rfl _ _
        rw [if_pos (by rw [y]), xr_29_3 h, xt_33 h (by omega), e_Plan_choose_92, nI_1]
        have pick : PickR (PkP g (nP l) k j T) (nP l) p := Or.inl ⟨by omega, ⟨z, y⟩, no⟩
        have val : mI (wI σ 33 j (nI p)) 33 j = (if p < nP l then nI p else -1) := by rw [rI_w, if_pos ⟨rfl, rfl⟩, if_pos (by omega)]
        have oth : ∀ i, i ≠ j → mI (wI σ 33 j (nI p)) 33 i = mI σ 33 i := fun i hi => by rw [rI_w, if_neg (by omega)]
        have e7' : mI (wI σ 33 j (nI p)) (ldA σ) 7 = nI (nP l) := by rw [rI_o (by omega)]; exact e7
        refine ⟨wI σ 33 j (nI p), p, nI (p + 1), .int 1, ?_, pick, val, a, oth⟩
        rw [e_Plan_choose_17, show gI (wI σ 33 j (nI p)) 3 (ldA σ) 7 = gI (wI σ 33 j (nI p)) 3 (ldA (wI σ 33 j (nI p))) 7 from rfl, xg_ld s1 s1.ld, show ldA (wI σ 33 j (nI p)) = ldA σ from rfl, e7']
        by_cases x : p + 1 = nP l
        · rw [if_pos (nI_le (by omega) (by omega))]
        · rw [if_neg (nI_ge (by omega) (by omega)), xr_29_3 s1, xa_33 s1 (by omega), show mI (wI σ 33 j (nI p)) 33 j = nI p by (rw [rI_w, if_pos ⟨rfl, rfl⟩]), if_neg (nI_m1 (by omega))]
      · rw [if_neg (fun q => y ((nI_eq (by unfold dpv; omega) (by omega)).mp q)), e_Plan_choose_92, nI_1]
        exact ch_in hgl h7 h6 hk hT m (p + 1) _ σ h e7 dm dg e (by omega) (by omega) (fun q hq pk => by
          by_cases x : q = p
          · exact y (x ▸ pk.2)
          · exact no q (by omega) pk)
    · rw [if_neg z, e_Plan_choose_51, if_pos (show (0 : Int32) = 0 from rfl), e_Plan_choose_92, nI_1]
      exact ch_in hgl h7 h6 hk hT m (p + 1) _ σ h e7 dm dg e (by omega) (by omega) (fun q hq pk => by
        by_cases x : q = p
        · exact z (x ▸ pk.1)
        · exact no q (by omega) pk)
theorem ch_out {g : Nat → Nat → Nat} (hgl : ∀ j p, g j p ≤ 120) (h7 : nP l ≤ 7) (h6 : nJ l ≤ 6) {x2 : Int32} : ∀ k j T v5 v6 σ, Sh σ → mI σ (ldA σ) 7 = nI (nP l) → mI σ (ldA σ) 8 = nI (nJ l) → DPm l g σ 0 → DPg l g σ 0 → (∀ i, j ≤ i → i < 6 → mI σ 33 i = -1) → j + k = nJ l → T < 2 ^ nP l →
    ∃ τ, rn (d + 1) 101 5 [.ref 29, .ref (ldA σ), .int x2, .int (nI T), .int (nI j), v5, v6] [] σ = some (.inl uv, τ) ∧ Ag (fun a => a = 33) σ τ ∧ ChR g (nP l) k j T (mI τ 33) ∧ ∀ i, i < j → mI τ 33 i = mI σ 33 i
  | 0, j, T, v5, v6, σ, h, e7, e8, dm, dg, e, hk, hT => ⟨σ, by rw [e_Plan_choose_5, xg_ld h h.ld, e8, if_pos (nI_le (by omega) (by omega))], Ag.refl _ _, trivial, fun _ _ => rfl⟩
  | k + 1, j, T, v5, v6, σ, h, e7, e8, dm, dg, e, hk, hT => by
    have hl : ldA σ = 5 ∨ ldA σ = 38 := h.ld
    obtain ⟨σ1, q, x5, v6', c1, c2, c3, c4, c5⟩ := ch_in (d := d) (x2 := x2) hgl h7 h6 (k := k) (j := j) (by omega) hT (nP l) 0 v6 σ h e7 dm dg (e j (by omega) (by omega)) rfl (Nat.zero_le _) (fun q hq => absurd hq (Nat.not_lt_zero q))
    have s1 := c4.sh h
    have e7' : mI σ1 (ldA σ1) 7 = nI (nP l) := by rw [c4.ld, c4.at (by omega)]; exact e7
    have e8' : mI σ1 (ldA σ1) 8 = nI (nJ l) := by rw [c4.ld, c4.at (by omega)]; exact e8
    have dm' : DPm l g σ1 0 := fun i h1 h2 T hT => by rw [c4.at (by omega)]; exact dm i h1 h2 T hT
    have dg' : DPg l g σ1 0 := fun i h1 h2 p hp => by rw [c4.at (by omega)]; exact dg i h1 h2 p hp
    have em : ∀ i, j + 1 ≤ i → i < 6 → mI σ1 33 i = -1 := fun i h1 h2 => by rw [c5 i (by omega)]; exact e i (by omega) h2
    have T' : (if q < nP l then T ||| 2 ^ q else T) < 2 ^ nP l := by
      by_cases y : q < nP l
      · rw [if_pos y]; exact or_lt hT y
      · rw [if_neg y]; exact hT
    obtain ⟨τ, r1, r2, r3, r4⟩ := ch_out (x2 := x2) hgl h7 h6 k (j + 1) (if q < nP l then T ||| 2 ^ q else T) (.int x5) v6' σ1 s1 e7' e8' dm' dg' em (by omega) T'
    rw [c4.ld] at r1
    refine ⟨τ, ?_, c4.trans r2, ⟨q, c2, by rw [r4 j (by omega)]; exact c3, r3⟩, fun i hi => by rw [r4 i (by omega)]; exact c5 i (by omega)⟩
    rw [e_Plan_choose_5, xg_ld h h.ld, e8, if_neg (nI_ge (by omega) (by omega)), show rn (d + 1) 101 17 [.ref 29, .ref (ldA σ), .int x2, .int (nI T), .int (nI j), .int 0, v6] [] σ = _ from c1, e_Plan_choose_98, xr_29_3 s1, xa_33 s1 (by omega), c3]
    by_cases y : q < nP l
    · rw [if_pos y] at r1 ⊢
      rw [if_neg (nI_m1 (by omega)), xr_29_3 s1, xa_33 s1 (by omega), c3, if_pos y, show nI T ||| ((1 : Int32) <<< (nI q &&& 31)) = nI (T ||| 2 ^ q) from (or_small T (p128 h7 hT) q (by omega)).1, e_Plan_choose_121, nI_1]
      exact r1
    · rw [if_neg y] at r1 ⊢
      rw [if_pos rfl, e_Plan_choose_121, nI_1]
      exact r1
end PlanC
