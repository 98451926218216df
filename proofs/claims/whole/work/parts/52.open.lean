/-! a text is opened; lists are laid over -/
section OpenV
variable {σ τ σ' τ' υ φ : mm_M} {t : Nat → Nat} {n : Nat} {l : Ln} {many : Nat} {cs : Nat → Int32} {w K : Nat} {b : List (Nat × Nat)} {d : Nat}
theorem c_tdrop (h : Sh σ) (f : Nat → Int32) : ev d 15 [.ref 1] (wA σ 1 f) = some (.inl uv, wA σ 1 (up (up (up f 1 0) 8 0) 9 (-1))) := by
  rw [e_Tape_drop d 1 (wA σ 1 f) (by rw [k_1 (σ := wA σ 1 f) h]), ys_1 h, ys_1 h, ys_1 h]
theorem t_open {m : Nat} (h : Sh σ) (stl : Stl σ) (hx : TxC σ t n) (hm : m ≤ n) : ∃ υ, ev (d + 1) 16 [.ref 1, .int (nI m)] σ = some (.inl uv, υ) ∧ RS υ t m (sp isB t m 0) ∧ Ag at1 σ υ ∧ mI υ 1 1 = 0 ∧ mI υ 1 8 = 0 ∧ mI υ 1 9 = -1 := by
  have hn := hx.1
  have hx2 : TxC σ t m := ⟨by omega, hx.2.1, hx.2.2⟩
  obtain ⟨f', r1, r2, r3⟩ := c_next (d := d) h hx2 (f := up (up (up (up (up (mI σ 1) 1 0) 8 0) 9 (-1)) 2 (nI m)) 3 0) (b := 0) (Nat.zero_le _) (up_e _ _ _) (by rw [up_n (by decide), up_e])
  have e : ev (d + 1) 16 [.ref 1, .int (nI m)] (wA σ 1 (mI σ 1)) = some (.inl uv, wA σ 1 f') := by
    rw [e_Tape_open d 1 (nI m) (wA σ 1 (mI σ 1)) (by rw [k_1 (σ := wA σ 1 (mI σ 1)) h]), c_tdrop h, cV_ok, c_min, cI1_ok, show mnn (nI m) 600 = nI m by (unfold mnn; rw [if_neg (show ¬ (600 : Int32) < nI m from nI_nlt (a := 600) (by omega) (by omega))]), ys_1 h, ys_1 h, r1, cV_ok]
  rw [wA_id] at e
  refine ⟨_, e, ⟨h, fun x p q => by rw [rA_o (by omega)]; exact stl x p q, ⟨hx2.1, hx2.2.1, fun k hk => by rw [rA_o (by decide)]; exact hx2.2.2 k hk⟩, by rw [rA_a]; exact r2⟩, (Ag.refl at1 σ).wA rfl f', ?_, ?_, ?_⟩
  · rw [rA_a, r3 1 (by decide) (by decide) (by decide) (by decide), up_n (by decide), up_n (by decide), up_n (by decide), up_n (by decide), up_e]
  · rw [rA_a, r3 8 (by decide) (by decide) (by decide) (by decide), up_n (by decide), up_n (by decide), up_n (by decide), up_e]
  · rw [rA_a, r3 9 (by decide) (by decide) (by decide) (by decide), up_n (by decide), up_n (by decide), up_e]
def stF (i : Nat) : Prop := i = 1 ∨ i = 2 ∨ i = 4 ∨ i = 5 ∨ i = 6 ∨ i = 7 ∨ i = 8
theorem u_start {m : Nat} (h : Sh τ) (hx : TxM τ t n) (hm : m ≤ n) : ∃ υ, ev (d + 2) 184 [.ref 53, .int (nI m)] τ = some (.inl uv, υ) ∧ RM υ t m (sp isB t m 0) ∧ AgM nS0 stF τ υ ∧ mI υ 53 1 = 0 ∧ mI υ 53 7 = 0 ∧ mI υ 53 8 = 0 ∧ mI υ 53 4 = nI (sp isB t m 0) := by
  have hn := hx.1
  have hx2 : TxM τ t m := ⟨by omega, hx.2.1, hx.2.2⟩
  obtain ⟨a1, a2, a3, a4⟩ := sp_all (P := isB) (t := t) (n := m) 0 (Nat.zero_le _)
  generalize hg : up (up (up (up (up (up (up (mI τ 53) 1 0) 2 (nI m)) 4 0) 5 0) 6 (-1)) 7 0) 8 0 = g
  have g2 : g 2 = nI m := by rw [← hg, up_n (by decide), up_n (by decide), up_n (by decide), up_n (by decide), up_n (by decide), up_e]
  have g4 : g 4 = nI 0 := by rw [← hg, up_n (by decide), up_n (by decide), up_n (by decide), up_n (by decide), up_e]; rfl
  have g5 : g 5 = 0 := by rw [← hg, up_n (by decide), up_n (by decide), up_n (by decide), up_e]
  have g1 : g 1 = 0 := by rw [← hg, up_n (by decide), up_n (by decide), up_n (by decide), up_n (by decide), up_n (by decide), up_n (by decide), up_e]
  have g7 : g 7 = 0 := by rw [← hg, up_n (by decide), up_e]
  have g8 : g 8 = 0 := by rw [← hg, up_e]
  have go : ∀ x, ¬ stF x → g x = mI τ 53 x := fun x hx => by
    unfold stF at hx
    rw [← hg, up_n (by omega), up_n (by omega), up_n (by omega), up_n (by omega), up_n (by omega), up_n (by omega), up_n (by omega)]
  have mk : MKf g t m (sp isB t m 0) := ⟨a2, g2, g5, 0, Nat.zero_le _, g4, rfl⟩
  have e : ev (d + 2) 184 [.ref 53, .int (nI m)] (wA τ 53 (mI τ 53)) = some (.inl uv, wA τ 53 (up g 4 (nI (sp isB t m 0)))) := by
    rw [e_M_starts (d + 1) 53 (nI m) (wA τ 53 (mI τ 53)) (k53 h _), zs h, zs h, zs h, zs h, zs h, zs h, zs h, hg, m_blanksK h hx2 mk, cV_ok]
  rw [wA_id] at e
  refine ⟨_, e, ⟨h, ⟨hx2.1, hx2.2.1, fun k hk => by rw [rA_o (by decide)]; exact hx2.2.2 k hk⟩, by rw [rA_a]; exact mk.to⟩, AgM_w (fun x hx => by rw [up_n (fun z => hx (by rw [z]; unfold stF; omega))]; exact go x hx), by rw [rA_a, up_n (by decide)]; exact g1, by rw [rA_a, up_n (by decide)]; exact g7, by rw [rA_a, up_n (by decide)]; exact g8, by rw [rA_a, up_e]⟩
/-- blanks behind a FAULT -/
theorem u_blanksF {i : Nat} (h : Sh τ) (hx : TxM τ t n) (e2 : mI τ 53 2 = nI n) (hi : i ≤ 600) (e4 : mI τ 53 4 = nI i) : ∃ υ, ev (d + 1) 172 [.ref 53] τ = some (.inl uv, υ) ∧ AgM nS0 f4 τ υ ∧ ∃ j, j ≤ 600 ∧ mI υ 53 4 = nI j := by
  by_cases z : i ≤ n
  · have := m_blanks (d := d) h hx (n - i) i (mI τ 53) rfl z e2 e4
    rw [wA_id] at this
    have a2 := (sp_all (P := isB) (t := t) (n := n) i z).2.1
    have hn := hx.1
    exact ⟨_, this, AgM_w (fun x hx => up_n hx), sp isB t n i, by omega, by rw [rA_a, up_e]⟩
  · refine ⟨τ, ?_, AgM.refl _ _ _, i, hi, e4⟩
    have hb := m_byteAt (d := d) (g := mI τ 53) h hx e2 (k := i) (by omega)
    rw [wA_id] at hb
    rw [e_M_blanks d 53 τ (by rw [k_53 h]), e_M_blanks_0, xg_53 h, e4, hb, cI_ok, if_neg (show ¬ byM t n i = (32 : Int32) from fun y => by have y : byM t n i = nI 32 := y; rw [byM_eq hx (by decide)] at y; omega)]
theorem m_lays {a c A : Nat} (hA : A ≤ 160) (ra : ∀ σ' : mm_M, mK σ' = mK σ → mR σ' = mR σ → ∀ q, q < A → ∀ k : Nat → Option mm_R, aR σ' a (nI q) k = k (a + 1 + q)) (rc : ∀ σ' : mm_M, mK σ' = mK σ → mR σ' = mR σ → ∀ q, q < A → ∀ k : Nat → Option mm_R, aR σ' c (nI q) k = k (c + 1 + q))
    (ka : ∀ q, q < A → mK σ (a + 1 + q) = (1, 2)) (kc : ∀ q, q < A → mK σ (c + 1 + q) = (1, 2)) (dis : ∀ p q, p < A → q < A → a + 1 + p ≠ c + 1 + q) {m : Nat} (hm : m ≤ A) :
    ∃ υ, ev d 192 [.ref a, .ref c, .int (nI m)] σ = some (.inl uv, υ) ∧ Ag (fun x => c + 1 ≤ x ∧ x < c + 1 + m) σ υ ∧ ∀ q, q < m → mI υ (c + 1 + q) 0 = mI σ (a + 1 + q) 0 ∧ mI υ (c + 1 + q) 1 = mI σ (a + 1 + q) 1 := by
  have key : ∀ k i v τ, m - i = k → i ≤ m → Ag (fun x => c + 1 ≤ x ∧ x < c + 1 + m) σ τ → (∀ q, q < i → mI τ (c + 1 + q) 0 = mI σ (a + 1 + q) 0 ∧ mI τ (c + 1 + q) 1 = mI σ (a + 1 + q) 1) →
      ∃ υ, rn d 192 2 [.ref a, .ref c, .int (nI m), .int (nI i), v] [] τ = some (.inl uv, υ) ∧ Ag (fun x => c + 1 ≤ x ∧ x < c + 1 + m) σ υ ∧ ∀ q, q < m → mI υ (c + 1 + q) 0 = mI σ (a + 1 + q) 0 ∧ mI υ (c + 1 + q) 1 = mI σ (a + 1 + q) 1 := by
    intro k
    induction k with
    | zero =>
      intro i v τ hk hi ag hq
      rw [e_M_lays_2, if_pos (nI_le (by omega) (by omega))]
      exact ⟨τ, rfl, ag, fun q hq2 => hq q (by omega)⟩
    | succ k ih =>
      intro i v τ hk hi ag hq
      have iA : i < A := by omega
      have k1 : mK τ (a + 1 + i) = (1, 2) := by rw [ag.1]; exact ka i iA
      have k2 : mK τ (c + 1 + i) = (1, 2) := by rw [ag.1]; exact kc i iA
      have an : ∀ (τ' : mm_M), mK τ' = mK τ → ∀ f : Int32 → Option mm_R, aN τ' (c + 1 + i) f = f (nI 2) := fun τ' e f => by
        unfold aN
        rw [e, k2, if_pos ⟨by decide, by decide⟩]
        rfl
      have sa : mI τ (a + 1 + i) = mI σ (a + 1 + i) := ag.at (fun z => by
        obtain ⟨z1, z2⟩ := z
        exact dis i (a + 1 + i - (c + 1)) iA (by omega) (by omega))
      have ne := dis i i iA iA
      have step : rn d 192 2 [.ref a, .ref c, .int (nI m), .int (nI i), v] [] τ = rn d 192 2 [.ref a, .ref c, .int (nI m), .int (nI (i + 1)), .int (nI 2)] [] (wI (wI τ (c + 1 + i) 0 (mI σ (a + 1 + i) 0)) (c + 1 + i) 1 (mI σ (a + 1 + i) 1)) := by
        have z0 : rn d 192 10 [.ref a, .ref c, .int (nI m), .int (nI i), .int 0] [] τ = rn d 192 10 [.ref a, .ref c, .int (nI m), .int (nI i), .int (nI 1)] [] (wI τ (c + 1 + i) 0 (mI σ (a + 1 + i) 0)) := by
          rw [e_M_lays_10, rc τ ag.1 ag.2.1 i iA, an τ rfl, if_neg (show ¬ nI 2 ≤ (0 : Int32) by decide), rc τ ag.1 ag.2.1 i iA, ra τ ag.1 ag.2.1 i iA, show aI τ (a + 1 + i) 0 = aI τ (a + 1 + i) (nI 0) from rfl, aI_k k1 (by decide) (by decide), show tI τ (c + 1 + i) 0 = tI τ (c + 1 + i) (nI 0) from rfl, tI_k k2 (by decide) (by decide), sa]
          rfl
        have z1 : rn d 192 10 [.ref a, .ref c, .int (nI m), .int (nI i), .int (nI 1)] [] (wI τ (c + 1 + i) 0 (mI σ (a + 1 + i) 0)) = rn d 192 10 [.ref a, .ref c, .int (nI m), .int (nI i), .int (nI 2)] [] (wI (wI τ (c + 1 + i) 0 (mI σ (a + 1 + i) 0)) (c + 1 + i) 1 (mI σ (a + 1 + i) 1)) := by
          rw [e_M_lays_10, rc (wI τ (c + 1 + i) 0 (mI σ (a + 1 + i) 0)) ag.1 ag.2.1 i iA, an (wI τ (c + 1 + i) 0 (mI σ (a + 1 + i) 0)) rfl, if_neg (show ¬ nI 2 ≤ nI 1 by decide), rc (wI τ (c + 1 + i) 0 (mI σ (a + 1 + i) 0)) ag.1 ag.2.1 i iA, ra (wI τ (c + 1 + i) 0 (mI σ (a + 1 + i) 0)) ag.1 ag.2.1 i iA, aI_k (σ := wI τ (c + 1 + i) 0 (mI σ (a + 1 + i) 0)) k1 (by decide) (by decide), tI_k (σ := wI τ (c + 1 + i) 0 (mI σ (a + 1 + i) 0)) k2 (by decide) (by decide), rI_o ne, sa]
          rfl
        rw [e_M_lays_2, if_neg (nI_ge (by omega) (by omega)), z0, z1, e_M_lays_10, rc (wI (wI τ (c + 1 + i) 0 (mI σ (a + 1 + i) 0)) (c + 1 + i) 1 (mI σ (a + 1 + i) 1)) ag.1 ag.2.1 i iA, an (wI (wI τ (c + 1 + i) 0 (mI σ (a + 1 + i) 0)) (c + 1 + i) 1 (mI σ (a + 1 + i) 1)) rfl, if_pos (show nI 2 ≤ nI 2 by decide), nI_1]
      rw [step]
      have hS : (fun x => c + 1 ≤ x ∧ x < c + 1 + m) (c + 1 + i) := ⟨by omega, by omega⟩
      refine ih (i + 1) _ _ (by omega) (by omega) ((ag.wI hS _ _).wI hS _ _) (fun q hq2 => ?_)
      by_cases z : q = i
      · subst z
        rw [rI_w, if_neg (by omega), rI_w, if_pos ⟨rfl, rfl⟩, rI_w, if_pos ⟨rfl, rfl⟩]
        exact ⟨rfl, rfl⟩
      · rw [rI_o (show c + 1 + q ≠ c + 1 + i by omega), rI_o (show c + 1 + q ≠ c + 1 + i by omega)]
        exact hq q (by omega)
  rw [e_M_lays]
  exact key m 0 uv σ rfl (Nat.zero_le _) (Ag.refl _ _) (fun q hq => absurd hq (Nat.not_lt_zero q))
end OpenV
