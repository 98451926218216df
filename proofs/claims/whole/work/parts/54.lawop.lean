/-! law -/
def swp (υ : mm_M) : mm_M := wR (wR υ 3 2 (59 - lwA υ)) 0 10 (lwA υ)
theorem rr_none : rr 3 2 = none ∧ rr 0 10 = none := by decide +kernel
theorem swp_lw (υ : mm_M) : lwA (swp υ) = 59 - lwA υ := rfl
theorem swp_ld (υ : mm_M) : ldA (swp υ) = ldA υ := rfl
theorem swp_bk (υ : mm_M) : bkA (swp υ) = bkA υ := rfl
theorem swp_r (υ : mm_M) {a i : Nat} (h1 : ¬ (a = 3 ∧ i = 2)) (h2 : ¬ (a = 0 ∧ i = 10)) : mR (swp υ) a i = mR υ a i := by
  show (if a = 0 ∧ i = 10 then some (lwA υ) else if a = 3 ∧ i = 2 then some (59 - lwA υ) else mR υ a i) = _
  rw [if_neg h2, if_neg h1]
theorem swp_sh {υ : mm_M} (h : Sh υ) : Sh (swp υ) := by
  obtain ⟨h1, h2, ⟨h3, h4, h5, h6, h7, h8⟩, h9, h10, h11, h12, h13⟩ := h
  have hw : lwA υ = 13 ∨ lwA υ = 46 := h11
  refine ⟨h1, fun a i v e => ?_, ⟨?_, ?_, ?_, ?_, ?_, ?_⟩, h9, h10, ?_, h12, fun a p q => ⟨(h13 a p q).1, ?_⟩⟩
  · rw [swp_r υ (fun z => by rw [z.1, z.2, rr_none.1] at e; cases e) (fun z => by rw [z.1, z.2, rr_none.2] at e; cases e)]
    exact h2 a i v e
  · rw [swp_r υ (by omega) (by omega), swp_ld]; exact h3
  · rfl
  · rw [swp_r υ (by omega) (by omega), swp_ld]; exact h5
  · show some (lwA υ) = some (59 - (59 - lwA υ))
    congr 1
    omega
  · rw [swp_r υ (by omega) (by omega), swp_bk]; exact h7
  · rw [swp_r υ (by omega) (by omega), swp_bk]; exact h8
  · rw [swp_lw]
    show 59 - lwA υ = 13 ∨ 59 - lwA υ = 46
    omega
  · funext i
    rw [swp_r υ (by omega) (by omega), (h13 a p q).2]
theorem sR_3_2 {σ : mm_M} (h : Sh σ) (v : Nat) (k : mm_M → Option mm_R) : sR σ 2 3 2 v k = k (wR σ 3 2 v) := by
  unfold sR
  rw [if_pos (by rw [k_3 h])]
theorem sR_0_10 {σ : mm_M} (h : mK σ 0 = (100, 0)) (v : Nat) (k : mm_M → Option mm_R) : sR σ 0 0 10 v k = k (wR σ 0 10 v) := by
  unfold sR
  rw [if_pos (by rw [h])]
section LawOp
variable {σ τ σ' τ' υ φ : mm_M} {t : Nat → Nat} {n : Nat} {l : Ln} {many : Nat} {cs : Nat → Int32} {w K : Nat} {b : List (Nat × Nat)} {d : Nat}
def lwF (i : Nat) : Prop := i = 0 ∨ i = 1 ∨ i = 2 ∨ i = 4 ∨ i = 5 ∨ i = 6 ∨ i = 7 ∨ i = 8 ∨ i = 20
theorem m_lawPre {m : Nat} (sh : Sh τ) (hx : TxM τ t n) (e1 : mI τ 53 1 = nI n) (hm : m ≤ n) (h150 : m ≤ 150) : ∃ υ, ev (d + 31) 201 [.ref 53, .int (nI m)] τ = rn (d + 31) 201 85 [.ref 53, .int (nI m)] [] υ ∧ mI υ 53 1 = 0 ∧ mI υ 53 0 = 0 ∧ AgM lmS lwF τ υ ∧ (∀ q, lawF t m = .inr q → mI υ 53 5 = 0 ∧ LM υ q.2) ∧ (∀ q, lawF t m = .inl q → mI υ 53 5 = nI q.1 ∧ mI υ 53 6 = nI q.2 ∧ 1 ≤ q.1 ∧ q.1 ≤ 3) := by
  have hn := hx.1
  have s1 : Sh (wI τ 53 0 0) := sh
  have x1 : TxM (wI τ 53 0 0) t n := ⟨hx.1, hx.2.1, fun k hk => by rw [rI_o (by decide)]; exact hx.2.2 k hk⟩
  obtain ⟨τ2, a1, a2, a3, a4, a5, a6, a7⟩ := u_start (d := d + 28) s1 x1 hm
  obtain ⟨υ, b1, b2, b3⟩ := m_lawRead (d := d + 4) (x := nI m) a2 h150 a6
  have A0 : AgM lmS lwF τ (wI τ 53 0 0) := AgM.w53 (AgM.refl _ _ τ) (Or.inl rfl) _
  have A1 : AgM lmS lwF τ τ2 := A0.trans (a3.mono (fun _ => nS_lm) (fun i q => by unfold stF at q; unfold lwF; omega))
  have lmlw : ∀ i, lmF i → lwF i := fun i q => by unfold lmF at q; unfold lwF; omega
  have key : ev (d + 31) 201 [.ref 53, .int (nI m)] τ = rn (d + 31) 201 85 [.ref 53, .int (nI m)] [] υ := by
    rw [e_M_law (d + 30) 53 (nI m) τ (by rw [k_53 sh]), xs_53 sh, xg_53 s1, w53n τ (show (1 : Nat) ≠ 0 by decide), e1, m_inN (m := n) (by omega) (nI m), cI1_ok, @i01_p _ (Classical.propDecidable _) (show inN (nI m) (n + 1) from ⟨m, by omega, rfl⟩), if_neg (show ¬ (1 : Int32) = 0 by decide), if_pos (show nI m ≤ (150 : Int32) from nI_le (b := 150) h150 (by decide)), e_M_law_30, m_bad0 s1 (th0 τ), cI_ok, if_pos (show (0 : Int32) = 0 from rfl), show ev (d + 30) 184 [.ref 53, .int (nI m)] (wI τ 53 0 0) = _ from a1, cV_ok]
    exact b1
  have t0 : mI τ2 53 0 = 0 := by rw [a3.f (by unfold stF; omega), w53e]
  have ag : AgM lmS lmF τ2 υ := by
    cases z : lawF t m with
    | inl q => exact (b3 q z).1.1
    | inr q => exact (b2 q z).2.2.2
  exact ⟨υ, key, by rw [ag.f (by unfold lmF; omega)]; exact a4, by rw [ag.f (by unfold lmF; omega)]; exact t0, A1.trans (ag.mono (fun _ q => q) lmlw), fun q z => ⟨(b2 q z).2.1, (b2 q z).2.2.1⟩, fun q z => ⟨(b3 q z).1.2.1, (b3 q z).1.2.2.1, (b3 q z).2⟩⟩
theorem min_nI {n M : Nat} (hn : n < 2147483648) (hM : M < 2147483648) : mnn (nI n) (nI M) = nI (min n M) := by
  unfold mnn
  by_cases z : M < n
  · rw [if_pos (nI_lt z hn), Nat.min_eq_right (by omega)]
  · rw [if_neg (nI_nlt (by omega) hM), Nat.min_eq_left (by omega)]
theorem op_law (x : Int32) : OpW (d + 31) 277 [.ref 0, .int x, .ref 560] (d + 31) 201 [.ref 53, .int x] := by
  intro σ hI
  obtain ⟨t, n, l, many, cs, w, K, b, h⟩ := hI
  have wr := fun σ => e_L_law3 (d + 30) 0 x 560 σ
  have hw := h.1
  obtain ⟨⟨sh, stl⟩, ⟨tc, tm, n1, n2, pl⟩, ⟨ok, cx, mx⟩, ⟨row, rz⟩, ih, im, ib⟩ := hw
  have hn := tc.1
  obtain ⟨g1, g2⟩ := c_needR (d := d + 29) sh x (m := min n 150) (by omega)
  have mn : mnn (nI n) 150 = nI (min n 150) := min_nI (M := 150) (by omega) (by decide)
  have start : ev (d + 30) 117 [.ref 0, .int x] σ = _ := e_W_law (d + 29) 0 x σ (by rw [k_0 sh])
  rw [xr_0_0 sh, xg_1 sh, n1, c_min, cI1_ok, mn] at start
  by_cases q : inN x (min n 150 + 1)
  · sorry
  · rw [g2 q] at start
    refine opw_e wr h (e := 2) (c := 1) (Or.inr rfl) rfl (by decide) (Ag.refl _ _) (σ' := σ) start (fun τ g' => ?_)
    have g3 := g'.th
    have e1 : mI (wI τ 53 0 0) 53 1 = nI n := by rw [w53n _ (show (1 : Nat) ≠ 0 by decide)]; exact g'.2.1.2.2.2.1
    have bad : rn (d + 31) 201 30 [.ref 53, .int x] [.int 1, .ref 53] (wI τ 53 0 0) = some (.inl (.int 0), exM τ 1 2) := by
      rw [e_M_law_30, m_bx1 g'.sh (by decide), cI_ok, if_neg (show ¬ (1 : Int32) = 0 by decide), nar0]
    rw [e_M_law (d + 30) 53 x τ (by rw [k_53 g'.sh]), xs_53 g'.sh, xg_53 g3.sh, e1, m_inN (m := n) (by omega) x, cI1_ok]
    by_cases z : inN x (n + 1)
    · rw [@i01_p _ (Classical.propDecidable _) z, if_neg (show ¬ (1 : Int32) = 0 by decide)]
      obtain ⟨k, hk, rfl⟩ := z
      rw [if_neg (show ¬ nI k ≤ (150 : Int32) from nI_ge (a := 150) (by
        by_cases y : k ≤ 150
        · exact absurd ⟨k, by omega, rfl⟩ q
        · omega) (by omega)), e_M_law_25]
      exact bad
    · rw [@i01_n _ (Classical.propDecidable _) z, if_pos (show (0 : Int32) = 0 from rfl), e_M_law_25]
      exact bad
end LawOp
