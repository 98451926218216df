/-! told, street, way, and the small ones -/
section Ask4
variable {σ τ σ' τ' υ φ : mm_M} {t : Nat → Nat} {n : Nat} {l : Ln} {many : Nat} {cs : Nat → Int32} {w K : Nat} {b : List (Nat × Nat)} {d : Nat} {R S : Option mm_R}
/-- any two guards -/
theorem op_x {mc mr e1 e2 : Nat} {c1 c2 : Int32} {P Q : Ln → Prop} {asc asm : List Value} {f g : mm_M → Option mm_R} {H : List (Nat × Int32)} (h1 : (e1 = 1 ∨ e1 = 2) ∧ hget H e1 = some c1 ∧ c1 ≠ 0) (h2 : (e2 = 1 ∨ e2 = 2) ∧ hget H e2 = some c2 ∧ c2 ≠ 0)
    (hc : ∀ σ t n l many cs w K b, Iw σ t n l many cs w K b → (P l → Q l → ev (d + 30) mc asc σ = f σ) ∧ (¬ P l → ev (d + 30) mc asc σ = some (.inr e1, exC σ e1)) ∧ (P l → ¬ Q l → ev (d + 30) mc asc σ = some (.inr e2, exC σ e2)))
    (hm : ∀ σ t n l many cs w K b, Iw σ t n l many cs w K b → Iw (wI σ 53 0 0) t n l many cs w K b → (P l → Q l → ev (d + 31) mr asm σ = g (wI σ 53 0 0)) ∧ (¬ P l → ev (d + 31) mr asm σ = some (.inl (.int 0), exM σ c1 e1)) ∧ (P l → ¬ Q l → ev (d + 31) mr asm σ = some (.inl (.int 0), exM σ c2 e2)))
    (HH : ∀ σ τ t n l many cs w K b, B2 σ τ t n l many cs w K b → P l → Q l → Two σ τ (f σ) (g τ)) : OpQ (d + 30) mc asc (d + 31) mr asm H := by
  intro σ t n l many cs w K b h
  obtain ⟨a1, a2, a3⟩ := hc σ t n l many cs w K b h.1
  by_cases p : P l
  · by_cases q : Q l
    · left
      rw [a1 p q]
      refine two_q h (fun τ g' s => ?_)
      have g2 := g'.th
      rw [(hm τ t n l many cs w K b g'.1 g2.1).1 p q]
      exact (HH σ _ t n l many cs w K b ⟨h, g2, s.th, th0 τ⟩ p q).after (Ag.refl _ _) (AgM.th τ)
    · right
      rw [a3 p q]
      exact ⟨e2, c2, σ, h2.1, h2.2.1, h2.2.2, Ag.refl _ _, rfl, fun τ g' => (hm τ t n l many cs w K b g' g'.th).2.2 p q⟩
  · right
    rw [a2 p]
    exact ⟨e1, c1, σ, h1.1, h1.2.1, h1.2.2, Ag.refl _ _, rfl, fun τ g' => (hm τ t n l many cs w K b g' g'.th).2.1 p⟩
theorem fo_cut {f : Nat → Int32} {n : Nat} {s : Int32} : ∀ k, (∀ p, n ≤ p → p < n + k → f p = 0) → fo (n + k) (fun p s => s + f p) s = fo n (fun p s => s + f p) s
  | 0, _ => rfl
  | k + 1, h => by
    show fo (n + k) (fun p s => s + f p) s + f (n + k) = _
    rw [h (n + k) (by omega) (by omega), Int32.add_zero]
    exact fo_cut k (fun p a b => h p a (by omega))
theorem thU_all {f : Nat → Int32} {n : Nat} (hn : n ≤ 7) (h1 : ∀ p, p < 7 → ∃ t, t ≤ 99 ∧ f p = nI t) (h2 : ∀ p, n ≤ p → p < 7 → f p = 0) : thU 127 99 f = fo n (fun p s => s + f p) 0 := by
  have a : thU 127 99 f = fo 7 (fun p s => s + f p) 0 := by
    unfold thU
    refine fo_as 7 (fun p hp s => ?_)
    obtain ⟨t, ht, e⟩ := h1 p hp
    rw [if_neg (by rw [(show ∀ p, p < 7 → bt 127 p = 1 by decide) p hp]; decide), e]
    unfold mnn
    rw [if_neg (show ¬ (99 : Int32) < nI t from nI_nlt (a := 99) (by omega) (by omega))]
  rw [a, show 7 = n + (7 - n) by omega]
  exact fo_cut (7 - n) (fun p a b => h2 p a (by omega))
/-- all thirst; who grieves; who thirsts: a row on both sides -/
theorem row_all {m : Nat} {c r : Nat → Int32} (hm : m ≤ 7) (h : RP m c r) : thU 127 99 (fun p => c (10 + p)) = fo m (fun p s => s + r (7 + p)) 0 ∧ whoB 7 (fun p => c (3 + p)) = whoB m (fun p => r (0 + p)) ∧ whoB 7 (fun p => c (10 + p)) = whoB m (fun p => r (7 + p)) := by
  have row := h.1.1.2.2.1
  have g := h.2
  refine ⟨?_, ?_, ?_⟩
  · rw [thU_all hm (fun p hp => by (try dsimp only); rw [(row p hp).2.1]; exact g.2.2.1 p hp) (fun p a b => by (try dsimp only); rw [(row p b).2.1]; exact (g.1 p a b).2)]
    exact fo_as m (fun p hp s => by (try dsimp only); rw [(row p (by omega)).2.1])
  · rw [show 7 = m + (7 - m) by omega, whoB_cut (7 - m) (fun p a b => by (try dsimp only); rw [(row p (by omega)).1, (g.1 p a (by omega)).1]; decide)]
    exact whoB_as (fun p hp => by (try dsimp only); rw [(row p (by omega)).1, Nat.zero_add])
  · have : ∀ k, k = 7 - m → whoB (m + k) (fun p => c (10 + p)) = whoB m (fun p => r (7 + p)) := by
      intro k hk
      rw [whoB_cut k (fun p a b => by (try dsimp only); rw [(row p (by omega)).2.1, (g.1 p a (by omega)).2]; decide)]
      exact whoB_as (fun p hp => by (try dsimp only); rw [(row p (by omega)).2.1])
    have e := this (7 - m) rfl
    rw [show m + (7 - m) = 7 by omega] at e
    exact e
theorem told_body (h : B2 σ τ t n l many cs w K b) {k : Nat} (hk : k ≤ 11) :
    Two σ τ (rn (d + 30) 122 (swT 10 155 0 10 #[58, 69, 80, 91, 99, 107, 118, 126, 134, 142, 150] (nI k)) [.ref 0, .int (nI k)] [] σ) (rn (d + 31) 224 (swT 32 132 0 10 #[60, 60, 60, 67, 75, 83, 90, 100, 111, 122, 127] (nI k)) [.ref 53, .int (nI k)] [] τ) := by
  have hw := h.1.1
  have hg := h.2.1.1
  have h7 := hw.ok.1.1
  obtain ⟨l1, l2, l3, l4, l5⟩ := hw.cx.2.1.1
  obtain ⟨m1, m2, m3, m4, m5⟩ := hg.mx.2.1.1
  obtain ⟨r1, r2, r3⟩ := row_all h7 hw.row
  have row := hw.row.1
  have fin := fun v => Two.ok (σ := σ) h.2.2.2 v
  rcases (show k = 0 ∨ k = 1 ∨ k = 2 ∨ k = 3 ∨ k = 4 ∨ k = 5 ∨ k = 6 ∨ k = 7 ∨ k = 8 ∨ k = 9 ∨ k = 10 ∨ k = 11 by omega) with rfl | rfl | rfl | rfl | rfl | rfl | rfl | rfl | rfl | rfl | rfl | rfl
  · rw [show swT 10 155 0 10 #[58, 69, 80, 91, 99, 107, 118, 126, 134, 142, 150] (nI 0) = 68 by decide, show swT 32 132 0 10 #[60, 60, 60, 67, 75, 83, 90, 100, 111, 122, 127] (nI 0) = 92 by decide, e_W_told_68, xr_0_1 hw.sh, xr_3_1 hw.sh, xg_ld hw.sh hw.sh.ld, l1, e_M_told_92, xr_53_12 hg.sh, xa_57 hg.sh (by decide), m1]; exact fin _
  · rw [show swT 10 155 0 10 #[58, 69, 80, 91, 99, 107, 118, 126, 134, 142, 150] (nI 1) = 79 by decide, show swT 32 132 0 10 #[60, 60, 60, 67, 75, 83, 90, 100, 111, 122, 127] (nI 1) = 92 by decide, e_W_told_79, xr_0_1 hw.sh, xr_3_1 hw.sh, xg_ld hw.sh hw.sh.ld, l2, e_M_told_92, xr_53_12 hg.sh, xa_57 hg.sh (by decide), m2]; exact fin _
  · rw [show swT 10 155 0 10 #[58, 69, 80, 91, 99, 107, 118, 126, 134, 142, 150] (nI 2) = 90 by decide, show swT 32 132 0 10 #[60, 60, 60, 67, 75, 83, 90, 100, 111, 122, 127] (nI 2) = 92 by decide, e_W_told_90, xr_0_1 hw.sh, xr_3_1 hw.sh, xg_ld hw.sh hw.sh.ld, l3, e_M_told_92, xr_53_12 hg.sh, xa_57 hg.sh (by decide), m3]; exact fin _
  · rw [show swT 10 155 0 10 #[58, 69, 80, 91, 99, 107, 118, 126, 134, 142, 150] (nI 3) = 101 by decide, show swT 32 132 0 10 #[60, 60, 60, 67, 75, 83, 90, 100, 111, 122, 127] (nI 3) = 99 by decide, e_W_told_101, xr_0_3 hw.sh, c_dayNumber hw.sh da21, cI1_ok, show mI σ (21 + 1) = mI σ 22 from rfl, row.1.1, e_M_told_99, xr_53_29 hg.sh, show (78 : Int32) = nI 78 from rfl, xa_533 hg.sh (by decide), h.r]; exact fin _
  · rw [show swT 10 155 0 10 #[58, 69, 80, 91, 99, 107, 118, 126, 134, 142, 150] (nI 4) = 109 by decide, show swT 32 132 0 10 #[60, 60, 60, 67, 75, 83, 90, 100, 111, 122, 127] (nI 4) = 107 by decide, e_W_told_109, xr_0_3 hw.sh, c_jugWater hw.sh da21, cI1_ok, show mI σ (21 + 1) = mI σ 22 from rfl, row.1.2.1, e_M_told_107, xr_53_29 hg.sh, show (77 : Int32) = nI 77 from rfl, xa_533 hg.sh (by decide), h.r]; exact fin _
  · rw [show swT 10 155 0 10 #[58, 69, 80, 91, 99, 107, 118, 126, 134, 142, 150] (nI 5) = 117 by decide, show swT 32 132 0 10 #[60, 60, 60, 67, 75, 83, 90, 100, 111, 122, 127] (nI 5) = 115 by decide, e_W_told_117, xr_0_1 hw.sh, xr_3_1 hw.sh, xg_ld hw.sh hw.sh.ld, l5, e_M_told_115, xr_53_12 hg.sh, show (4 : Int32) = nI 4 from rfl, xa_57 hg.sh (by decide), m5]; exact fin _
  · rw [show swT 10 155 0 10 #[58, 69, 80, 91, 99, 107, 118, 126, 134, 142, 150] (nI 6) = 128 by decide, show swT 32 132 0 10 #[60, 60, 60, 67, 75, 83, 90, 100, 111, 122, 127] (nI 6) = 122 by decide, e_W_told_128, xr_0_3 hw.sh, c_grieving hw.sh da21, cI1_ok, show mI σ (21 + 1) = mI σ 22 from rfl, r2, e_M_told_122, xr_53_29 hg.sh, show (0 : Int32) = nI 0 from rfl, m_whoHas hg.sh (k_533 hg.sh) h7 m1 (by decide), cI_ok, h.r]; exact fin _
  · rw [show swT 10 155 0 10 #[58, 69, 80, 91, 99, 107, 118, 126, 134, 142, 150] (nI 7) = 136 by decide, show swT 32 132 0 10 #[60, 60, 60, 67, 75, 83, 90, 100, 111, 122, 127] (nI 7) = 132 by decide, e_W_told_136, xr_0_3 hw.sh, c_thirsty hw.sh da21, cI1_ok, show mI σ (21 + 1) = mI σ 22 from rfl, r3, e_M_told_132, xr_53_29 hg.sh, show (7 : Int32) = nI 7 from rfl, m_whoHas hg.sh (k_533 hg.sh) h7 m1 (by decide), cI_ok, h.r]; exact fin _
  · rw [show swT 10 155 0 10 #[58, 69, 80, 91, 99, 107, 118, 126, 134, 142, 150] (nI 8) = 144 by decide, show swT 32 132 0 10 #[60, 60, 60, 67, 75, 83, 90, 100, 111, 122, 127] (nI 8) = 143 by decide, e_W_told_144, xr_0_3 hw.sh, c_toldBits hw.sh da21, cI1_ok, show mI σ (21 + 1) = mI σ 22 from rfl, row.2, e_M_told_143, xr_53_29 hg.sh, show (14 : Int32) = nI 14 from rfl, m_whoHas hg.sh (k_533 hg.sh) h7 m1 (by decide), cI_ok, h.r]; exact fin _
  · have b1 := hw.2.2.2.2.2.2.2.1
    have b2 := hg.2.2.2.2.2.2.2.2.1
    rw [show swT 10 155 0 10 #[58, 69, 80, 91, 99, 107, 118, 126, 134, 142, 150] (nI 9) = 152 by decide, show swT 32 132 0 10 #[60, 60, 60, 67, 75, 83, 90, 100, 111, 122, 127] (nI 9) = 154 by decide, e_W_told_152, xr_0_11 hw.sh, xg_bk hw.sh hw.sh.bk, b1, e_M_told_154, xg_53 hg.sh, b2]; exact fin _
  · have b1 := h.2.1.2.1
    rw [show swT 10 155 0 10 #[58, 69, 80, 91, 99, 107, 118, 126, 134, 142, 150] (nI 10) = 160 by decide, show swT 32 132 0 10 #[60, 60, 60, 67, 75, 83, 90, 100, 111, 122, 127] (nI 10) = 159 by decide, e_W_told_160, xg_0 hw.sh, e_M_told_159, xg_53 hg.sh, b1, h.2.2.1.2.2.2]; exact fin _
  · rw [show swT 10 155 0 10 #[58, 69, 80, 91, 99, 107, 118, 126, 134, 142, 150] (nI 11) = 165 by decide, show swT 32 132 0 10 #[60, 60, 60, 67, 75, 83, 90, 100, 111, 122, 127] (nI 11) = 164 by decide, e_W_told_165, xr_0_3 hw.sh, c_allThirst hw.sh da21, cI1_ok, show mI σ (21 + 1) = mI σ 22 from rfl, r1, e_M_told_164, xr_53_29 hg.sh, show (7 : Int32) = nI 7 from rfl, m_sumOf hg.sh (k_533 hg.sh) h7 m1 (by decide), cI_ok, h.r]; exact fin _
theorem op_told (x : Int32) : OpQ (d + 30) 122 [.ref 0, .int x] (d + 31) 224 [.ref 53, .int x] [(2, 1)] :=
  op_r1 (M := 11) (A := fun c σ => rn (d + 31) 224 21 [.ref 53, .int x] [.int c, .ref 53] σ) (by decide)
    (fun σ h => e_W_told (d + 29) 0 x σ (by rw [k_0 h])) (fun σ h => e_M_told (d + 30) 53 x σ (by rw [k_53 h])) (fun c σ => e_M_told_21 (d + 30) 53 x c 53 σ)
    (fun σ τ t n l many cs w K b h k hk ex => by subst ex; exact told_body h hk)
theorem op_fault : OpN (d + 31) 120 [.ref 0] (d + 31) 207 [.ref 53] :=
  op_n (fun σ h => e_M_fault (d + 31) 53 σ (by rw [k_53 h])) (fun σ τ t n l many cs w K b h => by
    have hw := h.1.1
    have hg := h.2.1.1
    rw [e_W_fault (d + 31) 0 σ (by rw [k_0 hw.sh]), xr_0_0 hw.sh, xg_1 hw.sh, xg_53 hg.sh, hg.2.1.2.2.2.2, h.2.2.1.1 1 (by unfold fpI; omega)]
    exact Two.ok h.2.2.2 _)
end Ask4
