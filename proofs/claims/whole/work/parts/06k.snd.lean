/-! one step: what it keeps, and what the real machine does -/
def GO (L : Nat) (xs : Nat → Int32) (σ τ : mm_M) : Prop := WF L xs τ ∧ tt σ ≤ tt τ ∧ mS σ ≤ mS τ
theorem GO.trans {L : Nat} {xs : Nat → Int32} {a b c : mm_M} (h1 : GO L xs a b) (h2 : GO L xs b c) : GO L xs a c := ⟨h2.1, Nat.le_trans h1.2.1 h2.2.1, Nat.le_trans h1.2.2 h2.2.2⟩
theorem go_refl {L : Nat} {xs : Nat → Int32} {a : mm_M} (h : WF L xs a) : GO L xs a a := ⟨h, Nat.le_refl _, Nat.le_refl _⟩
theorem tt_mA (σ : mm_M) (k : Nat × Nat) (n : Nat) : tt (mA σ k n) = tt σ + 1 := by show mN σ + 1 + mX σ = mN σ + mX σ + 1; omega
theorem tt_mG (σ : mm_M) (n k : Nat) : tt (mG σ n k) = tt σ + 1 + n := by show mN σ + 1 + n + mX σ = mN σ + mX σ + 1 + n; omega
theorem tt_mT (σ : mm_M) : tt (mT σ) = tt σ + 1 := by show mN σ + (mX σ + 1) = mN σ + mX σ + 1; omega
theorem mS_mA (σ : mm_M) (k : Nat × Nat) (n : Nat) : mS (mA σ k n) = mS σ + n := rfl
theorem mS_mG (σ : mm_M) (n k : Nat) : mS (mG σ n k) = mS σ + n + n * k := rfl
theorem mS_mT (σ : mm_M) : mS (mT σ) = mS σ + 6 := rfl
theorem go_mA {L : Nat} {xs : Nat → Int32} {σ τ : mm_M} {k : Nat × Nat} {n : Nat} (h : GO L xs (mA σ k n) τ) : GO L xs σ τ := ⟨h.1, by have := h.2.1; rw [tt_mA] at this; omega, by have := h.2.2; rw [mS_mA] at this; omega⟩
theorem go_mG {L : Nat} {xs : Nat → Int32} {σ τ : mm_M} {n k : Nat} (h : GO L xs (mG σ n k) τ) : GO L xs σ τ := ⟨h.1, by have := h.2.1; rw [tt_mG] at this; omega, by have := h.2.2; rw [mS_mG] at this; omega⟩
theorem go_mT {L : Nat} {xs : Nat → Int32} {σ : mm_M} (h : WF L xs σ) : GO L xs σ (mT σ) := ⟨wf_mT h, by rw [tt_mT]; omega, by rw [mS_mT]; omega⟩
theorem tB_some {σ : mm_M} {a : Nat} {i v : Int32} {k : mm_M → Option mm_R} {q : mm_R} (h : tB σ a i v k = some q) :
    ((mK σ a).1 = 3 ∧ (¬ i < 0 ∧ i.toNatClampNeg < (mK σ a).2) ∧ k (wI σ a (ix i) (vp_nar .byte v)) = some q) ∨ ((mK σ a).1 = 4 ∧ (¬ i < 0 ∧ i.toNatClampNeg < (mK σ a).2) ∧ k (wI σ a (ix i) (vp_nar .boolean v)) = some q) := by
  unfold tB at h
  split at h
  · rename_i hc; exact Or.inl ⟨hc.1, hc.2, h⟩
  · split at h
    · rename_i hc; exact Or.inr ⟨hc.1, hc.2, h⟩
    · cases h
theorem put_y {m pc j nx x y z w : Nat} {v : Int32} (hc : chk m (pc, .putfield j, nx, v, x, y, z, w) = true) : y < 13 := by
  have hl := lnk_of hc
  simp only [chkL, Bool.and_eq_true] at hl
  have h1 := hl.1
  split at h1
  · simp only [Bool.and_eq_true] at h1; exact (kf_use h1.1.1).1
  · simp only [Bool.or_eq_true] at h1
    rcases h1 with h1 | h1
    · exact (kf_use h1).1
    · exact (kn_use h1).1
theorem new_x {m pc j nx x y w : Nat} {v : Int32} (hc : chk m (pc, .new j, nx, v, x, y, 0, w) = true) : x < 13 := by
  have hl := lnk_of hc
  simp only [chkL, Bool.and_eq_true] at hl
  obtain ⟨q, hq⟩ := has4_mem hl.1
  have hm := List.all_eq_true.mp kc_ok _ hq
  simp only [Bool.and_eq_true, decide_eq_true_eq] at hm
  exact hm.2
theorem newa_x {m pc nx x y z w : Nat} {t : ArrayType} {v : Int32} (hc : chk m (pc, .newarray t, nx, v, x, y, z, w) = true) : 1 ≤ x ∧ x ≤ 5 := by
  have hl := lnk_of hc
  cases t <;> simp only [chkL] at hl <;> first | (have := Nat.eq_of_beq_eq_true hl; omega) | cases hl
theorem ckp_all : ∀ m, m < 306 → (yk m = 2 → yp m ≤ mx m) ∧ (yk m ≠ 2 → yp m + 1 ≤ mx m) := by decide +kernel
theorem mmx_all : ∀ m, m < 307 → mmax.getD m 0 = mx m := by decide +kernel
theorem stat_x {m pc j nx x y z w : Nat} {v : Int32} (hz : z ≠ 3) (hc : chk m (pc, .invokestatic j, nx, v, x, y, z, w) = true) : x < 306 ∧ y ≤ mx x := by
  have hl := lnk_of hc
  simp only [chkL, Bool.and_eq_true, Bool.or_eq_true] at hl
  have hx : x < 306 := by
    rcases hl.1.1.1 with h | h
    · exact (km_use h).1
    · exact (kw_use h).1
  have h2 := Nat.eq_of_beq_eq_true hl.1.1.2
  have h3 := Nat.eq_of_beq_eq_true hl.1.2
  exact ⟨hx, by rw [h3]; exact (ckp_all x hx).1 h2⟩
theorem virt_x {m pc j nx x y z w : Nat} {v : Int32} (hc : chk m (pc, .invokevirtual j, nx, v, x, y, z, w) = true) : x < 306 ∧ yk x = 0 ∧ y ≤ mx x := by
  have hl := lnk_of hc
  simp only [chkL, Bool.and_eq_true] at hl
  obtain ⟨⟨⟨h1, h2⟩, h3⟩, -⟩ := hl
  have h2 := Nat.eq_of_beq_eq_true h2
  have h3 := Nat.eq_of_beq_eq_true h3
  suffices hx : x < 306 from ⟨hx, h2, by rw [h3]; exact (ckp_all x hx).2 (by omega)⟩
  split at h1 <;> simp only [Bool.and_eq_true] at h1
  · exact (km_use h1.1).1
  · exact (kw_use h1.1).1
theorem spec_x {m pc j nx x y z w : Nat} {v : Int32} (hz : z ≠ 2) (hc : chk m (pc, .invokespecial j, nx, v, x, y, z, w) = true) : x < 306 ∧ yk x = 1 ∧ y ≤ mx x := by
  have hl := lnk_of hc
  simp only [chkL, Bool.and_eq_true, Bool.or_eq_true] at hl
  have h2 := Nat.eq_of_beq_eq_true hl.1.1.2
  have h3 := Nat.eq_of_beq_eq_true hl.1.2
  suffices hx : x < 306 from ⟨hx, h2, by rw [h3]; exact (ckp_all x hx).2 (by omega)⟩
  rcases hl.1.1.1 with h | h
  · exact (km_use h).1
  · exact (kw_use h).1
/-- the receiver that a call has looked at -/
theorem rok_inv {x : Nat} {as : List Value} {σ : mm_M} (hx : x < 306) (hk : yk x ≠ 2) (h : rokb x as σ = true) : ∃ b t, as = .ref b :: t ∧ (mK σ b).1 = mrcv.getD x 0 := by
  have hp : 0 < mrcv.getD x 0 := by rcases ckr_all x hx hk with ⟨h1, -⟩ | ⟨h1, -⟩ <;> omega
  unfold rokb at h
  split at h
  · cases h
  · split at h
    · rename_i h0; omega
    · rename_i k h0
      split at h
      · exact ⟨_, _, rfl, (Nat.eq_of_beq_eq_true h).trans h0.symm⟩
      · cases h
theorem rok_ok {x : Nat} {as : List Value} {σ : mm_M} (h : rokb x as σ = true) : ∀ v ∈ as, okv v = true := by
  unfold rokb at h
  split at h
  · cases h
  · rename_i h0; exact List.all_eq_true.mp h0
theorem hnil_of {m : Nat} (hm : m < 307) (h : mhnd m = []) : yh m = [] := by
  have hc := ckh_all m hm
  unfold ckh at hc
  rw [h] at hc
  split at hc
  · assumption
  · rename_i h2; cases h2
  · rename_i h2; cases h2
  · cases hc
set_option maxHeartbeats 4000000 in
theorem wf_step {L : Nat} {xs : Nat → Int32} {m pc : Nat} {hh : List (Nat × Int32)} {K S : Nat → List Value → List Value → mm_M → Option mm_R} {C : Nat → List Value → mm_M → Option mm_R} {e : mm_E} {ls st : List Value} {σ : mm_M} {q : mm_R}
    (hfd : mfind pc (mcode m) = some e) (hw : WF L xs σ) (hK : ∀ pc ls st σ, WF L xs σ → K pc ls st σ = some q → GO L xs σ q.2) (hS : ∀ pc ls st σ, WF L xs σ → S pc ls st σ = some q → GO L xs σ q.2)
    (hC : ∀ x as σ r τ, WF L xs σ → C x as σ = some (r, τ) → GO L xs σ τ) (h : mm_step hh K S C e ls st σ = some q) : GO L xs σ q.2 := by
  obtain ⟨hc, he⟩ := chk_of hfd
  obtain ⟨pc1, i, nx, v, x, y, z, w⟩ := e
  have he : pc1 = pc := he
  subst he
  cases i
  case putfield j =>
    have hy := put_y hc
    simp only [mm_step] at h
    split at h
    · replace h := pI_some h
      obtain ⟨b, t, rfl, h⟩ := h
      replace h := pR_some h
      obtain ⟨a, t, rfl, h⟩ := h
      replace h := ite_some h
      obtain ⟨hk, h⟩ := h
      have g := hK _ _ _ _ (wf_wI hw (wf_dyn (a := a) hw (Or.inr (by omega)))) h
      exact g
    · replace h := pR_some h
      obtain ⟨b, t, rfl, h⟩ := h
      replace h := pR_some h
      obtain ⟨a, t, rfl, h⟩ := h
      replace h := ite_some h
      obtain ⟨hk, h⟩ := h
      have g := hK _ _ _ _ (wf_wR hw (wf_dyn (a := a) hw (Or.inr (by omega)))) h
      exact g
  case iastore =>
    simp only [mm_step] at h
    replace h := pI_some h
    obtain ⟨b, t, rfl, h⟩ := h
    replace h := pI_some h
    obtain ⟨i, t, rfl, h⟩ := h
    replace h := pR_some h
    obtain ⟨a, t, rfl, h⟩ := h
    replace h := ite_some h
    obtain ⟨hk, h⟩ := h
    have g := hK _ _ _ _ (wf_wI hw (wf_dyn (a := a) hw (Or.inl (by omega)))) h
    exact g
  case bastore =>
    simp only [mm_step] at h
    replace h := pI_some h
    obtain ⟨b, t, rfl, h⟩ := h
    replace h := pI_some h
    obtain ⟨i, t, rfl, h⟩ := h
    replace h := pR_some h
    obtain ⟨a, t, rfl, h⟩ := h
    rcases tB_some h with ⟨hk, -, h⟩ | ⟨hk, -, h⟩
    · have g := hK _ _ _ _ (wf_wI hw (wf_dyn (a := a) hw (Or.inl (by omega)))) h
      exact g
    · have g := hK _ _ _ _ (wf_wI hw (wf_dyn (a := a) hw (Or.inl (by omega)))) h
      exact g
  case lastore =>
    simp only [mm_step] at h
    replace h := pL_some h
    obtain ⟨b, t, rfl, h⟩ := h
    replace h := pI_some h
    obtain ⟨i, t, rfl, h⟩ := h
    replace h := pR_some h
    obtain ⟨a, t, rfl, h⟩ := h
    replace h := ite_some h
    obtain ⟨hk, h⟩ := h
    have g := hK _ _ _ _ (wf_wL hw) h
    exact g
  case new j =>
    cases z with
    | zero =>
      have h13 := new_x hc
      simp only [mm_step] at h
      replace h := ite_some h
      obtain ⟨hX, h⟩ := h
      exact go_mA (hK _ _ _ _ (wf_mA hw hX.2 (Or.inr (by show 100 ≤ 100 + x ∧ 100 + x < 113; omega))) h)
    | succ z =>
      simp only [mm_step] at h
      replace h := gd_some h
      obtain ⟨-, h⟩ := h
      cases h
      exact go_mT hw
  case newarray t =>
    have h5 := newa_x hc
    simp only [mm_step] at h
    replace h := pI_some h
    obtain ⟨n, t, rfl, h⟩ := h
    replace h := ite_some h
    obtain ⟨hX, h⟩ := h
    exact go_mA (hK _ _ _ _ (wf_mA hw hX.2.1 (Or.inl h5)) h)
  case multianewarray j dm =>
    simp only [mm_step] at h
    replace h := pI_some h
    obtain ⟨k, t, rfl, h⟩ := h
    replace h := pI_some h
    obtain ⟨n, t, rfl, h⟩ := h
    replace h := ite_some h
    obtain ⟨hX, h⟩ := h
    exact go_mG (hK _ _ _ _ (wf_mG hw hX.2.1) h)
  case invokespecial j =>
    simp only [mm_step] at h
    split at h
    · replace h := pR_some h
      obtain ⟨a, t, rfl, h⟩ := h
      replace h := gd_some h
      obtain ⟨-, h⟩ := h
      exact hK _ _ _ _ hw h
    · replace h := pA_some h
      obtain ⟨as, t, rfl, -, -, h⟩ := h
      replace h := cV1_some h
      obtain ⟨r, τ, hx, h⟩ := h
      have g := hC _ _ _ _ _ hw hx
      exact g.trans (hK _ _ _ _ g.1 h)
  case invokestatic j =>
    simp only [mm_step] at h
    split at h
    · replace h := pI_some h
      obtain ⟨n, t, rfl, h⟩ := h
      replace h := pI_some h
      obtain ⟨dp, t, rfl, h⟩ := h
      replace h := pR_some h
      obtain ⟨b, t, rfl, h⟩ := h
      replace h := pI_some h
      obtain ⟨sp, t, rfl, h⟩ := h
      replace h := pR_some h
      obtain ⟨a, t, rfl, h⟩ := h
      replace h := gd_some h
      obtain ⟨-, h⟩ := h
      replace h := ite_some h
      obtain ⟨hk, h⟩ := h
      have g := hK _ _ _ _ (wf_wA hw (wf_dyn (a := b) hw (Or.inl (by omega)))) h
      exact g
    · replace h := pA_some h
      obtain ⟨as, t, rfl, -, -, h⟩ := h
      split at h
      · replace h := cV1_some h
        obtain ⟨r, τ, hx, h⟩ := h
        have g := hC _ _ _ _ _ hw hx
        exact g.trans (hK _ _ _ _ g.1 h)
      · replace h := cI1_some h
        obtain ⟨r, τ, hx, h⟩ := h
        have g := hC _ _ _ _ _ hw hx
        exact g.trans (hK _ _ _ _ g.1 h)
      · replace h := cL1_some h
        obtain ⟨r, τ, hx, h⟩ := h
        have g := hC _ _ _ _ _ hw hx
        exact g.trans (hK _ _ _ _ g.1 h)
  case invokevirtual j =>
    simp only [mm_step] at h
    replace h := pA_some h
    obtain ⟨as, t, rfl, -, -, h⟩ := h
    split at h
    · split at h
      · split at h
        · rcases cV_some h with ⟨r, τ, hx, h⟩ | ⟨E, τ, hx, rfl⟩
          · have g := hC _ _ _ _ _ hw hx
            exact g.trans (hK _ _ _ _ g.1 h)
          · exact hC _ _ _ _ _ hw hx
        · rcases cI_some h with ⟨r, τ, hx, h⟩ | ⟨E, τ, hx, rfl⟩
          · have g := hC _ _ _ _ _ hw hx
            exact g.trans (hK _ _ _ _ g.1 h)
          · exact hC _ _ _ _ _ hw hx
        · rcases cL_some h with ⟨r, τ, hx, h⟩ | ⟨E, τ, hx, rfl⟩
          · have g := hC _ _ _ _ _ hw hx
            exact g.trans (hK _ _ _ _ g.1 h)
          · exact hC _ _ _ _ _ hw hx
      · split at h
        · cases h
        · rcases cIh_some h with ⟨r, τ, hx, h⟩ | ⟨E, τ, n, hx, -, rfl⟩
          · have g := hC _ _ _ _ _ hw hx
            exact g.trans (hK _ _ _ _ g.1 h)
          · exact hC _ _ _ _ _ hw hx
        · rcases cLh_some h with ⟨r, τ, hx, h⟩ | ⟨E, τ, n, hx, -, rfl⟩
          · have g := hC _ _ _ _ _ hw hx
            exact g.trans (hK _ _ _ _ g.1 h)
          · exact hC _ _ _ _ _ hw hx
    · split at h
      · replace h := cV1_some h
        obtain ⟨r, τ, hx, h⟩ := h
        have g := hC _ _ _ _ _ hw hx
        exact g.trans (hK _ _ _ _ g.1 h)
      · replace h := cI1_some h
        obtain ⟨r, τ, hx, h⟩ := h
        have g := hC _ _ _ _ _ hw hx
        exact g.trans (hK _ _ _ _ g.1 h)
      · replace h := cL1_some h
        obtain ⟨r, τ, hx, h⟩ := h
        have g := hC _ _ _ _ _ hw hx
        exact g.trans (hK _ _ _ _ g.1 h)
  all_goals simp only [mm_step] at h
  all_goals (try (cases h; done))
  all_goals repeat' (first | exact hK _ _ _ _ hw h | exact hS _ _ _ _ hw h | (cases h; exact go_refl hw) | (cases h; done) | (replace h := pI_some h; obtain ⟨_, _, rfl, h⟩ := h) | (replace h := pL_some h; obtain ⟨_, _, rfl, h⟩ := h) | (replace h := pR_some h; obtain ⟨_, _, rfl, h⟩ := h) | (replace h := oI_some h; obtain ⟨_, _, h⟩ := h) | (replace h := oL_some h; obtain ⟨_, _, h⟩ := h) | (replace h := oR_some h; obtain ⟨_, _, h⟩ := h) | (replace h := gR_some h; obtain ⟨_, _, _, h⟩ := h) | (replace h := aR_some h; obtain ⟨_, _, _, h⟩ := h) | (replace h := itn_some h; obtain ⟨_, h⟩ := h) | (replace h := ite_some h; obtain ⟨_, h⟩ := h) | split at h)
