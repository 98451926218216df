/-! the reference's images, brought back -/
section BringV
variable {σ τ υ φ : mm_M} {d : Nat} {K : Nat}
theorem p_puts1 (h : Sh τ) (hK : K < 3) {s : Nat} (e : mI τ 53 37 = nI s) (hs : s < 1344) (v : Int32) : ev d 270 [.ref 53, .ref (553 + K), .int v, .int 1] τ = some (.inl (.int (mI τ (553 + K) s)), wI τ 53 37 (nI (s + 1))) := by
  have s1 : Sh (wI τ 53 37 (nI (s + 1))) := h
  rw [e_M_puts d 53 (553 + K) v 1 τ (by rw [k_53 h]), if_neg (show ¬ (1 : Int32) = 0 by decide), e_M_puts_11, xg_53 h, e, xs_53 h, nI_1, xg_53 s1, w53e, show nI (s + 1) - (1 : Int32) = nI s from pk_sub (b := 1) (by omega), xa_r552 s1 hK hs, rI_o (show 553 + K ≠ 53 by omega), nar0]
theorem q_now (hK : K < 3) : ∀ m i τ, Sh τ → mI τ 53 37 = nI (1 + i) → 79 - i = m → i ≤ 79 → ∃ τ', rn (d + 1) 271 21 [.ref 53, .ref (553 + K), .int 1, .int (nI i), uv] [] τ = rn (d + 1) 271 53 [.ref 53, .ref (553 + K), .int 1, .int 0, uv] [] τ' ∧ mI τ' 53 37 = nI 80 ∧ AgM (fun x => x = 533) (fun x => x = 37) τ τ' ∧ (∀ j, i ≤ j → j < 79 → mI τ' 533 j = mI τ (553 + K) (1 + j)) ∧ ∀ j, j < i ∨ 79 ≤ j → mI τ' 533 j = mI τ 533 j
  | 0, i, τ, h, e, hm, hi => by
    have : i = 79 := by omega
    subst this
    rw [e_M_putsAll_21, if_pos (show (79 : Int32) ≤ nI 79 by decide)]
    exact ⟨τ, rfl, e, AgM.refl _ _ _, fun j a c => by omega, fun _ _ => rfl⟩
  | m + 1, i, τ, h, e, hm, hi => by
    have s1 : Sh (wI τ 53 37 (nI (1 + i + 1))) := h
    have s2 : Sh (wI (wI τ 53 37 (nI (1 + i + 1))) 533 i (mI τ (553 + K) (1 + i))) := h
    obtain ⟨τ', r1, r2, r3, r4, r5⟩ := q_now hK m (i + 1) (wI (wI τ 53 37 (nI (1 + i + 1))) 533 i (mI τ (553 + K) (1 + i))) s2 (by rw [rI_o (by decide), w53e]; rfl) (by omega) (by omega)
    have a : AgM (fun x => x = 533) (fun x => x = 37) τ (wI (wI τ 53 37 (nI (1 + i + 1))) 533 i (mI τ (553 + K) (1 + i))) := by
      refine (AgM.w53 (F := fun x => x = 37) (AgM.refl (fun x => x = 533) _ τ) rfl (nI (1 + i + 1))).trans ?_
      exact AgM.of (S := fun x => x = 533) (Ag.wI (S := fun x => x = 533) (Ag.refl _ _) rfl _ _) (fun _ q => q) (by omega)
    refine ⟨τ', ?_, r2, a.trans r3, fun j p q => ?_, fun j p => ?_⟩
    · rw [e_M_putsAll_21, if_neg (show ¬ (79 : Int32) ≤ nI i from nI_ge (b := 79) (by omega) (by omega)), xr_53_29 h, xr_53_29 h, xa_533 h (by omega), p_puts1 h hK e (by omega), cI_ok, xt_533 s1 (by omega), nI_1]
      exact r1
    · by_cases z : j = i
      · subst z
        rw [r5 j (Or.inl (by omega)), rI_w, if_pos ⟨rfl, rfl⟩]
      · rw [r4 j (by omega) q, rI_o (by omega), rI_o (by omega)]
    · rw [r5 j (by omega), rI_w, if_neg (by omega), rI_o (by decide)]
theorem q_row (hK : K < 3) {i : Nat} (hi : i < 16) : ∀ m j τ, Sh τ → mI τ 53 37 = nI (80 + 79 * i + j) → 79 - j = m → j ≤ 79 → ∃ τ', rn (d + 1) 271 62 [.ref 53, .ref (553 + K), .int 1, .int (nI i), .int (nI j)] [] τ = rn (d + 1) 271 53 [.ref 53, .ref (553 + K), .int 1, .int (nI (i + 1)), .int (nI 79)] [] τ' ∧ mI τ' 53 37 = nI (80 + 79 * (i + 1)) ∧ AgM (fun x => x = 536 + i) (fun x => x = 37) τ τ' ∧ (∀ q, j ≤ q → q < 79 → mI τ' (536 + i) q = mI τ (553 + K) (80 + 79 * i + q)) ∧ ∀ q, q < j → mI τ' (536 + i) q = mI τ (536 + i) q
  | 0, j, τ, h, e, hm, hj => by
    have : j = 79 := by omega
    subst this
    rw [e_M_putsAll_62, if_pos (show (79 : Int32) ≤ nI 79 by decide), nI_1]
    exact ⟨τ, rfl, by rw [e]; rfl, AgM.refl _ _ _, fun j a c => by omega, fun _ _ => rfl⟩
  | m + 1, j, τ, h, e, hm, hj => by
    have s1 : Sh (wI τ 53 37 (nI (80 + 79 * i + j + 1))) := h
    have s2 : Sh (wI (wI τ 53 37 (nI (80 + 79 * i + j + 1))) (536 + i) j (mI τ (553 + K) (80 + 79 * i + j))) := h
    obtain ⟨τ', r1, r2, r3, r4, r5⟩ := q_row hK hi m (j + 1) (wI (wI τ 53 37 (nI (80 + 79 * i + j + 1))) (536 + i) j (mI τ (553 + K) (80 + 79 * i + j))) s2 (by rw [rI_o (by omega), w53e]; rfl) (by omega) (by omega)
    have a : AgM (fun x => x = 536 + i) (fun x => x = 37) τ (wI (wI τ 53 37 (nI (80 + 79 * i + j + 1))) (536 + i) j (mI τ (553 + K) (80 + 79 * i + j))) := by
      refine (AgM.w53 (F := fun x => x = 37) (AgM.refl (fun x => x = 536 + i) _ τ) rfl (nI (80 + 79 * i + j + 1))).trans ?_
      exact AgM.of (S := fun x => x = 536 + i) (Ag.wI (S := fun x => x = 536 + i) (Ag.refl _ _) rfl _ _) (fun _ q => q) (by omega)
    refine ⟨τ', ?_, r2, a.trans r3, fun q p c => ?_, fun q p => ?_⟩
    · rw [e_M_putsAll_62, if_neg (show ¬ (79 : Int32) ≤ nI j from nI_ge (b := 79) (by omega) (by omega)), xr_53_31 h, xR_535 h hi, xr_53_31 h, xR_535 h hi, xa_r535 h hi (by omega), p_puts1 h hK e (by omega), cI_ok, xt_r535 s1 hi (by omega), nI_1]
      exact r1
    · by_cases z : q = j
      · subst z
        rw [r5 q (by omega), rI_w, if_pos ⟨rfl, rfl⟩]
      · rw [r4 q (by omega) c, rI_o (by omega), rI_o (by omega)]
    · rw [r5 q (by omega), rI_w, if_neg (by omega), rI_o (by omega)]
theorem q_rows (hK : K < 3) : ∀ m i τ v, Sh τ → mI τ 53 37 = nI (80 + 79 * i) → 16 - i = m → i ≤ 16 → ∃ τ', rn (d + 1) 271 53 [.ref 53, .ref (553 + K), .int 1, .int (nI i), v] [] τ = some (.inl uv, τ') ∧ AgM (fun x => 536 + i ≤ x ∧ x ≤ 551) (fun x => x = 37) τ τ' ∧ ∀ q, i ≤ q → q < 16 → ∀ j, j < 79 → mI τ' (536 + q) j = mI τ (553 + K) (80 + 79 * q + j)
  | 0, i, τ, v, h, e, hm, hi => by
    have : i = 16 := by omega
    subst this
    rw [e_M_putsAll_53, if_pos (show (16 : Int32) ≤ nI 16 by decide)]
    exact ⟨τ, rfl, AgM.refl _ _ _, fun j a c => by omega⟩
  | m + 1, i, τ, v, h, e, hm, hi => by
    obtain ⟨τ1, r1, r2, r3, r4, r5⟩ := q_row (d := d) hK (i := i) (by omega) _ 0 τ h e rfl (by decide)
    obtain ⟨τ', q1, q2, q3⟩ := q_rows hK m (i + 1) τ1 (.int (nI 79)) (r3.sh h) r2 (by omega) (by omega)
    refine ⟨τ', ?_, (r3.mono (fun x q => by omega) (fun _ q => q)).trans (q2.mono (fun x q => by omega) (fun _ q => q)), fun q a c j hj => ?_⟩
    · rw [e_M_putsAll_53, if_neg (show ¬ (16 : Int32) ≤ nI i from nI_ge (b := 16) (by omega) (by omega)), ← q1]
      exact r1
    · by_cases z : q = i
      · subst z
        rw [q2.at (by omega) (by omega)]
        exact r4 j (Nat.zero_le _) hj
      · rw [q3 q (by omega) c j hj, r3.at (by omega) (by omega)]
theorem p_bring (h : Sh σ) (hK : K < 3) : ∃ τ', ev (d + 1) 271 [.ref 53, .ref (553 + K), .int 1] σ = some (.inl uv, τ') ∧ AgM (fun x => x = 533 ∨ (536 ≤ x ∧ x ≤ 551)) (fun x => x = 37 ∨ x = 34) σ τ' ∧ mI τ' 53 34 = mI σ (553 + K) 0 ∧ (∀ j, j < 79 → mI τ' 533 j = mI σ (553 + K) (1 + j)) ∧ (∀ j, 79 ≤ j → mI τ' 533 j = mI σ 533 j) ∧ ∀ q, q < 16 → ∀ j, j < 79 → mI τ' (536 + q) j = mI σ (553 + K) (80 + 79 * q + j) := by
  have s0 : Sh (wI σ 53 37 0) := h
  have s1 : Sh (wI (wI σ 53 37 0) 53 37 (nI (0 + 1))) := h
  have s2 : Sh (wI (wI (wI σ 53 37 0) 53 37 (nI (0 + 1))) 53 34 (mI σ (553 + K) 0)) := h
  have a0 : AgM (fun x => x = 533 ∨ (536 ≤ x ∧ x ≤ 551)) (fun x => x = 37 ∨ x = 34) σ (wI (wI (wI σ 53 37 0) 53 37 (nI (0 + 1))) 53 34 (mI σ (553 + K) 0)) := AgM.w53 (AgM.w53 (AgM.w53 (AgM.refl _ _ σ) (Or.inl rfl) _) (Or.inl rfl) _) (Or.inr rfl) _
  obtain ⟨τ1, r1, r2, r3, r4, r5⟩ := q_now (d := d) hK _ 0 _ s2 (by rw [w53n _ (show (37 : Nat) ≠ 34 by decide), w53e]) rfl (by decide)
  obtain ⟨τ', q1, q2, q3⟩ := q_rows (d := d) hK _ 0 τ1 uv (r3.sh s2) r2 rfl (by decide)
  have eR : mI (wI (wI (wI σ 53 37 0) 53 37 (nI (0 + 1))) 53 34 (mI σ (553 + K) 0)) (553 + K) = mI σ (553 + K) := by rw [rI_o (by omega), rI_o (by omega), rI_o (by omega)]
  refine ⟨τ', ?_, (a0.trans (r3.mono (fun x q => Or.inl q) (fun _ q => Or.inl q))).trans (q2.mono (fun x q => by omega) (fun _ q => Or.inl q)), ?_, fun j hj => ?_, fun j hj => ?_, fun q hq j hj => ?_⟩
  · rw [e_M_putsAll d 53 (553 + K) 1 σ (by rw [k_53 h]), xs_53 h, xg_53 s0, p_puts1 s0 hK (s := 0) (w53e _ _ _) (by decide), cI_ok, rI_o (show 553 + K ≠ 53 by omega), xs_53 s1, ← q1]
    exact r1
  · rw [q2.f (by omega), r3.f (by omega), w53e]
  · rw [q2.at (by decide) (by omega), r4 j (Nat.zero_le _) hj, eR]
  · rw [q2.at (by decide) (by omega), r5 j (Or.inr hj), rI_o (by decide), rI_o (by decide), rI_o (by decide)]
  · rw [q3 q (Nat.zero_le _) hq j hj, r3.at (by omega) (by omega), eR]
end BringV
