/-! the start, the loop, the law -/
theorem mA_new {z : mm_M} {a : Nat} (e : a = mN z) (k : Nat × Nat) (n : Nat) : mI (mA z k n) a = fun _ => 0 := by
  funext j
  show (if a = mN z then 0 else mI z a j) = 0
  rw [if_pos e]
theorem mA_old {z : mm_M} {a : Nat} (e : a ≠ mN z) (k : Nat × Nat) (n : Nat) : mI (mA z k n) a = mI z a := by
  funext j
  show (if a = mN z then 0 else mI z a j) = mI z a j
  rw [if_neg e]
theorem mG_old {z : mm_M} {a n : Nat} (e : ¬ (mN z ≤ a ∧ a < mN z + 1 + n)) (k : Nat) : mI (mG z n k) a = mI z a := by
  funext j
  show (if mN z ≤ a ∧ a < mN z + 1 + n then 0 else mI z a j) = mI z a j
  rw [if_neg e]
theorem zr_152 : mI zz_152 533 = fun _ => 0 := mA_new (show 533 = mN zz_151 by decide +kernel) _ _
theorem zr_153 : mI zz_153 533 = fun _ => 0 := zr_152
theorem zr_154 : mI zz_154 533 = fun _ => 0 := (mA_old (show 533 ≠ mN zz_153 by decide +kernel) _ _).trans zr_153
theorem zr_155 : mI zz_155 533 = fun _ => 0 := zr_154
theorem zr_156 : mI zz_156 533 = fun _ => 0 := (mG_old (show ¬ (mN zz_155 ≤ 533 ∧ 533 < mN zz_155 + 1 + ix 16) by decide +kernel) _).trans zr_155
theorem zr_157 : mI zz_157 533 = fun _ => 0 := zr_156
theorem zr_158 : mI zz_158 533 = fun _ => 0 := (mG_old (show ¬ (mN zz_157 ≤ 533 ∧ 533 < mN zz_157 + 1 + ix 3) by decide +kernel) _).trans zr_157
theorem zr_159 : mI zz_159 533 = fun _ => 0 := zr_158
theorem zr_160 : mI zz_160 533 = fun _ => 0 := (mA_old (show 533 ≠ mN zz_159 by decide +kernel) _ _).trans zr_159
theorem zr_161 : mI zz_161 533 = fun _ => 0 := zr_160
theorem zr_162 : mI zz_162 533 = fun _ => 0 := (mA_old (show 533 ≠ mN zz_161 by decide +kernel) _ _).trans zr_161
theorem zr_163 : mI zz_163 533 = fun _ => 0 := zr_162
theorem zr_164 : mI zz_164 533 = fun _ => 0 := (mA_old (show 533 ≠ mN zz_163 by decide +kernel) _ _).trans zr_163
theorem zr_165 : mI zz_165 533 = fun _ => 0 := zr_164
theorem zr_166 : mI zz_166 533 = fun _ => 0 := (mA_old (show 533 ≠ mN zz_165 by decide +kernel) _ _).trans zr_165
theorem zr_167 : mI zz_167 533 = fun _ => 0 := zr_166
theorem zr_168 : mI zz_168 533 = fun _ => 0 := (rI_o (by decide)).trans ((rI_o (by decide)).trans zr_167)
theorem zr_rz : RZ (mI zz_170 533) := fun k hk => by
  have e : mI zz_170 533 = mI zz_169 533 := mA_old (show 533 ≠ mN zz_169 by decide +kernel) _ _
  rw [e]
  show mI (wI (wI (wI zz_168 57 3 20) 57 4 2) 533 77 20) 533 k = 0
  rw [rI_w, if_neg (by omega), rI_o (by decide), rI_o (by decide), zr_168]
theorem zk_all : ∀ a, a < 561 → mK zz_170 a = kL.getD a (0, 0) := by decide +kernel
theorem zr_all : ∀ a, a < 561 → ∀ i, i < (rL.getD a []).length → (rL.getD a []).getD i none = none ∨ mR zz_170 a i = (rL.getD a []).getD i none := by decide +kernel
theorem rL_len : rL.length = 561 := by decide +kernel
theorem rr_z {a i v : Nat} (e : rr a i = some v) : a < 561 ∧ mR zz_170 a i = some v := by
  unfold rr at e
  by_cases ha : a < 561
  · refine ⟨ha, ?_⟩
    by_cases hi : i < (rL.getD a []).length
    · rcases zr_all a ha i hi with q | q
      · rw [q] at e; cases e
      · rw [q]; exact e
    · rw [List.getD_eq_getElem?_getD, List.getElem?_eq_none (by omega)] at e
      have e : (none : Option Nat) = some v := e
      cases e
  · have e0 : rL.getD a [] = [] := by
      rw [List.getD_eq_getElem?_getD, List.getElem?_eq_none (by rw [rL_len]; omega)]
      rfl
    rw [e0] at e
    have e : (none : Option Nat) = some v := e
    cases e
theorem k0_n {L a : Nat} (h : a ≠ 1000000) : k0 L a = k0 0 a := by
  unfold k0
  rw [if_neg h, if_neg h]
theorem i0_n {xs : Nat → Int32} {a : Nat} (h : a ≠ 1000000) : i0 xs a = i0 (fun _ => 0) a := by
  funext j
  unfold i0
  rw [if_neg h, if_neg h]
section LoopV
variable {L : Nat} {xs : Nat → Int32} {σ : mm_M} {d : Nat}
theorem sd_0 (L : Nat) (xs : Nat → Int32) : Sd L xs zz_0 (mm_0 L xs) := by
  refine ⟨rfl, rfl, rfl, fun a ha => ⟨k0_n (L := L) (by omega), rfl, i0_n (by omega)⟩, fun a ha => ⟨rfl, rfl, rfl⟩⟩
theorem sd_ld (h : Sd L xs zz_170 σ) : ldA σ = 5 ∧ lwA σ = 13 ∧ bkA σ = 49 := by
  refine ⟨?_, ?_, ?_⟩
  · unfold ldA; rw [h.r (by decide) (show mR zz_170 3 1 = some 5 by decide +kernel)]; rfl
  · unfold lwA; rw [h.r (by decide) (show mR zz_170 3 2 = some 13 by decide +kernel)]; rfl
  · unfold bkA; rw [h.r (by decide) (show mR zz_170 0 11 = some 49 by decide +kernel)]; rfl
theorem sd_sh (h : Sd L xs zz_170 σ) : Sh σ := by
  obtain ⟨e1, e2, e3⟩ := sd_ld h
  refine ⟨fun a ha => h.k (by omega) (zk_all a ha), fun a i v e => ?_, ⟨?_, ?_, ?_, ?_, ?_, ?_⟩, h.n (by decide +kernel), ?_, ?_, ?_, fun a p q => ⟨?_, ?_⟩⟩
  · have := rr_z e
    exact h.r (by omega) this.2
  · rw [e1]; exact h.r (by decide) (by decide +kernel)
  · rw [e2]; exact h.r (by decide) (by decide +kernel)
  · rw [e1]; exact h.r (by decide) (by decide +kernel)
  · rw [e2]; exact h.r (by decide) (by decide +kernel)
  · rw [e3]; exact h.r (by decide) (by decide +kernel)
  · rw [e3]; exact h.r (by decide) (by decide +kernel)
  · rw [e1]; exact Or.inl rfl
  · rw [e2]; exact Or.inl rfl
  · rw [e3]; exact Or.inl rfl
  · rw [(h.2.2.2.2 a (by omega)).1]; exact k0_n (by omega)
  · exact (h.2.2.2.2 a (by omega)).2.1
theorem sd_inv (h : Sd L xs zz_170 σ) : Inv σ := by
  obtain ⟨e1, e2, e3⟩ := sd_ld h
  have i533 : mI σ 533 = mI zz_170 533 := (h.2.2.2.1 533 (by decide)).2.2
  have i22 : mI σ 22 = mI zz_170 22 := (h.2.2.2.1 22 (by decide)).2.2
  refine ⟨fun _ => 0, 0, l00, 0, fun _ => 0, 0, 0, [], Iv_fresh (sd_sh h) (fun a p q => by rw [(h.2.2.2.2 a (by omega)).2.2]; exact i0_n (by omega)) ⟨by decide, fun _ => show (0 : Nat) < 256 by decide, fun k hk => h.i (by decide) ((show ∀ k, k < 600 → mI zz_170 2 k = sb 0 by decide +kernel) k hk)⟩ ⟨by decide, fun _ => show (0 : Nat) < 256 by decide, fun k hk => h.i (by decide) ((show ∀ k, k < 600 → mI zz_170 54 k = nI 0 by decide +kernel) k hk)⟩ (h.i (by decide) (by decide +kernel)) (h.i (by decide) (by decide +kernel)) ?_ l00_ok ?_ ?_ (fun i hi => ?_) ?_ (h.i (by decide) (by decide +kernel)) ⟨fun j hj => ?_, fun k hk => ?_⟩ (by rw [i533]; exact zr_rz) (h.i (by decide) (by decide +kernel)) (h.i (by decide) (by decide +kernel)) (h.i (by decide) (by decide +kernel)) (h.i (by decide) (by decide +kernel)) ?_ (h.i (by decide) (by decide +kernel)) (fun j hj => ?_) ⟨?_, ?_, ?_⟩⟩
  · rw [h.i (by decide) (show mI zz_170 53 3 = -1 by decide +kernel), h.i (by decide) (show mI zz_170 1 9 = -1 by decide +kernel)]
  · rw [e1]
    refine ⟨⟨h.i (by decide) (by decide +kernel), h.i (by decide) (by decide +kernel), h.i (by decide) (by decide +kernel), h.i (by decide) (by decide +kernel), h.i (by decide) (by decide +kernel)⟩, fun p hp => absurd hp (Nat.not_lt_zero p), fun p hp => absurd hp (Nat.not_lt_zero p), fun p hp => absurd hp (Nat.not_lt_zero p)⟩
  · rw [e2]; exact h.i (by decide) (by decide +kernel)
  · rw [e2]; exact h.i (by decide) ((show ∀ i, i < 11 → mI zz_170 14 i = stdI i by decide +kernel) i hi)
  · exact ⟨⟨h.i (by decide) (by decide +kernel), h.i (by decide) (by decide +kernel), h.i (by decide) (by decide +kernel), h.i (by decide) (by decide +kernel), h.i (by decide) (by decide +kernel)⟩, fun p hp => absurd hp (Nat.not_lt_zero p), fun p hp => absurd hp (Nat.not_lt_zero p), fun p hp => absurd hp (Nat.not_lt_zero p)⟩
  · rw [i22]; exact (show ∀ j, j < 79 → mI zz_170 22 j = if j = 1 then lJ l00 else 0 by decide +kernel) j hj
  · rw [i533]; exact (show ∀ k, k < 79 → mI zz_170 533 k = if k = 77 then lJ l00 else 0 by decide +kernel) k hk
  · rw [e3]; exact h.i (by decide) (by decide +kernel)
  · rw [e3]; exact h.i (by decide) ((show ∀ j, j < 6 → mI zz_170 50 j = -1 by decide +kernel) j hj)
  · rw [h.i (by decide) (show mI zz_170 53 35 = 0 by decide +kernel), h.i (by decide) (show mI zz_170 0 13 = 0 by decide +kernel)]
  · rw [h.i (by decide) (show mI zz_170 55 0 = 0 by decide +kernel), h.i (by decide) (show mI zz_170 0 14 = 0 by decide +kernel)]
  · rw [h.i (by decide) (show mI zz_170 55 1 = 0 by decide +kernel), h.i (by decide) (show mI zz_170 0 15 = 0 by decide +kernel)]
theorem law_start (L : Nat) (xs : Nat → Int32) : ∃ σ, ev (d + 32) 306 [.ref 1000000] (mm_0 L xs) = rn (d + 32) 306 23 [.ref 1000000, .ref 0, .ref 53, .ref 560, .int (nI 0), uv, uv, uv] [] σ ∧ LI L xs 0 σ := by
  have h0 := sd_0 L xs
  have h1 : Sd L xs zz_1 _ := h0.qmA (100 + 0, 0) 16 (by decide +kernel)
  obtain ⟨s1, c1, h2⟩ := cz_114_0 (d := d + 28) h1
  have h3 : Sd L xs zz_116 _ := h2.qmA (100 + 12, 0) 46 (by decide +kernel)
  obtain ⟨s2, c2, h4⟩ := cz_162_53 (d := d + 29) h3
  have h5 : Sd L xs zz_170 _ := h4.qmA (2, ix 1) (ix 1) (by decide +kernel)
  refine ⟨_, ?_, sd_inv h5, (h5.2.2.2.2 1000000 (by decide)).1.trans rfl, (h5.2.2.2.2 1000000 (by decide)).2.2.trans rfl, by rw [h5.x]; exact Nat.le_refl _, by rw [h5.2.2.1]; decide +kernel⟩
  rw [e_L_law1 (d + 31) 1000000 (mm_0 L xs), if_pos ⟨h0.x, h0.lt (by decide +kernel)⟩, h0.n (show mN zz_0 = 0 by decide +kernel), show ev (d + 31) 114 [.ref 0] (mA (mm_0 L xs) (100 + 0, 0) 16) = _ from c1, cV1_ok, if_pos ⟨h2.x, h2.lt (by decide +kernel)⟩, h2.n (show mN zz_115 = 53 by decide +kernel), show ev (d + 31) 162 [.ref 53] (mA s1 (100 + 12, 0) 46) = _ from c2, cV1_ok, if_pos ⟨h4.x, h4.lt (by decide +kernel), by decide, by decide⟩, h4.n (show mN zz_169 = 560 by decide +kernel)]
  rfl
theorem law_loop (hL : L ≤ 5632) : ∀ k c σ v5 v6, L - 11 * c ≤ k → c ≤ 512 → LI L xs c σ → ∃ φ c', rn (d + 32) 306 23 [.ref 1000000, .ref 0, .ref 53, .ref 560, .int (nI (11 * c)), v5, v6, uv] [] σ = some (.inl (.int 1), φ) ∧ c' ≤ 512 ∧ LI L xs c' φ := by
  intro k
  induction k with
  | zero =>
    intro c σ v5 v6 hk hc h
    refine ⟨σ, c, ?_, hc, h⟩
    have n1 : ∀ K : Int32 → Option mm_R, aN σ 1000000 K = K (nI L) := fun K => by
      unfold aN
      rw [h.2.1, if_pos ⟨show 0 < 21 by decide, show 21 < 100 by decide⟩]
      rfl
    rw [e_L_law1_23, n1, if_pos (show nI L - (11 : Int32) < nI (11 * c) by
      rw [Int32.lt_iff_toInt_lt, show (11 : Int32) = nI 11 from rfl, pk_sub_toInt (by omega) (by omega), nI_toInt (by omega)]
      omega), nar1_1]
  | succ k ih =>
    intro c σ v5 v6 hk hc h
    have n1 : ∀ K : Int32 → Option mm_R, aN σ 1000000 K = K (nI L) := fun K => by
      unfold aN
      rw [h.2.1, if_pos ⟨show 0 < 21 by decide, show 21 < 100 by decide⟩]
      rfl
    have cmp : nI L - (11 : Int32) < nI (11 * c) ↔ L < 11 * c + 11 := by
      rw [Int32.lt_iff_toInt_lt, show (11 : Int32) = nI 11 from rfl, pk_sub_toInt (by omega) (by omega), nI_toInt (by omega)]
      omega
    by_cases z : L < 11 * c + 11
    · refine ⟨σ, c, ?_, hc, h⟩
      rw [e_L_law1_23, n1, if_pos (cmp.mpr z), nar1_1]
    · have hi : 11 * c + 11 ≤ L := by omega
      obtain ⟨w5, w6, φ, a1, a2⟩ := lw_any (d := d) (v5 := v5) (v6 := v6) (sw_tg (xs (11 * c) &&& 63)) h hi hL
      obtain ⟨ψ, c', b1, b2, b3⟩ := ih (c + 1) φ w5 w6 (by omega) (by omega) a2
      refine ⟨ψ, c', ?_, b2, b3⟩
      rw [e_L_law1_23, n1, if_neg (fun q => z (cmp.mp q)), h.sa.rd (by omega) hL]
      exact a1.trans b1
end LoopV
theorem lawTrue : LawTrue := by
  intro L xs hL
  obtain ⟨σ, a1, a2⟩ := law_start (d := 8) L xs
  obtain ⟨φ, c', b1, b2, b3⟩ := law_loop (d := 8) (xs := xs) hL L 0 σ uv uv (by omega) (by omega) a2
  have sh := b3.1.sh
  have n561 : mN φ = 561 := sh.2.2.2.1
  have x := b3.2.2.2.1
  have s := b3.2.2.2.2
  refine ⟨φ, a1.trans b1, ?_, by omega⟩
  show mN φ + mX φ ≤ 601024
  omega
