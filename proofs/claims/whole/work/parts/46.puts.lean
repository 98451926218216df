/-! the reference's images -/
section PutsV
variable {σ τ υ φ : mm_M} {d : Nat} {K : Nat}
theorem wI_same {a i : Nat} {v : Int32} (h : mI τ a i = v) : wI τ a i v = τ := by
  have : (fun c j => if c = a ∧ j = i then v else τ.1 c j) = τ.1 := by
    funext c j
    by_cases q : c = a ∧ j = i
    · rw [if_pos q, q.1, q.2]; exact h.symm
    · rw [if_neg q]
  show ((fun c j => if c = a ∧ j = i then v else τ.1 c j), τ.2) = τ
  rw [this]
def Pt (σ : mm_M) (R : Nat) (f : Nat → Int32) (s : Nat) : mm_M := wI (wA σ R f) 53 37 (nI s)
theorem Pt_sh (h : Sh σ) (R : Nat) (f : Nat → Int32) (s : Nat) : Sh (Pt σ R f s) := h
theorem Pt_o {R : Nat} {f : Nat → Int32} {s x : Nat} (h : x ≠ 53) (g : x ≠ R) : mI (Pt σ R f s) x = mI σ x := by unfold Pt; rw [rI_o h, rA_o g]
theorem Pt_w {R : Nat} (hR : R ≠ 53) (f : Nat → Int32) (s i : Nat) (v : Int32) : wI (Pt σ R f s) R i v = Pt σ R (up f i v) s := by
  have : (fun c j => if c = R ∧ j = i then v else (Pt σ R f s).1 c j) = (Pt σ R (up f i v) s).1 := by
    funext c j
    show _ = (if c = 53 ∧ j = 37 then nI s else if c = R then up f i v j else σ.1 c j)
    show (if c = R ∧ j = i then v else if c = 53 ∧ j = 37 then nI s else if c = R then f j else σ.1 c j) = _
    by_cases q : c = R
    · subst q
      rw [if_neg (show ¬ (c = 53 ∧ j = 37) from fun z => hR z.1), if_pos rfl, if_neg (show ¬ (c = 53 ∧ j = 37) from fun z => hR z.1), if_pos rfl]
      unfold up
      by_cases z : j = i
      · rw [if_pos ⟨rfl, z⟩, if_pos z]
      · rw [if_neg (fun y => z y.2), if_neg z]
    · rw [if_neg (fun z => q z.1), if_neg q, if_neg q]
  show ((fun c j => if c = R ∧ j = i then v else (Pt σ R f s).1 c j), (Pt σ R f s).2) = _
  rw [this]
  rfl
theorem Pt_s {R : Nat} (f : Nat → Int32) (s s' : Nat) : wI (Pt σ R f s) 53 37 (nI s') = Pt σ R f s' := by
  have : (fun c j => if c = 53 ∧ j = 37 then nI s' else (Pt σ R f s).1 c j) = (Pt σ R f s').1 := by
    funext c j
    show (if c = 53 ∧ j = 37 then nI s' else if c = 53 ∧ j = 37 then nI s else (wA σ R f).1 c j) = (if c = 53 ∧ j = 37 then nI s' else (wA σ R f).1 c j)
    by_cases q : c = 53 ∧ j = 37
    · rw [if_pos q, if_pos q]
    · rw [if_neg q, if_neg q, if_neg q]
  show ((fun c j => if c = 53 ∧ j = 37 then nI s' else (Pt σ R f s).1 c j), (Pt σ R f s).2) = _
  rw [this]
  rfl
theorem Pt_37 {R : Nat} (f : Nat → Int32) (s : Nat) : mI (Pt σ R f s) 53 37 = nI s := w53e _ _ _
theorem Pt_R {R : Nat} (hR : R ≠ 53) (f : Nat → Int32) (s : Nat) : mI (Pt σ R f s) R = f := by unfold Pt; rw [rI_o hR, rA_a]
theorem p_puts0 (h : Sh σ) (hK : K < 3) (f : Nat → Int32) {s : Nat} (hs : s < 1344) (v : Int32) : ev d 270 [.ref 53, .ref (553 + K), .int v, .int 0] (Pt σ (553 + K) f s) = some (.inl (.int v), Pt σ (553 + K) (up f s v) (s + 1)) := by
  have s0 := Pt_sh h (553 + K) f s
  have s1 := Pt_sh h (553 + K) (up f s v) s
  have s2 := Pt_sh h (553 + K) (up f s v) (s + 1)
  rw [e_M_puts d 53 (553 + K) v 0 _ (by rw [k_53 s0]), if_pos (show (0 : Int32) = 0 from rfl), xg_53 s0, Pt_37, xt_r552 s0 hK hs, Pt_w (by omega), e_M_puts_11, xg_53 s1, Pt_37, xs_53 s1, nI_1, Pt_s, xg_53 s2, Pt_37, show nI (s + 1) - (1 : Int32) = nI s from pk_sub (b := 1) (by omega), xa_r552 s2 hK hs, Pt_R (by omega), up_e, nar0]
/-- the now row goes into the image -/
theorem p_now (h : Sh σ) (hK : K < 3) : ∀ m i f, 79 - i = m → i ≤ 79 → ∃ f', rn (d + 1) 271 21 [.ref 53, .ref (553 + K), .int 0, .int (nI i), uv] [] (Pt σ (553 + K) f (1 + i)) = rn (d + 1) 271 53 [.ref 53, .ref (553 + K), .int 0, .int 0, uv] [] (Pt σ (553 + K) f' 80) ∧ (∀ k, k < 1 + i → f' k = f k) ∧ ∀ j, i ≤ j → j < 79 → f' (1 + j) = mI σ 533 j
  | 0, i, f, hm, hi => by
    have : i = 79 := by omega
    subst this
    rw [e_M_putsAll_21, if_pos (show (79 : Int32) ≤ nI 79 by decide)]
    exact ⟨f, rfl, fun _ _ => rfl, fun j a c => by omega⟩
  | m + 1, i, f, hm, hi => by
    have s0 := Pt_sh h (553 + K) f (1 + i)
    obtain ⟨f', r1, r2, r3⟩ := p_now h hK m (i + 1) (up f (1 + i) (mI σ 533 i)) (by omega) (by omega)
    refine ⟨f', ?_, fun k hk => by rw [r2 k (by omega), up_n (by omega)], fun j a c => ?_⟩
    · have s1 := Pt_sh h (553 + K) (up f (1 + i) (mI σ 533 i)) (1 + i + 1)
      rw [e_M_putsAll_21, if_neg (show ¬ (79 : Int32) ≤ nI i from nI_ge (b := 79) (by omega) (by omega)), xr_53_29 s0, xr_53_29 s0, xa_533 s0 (by omega), Pt_o (by decide) (by omega), p_puts0 h hK f (by omega), cI_ok, xt_533 s1 (by omega), wI_same (by rw [Pt_o (by decide) (by omega)]), nI_1]
      exact r1
    · by_cases z : j = i
      · subst z; rw [r2 (1 + j) (by omega), up_e]
      · exact r3 j (by omega) c
theorem p_row (h : Sh σ) (hK : K < 3) {i : Nat} (hi : i < 16) : ∀ m j f, 79 - j = m → j ≤ 79 → ∃ f', rn (d + 1) 271 62 [.ref 53, .ref (553 + K), .int 0, .int (nI i), .int (nI j)] [] (Pt σ (553 + K) f (80 + 79 * i + j)) = rn (d + 1) 271 53 [.ref 53, .ref (553 + K), .int 0, .int (nI (i + 1)), .int (nI 79)] [] (Pt σ (553 + K) f' (80 + 79 * (i + 1))) ∧ (∀ k, k < 80 + 79 * i + j → f' k = f k) ∧ ∀ q, j ≤ q → q < 79 → f' (80 + 79 * i + q) = mI σ (536 + i) q
  | 0, j, f, hm, hj => by
    have : j = 79 := by omega
    subst this
    rw [e_M_putsAll_62, if_pos (show (79 : Int32) ≤ nI 79 by decide), nI_1, show 80 + 79 * i + 79 = 80 + 79 * (i + 1) by omega]
    exact ⟨f, rfl, fun _ _ => rfl, fun j a c => by omega⟩
  | m + 1, j, f, hm, hj => by
    have s0 := Pt_sh h (553 + K) f (80 + 79 * i + j)
    obtain ⟨f', r1, r2, r3⟩ := p_row h hK hi m (j + 1) (up f (80 + 79 * i + j) (mI σ (536 + i) j)) (by omega) (by omega)
    refine ⟨f', ?_, fun k hk => by rw [r2 k (by omega), up_n (by omega)], fun q a c => ?_⟩
    · have s1 := Pt_sh h (553 + K) (up f (80 + 79 * i + j) (mI σ (536 + i) j)) (80 + 79 * i + j + 1)
      rw [e_M_putsAll_62, if_neg (show ¬ (79 : Int32) ≤ nI j from nI_ge (b := 79) (by omega) (by omega)), xr_53_31 s0, xR_535 s0 hi, xr_53_31 s0, xR_535 s0 hi, xa_r535 s0 hi (by omega), Pt_o (by omega) (by omega), p_puts0 h hK f (by omega), cI_ok, xt_r535 s1 hi (by omega), wI_same (by rw [Pt_o (by omega) (by omega)]), nI_1]
      exact r1
    · by_cases z : q = j
      · subst z; rw [r2 (80 + 79 * i + q) (by omega), up_e]
      · exact r3 q (by omega) c
theorem p_rows (h : Sh σ) (hK : K < 3) : ∀ m i f v, 16 - i = m → i ≤ 16 → ∃ f', rn (d + 1) 271 53 [.ref 53, .ref (553 + K), .int 0, .int (nI i), v] [] (Pt σ (553 + K) f (80 + 79 * i)) = some (.inl uv, Pt σ (553 + K) f' 1344) ∧ (∀ k, k < 80 + 79 * i → f' k = f k) ∧ ∀ q, i ≤ q → q < 16 → ∀ j, j < 79 → f' (80 + 79 * q + j) = mI σ (536 + q) j
  | 0, i, f, v, hm, hi => by
    have : i = 16 := by omega
    subst this
    rw [e_M_putsAll_53, if_pos (show (16 : Int32) ≤ nI 16 by decide)]
    exact ⟨f, rfl, fun _ _ => rfl, fun j a c => by omega⟩
  | m + 1, i, f, v, hm, hi => by
    obtain ⟨f1, r1, r2, r3⟩ := p_row (d := d) h hK (i := i) (by omega) _ 0 f rfl (by decide)
    obtain ⟨f', q1, q2, q3⟩ := p_rows h hK m (i + 1) f1 (.int (nI 79)) (by omega) (by omega)
    refine ⟨f', ?_, fun k hk => by rw [q2 k (by omega), r2 k (by omega)], fun q a c j hj => ?_⟩
    · rw [e_M_putsAll_53, if_neg (show ¬ (16 : Int32) ≤ nI i from nI_ge (b := 16) (by omega) (by omega)), ← q1]
      exact r1
    · by_cases z : q = i
      · subst z; rw [q2 _ (by omega), r3 j (Nat.zero_le _) hj]
      · exact q3 q (by omega) c j hj
theorem p_keep (h : Sh σ) (hK : K < 3) : ∃ f, ev (d + 1) 271 [.ref 53, .ref (553 + K), .int 0] σ = some (.inl uv, Pt σ (553 + K) f 1344) ∧ f 0 = mI σ 53 34 ∧ (∀ j, j < 79 → f (1 + j) = mI σ 533 j) ∧ ∀ q, q < 16 → ∀ j, j < 79 → f (80 + 79 * q + j) = mI σ (536 + q) j := by
  have e0 : wI σ 53 37 0 = Pt σ (553 + K) (mI σ (553 + K)) 0 := by unfold Pt; rw [wA_id]; rfl
  have s0 := Pt_sh h (553 + K) (mI σ (553 + K)) 0
  have s1 := Pt_sh h (553 + K) (up (mI σ (553 + K)) 0 (mI σ 53 34)) (0 + 1)
  have x34 : ∀ f s, mI (Pt σ (553 + K) f s) 53 34 = mI σ 53 34 := fun f s => by unfold Pt; rw [w53n _ (show (34 : Nat) ≠ 37 by decide), rA_o (by omega)]
  obtain ⟨f1, r1, r2, r3⟩ := p_now (d := d) h hK _ 0 (up (mI σ (553 + K)) 0 (mI σ 53 34)) rfl (by decide)
  obtain ⟨f', q1, q2, q3⟩ := p_rows (d := d) h hK _ 0 f1 uv rfl (by decide)
  refine ⟨f', ?_, by rw [q2 0 (by decide), r2 0 (by decide), up_e], fun j hj => by rw [q2 _ (by omega), r3 j (Nat.zero_le _) hj], fun q hq j hj => q3 q (Nat.zero_le _) hq j hj⟩
  rw [e_M_putsAll d 53 (553 + K) 0 σ (by rw [k_53 h]), xs_53 h, e0, xg_53 s0, x34, p_puts0 h hK _ (by decide), cI_ok, xs_53 s1, wI_same (x34 _ _), ← q1]
  exact r1
end PutsV
