/-! one round of the law's loop -/
section StepL
variable {σ τ υ φ : mm_M} {L i c : Nat} {xs : Nat → Int32} {d : Nat} {v5 v6 : Value}
theorem ow_given (x1 : Int32) : OpW (d + 31) 289 [.ref 0, .int x1, .ref 560] (d + 31) 240 [.ref 53, .int x1] := opw (fun σ => e_L_given (d + 30) 0 x1 560 σ) (op_given x1)
theorem ow_fits (x1 x2 : Int32) : OpW (d + 31) 293 [.ref 0, .int x1, .int x2, .ref 560] (d + 31) 247 [.ref 53, .int x1, .int x2] := opw (fun σ => e_L_fits (d + 30) 0 x1 x2 560 σ) (op_fits x1 x2)
theorem ow_look (x1 x2 : Int32) : OpW (d + 31) 294 [.ref 0, .int x1, .int x2, .ref 560] (d + 31) 250 [.ref 53, .int x1, .int x2] := opw (fun σ => e_L_look (d + 30) 0 x1 x2 560 σ) (op_look x1 x2)
theorem ow_year (x1 x2 x3 x4 : Int32) : OpW (d + 31) 303 [.ref 0, .int x1, .int x2, .int x3, .int x4, .ref 560] (d + 31) 268 [.ref 53, .int x1, .int x2, .int x3, .int x4] := opw (fun σ => e_L_year (d + 30) 0 x1 x2 x3 x4 560 σ) (op_year x1 x2 x3 x4)
theorem ow_span (x1 x2 x3 x4 x5 x6 : Int32) : OpW (d + 31) 304 [.ref 0, .int x1, .int x2, .int x3, .int x4, .int x5, .int x6, .ref 560] (d + 31) 269 [.ref 53, .int x1, .int x2, .int x3, .int x4, .int x5, .int x6] := opw (fun σ => e_L_span (d + 30) 0 x1 x2 x3 x4 x5 x6 560 σ) (op_span x1 x2 x3 x4 x5 x6)
/-- behind c calls -/
def LI (L : Nat) (xs : Nat → Int32) (c : Nat) (σ : mm_M) : Prop := Inv σ ∧ mK σ 1000000 = (21, L) ∧ mI σ 1000000 = xs ∧ mX σ ≤ c ∧ mS σ ≤ 100000 + 6 * c
def SA (L : Nat) (xs : Nat → Int32) (σ : mm_M) : Prop := mK σ 1000000 = (21, L) ∧ mI σ 1000000 = xs
theorem Inv.sh (h : Inv σ) : Sh σ := by
  obtain ⟨t, n, l, many, cs, w, K, b, h⟩ := h
  exact h.1.1.1
theorem LI.sa (h : LI L xs c σ) : SA L xs σ := ⟨h.2.1, h.2.2.1⟩
theorem SA.cst (h : SA L xs σ) (s : Cst σ υ) : SA L xs υ := ⟨by rw [s.1]; exact h.1, by rw [s.2.2.2.2 1000000 (Nat.le_refl _)]; exact h.2⟩
theorem LI.go (h : LI L xs c σ) (s : Cst σ φ) (inv : Inv φ) : LI L xs (c + 1) φ := by
  obtain ⟨-, h2, h3, h4, h5⟩ := h
  have q := SA.cst ⟨h2, h3⟩ s
  have s3 := s.2.2.1
  have s4 := s.2.2.2.1
  exact ⟨inv, q.1, q.2, by omega, by omega⟩
theorem SA.rd (h : SA L xs σ) {p : Nat} (hp : p < L) (hL : L ≤ 5632) (k : Int32 → Option mm_R) : aI σ 1000000 (nI p) k = k (xs p) := by
  unfold aI
  rw [h.1, if_pos ⟨Or.inr rfl, in_nI hp (by omega)⟩, ix_nI (by omega), h.2]
theorem thr (h : Sh φ) {x : Int32} (e : mI φ 53 0 = x) : ev d 164 [.ref 53] φ = some (.inl (.int x), φ) := by
  rw [e_M_thrown d 53 φ (by rw [k_53 h]), xg_53 h, e, nar0]
theorem aL560 (h : Sh φ) {v : Int64} (e : mL φ 560 0 = v) (k : Int64 → Option mm_R) : aL φ 560 0 k = k v := by
  unfold aL
  rw [k_560 h, if_pos ⟨rfl, by decide, by decide⟩, ← e]
  rfl
theorem lgc (v : Int64) : lg_cmp v v = 0 := by
  unfold lg_cmp
  rw [if_neg (fun q => Int64.lt_irrefl q), if_pos rfl]
theorem SA.r1 (h : SA L xs σ) (hi : i + 11 ≤ L) (hL : L ≤ 5632) (k : Int32 → Option mm_R) : aI σ 1000000 (nI i + (1 : Int32)) k = k (xs (i + 1)) := by rw [show nI i + (1 : Int32) = nI (i + 1) from nI_add i 1]; exact h.rd (by omega) hL k
theorem SA.r2 (h : SA L xs σ) (hi : i + 11 ≤ L) (hL : L ≤ 5632) (k : Int32 → Option mm_R) : aI σ 1000000 (nI i + (2 : Int32)) k = k (xs (i + 2)) := by rw [show nI i + (2 : Int32) = nI (i + 2) from nI_add i 2]; exact h.rd (by omega) hL k
theorem SA.r3 (h : SA L xs σ) (hi : i + 11 ≤ L) (hL : L ≤ 5632) (k : Int32 → Option mm_R) : aI σ 1000000 (nI i + (3 : Int32)) k = k (xs (i + 3)) := by rw [show nI i + (3 : Int32) = nI (i + 3) from nI_add i 3]; exact h.rd (by omega) hL k
theorem SA.r4 (h : SA L xs σ) (hi : i + 11 ≤ L) (hL : L ≤ 5632) (k : Int32 → Option mm_R) : aI σ 1000000 (nI i + (4 : Int32)) k = k (xs (i + 4)) := by rw [show nI i + (4 : Int32) = nI (i + 4) from nI_add i 4]; exact h.rd (by omega) hL k
theorem SA.r5 (h : SA L xs σ) (hi : i + 11 ≤ L) (hL : L ≤ 5632) (k : Int32 → Option mm_R) : aI σ 1000000 (nI i + (5 : Int32)) k = k (xs (i + 5)) := by rw [show nI i + (5 : Int32) = nI (i + 5) from nI_add i 5]; exact h.rd (by omega) hL k
theorem SA.r6 (h : SA L xs σ) (hi : i + 11 ≤ L) (hL : L ≤ 5632) (k : Int32 → Option mm_R) : aI σ 1000000 (nI i + (6 : Int32)) k = k (xs (i + 6)) := by rw [show nI i + (6 : Int32) = nI (i + 6) from nI_add i 6]; exact h.rd (by omega) hL k
theorem SA.r7 (h : SA L xs σ) (hi : i + 11 ≤ L) (hL : L ≤ 5632) (k : Int32 → Option mm_R) : aI σ 1000000 (nI i + (7 : Int32)) k = k (xs (i + 7)) := by rw [show nI i + (7 : Int32) = nI (i + 7) from nI_add i 7]; exact h.rd (by omega) hL k
theorem SA.r8 (h : SA L xs σ) (hi : i + 11 ≤ L) (hL : L ≤ 5632) (k : Int32 → Option mm_R) : aI σ 1000000 (nI i + (8 : Int32)) k = k (xs (i + 8)) := by rw [show nI i + (8 : Int32) = nI (i + 8) from nI_add i 8]; exact h.rd (by omega) hL k
theorem SA.r9 (h : SA L xs σ) (hi : i + 11 ≤ L) (hL : L ≤ 5632) (k : Int32 → Option mm_R) : aI σ 1000000 (nI i + (9 : Int32)) k = k (xs (i + 9)) := by rw [show nI i + (9 : Int32) = nI (i + 9) from nI_add i 9]; exact h.rd (by omega) hL k
theorem SA.r10 (h : SA L xs σ) (hi : i + 11 ≤ L) (hL : L ≤ 5632) (k : Int32 → Option mm_R) : aI σ 1000000 (nI i + (10 : Int32)) k = k (xs (i + 10)) := by rw [show nI i + (10 : Int32) = nI (i + 10) from nI_add i 10]; exact h.rd (by omega) hL k
theorem lw_216 (h : LI L xs c σ) (hi : i + 11 ≤ L) (hL : L ≤ 5632) : ∃ w5 w6 φ, rn (d + 32) 306 216 [.ref 1000000, .ref 0, .ref 53, .ref 560, .int (nI i), v5, v6, uv] [] σ = rn (d + 32) 306 23 [.ref 1000000, .ref 0, .ref 53, .ref 560, .int (nI (i + 11)), w5, w6, uv] [] φ ∧ LI L xs (c + 1) φ := by
  obtain ⟨v, υ, φ, c1, s1, c2, s2, inv⟩ := op_feed (d := d) (xs (i + 1)) (xs (i + 2)) (xs (i + 3)) (xs (i + 4)) (xs (i + 5)) σ h.1
  have qu := h.sa.cst s1
  refine ⟨v5, v6, φ, ?_, h.go s2 inv⟩
  rw [e_L_law1_216, h.sa.r1 hi hL, h.sa.r2 hi hL, h.sa.r3 hi hL, h.sa.r4 hi hL, h.sa.r5 hi hL, c1, cI_ok, qu.r1 hi hL, qu.r2 hi hL, qu.r3 hi hL, qu.r4 hi hL, qu.r5 hi hL, c2, cI_ok, if_pos rfl, e_L_law1_2534, show nI i + (11 : Int32) = nI (i + 11) from nI_add i 11]
theorem lw_289 (h : LI L xs c σ) (hi : i + 11 ≤ L) (hL : L ≤ 5632) : ∃ w5 w6 φ, rn (d + 32) 306 289 [.ref 1000000, .ref 0, .ref 53, .ref 560, .int (nI i), v5, v6, uv] [] σ = rn (d + 32) 306 23 [.ref 1000000, .ref 0, .ref 53, .ref 560, .int (nI (i + 11)), w5, w6, uv] [] φ ∧ LI L xs (c + 1) φ := by
  obtain ⟨x, υ, v, φ, c1, s1, c2, s2, inv, e0, eL⟩ := op_land (d := d) (xs (i + 1)) σ h.1
  have qu := h.sa.cst s1
  have sh := inv.sh
  refine ⟨.int x, .int v, φ, ?_, h.go s2 inv⟩
  rw [e_L_law1_289, h.sa.r1 hi hL, c1, cI1_ok, qu.r1 hi hL, c2, cI_ok, thr sh e0, cI_ok, if_pos rfl]
  by_cases z : x = 0
  · rw [if_pos z, aL560 sh (eL z), lgc, if_pos rfl, e_L_law1_342, e_L_law1_2534, show nI i + (11 : Int32) = nI (i + 11) from nI_add i 11]
  · rw [if_neg z, e_L_law1_342, e_L_law1_2534, show nI i + (11 : Int32) = nI (i + 11) from nI_add i 11]
theorem lw_345 (h : LI L xs c σ) (hi : i + 11 ≤ L) (hL : L ≤ 5632) : ∃ w5 w6 φ, rn (d + 32) 306 345 [.ref 1000000, .ref 0, .ref 53, .ref 560, .int (nI i), v5, v6, uv] [] σ = rn (d + 32) 306 23 [.ref 1000000, .ref 0, .ref 53, .ref 560, .int (nI (i + 11)), w5, w6, uv] [] φ ∧ LI L xs (c + 1) φ := by
  obtain ⟨x, υ, v, φ, c1, s1, c2, s2, inv, e0, eL⟩ := op_law (d := d) (xs (i + 1)) σ h.1
  have qu := h.sa.cst s1
  have sh := inv.sh
  refine ⟨.int x, .int v, φ, ?_, h.go s2 inv⟩
  rw [e_L_law1_345, h.sa.r1 hi hL, c1, cI1_ok, qu.r1 hi hL, c2, cI_ok, thr sh e0, cI_ok, if_pos rfl]
  by_cases z : x = 0
  · rw [if_pos z, aL560 sh (eL z), lgc, if_pos rfl, e_L_law1_398, e_L_law1_2534, show nI i + (11 : Int32) = nI (i + 11) from nI_add i 11]
  · rw [if_neg z, e_L_law1_398, e_L_law1_2534, show nI i + (11 : Int32) = nI (i + 11) from nI_add i 11]
theorem lw_401 (h : LI L xs c σ) (hi : i + 11 ≤ L) (hL : L ≤ 5632) : ∃ w5 w6 φ, rn (d + 32) 306 401 [.ref 1000000, .ref 0, .ref 53, .ref 560, .int (nI i), v5, v6, uv] [] σ = rn (d + 32) 306 23 [.ref 1000000, .ref 0, .ref 53, .ref 560, .int (nI (i + 11)), w5, w6, uv] [] φ ∧ LI L xs (c + 1) φ := by
  obtain ⟨x, υ, v, φ, c1, s1, c2, s2, inv, e0, eL⟩ := op_work (d := d) (xs (i + 1)) σ h.1
  have qu := h.sa.cst s1
  have sh := inv.sh
  refine ⟨.int x, .int v, φ, ?_, h.go s2 inv⟩
  rw [e_L_law1_401, h.sa.r1 hi hL, c1, cI1_ok, qu.r1 hi hL, c2, cI_ok, thr sh e0, cI_ok, if_pos rfl]
  by_cases z : x = 0
  · rw [if_pos z, aL560 sh (eL z), lgc, if_pos rfl, e_L_law1_454, e_L_law1_2534, show nI i + (11 : Int32) = nI (i + 11) from nI_add i 11]
  · rw [if_neg z, e_L_law1_454, e_L_law1_2534, show nI i + (11 : Int32) = nI (i + 11) from nI_add i 11]
theorem lw_457 (h : LI L xs c σ) (hi : i + 11 ≤ L) (hL : L ≤ 5632) : ∃ w5 w6 φ, rn (d + 32) 306 457 [.ref 1000000, .ref 0, .ref 53, .ref 560, .int (nI i), v5, v6, uv] [] σ = rn (d + 32) 306 23 [.ref 1000000, .ref 0, .ref 53, .ref 560, .int (nI (i + 11)), w5, w6, uv] [] φ ∧ LI L xs (c + 1) φ := by
  obtain ⟨x, υ, v, φ, c1, s1, c2, s2, inv, e0, eL⟩ := op_book (d := d) (xs (i + 1)) σ h.1
  have qu := h.sa.cst s1
  have sh := inv.sh
  refine ⟨.int x, .int v, φ, ?_, h.go s2 inv⟩
  rw [e_L_law1_457, h.sa.r1 hi hL, c1, cI1_ok, qu.r1 hi hL, c2, cI_ok, thr sh e0, cI_ok, if_pos rfl]
  by_cases z : x = 0
  · rw [if_pos z, aL560 sh (eL z), lgc, if_pos rfl, e_L_law1_510, e_L_law1_2534, show nI i + (11 : Int32) = nI (i + 11) from nI_add i 11]
  · rw [if_neg z, e_L_law1_510, e_L_law1_2534, show nI i + (11 : Int32) = nI (i + 11) from nI_add i 11]
theorem lw_513 (h : LI L xs c σ) (hi : i + 11 ≤ L) (hL : L ≤ 5632) : ∃ w5 w6 φ, rn (d + 32) 306 513 [.ref 1000000, .ref 0, .ref 53, .ref 560, .int (nI i), v5, v6, uv] [] σ = rn (d + 32) 306 23 [.ref 1000000, .ref 0, .ref 53, .ref 560, .int (nI (i + 11)), w5, w6, uv] [] φ ∧ LI L xs (c + 1) φ := by
  obtain ⟨v, υ, φ, c1, s1, c2, s2, inv⟩ := op_fault (d := d)  σ h.1
  have qu := h.sa.cst s1
  refine ⟨v5, v6, φ, ?_, h.go s2 inv⟩
  rw [e_L_law1_513, c1, cI_ok, c2, cI_ok, if_pos rfl, e_L_law1_2534, show nI i + (11 : Int32) = nI (i + 11) from nI_add i 11]
theorem lw_526 (h : LI L xs c σ) (hi : i + 11 ≤ L) (hL : L ≤ 5632) : ∃ w5 w6 φ, rn (d + 32) 306 526 [.ref 1000000, .ref 0, .ref 53, .ref 560, .int (nI i), v5, v6, uv] [] σ = rn (d + 32) 306 23 [.ref 1000000, .ref 0, .ref 53, .ref 560, .int (nI (i + 11)), w5, w6, uv] [] φ ∧ LI L xs (c + 1) φ := by
  obtain ⟨v, υ, φ, c1, s1, c2, s2, inv⟩ := op_undo (d := d)  σ h.1
  have qu := h.sa.cst s1
  refine ⟨v5, v6, φ, ?_, h.go s2 inv⟩
  rw [e_L_law1_526, c1, cI_ok, c2, cI_ok, if_pos rfl, e_L_law1_2534, show nI i + (11 : Int32) = nI (i + 11) from nI_add i 11]
theorem lw_539 (h : LI L xs c σ) (hi : i + 11 ≤ L) (hL : L ≤ 5632) : ∃ w5 w6 φ, rn (d + 32) 306 539 [.ref 1000000, .ref 0, .ref 53, .ref 560, .int (nI i), v5, v6, uv] [] σ = rn (d + 32) 306 23 [.ref 1000000, .ref 0, .ref 53, .ref 560, .int (nI (i + 11)), w5, w6, uv] [] φ ∧ LI L xs (c + 1) φ := by
  obtain ⟨x, υ, v, φ, c1, s1, c2, s2, inv, e0, eL⟩ := ow_told (d := d) (xs (i + 1)) σ h.1
  have qu := h.sa.cst s1
  have sh := inv.sh
  refine ⟨.int x, .int v, φ, ?_, h.go s2 inv⟩
  rw [e_L_law1_539, h.sa.r1 hi hL, c1, cI1_ok, qu.r1 hi hL, c2, cI_ok, thr sh e0, cI_ok, if_pos rfl]
  by_cases z : x = 0
  · rw [if_pos z, aL560 sh (eL z), lgc, if_pos rfl, e_L_law1_592, e_L_law1_2534, show nI i + (11 : Int32) = nI (i + 11) from nI_add i 11]
  · rw [if_neg z, e_L_law1_592, e_L_law1_2534, show nI i + (11 : Int32) = nI (i + 11) from nI_add i 11]
theorem lw_595 (h : LI L xs c σ) (hi : i + 11 ≤ L) (hL : L ≤ 5632) : ∃ w5 w6 φ, rn (d + 32) 306 595 [.ref 1000000, .ref 0, .ref 53, .ref 560, .int (nI i), v5, v6, uv] [] σ = rn (d + 32) 306 23 [.ref 1000000, .ref 0, .ref 53, .ref 560, .int (nI (i + 11)), w5, w6, uv] [] φ ∧ LI L xs (c + 1) φ := by
  obtain ⟨x, υ, v, φ, c1, s1, c2, s2, inv, e0, eL⟩ := ow_person (d := d) (xs (i + 1)) (xs (i + 2)) σ h.1
  have qu := h.sa.cst s1
  have sh := inv.sh
  refine ⟨.int x, .int v, φ, ?_, h.go s2 inv⟩
  rw [e_L_law1_595, h.sa.r1 hi hL, h.sa.r2 hi hL, c1, cI1_ok, qu.r1 hi hL, qu.r2 hi hL, c2, cI_ok, thr sh e0, cI_ok, if_pos rfl]
  by_cases z : x = 0
  · rw [if_pos z, aL560 sh (eL z), lgc, if_pos rfl, e_L_law1_660, e_L_law1_2534, show nI i + (11 : Int32) = nI (i + 11) from nI_add i 11]
  · rw [if_neg z, e_L_law1_660, e_L_law1_2534, show nI i + (11 : Int32) = nI (i + 11) from nI_add i 11]
theorem lw_663 (h : LI L xs c σ) (hi : i + 11 ≤ L) (hL : L ≤ 5632) : ∃ w5 w6 φ, rn (d + 32) 306 663 [.ref 1000000, .ref 0, .ref 53, .ref 560, .int (nI i), v5, v6, uv] [] σ = rn (d + 32) 306 23 [.ref 1000000, .ref 0, .ref 53, .ref 560, .int (nI (i + 11)), w5, w6, uv] [] φ ∧ LI L xs (c + 1) φ := by
  obtain ⟨x, υ, v, φ, c1, s1, c2, s2, inv, e0, eL⟩ := ow_joke (d := d) (xs (i + 1)) (xs (i + 2)) σ h.1
  have qu := h.sa.cst s1
  have sh := inv.sh
  refine ⟨.int x, .int v, φ, ?_, h.go s2 inv⟩
  rw [e_L_law1_663, h.sa.r1 hi hL, h.sa.r2 hi hL, c1, cI1_ok, qu.r1 hi hL, qu.r2 hi hL, c2, cI_ok, thr sh e0, cI_ok, if_pos rfl]
  by_cases z : x = 0
  · rw [if_pos z, aL560 sh (eL z), lgc, if_pos rfl, e_L_law1_728, e_L_law1_2534, show nI i + (11 : Int32) = nI (i + 11) from nI_add i 11]
  · rw [if_neg z, e_L_law1_728, e_L_law1_2534, show nI i + (11 : Int32) = nI (i + 11) from nI_add i 11]
theorem lw_731 (h : LI L xs c σ) (hi : i + 11 ≤ L) (hL : L ≤ 5632) : ∃ w5 w6 φ, rn (d + 32) 306 731 [.ref 1000000, .ref 0, .ref 53, .ref 560, .int (nI i), v5, v6, uv] [] σ = rn (d + 32) 306 23 [.ref 1000000, .ref 0, .ref 53, .ref 560, .int (nI (i + 11)), w5, w6, uv] [] φ ∧ LI L xs (c + 1) φ := by
  obtain ⟨x, υ, v, φ, c1, s1, c2, s2, inv, e0, eL⟩ := ow_street (d := d) (xs (i + 1)) (xs (i + 2)) σ h.1
  have qu := h.sa.cst s1
  have sh := inv.sh
  refine ⟨.int x, .int v, φ, ?_, h.go s2 inv⟩
  rw [e_L_law1_731, h.sa.r1 hi hL, h.sa.r2 hi hL, c1, cI1_ok, qu.r1 hi hL, qu.r2 hi hL, c2, cI_ok, thr sh e0, cI_ok, if_pos rfl]
  by_cases z : x = 0
  · rw [if_pos z, aL560 sh (eL z), lgc, if_pos rfl, e_L_law1_796, e_L_law1_2534, show nI i + (11 : Int32) = nI (i + 11) from nI_add i 11]
  · rw [if_neg z, e_L_law1_796, e_L_law1_2534, show nI i + (11 : Int32) = nI (i + 11) from nI_add i 11]
theorem lw_799 (h : LI L xs c σ) (hi : i + 11 ≤ L) (hL : L ≤ 5632) : ∃ w5 w6 φ, rn (d + 32) 306 799 [.ref 1000000, .ref 0, .ref 53, .ref 560, .int (nI i), v5, v6, uv] [] σ = rn (d + 32) 306 23 [.ref 1000000, .ref 0, .ref 53, .ref 560, .int (nI (i + 11)), w5, w6, uv] [] φ ∧ LI L xs (c + 1) φ := by
  obtain ⟨x, υ, v, φ, c1, s1, c2, s2, inv, e0, eL⟩ := ow_worn (d := d) (xs (i + 1)) (xs (i + 2)) σ h.1
  have qu := h.sa.cst s1
  have sh := inv.sh
  refine ⟨.int x, .int v, φ, ?_, h.go s2 inv⟩
  rw [e_L_law1_799, h.sa.r1 hi hL, h.sa.r2 hi hL, c1, cI1_ok, qu.r1 hi hL, qu.r2 hi hL, c2, cI_ok, thr sh e0, cI_ok, if_pos rfl]
  by_cases z : x = 0
  · rw [if_pos z, aL560 sh (eL z), lgc, if_pos rfl, e_L_law1_864, e_L_law1_2534, show nI i + (11 : Int32) = nI (i + 11) from nI_add i 11]
  · rw [if_neg z, e_L_law1_864, e_L_law1_2534, show nI i + (11 : Int32) = nI (i + 11) from nI_add i 11]
theorem lw_867 (h : LI L xs c σ) (hi : i + 11 ≤ L) (hL : L ≤ 5632) : ∃ w5 w6 φ, rn (d + 32) 306 867 [.ref 1000000, .ref 0, .ref 53, .ref 560, .int (nI i), v5, v6, uv] [] σ = rn (d + 32) 306 23 [.ref 1000000, .ref 0, .ref 53, .ref 560, .int (nI (i + 11)), w5, w6, uv] [] φ ∧ LI L xs (c + 1) φ := by
  obtain ⟨x, υ, v, φ, c1, s1, c2, s2, inv, e0, eL⟩ := ow_laugh (d := d) (xs (i + 1)) (xs (i + 2)) σ h.1
  have qu := h.sa.cst s1
  have sh := inv.sh
  refine ⟨.int x, .int v, φ, ?_, h.go s2 inv⟩
  rw [e_L_law1_867, h.sa.r1 hi hL, h.sa.r2 hi hL, c1, cI1_ok, qu.r1 hi hL, qu.r2 hi hL, c2, cI_ok, thr sh e0, cI_ok, if_pos rfl]
  by_cases z : x = 0
  · rw [if_pos z, aL560 sh (eL z), lgc, if_pos rfl, e_L_law1_932, e_L_law1_2534, show nI i + (11 : Int32) = nI (i + 11) from nI_add i 11]
  · rw [if_neg z, e_L_law1_932, e_L_law1_2534, show nI i + (11 : Int32) = nI (i + 11) from nI_add i 11]
theorem lw_935 (h : LI L xs c σ) (hi : i + 11 ≤ L) (hL : L ≤ 5632) : ∃ w5 w6 φ, rn (d + 32) 306 935 [.ref 1000000, .ref 0, .ref 53, .ref 560, .int (nI i), v5, v6, uv] [] σ = rn (d + 32) 306 23 [.ref 1000000, .ref 0, .ref 53, .ref 560, .int (nI (i + 11)), w5, w6, uv] [] φ ∧ LI L xs (c + 1) φ := by
  obtain ⟨x, υ, v, φ, c1, s1, c2, s2, inv, e0, eL⟩ := ow_water (d := d) (xs (i + 1)) (xs (i + 2)) σ h.1
  have qu := h.sa.cst s1
  have sh := inv.sh
  refine ⟨.int x, .int v, φ, ?_, h.go s2 inv⟩
  rw [e_L_law1_935, h.sa.r1 hi hL, h.sa.r2 hi hL, c1, cI1_ok, qu.r1 hi hL, qu.r2 hi hL, c2, cI_ok, thr sh e0, cI_ok, if_pos rfl]
  by_cases z : x = 0
  · rw [if_pos z, aL560 sh (eL z), lgc, if_pos rfl, e_L_law1_1000, e_L_law1_2534, show nI i + (11 : Int32) = nI (i + 11) from nI_add i 11]
  · rw [if_neg z, e_L_law1_1000, e_L_law1_2534, show nI i + (11 : Int32) = nI (i + 11) from nI_add i 11]
theorem lw_1003 (h : LI L xs c σ) (hi : i + 11 ≤ L) (hL : L ≤ 5632) : ∃ w5 w6 φ, rn (d + 32) 306 1003 [.ref 1000000, .ref 0, .ref 53, .ref 560, .int (nI i), v5, v6, uv] [] σ = rn (d + 32) 306 23 [.ref 1000000, .ref 0, .ref 53, .ref 560, .int (nI (i + 11)), w5, w6, uv] [] φ ∧ LI L xs (c + 1) φ := by
  obtain ⟨x, υ, v, φ, c1, s1, c2, s2, inv, e0, eL⟩ := ow_would (d := d) (xs (i + 1)) (xs (i + 2)) (xs (i + 3)) (xs (i + 4)) (xs (i + 5)) (xs (i + 6)) (xs (i + 7)) (xs (i + 8)) (xs (i + 9)) (xs (i + 10)) σ h.1
  have qu := h.sa.cst s1
  have sh := inv.sh
  refine ⟨.int x, .int v, φ, ?_, h.go s2 inv⟩
  rw [e_L_law1_1003, h.sa.r1 hi hL, h.sa.r2 hi hL, h.sa.r3 hi hL, h.sa.r4 hi hL, h.sa.r5 hi hL, h.sa.r6 hi hL, h.sa.r7 hi hL, h.sa.r8 hi hL, h.sa.r9 hi hL, h.sa.r10 hi hL, c1, cI1_ok, qu.r1 hi hL, qu.r2 hi hL, qu.r3 hi hL, qu.r4 hi hL, qu.r5 hi hL, qu.r6 hi hL, qu.r7 hi hL, qu.r8 hi hL, qu.r9 hi hL, qu.r10 hi hL, c2, cI_ok, thr sh e0, cI_ok, if_pos rfl]
  by_cases z : x = 0
  · rw [if_pos z, aL560 sh (eL z), lgc, if_pos rfl, e_L_law1_1174, e_L_law1_2534, show nI i + (11 : Int32) = nI (i + 11) from nI_add i 11]
  · rw [if_neg z, e_L_law1_1174, e_L_law1_2534, show nI i + (11 : Int32) = nI (i + 11) from nI_add i 11]
theorem lw_1177 (h : LI L xs c σ) (hi : i + 11 ≤ L) (hL : L ≤ 5632) : ∃ w5 w6 φ, rn (d + 32) 306 1177 [.ref 1000000, .ref 0, .ref 53, .ref 560, .int (nI i), v5, v6, uv] [] σ = rn (d + 32) 306 23 [.ref 1000000, .ref 0, .ref 53, .ref 560, .int (nI (i + 11)), w5, w6, uv] [] φ ∧ LI L xs (c + 1) φ := by
  obtain ⟨x, υ, v, φ, c1, s1, c2, s2, inv, e0, eL⟩ := ow_ahead (d := d) (xs (i + 1)) (xs (i + 2)) σ h.1
  have qu := h.sa.cst s1
  have sh := inv.sh
  refine ⟨.int x, .int v, φ, ?_, h.go s2 inv⟩
  rw [e_L_law1_1177, h.sa.r1 hi hL, h.sa.r2 hi hL, c1, cI1_ok, qu.r1 hi hL, qu.r2 hi hL, c2, cI_ok, thr sh e0, cI_ok, if_pos rfl]
  by_cases z : x = 0
  · rw [if_pos z, aL560 sh (eL z), lgc, if_pos rfl, e_L_law1_1242, e_L_law1_2534, show nI i + (11 : Int32) = nI (i + 11) from nI_add i 11]
  · rw [if_neg z, e_L_law1_1242, e_L_law1_2534, show nI i + (11 : Int32) = nI (i + 11) from nI_add i 11]
theorem lw_1245 (h : LI L xs c σ) (hi : i + 11 ≤ L) (hL : L ≤ 5632) : ∃ w5 w6 φ, rn (d + 32) 306 1245 [.ref 1000000, .ref 0, .ref 53, .ref 560, .int (nI i), v5, v6, uv] [] σ = rn (d + 32) 306 23 [.ref 1000000, .ref 0, .ref 53, .ref 560, .int (nI (i + 11)), w5, w6, uv] [] φ ∧ LI L xs (c + 1) φ := by
  obtain ⟨v, υ, φ, c1, s1, c2, s2, inv⟩ := op_best (d := d)  σ h.1
  have qu := h.sa.cst s1
  refine ⟨v5, v6, φ, ?_, h.go s2 inv⟩
  rw [e_L_law1_1245, c1, cI_ok, c2, cI_ok, if_pos rfl, e_L_law1_2534, show nI i + (11 : Int32) = nI (i + 11) from nI_add i 11]
theorem lw_1258 (h : LI L xs c σ) (hi : i + 11 ≤ L) (hL : L ≤ 5632) : ∃ w5 w6 φ, rn (d + 32) 306 1258 [.ref 1000000, .ref 0, .ref 53, .ref 560, .int (nI i), v5, v6, uv] [] σ = rn (d + 32) 306 23 [.ref 1000000, .ref 0, .ref 53, .ref 560, .int (nI (i + 11)), w5, w6, uv] [] φ ∧ LI L xs (c + 1) φ := by
  obtain ⟨x, υ, v, φ, c1, s1, c2, s2, inv, e0, eL⟩ := ow_given (d := d) (xs (i + 1)) σ h.1
  have qu := h.sa.cst s1
  have sh := inv.sh
  refine ⟨.int x, .int v, φ, ?_, h.go s2 inv⟩
  rw [e_L_law1_1258, h.sa.r1 hi hL, c1, cI1_ok, qu.r1 hi hL, c2, cI_ok, thr sh e0, cI_ok, if_pos rfl]
  by_cases z : x = 0
  · rw [if_pos z, aL560 sh (eL z), lgc, if_pos rfl, e_L_law1_1311, e_L_law1_2534, show nI i + (11 : Int32) = nI (i + 11) from nI_add i 11]
  · rw [if_neg z, e_L_law1_1311, e_L_law1_2534, show nI i + (11 : Int32) = nI (i + 11) from nI_add i 11]
theorem lw_1314 (h : LI L xs c σ) (hi : i + 11 ≤ L) (hL : L ≤ 5632) : ∃ w5 w6 φ, rn (d + 32) 306 1314 [.ref 1000000, .ref 0, .ref 53, .ref 560, .int (nI i), v5, v6, uv] [] σ = rn (d + 32) 306 23 [.ref 1000000, .ref 0, .ref 53, .ref 560, .int (nI (i + 11)), w5, w6, uv] [] φ ∧ LI L xs (c + 1) φ := by
  obtain ⟨x, υ, v, φ, c1, s1, c2, s2, inv, e0, eL⟩ := ow_enough (d := d) (xs (i + 1)) σ h.1
  have qu := h.sa.cst s1
  have sh := inv.sh
  refine ⟨.int x, .int v, φ, ?_, h.go s2 inv⟩
  rw [e_L_law1_1314, h.sa.r1 hi hL, c1, cI1_ok, qu.r1 hi hL, c2, cI_ok, thr sh e0, cI_ok, if_pos rfl]
  by_cases z : x = 0
  · rw [if_pos z, aL560 sh (eL z), lgc, if_pos rfl, e_L_law1_1367, e_L_law1_2534, show nI i + (11 : Int32) = nI (i + 11) from nI_add i 11]
  · rw [if_neg z, e_L_law1_1367, e_L_law1_2534, show nI i + (11 : Int32) = nI (i + 11) from nI_add i 11]
theorem lw_1370 (h : LI L xs c σ) (hi : i + 11 ≤ L) (hL : L ≤ 5632) : ∃ w5 w6 φ, rn (d + 32) 306 1370 [.ref 1000000, .ref 0, .ref 53, .ref 560, .int (nI i), v5, v6, uv] [] σ = rn (d + 32) 306 23 [.ref 1000000, .ref 0, .ref 53, .ref 560, .int (nI (i + 11)), w5, w6, uv] [] φ ∧ LI L xs (c + 1) φ := by
  obtain ⟨x, υ, v, φ, c1, s1, c2, s2, inv, e0, eL⟩ := ow_lasts (d := d) (xs (i + 1)) (xs (i + 2)) σ h.1
  have qu := h.sa.cst s1
  have sh := inv.sh
  refine ⟨.int x, .int v, φ, ?_, h.go s2 inv⟩
  rw [e_L_law1_1370, h.sa.r1 hi hL, h.sa.r2 hi hL, c1, cI1_ok, qu.r1 hi hL, qu.r2 hi hL, c2, cI_ok, thr sh e0, cI_ok, if_pos rfl]
  by_cases z : x = 0
  · rw [if_pos z, aL560 sh (eL z), lgc, if_pos rfl, e_L_law1_1435, e_L_law1_2534, show nI i + (11 : Int32) = nI (i + 11) from nI_add i 11]
  · rw [if_neg z, e_L_law1_1435, e_L_law1_2534, show nI i + (11 : Int32) = nI (i + 11) from nI_add i 11]
theorem lw_1438 (h : LI L xs c σ) (hi : i + 11 ≤ L) (hL : L ≤ 5632) : ∃ w5 w6 φ, rn (d + 32) 306 1438 [.ref 1000000, .ref 0, .ref 53, .ref 560, .int (nI i), v5, v6, uv] [] σ = rn (d + 32) 306 23 [.ref 1000000, .ref 0, .ref 53, .ref 560, .int (nI (i + 11)), w5, w6, uv] [] φ ∧ LI L xs (c + 1) φ := by
  obtain ⟨x, υ, v, φ, c1, s1, c2, s2, inv, e0, eL⟩ := ow_well (d := d) (xs (i + 1)) (xs (i + 2)) σ h.1
  have qu := h.sa.cst s1
  have sh := inv.sh
  refine ⟨.int x, .int v, φ, ?_, h.go s2 inv⟩
  rw [e_L_law1_1438, h.sa.r1 hi hL, h.sa.r2 hi hL, c1, cI1_ok, qu.r1 hi hL, qu.r2 hi hL, c2, cI_ok, thr sh e0, cI_ok, if_pos rfl]
  by_cases z : x = 0
  · rw [if_pos z, aL560 sh (eL z), lgc, if_pos rfl, e_L_law1_1503, e_L_law1_2534, show nI i + (11 : Int32) = nI (i + 11) from nI_add i 11]
  · rw [if_neg z, e_L_law1_1503, e_L_law1_2534, show nI i + (11 : Int32) = nI (i + 11) from nI_add i 11]
theorem lw_1506 (h : LI L xs c σ) (hi : i + 11 ≤ L) (hL : L ≤ 5632) : ∃ w5 w6 φ, rn (d + 32) 306 1506 [.ref 1000000, .ref 0, .ref 53, .ref 560, .int (nI i), v5, v6, uv] [] σ = rn (d + 32) 306 23 [.ref 1000000, .ref 0, .ref 53, .ref 560, .int (nI (i + 11)), w5, w6, uv] [] φ ∧ LI L xs (c + 1) φ := by
  obtain ⟨x, υ, v, φ, c1, s1, c2, s2, inv, e0, eL⟩ := ow_fits (d := d) (xs (i + 1)) (xs (i + 2)) σ h.1
  have qu := h.sa.cst s1
  have sh := inv.sh
  refine ⟨.int x, .int v, φ, ?_, h.go s2 inv⟩
  rw [e_L_law1_1506, h.sa.r1 hi hL, h.sa.r2 hi hL, c1, cI1_ok, qu.r1 hi hL, qu.r2 hi hL, c2, cI_ok, thr sh e0, cI_ok, if_pos rfl]
  by_cases z : x = 0
  · rw [if_pos z, aL560 sh (eL z), lgc, if_pos rfl, e_L_law1_1571, e_L_law1_2534, show nI i + (11 : Int32) = nI (i + 11) from nI_add i 11]
  · rw [if_neg z, e_L_law1_1571, e_L_law1_2534, show nI i + (11 : Int32) = nI (i + 11) from nI_add i 11]
theorem lw_1574 (h : LI L xs c σ) (hi : i + 11 ≤ L) (hL : L ≤ 5632) : ∃ w5 w6 φ, rn (d + 32) 306 1574 [.ref 1000000, .ref 0, .ref 53, .ref 560, .int (nI i), v5, v6, uv] [] σ = rn (d + 32) 306 23 [.ref 1000000, .ref 0, .ref 53, .ref 560, .int (nI (i + 11)), w5, w6, uv] [] φ ∧ LI L xs (c + 1) φ := by
  obtain ⟨x, υ, v, φ, c1, s1, c2, s2, inv, e0, eL⟩ := ow_look (d := d) (xs (i + 1)) (xs (i + 2)) σ h.1
  have qu := h.sa.cst s1
  have sh := inv.sh
  refine ⟨.int x, .int v, φ, ?_, h.go s2 inv⟩
  rw [e_L_law1_1574, h.sa.r1 hi hL, h.sa.r2 hi hL, c1, cI1_ok, qu.r1 hi hL, qu.r2 hi hL, c2, cI_ok, thr sh e0, cI_ok, if_pos rfl]
  by_cases z : x = 0
  · rw [if_pos z, aL560 sh (eL z), lgc, if_pos rfl, e_L_law1_1639, e_L_law1_2534, show nI i + (11 : Int32) = nI (i + 11) from nI_add i 11]
  · rw [if_neg z, e_L_law1_1639, e_L_law1_2534, show nI i + (11 : Int32) = nI (i + 11) from nI_add i 11]
theorem lw_1642 (h : LI L xs c σ) (hi : i + 11 ≤ L) (hL : L ≤ 5632) : ∃ w5 w6 φ, rn (d + 32) 306 1642 [.ref 1000000, .ref 0, .ref 53, .ref 560, .int (nI i), v5, v6, uv] [] σ = rn (d + 32) 306 23 [.ref 1000000, .ref 0, .ref 53, .ref 560, .int (nI (i + 11)), w5, w6, uv] [] φ ∧ LI L xs (c + 1) φ := by
  obtain ⟨v, υ, φ, c1, s1, c2, s2, inv⟩ := op_comfort (d := d)  σ h.1
  have qu := h.sa.cst s1
  refine ⟨v5, v6, φ, ?_, h.go s2 inv⟩
  rw [e_L_law1_1642, c1, cI_ok, c2, cI_ok, if_pos rfl, e_L_law1_2534, show nI i + (11 : Int32) = nI (i + 11) from nI_add i 11]
theorem lw_1655 (h : LI L xs c σ) (hi : i + 11 ≤ L) (hL : L ≤ 5632) : ∃ w5 w6 φ, rn (d + 32) 306 1655 [.ref 1000000, .ref 0, .ref 53, .ref 560, .int (nI i), v5, v6, uv] [] σ = rn (d + 32) 306 23 [.ref 1000000, .ref 0, .ref 53, .ref 560, .int (nI (i + 11)), w5, w6, uv] [] φ ∧ LI L xs (c + 1) φ := by
  obtain ⟨x, υ, v, φ, c1, s1, c2, s2, inv, e0, eL⟩ := ow_way (d := d) (xs (i + 1)) (xs (i + 2)) σ h.1
  have qu := h.sa.cst s1
  have sh := inv.sh
  refine ⟨.int x, .int v, φ, ?_, h.go s2 inv⟩
  rw [e_L_law1_1655, h.sa.r1 hi hL, h.sa.r2 hi hL, c1, cI1_ok, qu.r1 hi hL, qu.r2 hi hL, c2, cI_ok, thr sh e0, cI_ok, if_pos rfl]
  by_cases z : x = 0
  · rw [if_pos z, aL560 sh (eL z), lgc, if_pos rfl, e_L_law1_1720, e_L_law1_2534, show nI i + (11 : Int32) = nI (i + 11) from nI_add i 11]
  · rw [if_neg z, e_L_law1_1720, e_L_law1_2534, show nI i + (11 : Int32) = nI (i + 11) from nI_add i 11]
theorem lw_1723 (h : LI L xs c σ) (hi : i + 11 ≤ L) (hL : L ≤ 5632) : ∃ w5 w6 φ, rn (d + 32) 306 1723 [.ref 1000000, .ref 0, .ref 53, .ref 560, .int (nI i), v5, v6, uv] [] σ = rn (d + 32) 306 23 [.ref 1000000, .ref 0, .ref 53, .ref 560, .int (nI (i + 11)), w5, w6, uv] [] φ ∧ LI L xs (c + 1) φ := by
  obtain ⟨v, υ, φ, c1, s1, c2, s2, inv⟩ := op_dry (d := d)  σ h.1
  have qu := h.sa.cst s1
  refine ⟨v5, v6, φ, ?_, h.go s2 inv⟩
  rw [e_L_law1_1723, c1, cI_ok, c2, cI_ok, if_pos rfl, e_L_law1_2534, show nI i + (11 : Int32) = nI (i + 11) from nI_add i 11]
theorem lw_1736 (h : LI L xs c σ) (hi : i + 11 ≤ L) (hL : L ≤ 5632) : ∃ w5 w6 φ, rn (d + 32) 306 1736 [.ref 1000000, .ref 0, .ref 53, .ref 560, .int (nI i), v5, v6, uv] [] σ = rn (d + 32) 306 23 [.ref 1000000, .ref 0, .ref 53, .ref 560, .int (nI (i + 11)), w5, w6, uv] [] φ ∧ LI L xs (c + 1) φ := by
  obtain ⟨x, υ, v, φ, c1, s1, c2, s2, inv, e0, eL⟩ := ow_comedians (d := d) (xs (i + 1)) (xs (i + 2)) (xs (i + 3)) (xs (i + 4)) σ h.1
  have qu := h.sa.cst s1
  have sh := inv.sh
  refine ⟨.int x, .int v, φ, ?_, h.go s2 inv⟩
  rw [e_L_law1_1736, h.sa.r1 hi hL, h.sa.r2 hi hL, h.sa.r3 hi hL, h.sa.r4 hi hL, c1, cI1_ok, qu.r1 hi hL, qu.r2 hi hL, qu.r3 hi hL, qu.r4 hi hL, c2, cI_ok, thr sh e0, cI_ok, if_pos rfl]
  by_cases z : x = 0
  · rw [if_pos z, aL560 sh (eL z), lgc, if_pos rfl, e_L_law1_1825, e_L_law1_2534, show nI i + (11 : Int32) = nI (i + 11) from nI_add i 11]
  · rw [if_neg z, e_L_law1_1825, e_L_law1_2534, show nI i + (11 : Int32) = nI (i + 11) from nI_add i 11]
theorem lw_1828 (h : LI L xs c σ) (hi : i + 11 ≤ L) (hL : L ≤ 5632) : ∃ w5 w6 φ, rn (d + 32) 306 1828 [.ref 1000000, .ref 0, .ref 53, .ref 560, .int (nI i), v5, v6, uv] [] σ = rn (d + 32) 306 23 [.ref 1000000, .ref 0, .ref 53, .ref 560, .int (nI (i + 11)), w5, w6, uv] [] φ ∧ LI L xs (c + 1) φ := by
  obtain ⟨x, υ, v, φ, c1, s1, c2, s2, inv, e0, eL⟩ := op_some (d := d) (xs (i + 1)) (xs (i + 2)) (xs (i + 3)) (xs (i + 4)) σ h.1
  have qu := h.sa.cst s1
  have sh := inv.sh
  refine ⟨.int x, .long v, φ, ?_, h.go s2 inv⟩
  rw [e_L_law1_1828, h.sa.r1 hi hL, h.sa.r2 hi hL, h.sa.r3 hi hL, h.sa.r4 hi hL, c1, cI1_ok, qu.r1 hi hL, qu.r2 hi hL, qu.r3 hi hL, qu.r4 hi hL, c2, show ∀ (k : Int64 → mm_M → Option mm_R), cL (some (.inl (.long v), φ)) k = k v φ from fun _ => rfl, thr sh e0, cI_ok, if_pos rfl]
  by_cases z : x = 0
  · rw [if_pos z, aL560 sh (eL z), lgc, if_pos rfl, e_L_law1_1916, e_L_law1_2534, show nI i + (11 : Int32) = nI (i + 11) from nI_add i 11]
  · rw [if_neg z, e_L_law1_1916, e_L_law1_2534, show nI i + (11 : Int32) = nI (i + 11) from nI_add i 11]
theorem lw_1919 (h : LI L xs c σ) (hi : i + 11 ≤ L) (hL : L ≤ 5632) : ∃ w5 w6 φ, rn (d + 32) 306 1919 [.ref 1000000, .ref 0, .ref 53, .ref 560, .int (nI i), v5, v6, uv] [] σ = rn (d + 32) 306 23 [.ref 1000000, .ref 0, .ref 53, .ref 560, .int (nI (i + 11)), w5, w6, uv] [] φ ∧ LI L xs (c + 1) φ := by
  obtain ⟨x, υ, v, φ, c1, s1, c2, s2, inv, e0, eL⟩ := ow_share (d := d) (xs (i + 1)) (xs (i + 2)) (xs (i + 3)) σ h.1
  have qu := h.sa.cst s1
  have sh := inv.sh
  refine ⟨.int x, .int v, φ, ?_, h.go s2 inv⟩
  rw [e_L_law1_1919, h.sa.r1 hi hL, h.sa.r2 hi hL, h.sa.r3 hi hL, c1, cI1_ok, qu.r1 hi hL, qu.r2 hi hL, qu.r3 hi hL, c2, cI_ok, thr sh e0, cI_ok, if_pos rfl]
  by_cases z : x = 0
  · rw [if_pos z, aL560 sh (eL z), lgc, if_pos rfl, e_L_law1_1996, e_L_law1_2534, show nI i + (11 : Int32) = nI (i + 11) from nI_add i 11]
  · rw [if_neg z, e_L_law1_1996, e_L_law1_2534, show nI i + (11 : Int32) = nI (i + 11) from nI_add i 11]
theorem lw_1999 (h : LI L xs c σ) (hi : i + 11 ≤ L) (hL : L ≤ 5632) : ∃ w5 w6 φ, rn (d + 32) 306 1999 [.ref 1000000, .ref 0, .ref 53, .ref 560, .int (nI i), v5, v6, uv] [] σ = rn (d + 32) 306 23 [.ref 1000000, .ref 0, .ref 53, .ref 560, .int (nI (i + 11)), w5, w6, uv] [] φ ∧ LI L xs (c + 1) φ := by
  obtain ⟨x, υ, v, φ, c1, s1, c2, s2, inv, e0, eL⟩ := ow_likes (d := d) (xs (i + 1)) (xs (i + 2)) σ h.1
  have qu := h.sa.cst s1
  have sh := inv.sh
  refine ⟨.int x, .int v, φ, ?_, h.go s2 inv⟩
  rw [e_L_law1_1999, h.sa.r1 hi hL, h.sa.r2 hi hL, c1, cI1_ok, qu.r1 hi hL, qu.r2 hi hL, c2, cI_ok, thr sh e0, cI_ok, if_pos rfl]
  by_cases z : x = 0
  · rw [if_pos z, aL560 sh (eL z), lgc, if_pos rfl, e_L_law1_2064, e_L_law1_2534, show nI i + (11 : Int32) = nI (i + 11) from nI_add i 11]
  · rw [if_neg z, e_L_law1_2064, e_L_law1_2534, show nI i + (11 : Int32) = nI (i + 11) from nI_add i 11]
theorem lw_2067 (h : LI L xs c σ) (hi : i + 11 ≤ L) (hL : L ≤ 5632) : ∃ w5 w6 φ, rn (d + 32) 306 2067 [.ref 1000000, .ref 0, .ref 53, .ref 560, .int (nI i), v5, v6, uv] [] σ = rn (d + 32) 306 23 [.ref 1000000, .ref 0, .ref 53, .ref 560, .int (nI (i + 11)), w5, w6, uv] [] φ ∧ LI L xs (c + 1) φ := by
  obtain ⟨x, υ, v, φ, c1, s1, c2, s2, inv, e0, eL⟩ := ow_solemn (d := d) (xs (i + 1)) σ h.1
  have qu := h.sa.cst s1
  have sh := inv.sh
  refine ⟨.int x, .int v, φ, ?_, h.go s2 inv⟩
  rw [e_L_law1_2067, h.sa.r1 hi hL, c1, cI1_ok, qu.r1 hi hL, c2, cI_ok, thr sh e0, cI_ok, if_pos rfl]
  by_cases z : x = 0
  · rw [if_pos z, aL560 sh (eL z), lgc, if_pos rfl, e_L_law1_2120, e_L_law1_2534, show nI i + (11 : Int32) = nI (i + 11) from nI_add i 11]
  · rw [if_neg z, e_L_law1_2120, e_L_law1_2534, show nI i + (11 : Int32) = nI (i + 11) from nI_add i 11]
theorem lw_2123 (h : LI L xs c σ) (hi : i + 11 ≤ L) (hL : L ≤ 5632) : ∃ w5 w6 φ, rn (d + 32) 306 2123 [.ref 1000000, .ref 0, .ref 53, .ref 560, .int (nI i), v5, v6, uv] [] σ = rn (d + 32) 306 23 [.ref 1000000, .ref 0, .ref 53, .ref 560, .int (nI (i + 11)), w5, w6, uv] [] φ ∧ LI L xs (c + 1) φ := by
  obtain ⟨x, υ, v, φ, c1, s1, c2, s2, inv, e0, eL⟩ := ow_driest (d := d) (xs (i + 1)) σ h.1
  have qu := h.sa.cst s1
  have sh := inv.sh
  refine ⟨.int x, .int v, φ, ?_, h.go s2 inv⟩
  rw [e_L_law1_2123, h.sa.r1 hi hL, c1, cI1_ok, qu.r1 hi hL, c2, cI_ok, thr sh e0, cI_ok, if_pos rfl]
  by_cases z : x = 0
  · rw [if_pos z, aL560 sh (eL z), lgc, if_pos rfl, e_L_law1_2176, e_L_law1_2534, show nI i + (11 : Int32) = nI (i + 11) from nI_add i 11]
  · rw [if_neg z, e_L_law1_2176, e_L_law1_2534, show nI i + (11 : Int32) = nI (i + 11) from nI_add i 11]
theorem lw_2179 (h : LI L xs c σ) (hi : i + 11 ≤ L) (hL : L ≤ 5632) : ∃ w5 w6 φ, rn (d + 32) 306 2179 [.ref 1000000, .ref 0, .ref 53, .ref 560, .int (nI i), v5, v6, uv] [] σ = rn (d + 32) 306 23 [.ref 1000000, .ref 0, .ref 53, .ref 560, .int (nI (i + 11)), w5, w6, uv] [] φ ∧ LI L xs (c + 1) φ := by
  obtain ⟨v, υ, φ, c1, s1, c2, s2, inv⟩ := op_parts (d := d)  σ h.1
  have qu := h.sa.cst s1
  refine ⟨v5, v6, φ, ?_, h.go s2 inv⟩
  rw [e_L_law1_2179, c1, cI_ok, c2, cI_ok, if_pos rfl, e_L_law1_2534, show nI i + (11 : Int32) = nI (i + 11) from nI_add i 11]
theorem lw_2192 (h : LI L xs c σ) (hi : i + 11 ≤ L) (hL : L ≤ 5632) : ∃ w5 w6 φ, rn (d + 32) 306 2192 [.ref 1000000, .ref 0, .ref 53, .ref 560, .int (nI i), v5, v6, uv] [] σ = rn (d + 32) 306 23 [.ref 1000000, .ref 0, .ref 53, .ref 560, .int (nI (i + 11)), w5, w6, uv] [] φ ∧ LI L xs (c + 1) φ := by
  obtain ⟨x, υ, v, φ, c1, s1, c2, s2, inv, e0, eL⟩ := ow_alike (d := d) (xs (i + 1)) σ h.1
  have qu := h.sa.cst s1
  have sh := inv.sh
  refine ⟨.int x, .int v, φ, ?_, h.go s2 inv⟩
  rw [e_L_law1_2192, h.sa.r1 hi hL, c1, cI1_ok, qu.r1 hi hL, c2, cI_ok, thr sh e0, cI_ok, if_pos rfl]
  by_cases z : x = 0
  · rw [if_pos z, aL560 sh (eL z), lgc, if_pos rfl, e_L_law1_2245, e_L_law1_2534, show nI i + (11 : Int32) = nI (i + 11) from nI_add i 11]
  · rw [if_neg z, e_L_law1_2245, e_L_law1_2534, show nI i + (11 : Int32) = nI (i + 11) from nI_add i 11]
theorem lw_2248 (h : LI L xs c σ) (hi : i + 11 ≤ L) (hL : L ≤ 5632) : ∃ w5 w6 φ, rn (d + 32) 306 2248 [.ref 1000000, .ref 0, .ref 53, .ref 560, .int (nI i), v5, v6, uv] [] σ = rn (d + 32) 306 23 [.ref 1000000, .ref 0, .ref 53, .ref 560, .int (nI (i + 11)), w5, w6, uv] [] φ ∧ LI L xs (c + 1) φ := by
  obtain ⟨x, υ, v, φ, c1, s1, c2, s2, inv, e0, eL⟩ := ow_year (d := d) (xs (i + 1)) (xs (i + 2)) (xs (i + 3)) (xs (i + 4)) σ h.1
  have qu := h.sa.cst s1
  have sh := inv.sh
  refine ⟨.int x, .int v, φ, ?_, h.go s2 inv⟩
  rw [e_L_law1_2248, h.sa.r1 hi hL, h.sa.r2 hi hL, h.sa.r3 hi hL, h.sa.r4 hi hL, c1, cI1_ok, qu.r1 hi hL, qu.r2 hi hL, qu.r3 hi hL, qu.r4 hi hL, c2, cI_ok, thr sh e0, cI_ok, if_pos rfl]
  by_cases z : x = 0
  · rw [if_pos z, aL560 sh (eL z), lgc, if_pos rfl, e_L_law1_2337, e_L_law1_2534, show nI i + (11 : Int32) = nI (i + 11) from nI_add i 11]
  · rw [if_neg z, e_L_law1_2337, e_L_law1_2534, show nI i + (11 : Int32) = nI (i + 11) from nI_add i 11]
theorem lw_2340 (h : LI L xs c σ) (hi : i + 11 ≤ L) (hL : L ≤ 5632) : ∃ w5 w6 φ, rn (d + 32) 306 2340 [.ref 1000000, .ref 0, .ref 53, .ref 560, .int (nI i), v5, v6, uv] [] σ = rn (d + 32) 306 23 [.ref 1000000, .ref 0, .ref 53, .ref 560, .int (nI (i + 11)), w5, w6, uv] [] φ ∧ LI L xs (c + 1) φ := by
  obtain ⟨x, υ, v, φ, c1, s1, c2, s2, inv, e0, eL⟩ := ow_span (d := d) (xs (i + 1)) (xs (i + 2)) (xs (i + 3)) (xs (i + 4)) (xs (i + 5)) (xs (i + 6)) σ h.1
  have qu := h.sa.cst s1
  have sh := inv.sh
  refine ⟨.int x, .int v, φ, ?_, h.go s2 inv⟩
  rw [e_L_law1_2340, h.sa.r1 hi hL, h.sa.r2 hi hL, h.sa.r3 hi hL, h.sa.r4 hi hL, h.sa.r5 hi hL, h.sa.r6 hi hL, c1, cI1_ok, qu.r1 hi hL, qu.r2 hi hL, qu.r3 hi hL, qu.r4 hi hL, qu.r5 hi hL, qu.r6 hi hL, c2, cI_ok, thr sh e0, cI_ok, if_pos rfl]
  by_cases z : x = 0
  · rw [if_pos z, aL560 sh (eL z), lgc, if_pos rfl, e_L_law1_2455, e_L_law1_2534, show nI i + (11 : Int32) = nI (i + 11) from nI_add i 11]
  · rw [if_neg z, e_L_law1_2455, e_L_law1_2534, show nI i + (11 : Int32) = nI (i + 11) from nI_add i 11]
theorem lw_2458 (h : LI L xs c σ) (hi : i + 11 ≤ L) (hL : L ≤ 5632) : ∃ w5 w6 φ, rn (d + 32) 306 2458 [.ref 1000000, .ref 0, .ref 53, .ref 560, .int (nI i), v5, v6, uv] [] σ = rn (d + 32) 306 23 [.ref 1000000, .ref 0, .ref 53, .ref 560, .int (nI (i + 11)), w5, w6, uv] [] φ ∧ LI L xs (c + 1) φ := by
  obtain ⟨v, υ, φ, c1, s1, c2, s2, inv⟩ := op_image (d := d)  σ h.1
  have qu := h.sa.cst s1
  refine ⟨v5, v6, φ, ?_, h.go s2 inv⟩
  rw [e_L_law1_2458, c1, cI_ok, c2, cI_ok, if_pos rfl, e_L_law1_2534, show nI i + (11 : Int32) = nI (i + 11) from nI_add i 11]
theorem lw_2471 (h : LI L xs c σ) (hi : i + 11 ≤ L) (hL : L ≤ 5632) : ∃ w5 w6 φ, rn (d + 32) 306 2471 [.ref 1000000, .ref 0, .ref 53, .ref 560, .int (nI i), v5, v6, uv] [] σ = rn (d + 32) 306 23 [.ref 1000000, .ref 0, .ref 53, .ref 560, .int (nI (i + 11)), w5, w6, uv] [] φ ∧ LI L xs (c + 1) φ := by
  obtain ⟨v, υ, φ, c1, s1, c2, s2, inv⟩ := op_restore (d := d)  σ h.1
  have qu := h.sa.cst s1
  refine ⟨v5, v6, φ, ?_, h.go s2 inv⟩
  rw [e_L_law1_2471, c1, cI_ok, c2, cI_ok, if_pos rfl, e_L_law1_2534, show nI i + (11 : Int32) = nI (i + 11) from nI_add i 11]
theorem lw_2484 (h : LI L xs c σ) (hi : i + 11 ≤ L) (hL : L ≤ 5632) : ∃ w5 w6 φ, rn (d + 32) 306 2484 [.ref 1000000, .ref 0, .ref 53, .ref 560, .int (nI i), v5, v6, uv] [] σ = rn (d + 32) 306 23 [.ref 1000000, .ref 0, .ref 53, .ref 560, .int (nI (i + 11)), w5, w6, uv] [] φ ∧ LI L xs (c + 1) φ := by
  obtain ⟨v, υ, φ, c1, s1, c2, s2, inv⟩ := op_status (d := d) (xs (i + 1)) σ h.1
  have qu := h.sa.cst s1
  refine ⟨v5, v6, φ, ?_, h.go s2 inv⟩
  rw [e_L_law1_2484, h.sa.r1 hi hL, c1, cI_ok, qu.r1 hi hL, c2, cI_ok, if_pos rfl, e_L_law1_2534, show nI i + (11 : Int32) = nI (i + 11) from nI_add i 11]
theorem lw_2509 (h : LI L xs c σ) (hi : i + 11 ≤ L) (hL : L ≤ 5632) : ∃ w5 w6 φ, rn (d + 32) 306 2509 [.ref 1000000, .ref 0, .ref 53, .ref 560, .int (nI i), v5, v6, uv] [] σ = rn (d + 32) 306 23 [.ref 1000000, .ref 0, .ref 53, .ref 560, .int (nI (i + 11)), w5, w6, uv] [] φ ∧ LI L xs (c + 1) φ := by
  obtain ⟨v, υ, φ, c1, s1, c2, s2, inv⟩ := op_count (d := d) (xs (i + 1)) σ h.1
  have qu := h.sa.cst s1
  refine ⟨v5, v6, φ, ?_, h.go s2 inv⟩
  rw [e_L_law1_2509, h.sa.r1 hi hL, c1, cI_ok, qu.r1 hi hL, c2, cI_ok, if_pos rfl, e_L_law1_2534, show nI i + (11 : Int32) = nI (i + 11) from nI_add i 11]
theorem lw_2534 (h : LI L xs c σ) (hi : i + 11 ≤ L) (hL : L ≤ 5632) : ∃ w5 w6 φ, rn (d + 32) 306 2534 [.ref 1000000, .ref 0, .ref 53, .ref 560, .int (nI i), v5, v6, uv] [] σ = rn (d + 32) 306 23 [.ref 1000000, .ref 0, .ref 53, .ref 560, .int (nI (i + 11)), w5, w6, uv] [] φ ∧ LI L xs (c + 1) φ := by
  refine ⟨v5, v6, σ, ?_, h.go (Cst.refl σ) h.1⟩
  rw [e_L_law1_2534, show nI i + (11 : Int32) = nI (i + 11) from nI_add i 11]
theorem sw_tg (x : Int32) : swT 40 2494 0 39 #[176, 249, 305, 361, 417, 473, 486, 499, 555, 623, 691, 759, 827, 895, 963, 1137, 1205, 1218, 1274, 1330, 1398, 1466, 1534, 1602, 1615, 1683, 1696, 1788, 1879, 1959, 2027, 2083, 2139, 2152, 2208, 2300, 2418, 2431, 2444, 2469] x ∈ [216, 289, 345, 401, 457, 513, 526, 539, 595, 663, 731, 799, 867, 935, 1003, 1177, 1245, 1258, 1314, 1370, 1438, 1506, 1574, 1642, 1655, 1723, 1736, 1828, 1919, 1999, 2067, 2123, 2179, 2192, 2248, 2340, 2458, 2471, 2484, 2509, 2534] := by
  unfold swT
  by_cases q : x.toInt < 0 ∨ 39 < x.toInt
  · rw [if_pos q]; decide
  · rw [if_neg q]
    obtain ⟨j, hj, e⟩ : ∃ j : Nat, j < 40 ∧ x.toInt = (j : Int) := ⟨x.toInt.toNat, by omega, by omega⟩
    rw [e]
    exact (show ∀ j : Nat, j < 40 → (match (#[176, 249, 305, 361, 417, 473, 486, 499, 555, 623, 691, 759, 827, 895, 963, 1137, 1205, 1218, 1274, 1330, 1398, 1466, 1534, 1602, 1615, 1683, 1696, 1788, 1879, 1959, 2027, 2083, 2139, 2152, 2208, 2300, 2418, 2431, 2444, 2469] : Array Int)[((j : Int) - 0).toNat]? with
      | some off => (((40 : Nat) : Int) + off).toNat
      | none => 0) ∈ [216, 289, 345, 401, 457, 513, 526, 539, 595, 663, 731, 799, 867, 935, 1003, 1177, 1245, 1258, 1314, 1370, 1438, 1506, 1574, 1642, 1655, 1723, 1736, 1828, 1919, 1999, 2067, 2123, 2179, 2192, 2248, 2340, 2458, 2471, 2484, 2509, 2534] by decide +kernel) j hj
theorem lw_any {pc : Nat} (hp : pc ∈ [216, 289, 345, 401, 457, 513, 526, 539, 595, 663, 731, 799, 867, 935, 1003, 1177, 1245, 1258, 1314, 1370, 1438, 1506, 1574, 1642, 1655, 1723, 1736, 1828, 1919, 1999, 2067, 2123, 2179, 2192, 2248, 2340, 2458, 2471, 2484, 2509, 2534]) (h : LI L xs c σ) (hi : i + 11 ≤ L) (hL : L ≤ 5632) : ∃ w5 w6 φ, rn (d + 32) 306 pc [.ref 1000000, .ref 0, .ref 53, .ref 560, .int (nI i), v5, v6, uv] [] σ = rn (d + 32) 306 23 [.ref 1000000, .ref 0, .ref 53, .ref 560, .int (nI (i + 11)), w5, w6, uv] [] φ ∧ LI L xs (c + 1) φ := by
  simp only [List.mem_cons, List.not_mem_nil, or_false] at hp
  rcases hp with rfl | rfl | rfl | rfl | rfl | rfl | rfl | rfl | rfl | rfl | rfl | rfl | rfl | rfl | rfl | rfl | rfl | rfl | rfl | rfl | rfl | rfl | rfl | rfl | rfl | rfl | rfl | rfl | rfl | rfl | rfl | rfl | rfl | rfl | rfl | rfl | rfl | rfl | rfl | rfl | rfl
  · exact lw_216 h hi hL
  · exact lw_289 h hi hL
  · exact lw_345 h hi hL
  · exact lw_401 h hi hL
  · exact lw_457 h hi hL
  · exact lw_513 h hi hL
  · exact lw_526 h hi hL
  · exact lw_539 h hi hL
  · exact lw_595 h hi hL
  · exact lw_663 h hi hL
  · exact lw_731 h hi hL
  · exact lw_799 h hi hL
  · exact lw_867 h hi hL
  · exact lw_935 h hi hL
  · exact lw_1003 h hi hL
  · exact lw_1177 h hi hL
  · exact lw_1245 h hi hL
  · exact lw_1258 h hi hL
  · exact lw_1314 h hi hL
  · exact lw_1370 h hi hL
  · exact lw_1438 h hi hL
  · exact lw_1506 h hi hL
  · exact lw_1574 h hi hL
  · exact lw_1642 h hi hL
  · exact lw_1655 h hi hL
  · exact lw_1723 h hi hL
  · exact lw_1736 h hi hL
  · exact lw_1828 h hi hL
  · exact lw_1919 h hi hL
  · exact lw_1999 h hi hL
  · exact lw_2067 h hi hL
  · exact lw_2123 h hi hL
  · exact lw_2179 h hi hL
  · exact lw_2192 h hi hL
  · exact lw_2248 h hi hL
  · exact lw_2340 h hi hL
  · exact lw_2458 h hi hL
  · exact lw_2471 h hi hL
  · exact lw_2484 h hi hL
  · exact lw_2509 h hi hL
  · exact lw_2534 h hi hL
end StepL
