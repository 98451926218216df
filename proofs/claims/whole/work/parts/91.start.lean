/-! the start: the constructors, beside a closed memory -/
def Sd (L : Nat) (xs : Nat → Int32) (z σ : mm_M) : Prop := mN σ = mN z ∧ mX σ = 0 ∧ mS σ = mS z ∧ (∀ a, a < 1000000 → mK σ a = mK z a ∧ mR σ a = mR z a ∧ mI σ a = mI z a) ∧ ∀ a, 1000000 ≤ a → mK σ a = k0 L a ∧ mR σ a = r0 a ∧ mI σ a = i0 xs a
section SdV
variable {L : Nat} {xs : Nat → Int32} {z σ : mm_M} {d : Nat}
theorem Sd.x (h : Sd L xs z σ) : mX σ = 0 := h.2.1
theorem Sd.n (h : Sd L xs z σ) {N : Nat} (e : mN z = N) : mN σ = N := h.1.trans e
theorem Sd.lt (h : Sd L xs z σ) (e : mN z < 1000000) : mN σ < 1000000 := by rw [h.1]; exact e
theorem Sd.lg (h : Sd L xs z σ) {n : Nat} (e : mN z + 1 + n ≤ 1000000) : mN σ + 1 + n ≤ 1000000 := by rw [h.1]; exact e
theorem Sd.k (h : Sd L xs z σ) {a : Nat} {q : Nat × Nat} (ha : a < 1000000) (e : mK z a = q) : mK σ a = q := (h.2.2.2.1 a ha).1.trans e
theorem Sd.k1 (h : Sd L xs z σ) {a c : Nat} (ha : a < 1000000) (e : (mK z a).1 = c) : (mK σ a).1 = c := by rw [(h.2.2.2.1 a ha).1]; exact e
theorem Sd.r (h : Sd L xs z σ) {a i v : Nat} (ha : a < 1000000) (e : mR z a i = some v) : mR σ a i = some v := by rw [(h.2.2.2.1 a ha).2.1]; exact e
theorem Sd.i (h : Sd L xs z σ) {a i : Nat} {v : Int32} (ha : a < 1000000) (e : mI z a i = v) : mI σ a i = v := by rw [(h.2.2.2.1 a ha).2.2]; exact e
theorem sR_g {c a x v : Nat} (h : (mK σ a).1 = 100 + c) (k : mm_M → Option mm_R) : sR σ c a x v k = k (wR σ a x v) := by unfold sR; rw [if_pos h]
theorem sI_g {c a x : Nat} {v : Int32} (h : (mK σ a).1 = 100 + c) (k : mm_M → Option mm_R) : sI σ c a x v k = k (wI σ a x v) := by unfold sI; rw [if_pos h]
theorem Sd.qmA (h : Sd L xs z σ) (k : Nat × Nat) (n : Nat) (e : mN z < 1000000) : Sd L xs (mA z k n) (mA σ k n) := by
  obtain ⟨h1, h2, h3, h4, h5⟩ := h
  refine ⟨by show mN σ + 1 = mN z + 1; rw [h1], h2, by show mS σ + n = mS z + n; rw [h3], fun a ha => ⟨?_, ?_, ?_⟩, fun a ha => ⟨?_, ?_, ?_⟩⟩
  · show (if a = mN σ then k else mK σ a) = (if a = mN z then k else mK z a)
    rw [h1, (h4 a ha).1]
  · funext j
    show (if a = mN σ then none else mR σ a j) = (if a = mN z then none else mR z a j)
    rw [h1, (h4 a ha).2.1]
  · funext j
    show (if a = mN σ then 0 else mI σ a j) = (if a = mN z then 0 else mI z a j)
    rw [h1, (h4 a ha).2.2]
  · show (if a = mN σ then k else mK σ a) = _
    rw [if_neg (by omega)]; exact (h5 a ha).1
  · funext j
    show (if a = mN σ then none else mR σ a j) = _
    rw [if_neg (by omega), (h5 a ha).2.1]
  · funext j
    show (if a = mN σ then 0 else mI σ a j) = _
    rw [if_neg (by omega), (h5 a ha).2.2]
theorem Sd.qmG (h : Sd L xs z σ) (n k : Nat) (e : mN z + 1 + n ≤ 1000000) : Sd L xs (mG z n k) (mG σ n k) := by
  obtain ⟨h1, h2, h3, h4, h5⟩ := h
  refine ⟨by show mN σ + 1 + n = mN z + 1 + n; rw [h1], h2, by show mS σ + n + n * k = mS z + n + n * k; rw [h3], fun a ha => ⟨?_, ?_, ?_⟩, fun a ha => ⟨?_, ?_, ?_⟩⟩
  · show (if a = mN σ then (5, n) else if mN σ ≤ a ∧ a < mN σ + 1 + n then (1, k) else mK σ a) = (if a = mN z then (5, n) else if mN z ≤ a ∧ a < mN z + 1 + n then (1, k) else mK z a)
    rw [h1, (h4 a ha).1]
  · funext j
    show (if a = mN σ then (if j < n then some (mN σ + 1 + j) else none) else if mN σ ≤ a ∧ a < mN σ + 1 + n then none else mR σ a j) = (if a = mN z then (if j < n then some (mN z + 1 + j) else none) else if mN z ≤ a ∧ a < mN z + 1 + n then none else mR z a j)
    rw [h1, (h4 a ha).2.1]
  · funext j
    show (if mN σ ≤ a ∧ a < mN σ + 1 + n then 0 else mI σ a j) = (if mN z ≤ a ∧ a < mN z + 1 + n then 0 else mI z a j)
    rw [h1, (h4 a ha).2.2]
  · show (if a = mN σ then (5, n) else if mN σ ≤ a ∧ a < mN σ + 1 + n then (1, k) else mK σ a) = _
    rw [if_neg (by omega), if_neg (by omega)]; exact (h5 a ha).1
  · funext j
    show (if a = mN σ then (if j < n then some (mN σ + 1 + j) else none) else if mN σ ≤ a ∧ a < mN σ + 1 + n then none else mR σ a j) = _
    rw [if_neg (by omega), if_neg (by omega), (h5 a ha).2.1]
  · funext j
    show (if mN σ ≤ a ∧ a < mN σ + 1 + n then 0 else mI σ a j) = _
    rw [if_neg (by omega), (h5 a ha).2.2]
theorem Sd.qwR (h : Sd L xs z σ) (a i : Nat) {v v' : Nat} (ha : a < 1000000) (e : v = v') : Sd L xs (wR z a i v') (wR σ a i v) := by
  obtain ⟨h1, h2, h3, h4, h5⟩ := h
  refine ⟨h1, h2, h3, fun b hb => ⟨(h4 b hb).1, ?_, (h4 b hb).2.2⟩, fun b hb => ⟨(h5 b hb).1, ?_, (h5 b hb).2.2⟩⟩
  · funext j
    show (if b = a ∧ j = i then some v else mR σ b j) = (if b = a ∧ j = i then some v' else mR z b j)
    rw [e, (h4 b hb).2.1]
  · funext j
    show (if b = a ∧ j = i then some v else mR σ b j) = _
    rw [if_neg (by omega), (h5 b hb).2.1]
theorem Sd.qwI (h : Sd L xs z σ) (a i : Nat) (v : Int32) (ha : a < 1000000) : Sd L xs (wI z a i v) (wI σ a i v) := by
  obtain ⟨h1, h2, h3, h4, h5⟩ := h
  refine ⟨h1, h2, h3, fun b hb => ⟨(h4 b hb).1, (h4 b hb).2.1, ?_⟩, fun b hb => ⟨(h5 b hb).1, (h5 b hb).2.1, ?_⟩⟩
  · funext j
    show (if b = a ∧ j = i then v else mI σ b j) = (if b = a ∧ j = i then v else mI z b j)
    rw [(h4 b hb).2.2]
  · rw [rI_o (by omega)]; exact (h5 b hb).2.2
theorem Sd.qwA (h : Sd L xs z σ) (a : Nat) {f g : Nat → Int32} (ha : a < 1000000) (e : f = g) : Sd L xs (wA z a g) (wA σ a f) := by
  obtain ⟨h1, h2, h3, h4, h5⟩ := h
  refine ⟨h1, h2, h3, fun b hb => ⟨(h4 b hb).1, (h4 b hb).2.1, ?_⟩, fun b hb => ⟨(h5 b hb).1, (h5 b hb).2.1, ?_⟩⟩
  · funext j
    show (if b = a then f j else mI σ b j) = (if b = a then g j else mI z b j)
    rw [(h4 b hb).2.2, e]
  · rw [rA_o (by omega)]; exact (h5 b hb).2.2
/-- a write of what is there already -/
theorem Sd.w0 (h : Sd L xs z σ) (a i : Nat) {v : Int32} (ha : a < 1000000) (e : mI z a i = v) : Sd L xs z (wI σ a i v) := by
  obtain ⟨h1, h2, h3, h4, h5⟩ := h
  refine ⟨h1, h2, h3, fun b hb => ⟨(h4 b hb).1, (h4 b hb).2.1, ?_⟩, fun b hb => ⟨(h5 b hb).1, (h5 b hb).2.1, ?_⟩⟩
  · funext j
    rw [rI_w]
    by_cases q : b = a ∧ j = i
    · rw [if_pos q, q.1, q.2]; exact e.symm
    · rw [if_neg q, (h4 b hb).2.2]
  · rw [rI_o (by omega)]; exact (h5 b hb).2.2
theorem cz_std {B : Nat} (h : Sd L xs z σ) (hB : B + 1 < 1000000) (k0' : (mK z B).1 = 104) (k1 : mK z (B + 1) = (1, 150)) (r0' : mR z B 0 = some (B + 1)) : ∃ σ', ev d 60 [.ref B] σ = some (.inl uv, σ') ∧ Sd L xs (wI (wA z (B + 1) (fun j => if 0 ≤ j ∧ j < 0 + 11 then stdI (0 + (j - 0)) else mI z (B + 1) j)) B 2 (nI 11)) σ' := by
  have kk : mK σ 1000001 = (21, 11) := (h.2.2.2.2 1000001 (by decide)).1
  have std : mI σ 1000001 = stdI := (h.2.2.2.2 1000001 (by decide)).2.2
  have k2 : mK σ (B + 1) = (1, 150) := h.k hB k1
  have n1 : ∀ (τ : mm_M) (k : Int32 → Option mm_R), mK τ = mK σ → aN τ 1000001 k = k (nI 11) := fun τ k e => by
    unfold aN
    rw [e, kk, if_pos ⟨by decide, by decide⟩]
    rfl
  have cp : ∀ k : mm_M → Option mm_R, cpy σ 1000001 0 (B + 1) 0 (nI 11) k = k (wA σ (B + 1) (fun j => if 0 ≤ j ∧ j < 0 + 11 then mI σ 1000001 (0 + (j - 0)) else mI σ (B + 1) j)) := fun k => by
    unfold cpy
    rw [kk, k2, if_pos ⟨Or.inr rfl, rfl, by omega, ⟨by decide, by decide, by decide⟩, by decide, by decide⟩]
    rfl
  have ef : (fun j => if 0 ≤ j ∧ j < 0 + 11 then mI σ 1000001 (0 + (j - 0)) else mI σ (B + 1) j) = (fun j => if 0 ≤ j ∧ j < 0 + 11 then stdI (0 + (j - 0)) else mI z (B + 1) j) := by
    rw [std, (h.2.2.2.1 (B + 1) hB).2.2]
  have h1 := h.qwA (B + 1) hB ef
  refine ⟨_, ?_, h1.qwI B 2 (nI 11) (by omega)⟩
  rw [e_Law_makeStandard d B σ (h.k1 (by omega) k0'), gR_k (h.k1 (by omega) k0') (h.r (by omega) r0'), n1 σ _ rfl, cp, n1 (wA σ (B + 1) (fun j => if 0 ≤ j ∧ j < 0 + 11 then mI σ 1000001 (0 + (j - 0)) else mI σ (B + 1) j)) _ rfl, sI_g (c := 4) (a := B) (h1.k1 (a := B) (by omega) k0')]
theorem cz_clear {B : Nat} (h : Sd L xs z σ) (hB : B + 1 < 1000000) (k0' : (mK z B).1 = 111) (k1 : mK z (B + 1) = (1, 6)) (r0' : mR z B 0 = some (B + 1)) : ∃ σ', ev (d + 1) 87 [.ref B] σ = some (.inl uv, σ') ∧ Sd L xs (wI (wA z (B + 1) (fun j => if j < 6 then -1 else mI z (B + 1) j)) B 1 0) σ' := by
  have ef : (fun j => if j < 6 then -1 else mI σ (B + 1) j) = (fun j => if j < 6 then -1 else mI z (B + 1) j) := by rw [(h.2.2.2.1 (B + 1) hB).2.2]
  have h1 := h.qwA (B + 1) hB ef
  refine ⟨_, ?_, h1.qwI B 1 0 (by omega)⟩
  rw [e_Book_clear d B σ (h.k1 (by omega) k0'), gR_k (h.k1 (by omega) k0') (h.r (by omega) r0'), c_fill (h.k hB k1) (by decide), cV1_ok, sI_g (c := 11) (a := B) (h1.k1 (a := B) (by omega) k0')]
theorem cz_day {B : Nat} {v : Int32} (h : Sd L xs z σ) (hB : B + 1 < 1000000) (k0' : (mK z B).1 = 106) (k1 : mK z (B + 1) = (1, 79)) (r0' : mR z B 0 = some (B + 1)) : ∃ σ', ev (d + 1) 25 [.ref B, .int v] σ = some (.inl uv, σ') ∧ Sd L xs (wI (wA z (B + 1) (fun j => if j < 79 then 0 else mI z (B + 1) j)) (B + 1) 1 v) σ' := by
  have ef : (fun j => if j < 79 then 0 else mI σ (B + 1) j) = (fun j => if j < 79 then 0 else mI z (B + 1) j) := by rw [(h.2.2.2.1 (B + 1) hB).2.2]
  have h1 := h.qwA (B + 1) hB ef
  refine ⟨_, ?_, h1.qwI (B + 1) 1 v hB⟩
  rw [e_Days_begin d B v σ (h.k1 (by omega) k0'), gR_k (h.k1 (by omega) k0') (h.r (by omega) r0'), c_fill (h.k hB k1) (by decide), cV1_ok, gR_k (c := 6) (a := B) (h1.k1 (a := B) (by omega) k0') (h1.r (a := B) (by omega) r0'), show tI (wA σ (B + 1) (fun j => if j < 79 then 0 else mI σ (B + 1) j)) (B + 1) 1 = tI (wA σ (B + 1) (fun j => if j < 79 then 0 else mI σ (B + 1) j)) (B + 1) (nI 1) from rfl, tI_k (h1.k (a := B + 1) hB k1) (by decide) (by decide)]
theorem cz_tells (h : Sd L xs z σ) (k53 : (mK z 53).1 = 112) (k56 : mK z 56 = (1, 5)) (r11 : mR z 53 11 = some 56) (z0 : ∀ i, i < 3 → mI z 56 i = 0) : ∃ σ', ev d 163 [.ref 53] σ = some (.inl uv, σ') ∧ Sd L xs (wI (wI z 56 3 20) 56 4 2) σ' := by
  have st : ∀ (υ : mm_M) (i : Nat), Sd L xs z υ → i < 3 → rn d 163 2 [.ref 53, .int (nI i)] [] υ = rn d 163 2 [.ref 53, .int (nI (i + 1))] [] (wI υ 56 i 0) ∧ Sd L xs z (wI υ 56 i 0) := by
    intro υ i hu hi
    refine ⟨?_, hu.w0 56 i (by decide) (z0 i hi)⟩
    rw [e_M_tellsNothing_2, if_neg (show ¬ (3 : Int32) ≤ nI i from nI_ge (b := 3) hi (by decide)), gR_k (hu.k1 (by decide) k53) (hu.r (by decide) r11), tI_k (hu.k (by decide) k56) (by omega) (by decide), nI_1]
  obtain ⟨a1, b1⟩ := st σ 0 h (by decide)
  obtain ⟨a2, b2⟩ := st _ 1 b1 (by decide)
  obtain ⟨a3, b3⟩ := st _ 2 b2 (by decide)
  have b4 := b3.qwI 56 3 20 (by decide)
  refine ⟨_, ?_, b4.qwI 56 4 2 (by decide)⟩
  rw [e_M_tellsNothing d 53 σ (h.k1 (by decide) k53), show rn d 163 2 [.ref 53, .int 0] [] σ = rn d 163 2 [.ref 53, .int (nI 0)] [] σ from rfl, a1, a2, a3, e_M_tellsNothing_2, if_pos (show (3 : Int32) ≤ nI (2 + 1) by decide), gR_k (b3.k1 (by decide) k53) (b3.r (by decide) r11), show tI (wI (wI (wI σ 56 0 0) 56 1 0) 56 2 0) 56 3 = tI (wI (wI (wI σ 56 0 0) 56 1 0) 56 2 0) 56 (nI 3) from rfl, tI_k (b3.k (by decide) k56) (by decide) (by decide), gR_k (c := 12) (a := 53) (b4.k1 (a := 53) (by decide) k53) (b4.r (a := 53) (by decide) r11), show tI (wI (wI (wI (wI σ 56 0 0) 56 1 0) 56 2 0) 56 3 20) 56 4 = tI (wI (wI (wI (wI σ 56 0 0) 56 1 0) 56 2 0) 56 3 20) 56 (nI 4) from rfl, tI_k (b4.k (a := 56) (by decide) k56) (by decide) (by decide)]
theorem cz_begins (h : Sd L xs z σ) (k53 : (mK z 53).1 = 112) (k56 : mK z 56 = (1, 5)) (k57 : mK z 57 = (1, 5)) (k533 : mK z 533 = (1, 79)) (r11 : mR z 53 11 = some 56) (r12 : mR z 53 12 = some 57) (r13 : mR z 53 13 = some 58) (r14 : mR z 53 14 = some 66) (r15 : mR z 53 15 = some 74) (r16 : mR z 53 16 = some 81) (r17 : mR z 53 17 = some 88) (r18 : mR z 53 18 = some 101) (r29 : mR z 53 29 = some 533)
    (t0 : ∀ i, i < 3 → mI z 56 i = 0) (t3 : mI z 56 3 = 20) (t4 : mI z 56 4 = 2) (u0 : ∀ i, i < 3 → mI z 57 i = 0) (v0 : ∀ i, i < 79 → mI z 533 i = 0) (f0 : ∀ i, i < 46 → i ≠ 3 → mI z 53 i = 0) : ∃ σ', ev (d + 1) 194 [.ref 53] σ = some (.inl uv, σ') ∧ Sd L xs (wI (wI (wI z 57 3 20) 57 4 2) 533 77 20) σ' := by
  have cp : ∀ (z' υ : mm_M) (i : Nat) (v : Int32), Sd L xs z' υ → mK z' = mK z → mR z' = mR z → mI z' 56 i = v → i < 5 → rn (d + 1) 194 2 [.ref 53, .int (nI i)] [] υ = rn (d + 1) 194 2 [.ref 53, .int (nI (i + 1))] [] (wI υ 57 i v) := by
    intro z' υ i v hu ek er ev' hi
    rw [e_M_beginsAnew_2, if_neg (show ¬ (5 : Int32) ≤ nI i from nI_ge (b := 5) hi (by decide)), gR_k (hu.k1 (by decide) (by rw [ek]; exact k53)) (hu.r (by decide) (by rw [er]; exact r12)), gR_k (hu.k1 (by decide) (by rw [ek]; exact k53)) (hu.r (by decide) (by rw [er]; exact r11)), aI_k (hu.k (by decide) (by rw [ek]; exact k56)) hi (by decide), hu.i (by decide) ev', tI_k (hu.k (by decide) (by rw [ek]; exact k57)) hi (by decide), nI_1]
  have a1 := cp z σ 0 0 h rfl rfl (t0 0 (by decide)) (by decide)
  have b1 := h.w0 57 0 (by decide) (u0 0 (by decide))
  have a2 := cp z _ 1 0 b1 rfl rfl (t0 1 (by decide)) (by decide)
  have b2 := b1.w0 57 1 (by decide) (u0 1 (by decide))
  have a3 := cp z _ 2 0 b2 rfl rfl (t0 2 (by decide)) (by decide)
  have b3 := b2.w0 57 2 (by decide) (u0 2 (by decide))
  have a4 := cp z _ 3 20 b3 rfl rfl t3 (by decide)
  have b4 := b3.qwI 57 3 20 (by decide)
  have a5 := cp (wI z 57 3 20) _ 4 2 b4 rfl rfl (by rw [rI_o (by decide)]; exact t4) (by decide)
  have b5 := b4.qwI 57 4 2 (by decide)
  have e57 : ∀ i, i < 3 → mI (wI (wI z 57 3 20) 57 4 2) 57 i = 0 := fun i hi => by rw [rI_w, if_neg (by omega), rI_w, if_neg (by omega)]; exact u0 i hi
  have e573 : mI (wI (wI z 57 3 20) 57 4 2) 57 3 = 20 := by rw [rI_w, if_neg (by omega), rI_w, if_pos ⟨rfl, rfl⟩]
  have e533 : ∀ i, i < 79 → mI (wI (wI z 57 3 20) 57 4 2) 533 i = 0 := fun i hi => by rw [rI_o (by decide), rI_o (by decide)]; exact v0 i hi
  have e53 : ∀ i, i < 46 → i ≠ 3 → mI (wI (wI (wI z 57 3 20) 57 4 2) 533 77 20) 53 i = 0 := fun i hi h3 => by rw [rI_o (by decide), rI_o (by decide), rI_o (by decide)]; exact f0 i hi h3
  generalize hσ5 : wI (wI (wI (wI (wI σ 57 0 0) 57 1 0) 57 2 0) 57 3 20) 57 4 2 = σ5 at *
  have K53 : ∀ υ, Sd L xs (wI (wI z 57 3 20) 57 4 2) υ → (mK υ 53).1 = 100 + 12 := fun υ hu => hu.k1 (by decide) k53
  have RR : ∀ υ, Sd L xs (wI (wI z 57 3 20) 57 4 2) υ → ∀ i v, mR z 53 i = some v → mR υ 53 i = some v := fun υ hu i v e => hu.r (by decide) e
  have ly : ∀ (υ : mm_M) (a c : Nat), ev d 192 [.ref a, .ref c, .int 0] υ = some (.inl uv, υ) := fun υ a c => by
    rw [e_M_lays, e_M_lays_2, if_pos (show (0 : Int32) ≤ 0 by decide)]
  have st2 : ∀ k, k ≤ 79 → ∃ υ, rn (d + 1) 194 78 [.ref 53, .int (nI 0)] [] σ5 = rn (d + 1) 194 78 [.ref 53, .int (nI k)] [] υ ∧ Sd L xs (wI (wI z 57 3 20) 57 4 2) υ := by
    intro k
    induction k with
    | zero => exact fun _ => ⟨σ5, rfl, b5⟩
    | succ k ih =>
      intro hk
      obtain ⟨υ, c1, c2⟩ := ih (by omega)
      refine ⟨wI υ 533 k 0, ?_, c2.w0 533 k (by decide) (e533 k (by omega))⟩
      rw [c1, e_M_beginsAnew_78, if_neg (show ¬ (79 : Int32) ≤ nI k from nI_ge (b := 79) (by omega) (by decide)), gR_k (K53 υ c2) (RR υ c2 29 533 r29), tI_k (c2.k (by decide) k533) (by omega) (by decide), nI_1]
  obtain ⟨υ, c1, c2⟩ := st2 79 (Nat.le_refl _)
  have d1 := c2.qwI 533 77 20 (by decide)
  have d2 := d1.w0 53 19 (by decide) (e53 19 (by decide) (by decide))
  have d3 := d2.w0 53 33 (by decide) (e53 33 (by decide) (by decide))
  have d4 := d3.w0 53 34 (by decide) (e53 34 (by decide) (by decide))
  have d5 := d4.w0 53 35 (by decide) (e53 35 (by decide) (by decide))
  have d6 := d5.w0 53 36 (by decide) (e53 36 (by decide) (by decide))
  have KK : ∀ υ, Sd L xs (wI (wI (wI z 57 3 20) 57 4 2) 533 77 20) υ → (mK υ 53).1 = 100 + 12 := fun υ hu => hu.k1 (by decide) k53
  refine ⟨_, ?_, d6⟩
  rw [e_M_beginsAnew d 53 σ (h.k1 (by decide) k53), show rn (d + 1) 194 2 [.ref 53, .int 0] [] σ = rn (d + 1) 194 2 [.ref 53, .int (nI 0)] [] σ from rfl, a1, a2, a3, a4, a5, e_M_beginsAnew_2, if_pos (show (5 : Int32) ≤ nI (4 + 1) by decide), gR_k (K53 σ5 b5) (RR σ5 b5 13 58 r13), gR_k (K53 σ5 b5) (RR σ5 b5 14 66 r14), gR_k (K53 σ5 b5) (RR σ5 b5 12 57 r12), show aI σ5 57 0 = aI σ5 57 (nI 0) from rfl, aI_k (b5.k (by decide) k57) (by decide) (by decide), b5.i (by decide) (e57 0 (by decide)), ly, cV1_ok, gR_k (K53 σ5 b5) (RR σ5 b5 15 74 r15), gR_k (K53 σ5 b5) (RR σ5 b5 16 81 r16), gR_k (K53 σ5 b5) (RR σ5 b5 12 57 r12), show aI σ5 57 1 = aI σ5 57 (nI 1) from rfl, aI_k (b5.k (by decide) k57) (by decide) (by decide), b5.i (by decide) (e57 1 (by decide)), ly, cV1_ok, gR_k (K53 σ5 b5) (RR σ5 b5 17 88 r17), gR_k (K53 σ5 b5) (RR σ5 b5 18 101 r18), gR_k (K53 σ5 b5) (RR σ5 b5 12 57 r12), show aI σ5 57 2 = aI σ5 57 (nI 2) from rfl, aI_k (b5.k (by decide) k57) (by decide) (by decide), b5.i (by decide) (e57 2 (by decide)), ly, cV1_ok, show rn (d + 1) 194 78 [.ref 53, .int 0] [] σ5 = rn (d + 1) 194 78 [.ref 53, .int (nI 0)] [] σ5 from rfl, c1, e_M_beginsAnew_78, if_pos (show (79 : Int32) ≤ nI 79 by decide), gR_k (K53 υ c2) (RR υ c2 29 533 r29), gR_k (K53 υ c2) (RR υ c2 12 57 r12), show aI υ 57 3 = aI υ 57 (nI 3) from rfl, aI_k (c2.k (by decide) k57) (by decide) (by decide), c2.i (by decide) e573, show tI υ 533 77 = tI υ 533 (nI 77) from rfl, tI_k (c2.k (by decide) k533) (by decide) (by decide), sI_g (KK _ d1), sI_g (KK _ d2), sI_g (KK _ d3), sI_g (KK _ d4), sI_g (KK _ d5)]
end SdV
def zz_0 : mm_M := mm_0 0 (fun _ => 0)
def zz_1 : mm_M := mA zz_0 (100 + 0, 0) 16
def zz_2 : mm_M := mA zz_1 (100 + 1, 0) 10
def zz_3 : mm_M := mA zz_2 (3, ix 600) (ix 600)
def zz_4 : mm_M := wR zz_3 1 0 2
def zz_5 : mm_M := wI zz_4 1 9 (-1)
def zz_6 : mm_M := wR zz_5 0 0 1
def zz_7 : mm_M := mA zz_6 (100 + 2, 0) 3
def zz_8 : mm_M := mA zz_7 (1, ix 10) (ix 10)
def zz_9 : mm_M := wR zz_8 3 0 4
def zz_10 : mm_M := mA zz_9 (100 + 3, 0) 12
def zz_11 : mm_M := mA zz_10 (1, ix 7) (ix 7)
def zz_12 : mm_M := wR zz_11 5 0 6
def zz_13 : mm_M := mA zz_12 (1, ix 7) (ix 7)
def zz_14 : mm_M := wR zz_13 5 1 7
def zz_15 : mm_M := mA zz_14 (1, ix 7) (ix 7)
def zz_16 : mm_M := wR zz_15 5 2 8
def zz_17 : mm_M := mA zz_16 (1, ix 6) (ix 6)
def zz_18 : mm_M := wR zz_17 5 3 9
def zz_19 : mm_M := mA zz_18 (1, ix 6) (ix 6)
def zz_20 : mm_M := wR zz_19 5 4 10
def zz_21 : mm_M := mA zz_20 (1, ix 12) (ix 12)
def zz_22 : mm_M := wR zz_21 5 5 11
def zz_23 : mm_M := mA zz_22 (1, ix 12) (ix 12)
def zz_24 : mm_M := wR zz_23 5 6 12
def zz_25 : mm_M := wI zz_24 5 10 20
def zz_26 : mm_M := wI zz_25 5 11 2
def zz_27 : mm_M := wR zz_26 3 1 5
def zz_28 : mm_M := mA zz_27 (100 + 4, 0) 3
def zz_29 : mm_M := mA zz_28 (1, ix 150) (ix 150)
def zz_30 : mm_M := wR zz_29 13 0 14
def zz_31 : mm_M := mA zz_30 (1, ix 150) (ix 150)
def zz_32 : mm_M := wR zz_31 13 1 15
def zz_33 : mm_M := wI (wA zz_32 14 (fun j => if 0 ≤ j ∧ j < 0 + 11 then stdI (0 + (j - 0)) else mI zz_32 14 j)) 13 2 (nI 11)
def zz_34 : mm_M := wR zz_33 3 2 13
def zz_35 : mm_M := wR zz_34 0 1 3
def zz_36 : mm_M := mA zz_35 (100 + 5, 0) 8
def zz_37 : mm_M := mA zz_36 (1, ix 38) (ix 38)
def zz_38 : mm_M := wR zz_37 16 0 17
def zz_39 : mm_M := mA zz_38 (1, ix 38) (ix 38)
def zz_40 : mm_M := wR zz_39 16 1 18
def zz_41 : mm_M := mA zz_40 (1, ix 38) (ix 38)
def zz_42 : mm_M := wR zz_41 16 2 19
def zz_43 : mm_M := mA zz_42 (1, ix 38) (ix 38)
def zz_44 : mm_M := wR zz_43 16 3 20
def zz_45 : mm_M := wR zz_44 0 2 16
def zz_46 : mm_M := mA zz_45 (100 + 6, 0) 1
def zz_47 : mm_M := mA zz_46 (1, ix 79) (ix 79)
def zz_48 : mm_M := wR zz_47 21 0 22
def zz_49 : mm_M := wR zz_48 0 3 21
def zz_50 : mm_M := mA zz_49 (100 + 6, 0) 1
def zz_51 : mm_M := mA zz_50 (1, ix 79) (ix 79)
def zz_52 : mm_M := wR zz_51 23 0 24
def zz_53 : mm_M := wR zz_52 0 4 23
def zz_54 : mm_M := mA zz_53 (100 + 7, 0) 5
def zz_55 : mm_M := mA zz_54 (1, ix 1264) (ix 1264)
def zz_56 : mm_M := wR zz_55 25 0 26
def zz_57 : mm_M := mA zz_56 (1, ix 4029) (ix 4029)
def zz_58 : mm_M := wR zz_57 25 1 27
def zz_59 : mm_M := mA zz_58 (1, ix 3) (ix 3)
def zz_60 : mm_M := wR zz_59 25 2 28
def zz_61 : mm_M := wR zz_60 0 5 25
def zz_62 : mm_M := mA zz_61 (100 + 8, 0) 4
def zz_63 : mm_M := mA zz_62 (1, ix 7) (ix 7)
def zz_64 : mm_M := wR zz_63 29 0 30
def zz_65 : mm_M := mA zz_64 (1, ix 896) (ix 896)
def zz_66 : mm_M := wR zz_65 29 1 31
def zz_67 : mm_M := mA zz_66 (1, ix 42) (ix 42)
def zz_68 : mm_M := wR zz_67 29 2 32
def zz_69 : mm_M := mA zz_68 (1, ix 6) (ix 6)
def zz_70 : mm_M := wR zz_69 29 3 33
def zz_71 : mm_M := wR zz_70 0 6 29
def zz_72 : mm_M := mA zz_71 (100 + 9, 0) 6
def zz_73 : mm_M := mA zz_72 (4, ix 100) (ix 100)
def zz_74 : mm_M := wR zz_73 34 0 35
def zz_75 : mm_M := mA zz_74 (1, ix 41) (ix 41)
def zz_76 : mm_M := wR zz_75 34 1 36
def zz_77 : mm_M := wR zz_76 0 7 34
def zz_78 : mm_M := mA zz_77 (100 + 10, 0) 2
def zz_79 : mm_M := wR zz_78 0 8 37
def zz_80 : mm_M := mA zz_79 (100 + 3, 0) 12
def zz_81 : mm_M := mA zz_80 (1, ix 7) (ix 7)
def zz_82 : mm_M := wR zz_81 38 0 39
def zz_83 : mm_M := mA zz_82 (1, ix 7) (ix 7)
def zz_84 : mm_M := wR zz_83 38 1 40
def zz_85 : mm_M := mA zz_84 (1, ix 7) (ix 7)
def zz_86 : mm_M := wR zz_85 38 2 41
def zz_87 : mm_M := mA zz_86 (1, ix 6) (ix 6)
def zz_88 : mm_M := wR zz_87 38 3 42
def zz_89 : mm_M := mA zz_88 (1, ix 6) (ix 6)
def zz_90 : mm_M := wR zz_89 38 4 43
def zz_91 : mm_M := mA zz_90 (1, ix 12) (ix 12)
def zz_92 : mm_M := wR zz_91 38 5 44
def zz_93 : mm_M := mA zz_92 (1, ix 12) (ix 12)
def zz_94 : mm_M := wR zz_93 38 6 45
def zz_95 : mm_M := wI zz_94 38 10 20
def zz_96 : mm_M := wI zz_95 38 11 2
def zz_97 : mm_M := wR zz_96 0 9 38
def zz_98 : mm_M := mA zz_97 (100 + 4, 0) 3
def zz_99 : mm_M := mA zz_98 (1, ix 150) (ix 150)
def zz_100 : mm_M := wR zz_99 46 0 47
def zz_101 : mm_M := mA zz_100 (1, ix 150) (ix 150)
def zz_102 : mm_M := wR zz_101 46 1 48
def zz_103 : mm_M := wI (wA zz_102 47 (fun j => if 0 ≤ j ∧ j < 0 + 11 then stdI (0 + (j - 0)) else mI zz_102 47 j)) 46 2 (nI 11)
def zz_104 : mm_M := wR zz_103 0 10 46
def zz_105 : mm_M := mA zz_104 (100 + 11, 0) 2
def zz_106 : mm_M := mA zz_105 (1, ix 6) (ix 6)
def zz_107 : mm_M := wR zz_106 49 0 50
def zz_108 : mm_M := wI (wA zz_107 50 (fun j => if j < 6 then -1 else mI zz_107 50 j)) 49 1 0
def zz_109 : mm_M := wR zz_108 0 11 49
def zz_110 : mm_M := mA zz_109 (100 + 11, 0) 2
def zz_111 : mm_M := mA zz_110 (1, ix 6) (ix 6)
def zz_112 : mm_M := wR zz_111 51 0 52
def zz_113 : mm_M := wI (wA zz_112 52 (fun j => if j < 6 then -1 else mI zz_112 52 j)) 51 1 0
def zz_114 : mm_M := wR zz_113 0 12 51
def zz_115 : mm_M := wI (wA zz_114 22 (fun j => if j < 79 then 0 else mI zz_114 22 j)) 22 1 20
def zz_116 : mm_M := mA zz_115 (100 + 12, 0) 46
def zz_117 : mm_M := wI zz_116 53 3 (-1)
def zz_118 : mm_M := mA zz_117 (1, ix 600) (ix 600)
def zz_119 : mm_M := wR zz_118 53 9 54
def zz_120 : mm_M := mA zz_119 (1, ix 2) (ix 2)
def zz_121 : mm_M := wR zz_120 53 10 55
def zz_122 : mm_M := mA zz_121 (1, ix 5) (ix 5)
def zz_123 : mm_M := wR zz_122 53 11 56
def zz_124 : mm_M := mA zz_123 (1, ix 5) (ix 5)
def zz_125 : mm_M := wR zz_124 53 12 57
def zz_126 : mm_M := mG zz_125 (ix 7) (ix 2)
def zz_127 : mm_M := wR zz_126 53 13 58
def zz_128 : mm_M := mG zz_127 (ix 7) (ix 2)
def zz_129 : mm_M := wR zz_128 53 14 66
def zz_130 : mm_M := mG zz_129 (ix 6) (ix 2)
def zz_131 : mm_M := wR zz_130 53 15 74
def zz_132 : mm_M := mG zz_131 (ix 6) (ix 2)
def zz_133 : mm_M := wR zz_132 53 16 81
def zz_134 : mm_M := mG zz_133 (ix 12) (ix 2)
def zz_135 : mm_M := wR zz_134 53 17 88
def zz_136 : mm_M := mG zz_135 (ix 12) (ix 2)
def zz_137 : mm_M := wR zz_136 53 18 101
def zz_138 : mm_M := mG zz_137 (ix 160) (ix 2)
def zz_139 : mm_M := wR zz_138 53 21 114
def zz_140 : mm_M := mG zz_139 (ix 160) (ix 2)
def zz_141 : mm_M := wR zz_140 53 22 275
def zz_142 : mm_M := mG zz_141 (ix 6) (ix 2)
def zz_143 : mm_M := wR zz_142 53 23 436
def zz_144 : mm_M := mG zz_143 (ix 6) (ix 2)
def zz_145 : mm_M := wR zz_144 53 24 443
def zz_146 : mm_M := mA zz_145 (1, ix 160) (ix 160)
def zz_147 : mm_M := wR zz_146 53 25 450
def zz_148 : mm_M := mA zz_147 (1, ix 10) (ix 10)
def zz_149 : mm_M := wR zz_148 53 26 451
def zz_150 : mm_M := mG zz_149 (ix 80) (ix 4)
def zz_151 : mm_M := wR zz_150 53 27 452
def zz_152 : mm_M := mA zz_151 (1, ix 79) (ix 79)
def zz_153 : mm_M := wR zz_152 53 29 533
def zz_154 : mm_M := mA zz_153 (1, ix 79) (ix 79)
def zz_155 : mm_M := wR zz_154 53 30 534
def zz_156 : mm_M := mG zz_155 (ix 16) (ix 79)
def zz_157 : mm_M := wR zz_156 53 31 535
def zz_158 : mm_M := mG zz_157 (ix 3) (ix 1344)
def zz_159 : mm_M := wR zz_158 53 32 552
def zz_160 : mm_M := mA zz_159 (1, ix 6) (ix 6)
def zz_161 : mm_M := wR zz_160 53 40 556
def zz_162 : mm_M := mA zz_161 (1, ix 6) (ix 6)
def zz_163 : mm_M := wR zz_162 53 41 557
def zz_164 : mm_M := mA zz_163 (1, ix 41) (ix 41)
def zz_165 : mm_M := wR zz_164 53 43 558
def zz_166 : mm_M := mA zz_165 (2, ix 14) (ix 14)
def zz_167 : mm_M := wR zz_166 53 44 559
def zz_168 : mm_M := wI (wI zz_167 56 3 20) 56 4 2
def zz_169 : mm_M := wI (wI (wI zz_168 57 3 20) 57 4 2) 533 77 20
def zz_170 : mm_M := mA zz_169 (2, ix 1) (ix 1)
theorem cz_12_1 {L : Nat} {xs : Nat → Int32} {σ : mm_M} {d : Nat} (h : Sd L xs zz_2 σ) : ∃ σ', ev (d + 0) 12 [.ref 1] σ = some (.inl uv, σ') ∧ Sd L xs zz_5 σ' := by
  have h1 : Sd L xs zz_3 _ := h.qmA (3, ix 600) (ix 600) (by decide +kernel)
  have h2 : Sd L xs zz_4 _ := h1.qwR 1 0 (by decide) (h.n (show mN zz_2 = 2 by decide +kernel))
  have h3 : Sd L xs zz_5 _ := h2.qwI 1 9 (-1) (by decide)
  refine ⟨_, ?_, h3⟩
  rw [e_Tape_init (d + 0) 1 σ (h.k1 (by decide) (by decide +kernel)), if_pos ⟨h.x, h.lt (by decide +kernel), by decide, by decide⟩, sR_g (h1.k1 (by decide) (show (mK zz_3 1).1 = 100 + 1 by decide +kernel)), sI_g (h2.k1 (by decide) (show (mK zz_4 1).1 = 100 + 1 by decide +kernel))]
theorem cz_46_5 {L : Nat} {xs : Nat → Int32} {σ : mm_M} {d : Nat} (h : Sd L xs zz_10 σ) : ∃ σ', ev (d + 0) 46 [.ref 5] σ = some (.inl uv, σ') ∧ Sd L xs zz_26 σ' := by
  have h1 : Sd L xs zz_11 _ := h.qmA (1, ix 7) (ix 7) (by decide +kernel)
  have h2 : Sd L xs zz_12 _ := h1.qwR 5 0 (by decide) (h.n (show mN zz_10 = 6 by decide +kernel))
  have h3 : Sd L xs zz_13 _ := h2.qmA (1, ix 7) (ix 7) (by decide +kernel)
  have h4 : Sd L xs zz_14 _ := h3.qwR 5 1 (by decide) (h2.n (show mN zz_12 = 7 by decide +kernel))
  have h5 : Sd L xs zz_15 _ := h4.qmA (1, ix 7) (ix 7) (by decide +kernel)
  have h6 : Sd L xs zz_16 _ := h5.qwR 5 2 (by decide) (h4.n (show mN zz_14 = 8 by decide +kernel))
  have h7 : Sd L xs zz_17 _ := h6.qmA (1, ix 6) (ix 6) (by decide +kernel)
  have h8 : Sd L xs zz_18 _ := h7.qwR 5 3 (by decide) (h6.n (show mN zz_16 = 9 by decide +kernel))
  have h9 : Sd L xs zz_19 _ := h8.qmA (1, ix 6) (ix 6) (by decide +kernel)
  have h10 : Sd L xs zz_20 _ := h9.qwR 5 4 (by decide) (h8.n (show mN zz_18 = 10 by decide +kernel))
  have h11 : Sd L xs zz_21 _ := h10.qmA (1, ix 12) (ix 12) (by decide +kernel)
  have h12 : Sd L xs zz_22 _ := h11.qwR 5 5 (by decide) (h10.n (show mN zz_20 = 11 by decide +kernel))
  have h13 : Sd L xs zz_23 _ := h12.qmA (1, ix 12) (ix 12) (by decide +kernel)
  have h14 : Sd L xs zz_24 _ := h13.qwR 5 6 (by decide) (h12.n (show mN zz_22 = 12 by decide +kernel))
  have h15 : Sd L xs zz_25 _ := h14.qwI 5 10 20 (by decide)
  have h16 : Sd L xs zz_26 _ := h15.qwI 5 11 2 (by decide)
  refine ⟨_, ?_, h16⟩
  rw [e_Land_init (d + 0) 5 σ (h.k1 (by decide) (by decide +kernel)), if_pos ⟨h.x, h.lt (by decide +kernel), by decide, by decide⟩, sR_g (h1.k1 (by decide) (show (mK zz_11 5).1 = 100 + 3 by decide +kernel)), if_pos ⟨h2.x, h2.lt (by decide +kernel), by decide, by decide⟩, sR_g (h3.k1 (by decide) (show (mK zz_13 5).1 = 100 + 3 by decide +kernel)), if_pos ⟨h4.x, h4.lt (by decide +kernel), by decide, by decide⟩, sR_g (h5.k1 (by decide) (show (mK zz_15 5).1 = 100 + 3 by decide +kernel)), if_pos ⟨h6.x, h6.lt (by decide +kernel), by decide, by decide⟩, sR_g (h7.k1 (by decide) (show (mK zz_17 5).1 = 100 + 3 by decide +kernel)), if_pos ⟨h8.x, h8.lt (by decide +kernel), by decide, by decide⟩, sR_g (h9.k1 (by decide) (show (mK zz_19 5).1 = 100 + 3 by decide +kernel)), if_pos ⟨h10.x, h10.lt (by decide +kernel), by decide, by decide⟩, sR_g (h11.k1 (by decide) (show (mK zz_21 5).1 = 100 + 3 by decide +kernel)), if_pos ⟨h12.x, h12.lt (by decide +kernel), by decide, by decide⟩, sR_g (h13.k1 (by decide) (show (mK zz_23 5).1 = 100 + 3 by decide +kernel)), sI_g (h14.k1 (by decide) (show (mK zz_24 5).1 = 100 + 3 by decide +kernel)), sI_g (h15.k1 (by decide) (show (mK zz_25 5).1 = 100 + 3 by decide +kernel))]
theorem cz_59_13 {L : Nat} {xs : Nat → Int32} {σ : mm_M} {d : Nat} (h : Sd L xs zz_28 σ) : ∃ σ', ev (d + 1) 59 [.ref 13] σ = some (.inl uv, σ') ∧ Sd L xs zz_33 σ' := by
  have h1 : Sd L xs zz_29 _ := h.qmA (1, ix 150) (ix 150) (by decide +kernel)
  have h2 : Sd L xs zz_30 _ := h1.qwR 13 0 (by decide) (h.n (show mN zz_28 = 14 by decide +kernel))
  have h3 : Sd L xs zz_31 _ := h2.qmA (1, ix 150) (ix 150) (by decide +kernel)
  have h4 : Sd L xs zz_32 _ := h3.qwR 13 1 (by decide) (h2.n (show mN zz_30 = 15 by decide +kernel))
  obtain ⟨s0, cc0, h5⟩ := cz_std (B := 13) (d := d + 0) h4 (by decide) (by decide +kernel) (by decide +kernel) (by decide +kernel)
  have h5 : Sd L xs zz_33 s0 := h5
  refine ⟨_, ?_, h5⟩
  rw [e_Law_init (d + 0) 13 σ (h.k1 (by decide) (by decide +kernel)), if_pos ⟨h.x, h.lt (by decide +kernel), by decide, by decide⟩, sR_g (h1.k1 (by decide) (show (mK zz_29 13).1 = 100 + 4 by decide +kernel)), if_pos ⟨h2.x, h2.lt (by decide +kernel), by decide, by decide⟩, sR_g (h3.k1 (by decide) (show (mK zz_31 13).1 = 100 + 4 by decide +kernel)), cc0, cV_ok]
theorem cz_69_3 {L : Nat} {xs : Nat → Int32} {σ : mm_M} {d : Nat} (h : Sd L xs zz_7 σ) : ∃ σ', ev (d + 2) 69 [.ref 3] σ = some (.inl uv, σ') ∧ Sd L xs zz_34 σ' := by
  have h1 : Sd L xs zz_8 _ := h.qmA (1, ix 10) (ix 10) (by decide +kernel)
  have h2 : Sd L xs zz_9 _ := h1.qwR 3 0 (by decide) (h.n (show mN zz_7 = 4 by decide +kernel))
  have h3 : Sd L xs zz_10 _ := h2.qmA (100 + 3, 0) 12 (by decide +kernel)
  obtain ⟨s0, cc0, h4⟩ := cz_46_5 (d := d + 1) h3
  have h5 : Sd L xs zz_27 _ := h4.qwR 3 1 (v := 5) (by decide) rfl
  have h6 : Sd L xs zz_28 _ := h5.qmA (100 + 4, 0) 3 (by decide +kernel)
  obtain ⟨s1, cc1, h7⟩ := cz_59_13 (d := d + 0) h6
  have h8 : Sd L xs zz_34 _ := h7.qwR 3 2 (v := 13) (by decide) rfl
  refine ⟨_, ?_, h8⟩
  rw [e_Scene_init (d + 1) 3 σ (h.k1 (by decide) (by decide +kernel)), if_pos ⟨h.x, h.lt (by decide +kernel), by decide, by decide⟩, sR_g (h1.k1 (by decide) (show (mK zz_8 3).1 = 100 + 2 by decide +kernel)), if_pos ⟨h2.x, h2.lt (by decide +kernel)⟩, h2.n (show mN zz_9 = 5 by decide +kernel), cc0, cV1_ok, sR_g (h4.k1 (by decide) (show (mK zz_26 3).1 = 100 + 2 by decide +kernel)), if_pos ⟨h5.x, h5.lt (by decide +kernel)⟩, h5.n (show mN zz_27 = 13 by decide +kernel), cc1, cV1_ok, sR_g (h7.k1 (by decide) (show (mK zz_33 3).1 = 100 + 2 by decide +kernel))]
theorem cz_76_16 {L : Nat} {xs : Nat → Int32} {σ : mm_M} {d : Nat} (h : Sd L xs zz_36 σ) : ∃ σ', ev (d + 0) 76 [.ref 16] σ = some (.inl uv, σ') ∧ Sd L xs zz_44 σ' := by
  have h1 : Sd L xs zz_37 _ := h.qmA (1, ix 38) (ix 38) (by decide +kernel)
  have h2 : Sd L xs zz_38 _ := h1.qwR 16 0 (by decide) (h.n (show mN zz_36 = 17 by decide +kernel))
  have h3 : Sd L xs zz_39 _ := h2.qmA (1, ix 38) (ix 38) (by decide +kernel)
  have h4 : Sd L xs zz_40 _ := h3.qwR 16 1 (by decide) (h2.n (show mN zz_38 = 18 by decide +kernel))
  have h5 : Sd L xs zz_41 _ := h4.qmA (1, ix 38) (ix 38) (by decide +kernel)
  have h6 : Sd L xs zz_42 _ := h5.qwR 16 2 (by decide) (h4.n (show mN zz_40 = 19 by decide +kernel))
  have h7 : Sd L xs zz_43 _ := h6.qmA (1, ix 38) (ix 38) (by decide +kernel)
  have h8 : Sd L xs zz_44 _ := h7.qwR 16 3 (by decide) (h6.n (show mN zz_42 = 20 by decide +kernel))
  refine ⟨_, ?_, h8⟩
  rw [e_Steps_init (d + 0) 16 σ (h.k1 (by decide) (by decide +kernel)), if_pos ⟨h.x, h.lt (by decide +kernel), by decide, by decide⟩, sR_g (h1.k1 (by decide) (show (mK zz_37 16).1 = 100 + 5 by decide +kernel)), if_pos ⟨h2.x, h2.lt (by decide +kernel), by decide, by decide⟩, sR_g (h3.k1 (by decide) (show (mK zz_39 16).1 = 100 + 5 by decide +kernel)), if_pos ⟨h4.x, h4.lt (by decide +kernel), by decide, by decide⟩, sR_g (h5.k1 (by decide) (show (mK zz_41 16).1 = 100 + 5 by decide +kernel)), if_pos ⟨h6.x, h6.lt (by decide +kernel), by decide, by decide⟩, sR_g (h7.k1 (by decide) (show (mK zz_43 16).1 = 100 + 5 by decide +kernel))]
theorem cz_24_21 {L : Nat} {xs : Nat → Int32} {σ : mm_M} {d : Nat} (h : Sd L xs zz_46 σ) : ∃ σ', ev (d + 0) 24 [.ref 21] σ = some (.inl uv, σ') ∧ Sd L xs zz_48 σ' := by
  have h1 : Sd L xs zz_47 _ := h.qmA (1, ix 79) (ix 79) (by decide +kernel)
  have h2 : Sd L xs zz_48 _ := h1.qwR 21 0 (by decide) (h.n (show mN zz_46 = 22 by decide +kernel))
  refine ⟨_, ?_, h2⟩
  rw [e_Days_init (d + 0) 21 σ (h.k1 (by decide) (by decide +kernel)), if_pos ⟨h.x, h.lt (by decide +kernel), by decide, by decide⟩, sR_g (h1.k1 (by decide) (show (mK zz_47 21).1 = 100 + 6 by decide +kernel))]
theorem cz_24_23 {L : Nat} {xs : Nat → Int32} {σ : mm_M} {d : Nat} (h : Sd L xs zz_50 σ) : ∃ σ', ev (d + 0) 24 [.ref 23] σ = some (.inl uv, σ') ∧ Sd L xs zz_52 σ' := by
  have h1 : Sd L xs zz_51 _ := h.qmA (1, ix 79) (ix 79) (by decide +kernel)
  have h2 : Sd L xs zz_52 _ := h1.qwR 23 0 (by decide) (h.n (show mN zz_50 = 24 by decide +kernel))
  refine ⟨_, ?_, h2⟩
  rw [e_Days_init (d + 0) 23 σ (h.k1 (by decide) (by decide +kernel)), if_pos ⟨h.x, h.lt (by decide +kernel), by decide, by decide⟩, sR_g (h1.k1 (by decide) (show (mK zz_51 23).1 = 100 + 6 by decide +kernel))]
theorem cz_90_25 {L : Nat} {xs : Nat → Int32} {σ : mm_M} {d : Nat} (h : Sd L xs zz_54 σ) : ∃ σ', ev (d + 0) 90 [.ref 25] σ = some (.inl uv, σ') ∧ Sd L xs zz_60 σ' := by
  have h1 : Sd L xs zz_55 _ := h.qmA (1, ix 1264) (ix 1264) (by decide +kernel)
  have h2 : Sd L xs zz_56 _ := h1.qwR 25 0 (by decide) (h.n (show mN zz_54 = 26 by decide +kernel))
  have h3 : Sd L xs zz_57 _ := h2.qmA (1, ix 4029) (ix 4029) (by decide +kernel)
  have h4 : Sd L xs zz_58 _ := h3.qwR 25 1 (by decide) (h2.n (show mN zz_56 = 27 by decide +kernel))
  have h5 : Sd L xs zz_59 _ := h4.qmA (1, ix 3) (ix 3) (by decide +kernel)
  have h6 : Sd L xs zz_60 _ := h5.qwR 25 2 (by decide) (h4.n (show mN zz_58 = 28 by decide +kernel))
  refine ⟨_, ?_, h6⟩
  rw [e_History_init (d + 0) 25 σ (h.k1 (by decide) (by decide +kernel)), if_pos ⟨h.x, h.lt (by decide +kernel), by decide, by decide⟩, sR_g (h1.k1 (by decide) (show (mK zz_55 25).1 = 100 + 7 by decide +kernel)), if_pos ⟨h2.x, h2.lt (by decide +kernel), by decide, by decide⟩, sR_g (h3.k1 (by decide) (show (mK zz_57 25).1 = 100 + 7 by decide +kernel)), if_pos ⟨h4.x, h4.lt (by decide +kernel), by decide, by decide⟩, sR_g (h5.k1 (by decide) (show (mK zz_59 25).1 = 100 + 7 by decide +kernel))]
theorem cz_97_29 {L : Nat} {xs : Nat → Int32} {σ : mm_M} {d : Nat} (h : Sd L xs zz_62 σ) : ∃ σ', ev (d + 0) 97 [.ref 29] σ = some (.inl uv, σ') ∧ Sd L xs zz_70 σ' := by
  have h1 : Sd L xs zz_63 _ := h.qmA (1, ix 7) (ix 7) (by decide +kernel)
  have h2 : Sd L xs zz_64 _ := h1.qwR 29 0 (by decide) (h.n (show mN zz_62 = 30 by decide +kernel))
  have h3 : Sd L xs zz_65 _ := h2.qmA (1, ix 896) (ix 896) (by decide +kernel)
  have h4 : Sd L xs zz_66 _ := h3.qwR 29 1 (by decide) (h2.n (show mN zz_64 = 31 by decide +kernel))
  have h5 : Sd L xs zz_67 _ := h4.qmA (1, ix 42) (ix 42) (by decide +kernel)
  have h6 : Sd L xs zz_68 _ := h5.qwR 29 2 (by decide) (h4.n (show mN zz_66 = 32 by decide +kernel))
  have h7 : Sd L xs zz_69 _ := h6.qmA (1, ix 6) (ix 6) (by decide +kernel)
  have h8 : Sd L xs zz_70 _ := h7.qwR 29 3 (by decide) (h6.n (show mN zz_68 = 33 by decide +kernel))
  refine ⟨_, ?_, h8⟩
  rw [e_Plan_init (d + 0) 29 σ (h.k1 (by decide) (by decide +kernel)), if_pos ⟨h.x, h.lt (by decide +kernel), by decide, by decide⟩, sR_g (h1.k1 (by decide) (show (mK zz_63 29).1 = 100 + 8 by decide +kernel)), if_pos ⟨h2.x, h2.lt (by decide +kernel), by decide, by decide⟩, sR_g (h3.k1 (by decide) (show (mK zz_65 29).1 = 100 + 8 by decide +kernel)), if_pos ⟨h4.x, h4.lt (by decide +kernel), by decide, by decide⟩, sR_g (h5.k1 (by decide) (show (mK zz_67 29).1 = 100 + 8 by decide +kernel)), if_pos ⟨h6.x, h6.lt (by decide +kernel), by decide, by decide⟩, sR_g (h7.k1 (by decide) (show (mK zz_69 29).1 = 100 + 8 by decide +kernel))]
theorem cz_104_34 {L : Nat} {xs : Nat → Int32} {σ : mm_M} {d : Nat} (h : Sd L xs zz_72 σ) : ∃ σ', ev (d + 0) 104 [.ref 34] σ = some (.inl uv, σ') ∧ Sd L xs zz_76 σ' := by
  have h1 : Sd L xs zz_73 _ := h.qmA (4, ix 100) (ix 100) (by decide +kernel)
  have h2 : Sd L xs zz_74 _ := h1.qwR 34 0 (by decide) (h.n (show mN zz_72 = 35 by decide +kernel))
  have h3 : Sd L xs zz_75 _ := h2.qmA (1, ix 41) (ix 41) (by decide +kernel)
  have h4 : Sd L xs zz_76 _ := h3.qwR 34 1 (by decide) (h2.n (show mN zz_74 = 36 by decide +kernel))
  refine ⟨_, ?_, h4⟩
  rw [e_Guess_init (d + 0) 34 σ (h.k1 (by decide) (by decide +kernel)), if_pos ⟨h.x, h.lt (by decide +kernel), by decide, by decide⟩, sR_g (h1.k1 (by decide) (show (mK zz_73 34).1 = 100 + 9 by decide +kernel)), if_pos ⟨h2.x, h2.lt (by decide +kernel), by decide, by decide⟩, sR_g (h3.k1 (by decide) (show (mK zz_75 34).1 = 100 + 9 by decide +kernel))]
theorem cz_110_37 {L : Nat} {xs : Nat → Int32} {σ : mm_M} {d : Nat} (h : Sd L xs zz_78 σ) : ∃ σ', ev (d + 0) 110 [.ref 37] σ = some (.inl uv, σ') ∧ Sd L xs zz_78 σ' := by
  refine ⟨_, ?_, h⟩
  rw [e_Years_init (d + 0) 37 σ (h.k1 (by decide) (by decide +kernel))]
theorem cz_46_38 {L : Nat} {xs : Nat → Int32} {σ : mm_M} {d : Nat} (h : Sd L xs zz_80 σ) : ∃ σ', ev (d + 0) 46 [.ref 38] σ = some (.inl uv, σ') ∧ Sd L xs zz_96 σ' := by
  have h1 : Sd L xs zz_81 _ := h.qmA (1, ix 7) (ix 7) (by decide +kernel)
  have h2 : Sd L xs zz_82 _ := h1.qwR 38 0 (by decide) (h.n (show mN zz_80 = 39 by decide +kernel))
  have h3 : Sd L xs zz_83 _ := h2.qmA (1, ix 7) (ix 7) (by decide +kernel)
  have h4 : Sd L xs zz_84 _ := h3.qwR 38 1 (by decide) (h2.n (show mN zz_82 = 40 by decide +kernel))
  have h5 : Sd L xs zz_85 _ := h4.qmA (1, ix 7) (ix 7) (by decide +kernel)
  have h6 : Sd L xs zz_86 _ := h5.qwR 38 2 (by decide) (h4.n (show mN zz_84 = 41 by decide +kernel))
  have h7 : Sd L xs zz_87 _ := h6.qmA (1, ix 6) (ix 6) (by decide +kernel)
  have h8 : Sd L xs zz_88 _ := h7.qwR 38 3 (by decide) (h6.n (show mN zz_86 = 42 by decide +kernel))
  have h9 : Sd L xs zz_89 _ := h8.qmA (1, ix 6) (ix 6) (by decide +kernel)
  have h10 : Sd L xs zz_90 _ := h9.qwR 38 4 (by decide) (h8.n (show mN zz_88 = 43 by decide +kernel))
  have h11 : Sd L xs zz_91 _ := h10.qmA (1, ix 12) (ix 12) (by decide +kernel)
  have h12 : Sd L xs zz_92 _ := h11.qwR 38 5 (by decide) (h10.n (show mN zz_90 = 44 by decide +kernel))
  have h13 : Sd L xs zz_93 _ := h12.qmA (1, ix 12) (ix 12) (by decide +kernel)
  have h14 : Sd L xs zz_94 _ := h13.qwR 38 6 (by decide) (h12.n (show mN zz_92 = 45 by decide +kernel))
  have h15 : Sd L xs zz_95 _ := h14.qwI 38 10 20 (by decide)
  have h16 : Sd L xs zz_96 _ := h15.qwI 38 11 2 (by decide)
  refine ⟨_, ?_, h16⟩
  rw [e_Land_init (d + 0) 38 σ (h.k1 (by decide) (by decide +kernel)), if_pos ⟨h.x, h.lt (by decide +kernel), by decide, by decide⟩, sR_g (h1.k1 (by decide) (show (mK zz_81 38).1 = 100 + 3 by decide +kernel)), if_pos ⟨h2.x, h2.lt (by decide +kernel), by decide, by decide⟩, sR_g (h3.k1 (by decide) (show (mK zz_83 38).1 = 100 + 3 by decide +kernel)), if_pos ⟨h4.x, h4.lt (by decide +kernel), by decide, by decide⟩, sR_g (h5.k1 (by decide) (show (mK zz_85 38).1 = 100 + 3 by decide +kernel)), if_pos ⟨h6.x, h6.lt (by decide +kernel), by decide, by decide⟩, sR_g (h7.k1 (by decide) (show (mK zz_87 38).1 = 100 + 3 by decide +kernel)), if_pos ⟨h8.x, h8.lt (by decide +kernel), by decide, by decide⟩, sR_g (h9.k1 (by decide) (show (mK zz_89 38).1 = 100 + 3 by decide +kernel)), if_pos ⟨h10.x, h10.lt (by decide +kernel), by decide, by decide⟩, sR_g (h11.k1 (by decide) (show (mK zz_91 38).1 = 100 + 3 by decide +kernel)), if_pos ⟨h12.x, h12.lt (by decide +kernel), by decide, by decide⟩, sR_g (h13.k1 (by decide) (show (mK zz_93 38).1 = 100 + 3 by decide +kernel)), sI_g (h14.k1 (by decide) (show (mK zz_94 38).1 = 100 + 3 by decide +kernel)), sI_g (h15.k1 (by decide) (show (mK zz_95 38).1 = 100 + 3 by decide +kernel))]
theorem cz_59_46 {L : Nat} {xs : Nat → Int32} {σ : mm_M} {d : Nat} (h : Sd L xs zz_98 σ) : ∃ σ', ev (d + 1) 59 [.ref 46] σ = some (.inl uv, σ') ∧ Sd L xs zz_103 σ' := by
  have h1 : Sd L xs zz_99 _ := h.qmA (1, ix 150) (ix 150) (by decide +kernel)
  have h2 : Sd L xs zz_100 _ := h1.qwR 46 0 (by decide) (h.n (show mN zz_98 = 47 by decide +kernel))
  have h3 : Sd L xs zz_101 _ := h2.qmA (1, ix 150) (ix 150) (by decide +kernel)
  have h4 : Sd L xs zz_102 _ := h3.qwR 46 1 (by decide) (h2.n (show mN zz_100 = 48 by decide +kernel))
  obtain ⟨s0, cc0, h5⟩ := cz_std (B := 46) (d := d + 0) h4 (by decide) (by decide +kernel) (by decide +kernel) (by decide +kernel)
  have h5 : Sd L xs zz_103 s0 := h5
  refine ⟨_, ?_, h5⟩
  rw [e_Law_init (d + 0) 46 σ (h.k1 (by decide) (by decide +kernel)), if_pos ⟨h.x, h.lt (by decide +kernel), by decide, by decide⟩, sR_g (h1.k1 (by decide) (show (mK zz_99 46).1 = 100 + 4 by decide +kernel)), if_pos ⟨h2.x, h2.lt (by decide +kernel), by decide, by decide⟩, sR_g (h3.k1 (by decide) (show (mK zz_101 46).1 = 100 + 4 by decide +kernel)), cc0, cV_ok]
theorem cz_86_49 {L : Nat} {xs : Nat → Int32} {σ : mm_M} {d : Nat} (h : Sd L xs zz_105 σ) : ∃ σ', ev (d + 2) 86 [.ref 49] σ = some (.inl uv, σ') ∧ Sd L xs zz_108 σ' := by
  have h1 : Sd L xs zz_106 _ := h.qmA (1, ix 6) (ix 6) (by decide +kernel)
  have h2 : Sd L xs zz_107 _ := h1.qwR 49 0 (by decide) (h.n (show mN zz_105 = 50 by decide +kernel))
  obtain ⟨s0, cc0, h3⟩ := cz_clear (B := 49) (d := d + 0) h2 (by decide) (by decide +kernel) (by decide +kernel) (by decide +kernel)
  have h3 : Sd L xs zz_108 s0 := h3
  refine ⟨_, ?_, h3⟩
  rw [e_Book_init (d + 1) 49 σ (h.k1 (by decide) (by decide +kernel)), if_pos ⟨h.x, h.lt (by decide +kernel), by decide, by decide⟩, sR_g (h1.k1 (by decide) (show (mK zz_106 49).1 = 100 + 11 by decide +kernel)), cc0, cV_ok]
theorem cz_86_51 {L : Nat} {xs : Nat → Int32} {σ : mm_M} {d : Nat} (h : Sd L xs zz_110 σ) : ∃ σ', ev (d + 2) 86 [.ref 51] σ = some (.inl uv, σ') ∧ Sd L xs zz_113 σ' := by
  have h1 : Sd L xs zz_111 _ := h.qmA (1, ix 6) (ix 6) (by decide +kernel)
  have h2 : Sd L xs zz_112 _ := h1.qwR 51 0 (by decide) (h.n (show mN zz_110 = 52 by decide +kernel))
  obtain ⟨s0, cc0, h3⟩ := cz_clear (B := 51) (d := d + 0) h2 (by decide) (by decide +kernel) (by decide +kernel) (by decide +kernel)
  have h3 : Sd L xs zz_113 s0 := h3
  refine ⟨_, ?_, h3⟩
  rw [e_Book_init (d + 1) 51 σ (h.k1 (by decide) (by decide +kernel)), if_pos ⟨h.x, h.lt (by decide +kernel), by decide, by decide⟩, sR_g (h1.k1 (by decide) (show (mK zz_111 51).1 = 100 + 11 by decide +kernel)), cc0, cV_ok]
theorem cz_114_0 {L : Nat} {xs : Nat → Int32} {σ : mm_M} {d : Nat} (h : Sd L xs zz_1 σ) : ∃ σ', ev (d + 3) 114 [.ref 0] σ = some (.inl uv, σ') ∧ Sd L xs zz_115 σ' := by
  have h1 : Sd L xs zz_2 _ := h.qmA (100 + 1, 0) 10 (by decide +kernel)
  obtain ⟨s0, cc0, h2⟩ := cz_12_1 (d := d + 2) h1
  have h3 : Sd L xs zz_6 _ := h2.qwR 0 0 (v := 1) (by decide) rfl
  have h4 : Sd L xs zz_7 _ := h3.qmA (100 + 2, 0) 3 (by decide +kernel)
  obtain ⟨s1, cc1, h5⟩ := cz_69_3 (d := d + 0) h4
  have h6 : Sd L xs zz_35 _ := h5.qwR 0 1 (v := 3) (by decide) rfl
  have h7 : Sd L xs zz_36 _ := h6.qmA (100 + 5, 0) 8 (by decide +kernel)
  obtain ⟨s2, cc2, h8⟩ := cz_76_16 (d := d + 2) h7
  have h9 : Sd L xs zz_45 _ := h8.qwR 0 2 (v := 16) (by decide) rfl
  have h10 : Sd L xs zz_46 _ := h9.qmA (100 + 6, 0) 1 (by decide +kernel)
  obtain ⟨s3, cc3, h11⟩ := cz_24_21 (d := d + 2) h10
  have h12 : Sd L xs zz_49 _ := h11.qwR 0 3 (v := 21) (by decide) rfl
  have h13 : Sd L xs zz_50 _ := h12.qmA (100 + 6, 0) 1 (by decide +kernel)
  obtain ⟨s4, cc4, h14⟩ := cz_24_23 (d := d + 2) h13
  have h15 : Sd L xs zz_53 _ := h14.qwR 0 4 (v := 23) (by decide) rfl
  have h16 : Sd L xs zz_54 _ := h15.qmA (100 + 7, 0) 5 (by decide +kernel)
  obtain ⟨s5, cc5, h17⟩ := cz_90_25 (d := d + 2) h16
  have h18 : Sd L xs zz_61 _ := h17.qwR 0 5 (v := 25) (by decide) rfl
  have h19 : Sd L xs zz_62 _ := h18.qmA (100 + 8, 0) 4 (by decide +kernel)
  obtain ⟨s6, cc6, h20⟩ := cz_97_29 (d := d + 2) h19
  have h21 : Sd L xs zz_71 _ := h20.qwR 0 6 (v := 29) (by decide) rfl
  have h22 : Sd L xs zz_72 _ := h21.qmA (100 + 9, 0) 6 (by decide +kernel)
  obtain ⟨s7, cc7, h23⟩ := cz_104_34 (d := d + 2) h22
  have h24 : Sd L xs zz_77 _ := h23.qwR 0 7 (v := 34) (by decide) rfl
  have h25 : Sd L xs zz_78 _ := h24.qmA (100 + 10, 0) 2 (by decide +kernel)
  obtain ⟨s8, cc8, h26⟩ := cz_110_37 (d := d + 2) h25
  have h27 : Sd L xs zz_79 _ := h26.qwR 0 8 (v := 37) (by decide) rfl
  have h28 : Sd L xs zz_80 _ := h27.qmA (100 + 3, 0) 12 (by decide +kernel)
  obtain ⟨s9, cc9, h29⟩ := cz_46_38 (d := d + 2) h28
  have h30 : Sd L xs zz_97 _ := h29.qwR 0 9 (v := 38) (by decide) rfl
  have h31 : Sd L xs zz_98 _ := h30.qmA (100 + 4, 0) 3 (by decide +kernel)
  obtain ⟨s10, cc10, h32⟩ := cz_59_46 (d := d + 1) h31
  have h33 : Sd L xs zz_104 _ := h32.qwR 0 10 (v := 46) (by decide) rfl
  have h34 : Sd L xs zz_105 _ := h33.qmA (100 + 11, 0) 2 (by decide +kernel)
  obtain ⟨s11, cc11, h35⟩ := cz_86_49 (d := d + 0) h34
  have h36 : Sd L xs zz_109 _ := h35.qwR 0 11 (v := 49) (by decide) rfl
  have h37 : Sd L xs zz_110 _ := h36.qmA (100 + 11, 0) 2 (by decide +kernel)
  obtain ⟨s12, cc12, h38⟩ := cz_86_51 (d := d + 0) h37
  have h39 : Sd L xs zz_114 _ := h38.qwR 0 12 (v := 51) (by decide) rfl
  obtain ⟨s13, cc13, h40⟩ := cz_day (B := 21) (v := 20) (d := d + 1) h39 (by decide) (by decide +kernel) (by decide +kernel) (by decide +kernel)
  have h40 : Sd L xs zz_115 s13 := h40
  refine ⟨_, ?_, h40⟩
  rw [e_W_init (d + 2) 0 σ (h.k1 (by decide) (by decide +kernel)), if_pos ⟨h.x, h.lt (by decide +kernel)⟩, h.n (show mN zz_1 = 1 by decide +kernel), cc0, cV1_ok, sR_g (h2.k1 (by decide) (show (mK zz_5 0).1 = 100 + 0 by decide +kernel)), if_pos ⟨h3.x, h3.lt (by decide +kernel)⟩, h3.n (show mN zz_6 = 3 by decide +kernel), cc1, cV1_ok, sR_g (h5.k1 (by decide) (show (mK zz_34 0).1 = 100 + 0 by decide +kernel)), if_pos ⟨h6.x, h6.lt (by decide +kernel)⟩, h6.n (show mN zz_35 = 16 by decide +kernel), cc2, cV1_ok, sR_g (h8.k1 (by decide) (show (mK zz_44 0).1 = 100 + 0 by decide +kernel)), if_pos ⟨h9.x, h9.lt (by decide +kernel)⟩, h9.n (show mN zz_45 = 21 by decide +kernel), cc3, cV1_ok, sR_g (h11.k1 (by decide) (show (mK zz_48 0).1 = 100 + 0 by decide +kernel)), if_pos ⟨h12.x, h12.lt (by decide +kernel)⟩, h12.n (show mN zz_49 = 23 by decide +kernel), cc4, cV1_ok, sR_g (h14.k1 (by decide) (show (mK zz_52 0).1 = 100 + 0 by decide +kernel)), if_pos ⟨h15.x, h15.lt (by decide +kernel)⟩, h15.n (show mN zz_53 = 25 by decide +kernel), cc5, cV1_ok, sR_g (h17.k1 (by decide) (show (mK zz_60 0).1 = 100 + 0 by decide +kernel)), if_pos ⟨h18.x, h18.lt (by decide +kernel)⟩, h18.n (show mN zz_61 = 29 by decide +kernel), cc6, cV1_ok, sR_g (h20.k1 (by decide) (show (mK zz_70 0).1 = 100 + 0 by decide +kernel)), if_pos ⟨h21.x, h21.lt (by decide +kernel)⟩, h21.n (show mN zz_71 = 34 by decide +kernel), cc7, cV1_ok, sR_g (h23.k1 (by decide) (show (mK zz_76 0).1 = 100 + 0 by decide +kernel)), if_pos ⟨h24.x, h24.lt (by decide +kernel)⟩, h24.n (show mN zz_77 = 37 by decide +kernel), cc8, cV1_ok, sR_g (h26.k1 (by decide) (show (mK zz_78 0).1 = 100 + 0 by decide +kernel)), if_pos ⟨h27.x, h27.lt (by decide +kernel)⟩, h27.n (show mN zz_79 = 38 by decide +kernel), cc9, cV1_ok, sR_g (h29.k1 (by decide) (show (mK zz_96 0).1 = 100 + 0 by decide +kernel)), if_pos ⟨h30.x, h30.lt (by decide +kernel)⟩, h30.n (show mN zz_97 = 46 by decide +kernel), cc10, cV1_ok, sR_g (h32.k1 (by decide) (show (mK zz_103 0).1 = 100 + 0 by decide +kernel)), if_pos ⟨h33.x, h33.lt (by decide +kernel)⟩, h33.n (show mN zz_104 = 49 by decide +kernel), cc11, cV1_ok, sR_g (h35.k1 (by decide) (show (mK zz_108 0).1 = 100 + 0 by decide +kernel)), if_pos ⟨h36.x, h36.lt (by decide +kernel)⟩, h36.n (show mN zz_109 = 51 by decide +kernel), cc12, cV1_ok, sR_g (h38.k1 (by decide) (show (mK zz_113 0).1 = 100 + 0 by decide +kernel)), gR_k (h39.k1 (by decide) (show (mK zz_114 0).1 = 100 + 0 by decide +kernel)) (h39.r (by decide) (show mR zz_114 0 3 = some 21 by decide +kernel)), gR_k (h39.k1 (by decide) (show (mK zz_114 0).1 = 100 + 0 by decide +kernel)) (h39.r (by decide) (show mR zz_114 0 1 = some 3 by decide +kernel)), gR_k (h39.k1 (by decide) (show (mK zz_114 3).1 = 100 + 2 by decide +kernel)) (h39.r (by decide) (show mR zz_114 3 1 = some 5 by decide +kernel)), gI_k (h39.k1 (by decide) (show (mK zz_114 5).1 = 100 + 3 by decide +kernel)), h39.i (by decide) (show mI zz_114 5 10 = 20 by decide +kernel), cc13, cV1_ok]
theorem cz_162_53 {L : Nat} {xs : Nat → Int32} {σ : mm_M} {d : Nat} (h : Sd L xs zz_116 σ) : ∃ σ', ev (d + 2) 162 [.ref 53] σ = some (.inl uv, σ') ∧ Sd L xs zz_169 σ' := by
  have h1 : Sd L xs zz_117 _ := h.qwI 53 3 (-1) (by decide)
  have h2 : Sd L xs zz_118 _ := h1.qmA (1, ix 600) (ix 600) (by decide +kernel)
  have h3 : Sd L xs zz_119 _ := h2.qwR 53 9 (by decide) (h1.n (show mN zz_117 = 54 by decide +kernel))
  have h4 : Sd L xs zz_120 _ := h3.qmA (1, ix 2) (ix 2) (by decide +kernel)
  have h5 : Sd L xs zz_121 _ := h4.qwR 53 10 (by decide) (h3.n (show mN zz_119 = 55 by decide +kernel))
  have h6 : Sd L xs zz_122 _ := h5.qmA (1, ix 5) (ix 5) (by decide +kernel)
  have h7 : Sd L xs zz_123 _ := h6.qwR 53 11 (by decide) (h5.n (show mN zz_121 = 56 by decide +kernel))
  have h8 : Sd L xs zz_124 _ := h7.qmA (1, ix 5) (ix 5) (by decide +kernel)
  have h9 : Sd L xs zz_125 _ := h8.qwR 53 12 (by decide) (h7.n (show mN zz_123 = 57 by decide +kernel))
  have h10 : Sd L xs zz_126 _ := h9.qmG (ix 7) (ix 2) (by decide +kernel)
  have h11 : Sd L xs zz_127 _ := h10.qwR 53 13 (by decide) (h9.n (show mN zz_125 = 58 by decide +kernel))
  have h12 : Sd L xs zz_128 _ := h11.qmG (ix 7) (ix 2) (by decide +kernel)
  have h13 : Sd L xs zz_129 _ := h12.qwR 53 14 (by decide) (h11.n (show mN zz_127 = 66 by decide +kernel))
  have h14 : Sd L xs zz_130 _ := h13.qmG (ix 6) (ix 2) (by decide +kernel)
  have h15 : Sd L xs zz_131 _ := h14.qwR 53 15 (by decide) (h13.n (show mN zz_129 = 74 by decide +kernel))
  have h16 : Sd L xs zz_132 _ := h15.qmG (ix 6) (ix 2) (by decide +kernel)
  have h17 : Sd L xs zz_133 _ := h16.qwR 53 16 (by decide) (h15.n (show mN zz_131 = 81 by decide +kernel))
  have h18 : Sd L xs zz_134 _ := h17.qmG (ix 12) (ix 2) (by decide +kernel)
  have h19 : Sd L xs zz_135 _ := h18.qwR 53 17 (by decide) (h17.n (show mN zz_133 = 88 by decide +kernel))
  have h20 : Sd L xs zz_136 _ := h19.qmG (ix 12) (ix 2) (by decide +kernel)
  have h21 : Sd L xs zz_137 _ := h20.qwR 53 18 (by decide) (h19.n (show mN zz_135 = 101 by decide +kernel))
  have h22 : Sd L xs zz_138 _ := h21.qmG (ix 160) (ix 2) (by decide +kernel)
  have h23 : Sd L xs zz_139 _ := h22.qwR 53 21 (by decide) (h21.n (show mN zz_137 = 114 by decide +kernel))
  have h24 : Sd L xs zz_140 _ := h23.qmG (ix 160) (ix 2) (by decide +kernel)
  have h25 : Sd L xs zz_141 _ := h24.qwR 53 22 (by decide) (h23.n (show mN zz_139 = 275 by decide +kernel))
  have h26 : Sd L xs zz_142 _ := h25.qmG (ix 6) (ix 2) (by decide +kernel)
  have h27 : Sd L xs zz_143 _ := h26.qwR 53 23 (by decide) (h25.n (show mN zz_141 = 436 by decide +kernel))
  have h28 : Sd L xs zz_144 _ := h27.qmG (ix 6) (ix 2) (by decide +kernel)
  have h29 : Sd L xs zz_145 _ := h28.qwR 53 24 (by decide) (h27.n (show mN zz_143 = 443 by decide +kernel))
  have h30 : Sd L xs zz_146 _ := h29.qmA (1, ix 160) (ix 160) (by decide +kernel)
  have h31 : Sd L xs zz_147 _ := h30.qwR 53 25 (by decide) (h29.n (show mN zz_145 = 450 by decide +kernel))
  have h32 : Sd L xs zz_148 _ := h31.qmA (1, ix 10) (ix 10) (by decide +kernel)
  have h33 : Sd L xs zz_149 _ := h32.qwR 53 26 (by decide) (h31.n (show mN zz_147 = 451 by decide +kernel))
  have h34 : Sd L xs zz_150 _ := h33.qmG (ix 80) (ix 4) (by decide +kernel)
  have h35 : Sd L xs zz_151 _ := h34.qwR 53 27 (by decide) (h33.n (show mN zz_149 = 452 by decide +kernel))
  have h36 : Sd L xs zz_152 _ := h35.qmA (1, ix 79) (ix 79) (by decide +kernel)
  have h37 : Sd L xs zz_153 _ := h36.qwR 53 29 (by decide) (h35.n (show mN zz_151 = 533 by decide +kernel))
  have h38 : Sd L xs zz_154 _ := h37.qmA (1, ix 79) (ix 79) (by decide +kernel)
  have h39 : Sd L xs zz_155 _ := h38.qwR 53 30 (by decide) (h37.n (show mN zz_153 = 534 by decide +kernel))
  have h40 : Sd L xs zz_156 _ := h39.qmG (ix 16) (ix 79) (by decide +kernel)
  have h41 : Sd L xs zz_157 _ := h40.qwR 53 31 (by decide) (h39.n (show mN zz_155 = 535 by decide +kernel))
  have h42 : Sd L xs zz_158 _ := h41.qmG (ix 3) (ix 1344) (by decide +kernel)
  have h43 : Sd L xs zz_159 _ := h42.qwR 53 32 (by decide) (h41.n (show mN zz_157 = 552 by decide +kernel))
  have h44 : Sd L xs zz_160 _ := h43.qmA (1, ix 6) (ix 6) (by decide +kernel)
  have h45 : Sd L xs zz_161 _ := h44.qwR 53 40 (by decide) (h43.n (show mN zz_159 = 556 by decide +kernel))
  have h46 : Sd L xs zz_162 _ := h45.qmA (1, ix 6) (ix 6) (by decide +kernel)
  have h47 : Sd L xs zz_163 _ := h46.qwR 53 41 (by decide) (h45.n (show mN zz_161 = 557 by decide +kernel))
  have h48 : Sd L xs zz_164 _ := h47.qmA (1, ix 41) (ix 41) (by decide +kernel)
  have h49 : Sd L xs zz_165 _ := h48.qwR 53 43 (by decide) (h47.n (show mN zz_163 = 558 by decide +kernel))
  have h50 : Sd L xs zz_166 _ := h49.qmA (2, ix 14) (ix 14) (by decide +kernel)
  have h51 : Sd L xs zz_167 _ := h50.qwR 53 44 (by decide) (h49.n (show mN zz_165 = 559 by decide +kernel))
  obtain ⟨s0, cc0, h52⟩ := cz_tells (d := d + 1) h51 (by decide +kernel) (by decide +kernel) (by decide +kernel) (by decide +kernel)
  have h52 : Sd L xs zz_168 s0 := h52
  obtain ⟨s1, cc1, h53⟩ := cz_begins (d := d + 0) h52 (by decide +kernel) (by decide +kernel) (by decide +kernel) (by decide +kernel) (by decide +kernel) (by decide +kernel) (by decide +kernel) (by decide +kernel) (by decide +kernel) (by decide +kernel) (by decide +kernel) (by decide +kernel) (by decide +kernel) (by decide +kernel) (by decide +kernel) (by decide +kernel) (by decide +kernel) (by decide +kernel) (by decide +kernel)
  have h53 : Sd L xs zz_169 s1 := h53
  refine ⟨_, ?_, h53⟩
  rw [e_M_init (d + 1) 53 σ (h.k1 (by decide) (by decide +kernel)), sI_g (h.k1 (by decide) (show (mK zz_116 53).1 = 100 + 12 by decide +kernel)), if_pos ⟨h1.x, h1.lt (by decide +kernel), by decide, by decide⟩, sR_g (h2.k1 (by decide) (show (mK zz_118 53).1 = 100 + 12 by decide +kernel)), if_pos ⟨h3.x, h3.lt (by decide +kernel), by decide, by decide⟩, sR_g (h4.k1 (by decide) (show (mK zz_120 53).1 = 100 + 12 by decide +kernel)), if_pos ⟨h5.x, h5.lt (by decide +kernel), by decide, by decide⟩, sR_g (h6.k1 (by decide) (show (mK zz_122 53).1 = 100 + 12 by decide +kernel)), if_pos ⟨h7.x, h7.lt (by decide +kernel), by decide, by decide⟩, sR_g (h8.k1 (by decide) (show (mK zz_124 53).1 = 100 + 12 by decide +kernel)), if_pos ⟨h9.x, h9.lg (by decide +kernel), by decide, by decide, by decide⟩, sR_g (h10.k1 (by decide) (show (mK zz_126 53).1 = 100 + 12 by decide +kernel)), if_pos ⟨h11.x, h11.lg (by decide +kernel), by decide, by decide, by decide⟩, sR_g (h12.k1 (by decide) (show (mK zz_128 53).1 = 100 + 12 by decide +kernel)), if_pos ⟨h13.x, h13.lg (by decide +kernel), by decide, by decide, by decide⟩, sR_g (h14.k1 (by decide) (show (mK zz_130 53).1 = 100 + 12 by decide +kernel)), if_pos ⟨h15.x, h15.lg (by decide +kernel), by decide, by decide, by decide⟩, sR_g (h16.k1 (by decide) (show (mK zz_132 53).1 = 100 + 12 by decide +kernel)), if_pos ⟨h17.x, h17.lg (by decide +kernel), by decide, by decide, by decide⟩, sR_g (h18.k1 (by decide) (show (mK zz_134 53).1 = 100 + 12 by decide +kernel)), if_pos ⟨h19.x, h19.lg (by decide +kernel), by decide, by decide, by decide⟩, sR_g (h20.k1 (by decide) (show (mK zz_136 53).1 = 100 + 12 by decide +kernel)), if_pos ⟨h21.x, h21.lg (by decide +kernel), by decide, by decide, by decide⟩, sR_g (h22.k1 (by decide) (show (mK zz_138 53).1 = 100 + 12 by decide +kernel)), if_pos ⟨h23.x, h23.lg (by decide +kernel), by decide, by decide, by decide⟩, sR_g (h24.k1 (by decide) (show (mK zz_140 53).1 = 100 + 12 by decide +kernel)), if_pos ⟨h25.x, h25.lg (by decide +kernel), by decide, by decide, by decide⟩, sR_g (h26.k1 (by decide) (show (mK zz_142 53).1 = 100 + 12 by decide +kernel)), if_pos ⟨h27.x, h27.lg (by decide +kernel), by decide, by decide, by decide⟩, sR_g (h28.k1 (by decide) (show (mK zz_144 53).1 = 100 + 12 by decide +kernel)), if_pos ⟨h29.x, h29.lt (by decide +kernel), by decide, by decide⟩, sR_g (h30.k1 (by decide) (show (mK zz_146 53).1 = 100 + 12 by decide +kernel)), if_pos ⟨h31.x, h31.lt (by decide +kernel), by decide, by decide⟩, sR_g (h32.k1 (by decide) (show (mK zz_148 53).1 = 100 + 12 by decide +kernel)), if_pos ⟨h33.x, h33.lg (by decide +kernel), by decide, by decide, by decide⟩, sR_g (h34.k1 (by decide) (show (mK zz_150 53).1 = 100 + 12 by decide +kernel)), if_pos ⟨h35.x, h35.lt (by decide +kernel), by decide, by decide⟩, sR_g (h36.k1 (by decide) (show (mK zz_152 53).1 = 100 + 12 by decide +kernel)), if_pos ⟨h37.x, h37.lt (by decide +kernel), by decide, by decide⟩, sR_g (h38.k1 (by decide) (show (mK zz_154 53).1 = 100 + 12 by decide +kernel)), if_pos ⟨h39.x, h39.lg (by decide +kernel), by decide, by decide, by decide⟩, sR_g (h40.k1 (by decide) (show (mK zz_156 53).1 = 100 + 12 by decide +kernel)), if_pos ⟨h41.x, h41.lg (by decide +kernel), by decide, by decide, by decide⟩, sR_g (h42.k1 (by decide) (show (mK zz_158 53).1 = 100 + 12 by decide +kernel)), if_pos ⟨h43.x, h43.lt (by decide +kernel), by decide, by decide⟩, sR_g (h44.k1 (by decide) (show (mK zz_160 53).1 = 100 + 12 by decide +kernel)), if_pos ⟨h45.x, h45.lt (by decide +kernel), by decide, by decide⟩, sR_g (h46.k1 (by decide) (show (mK zz_162 53).1 = 100 + 12 by decide +kernel)), if_pos ⟨h47.x, h47.lt (by decide +kernel), by decide, by decide⟩, sR_g (h48.k1 (by decide) (show (mK zz_164 53).1 = 100 + 12 by decide +kernel)), if_pos ⟨h49.x, h49.lt (by decide +kernel), by decide, by decide⟩, sR_g (h50.k1 (by decide) (show (mK zz_166 53).1 = 100 + 12 by decide +kernel)), cc0, cV_ok, cc1, cV_ok]
