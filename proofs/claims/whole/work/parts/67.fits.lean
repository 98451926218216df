/-! fits: TASTE and grief by what one laughed -/
noncomputable def i1 (P : Prop) : Int32 := @i01 P (Classical.propDecidable P)
theorem i1_p {P : Prop} (h : P) : i1 P = 1 := @i01_p P (Classical.propDecidable P) h
theorem i1_n {P : Prop} (h : ¬ P) : i1 P = 0 := @i01_n P (Classical.propDecidable P) h
theorem i1_if {P Q : Prop} (h : P ↔ Q) : i1 P = i1 Q := by rw [propext h]
theorem i1_0 {P : Prop} : i1 P = 0 ↔ ¬ P := by
  by_cases h : P
  · rw [i1_p h]; exact ⟨fun z => absurd z (by decide), fun z => absurd h z⟩
  · rw [i1_n h]; exact ⟨fun _ => h, fun _ => rfl⟩
/-- the LAUGH of one of this TASTE and grief -/
def gl2 (l : Ln) (many : Nat) (cs r : Nat → Int32) (p j k : Nat) : Int32 := lgv many cs (gvs l r j p (nI (k / 10)) (nI (k % 10)) 0)
def fit (l : Ln) (many : Nat) (cs r : Nat → Int32) (p : Nat) (b : List (Nat × Nat)) (k : Nat) : Prop := ∀ i, i < b.length → gl2 l many cs r p (b.getD i (0, 0)).1 k = nI (b.getD i (0, 0)).2
theorem bkv_of : ∀ (b : List (Nat × Nat)) (j : Nat), bkv b j = -1 ∨ ∃ i, i < b.length ∧ (b.getD i (0, 0)).1 = j ∧ bkv b j = nI (b.getD i (0, 0)).2
  | [], j => Or.inl rfl
  | q :: r, j => by
    unfold bkv
    by_cases e : q.1 = j
    · rw [if_pos e]
      exact Or.inr ⟨0, Nat.succ_pos _, e, rfl⟩
    · rw [if_neg e]
      rcases bkv_of r j with h | ⟨i, h1, h2, h3⟩
      · exact Or.inl h
      · exact Or.inr ⟨i + 1, Nat.succ_lt_succ h1, h2, h3⟩
theorem bkv_at : ∀ (b : List (Nat × Nat)) (i : Nat), i < b.length → (b.map (fun q => q.1)).Nodup → bkv b (b.getD i (0, 0)).1 = nI (b.getD i (0, 0)).2
  | [], i, h, _ => absurd h (Nat.not_lt_zero i)
  | q :: r, 0, _, _ => by
    unfold bkv
    exact if_pos rfl
  | q :: r, i + 1, h, nd => by
    have nd' : (q.1 :: r.map (fun q => q.1)).Nodup := nd
    rw [List.nodup_cons] at nd'
    have hi : i < r.length := Nat.lt_of_succ_lt_succ h
    have ne : q.1 ≠ (r.getD i (0, 0)).1 := fun e => nd'.1 (by
      rw [e, List.getD_eq_getElem?_getD, List.getElem?_eq_getElem hi]
      exact List.mem_map.mpr ⟨r[i], List.getElem_mem hi, rfl⟩)
    show bkv (q :: r) (r.getD i (0, 0)).1 = nI (r.getD i (0, 0)).2
    unfold bkv
    rw [if_neg ne]
    exact bkv_at r i hi nd'.2
theorem gvl_ne {a0 a1 a2 a3 a4 a5 a6 a7 a8 a9 b1 b5 : Int32} : ∀ i, i < 10 → i ≠ 1 → i ≠ 5 → gvl [a0, a1, a2, a3, a4, a5, a6, a7, a8, a9] i = gvl [a0, b1, a2, a3, a4, b5, a6, a7, a8, a9] i
  | 0, _, _, _ => rfl
  | 1, _, h, _ => absurd rfl h
  | 2, _, _, _ => rfl
  | 3, _, _, _ => rfl
  | 4, _, _, _ => rfl
  | 5, _, _, h => absurd rfl h
  | 6, _, _, _ => rfl
  | 7, _, _, _ => rfl
  | 8, _, _, _ => rfl
  | 9, _, _, _ => rfl
  | i + 10, h, _, _ => by omega
theorem gv_n {l : Ln} {r : Nat → Int32} {j p : Nat} {ta gr ta' gr' mo : Int32} (i : Nat) (hi : i < 10) (z1 : i ≠ 1) (z5 : i ≠ 5) : gvl (gvs l r j p ta gr mo) i = gvl (gvs l r j p ta' gr' mo) i := gvl_ne i hi z1 z5
section FitsV
variable {σ τ σ' τ' υ φ : mm_M} {t : Nat → Nat} {n : Nat} {l : Ln} {many : Nat} {cs : Nat → Int32} {w K : Nat} {b : List (Nat × Nat)} {d : Nat}
theorem Iw.ib (h : Iw σ t n l many cs w K b) : IB σ l b := h.2.2.2.2.2.2
/-- by JOKE, as the class has it -/
theorem fit_iff {r : Nat → Int32} {p k : Nat} (h : IB σ l b) (h6 : nJ l ≤ 6) : (∀ j, j < nJ l → bkv b j ≠ -1 → gl2 l many cs r p j k = bkv b j) ↔ fit l many cs r p b k := by
  obtain ⟨h1, h2, h3, h4, h5, -⟩ := h
  refine ⟨fun g i hi => ?_, fun g j hj ne => ?_⟩
  · have e := bkv_at b i hi h4
    have x := h5 i hi
    have := g _ x.1 (by rw [e]; exact nI_m1 (by have := x.2.1; omega))
    rw [this, e]
  · rcases bkv_of b j with z | ⟨i, z1, z2, z3⟩
    · exact absurd z ne
    · rw [z3, ← z2]; exact g i z1
theorem told_iff {j : Nat} (h : IB σ l b) : bkv b j = -1 ↔ ∀ i, i < b.length → (b.getD i (0, 0)).1 ≠ j := by
  obtain ⟨h1, h2, h3, h4, h5, -⟩ := h
  refine ⟨fun z i hi e => ?_, fun z => ?_⟩
  · have := bkv_at b i hi h4
    rw [e, z] at this
    exact nI_m1 (by have := (h5 i hi).2.1; omega) this.symm
  · rcases bkv_of b j with q | ⟨i, q1, q2, -⟩
    · exact q
    · exact absurd q2 (z i q1)
/-- the row given, but for apart and grief -/
def G4 (σ : mm_M) (l : Ln) (r : Nat → Int32) (j p : Nat) : Prop := ∀ i, i < 10 → i ≠ 1 → i ≠ 5 → mI σ 4 i = gvl (gvs l r j p 0 0 0) i
theorem c_gl2 (h : CX σ l many cs) (ok : OKx l many cs) {r : Nat → Int32} {j p k : Nat} (g : G4 σ l r j p) (hj : j < nJ l) (hk : k < 100) : ∃ τ, ev (d + 3) 107 [.ref 3, .int (nI j), .int (nI k)] σ = some (.inl (.int (gl2 l many cs r p j k)), τ) ∧ Ag scC σ τ ∧ G4 τ l r j p := by
  have hs := h.1
  have h6 := ok.1.2.1
  have hl : lwA σ = 13 ∨ lwA σ = 46 := hs.lw
  have hl' : ldA σ = 5 ∨ ldA σ = 38 := hs.ld
  obtain ⟨x, hx, ex⟩ := (ok.1.2.2.2.2.1 j hj).1
  have e10 : nI k / 10 = nI (k / 10) := pk_div (d := 10) (by omega) (by decide) (by decide)
  have r10 : nI k - nI k / 10 * 10 = nI (k % 10) := pk_rem (d := 10) (by omega) (by decide) (by decide)
  have ea := abz_ok (k / 10) (by omega) x hx
  have eT : ∀ s : Nat → Int32, (∀ i, i < 10 → i ≠ 1 → i ≠ 5 → s i = gvl (gvs l r j p 0 0 0) i) → ∀ i, i < 10 → up (up s 1 (abz (nI (k / 10) - lK l j))) 5 (nI (k % 10)) i = gvl (gvs l r j p (nI (k / 10)) (nI (k % 10)) 0) i := by
    intro s hs i hi
    by_cases z5 : i = 5
    · rw [z5, up_e]; rfl
    · rw [up_n z5]
      by_cases z1 : i = 1
      · rw [z1, up_e, ex, ← ea, ← ex]; rfl
      · rw [up_n z1, hs i hi z1 z5]
        exact gv_n i hi z1 z5
  have s1 : Sh (wA σ 4 (up (mI σ 4) 1 (abz (nI (k / 10) - lK l j)))) := hs
  obtain ⟨τ, e2, a2⟩ := c_lawBy (σ := wA σ 4 (up (up (mI σ 4) 1 (abz (nI (k / 10) - lK l j))) 5 (nI (k % 10)))) (d := d) hs ok.2 (CLw_o h.2.2 rfl (rA_o (by omega)) (rA_o (by omega))) (gl := gvs l r j p (nI (k / 10)) (nI (k % 10)) 0) (fun i hi => by rw [rA_a]; exact eT (mI σ 4) g i hi)
  refine ⟨τ, ?_, ((Ag.refl scC σ).wA (Or.inl rfl) _).trans (a2.mono (fun q hq => Or.inr hq)), ?_⟩
  · rw [e_Guess_laughBy, xr_3_0 hs, if_neg (show ¬ (10 : Nat) = 0 by decide), xr_3_1 hs, xr_ld3 hs hs.ld, xa_ld4 hs hs.ld (by omega), (h.2.1.2.2.1 j hj).1, e10, c_abs, cI1_ok, show tI σ 4 1 = tI σ 4 (nI 1) from rfl, yt_4 hs (by decide), xr_3_0 s1, if_neg (show ¬ (10 : Nat) = 0 by decide)]
    rw [show tI (wA σ 4 (up (mI σ 4) 1 (abz (nI (k / 10) - lK l j)))) 4 5 = tI (wA σ 4 (up (mI σ 4) 1 (abz (nI (k / 10) - lK l j)))) 4 (nI 5) from rfl, yt_4 s1 (by decide), rA_a, wA_wA, show nI k - nI (k / 10) * 10 = nI (k % 10) by rw [← e10]; exact r10, e2, cI1_ok, nar0]
    rfl
  · intro i hi z1 z5
    rw [a2.at (by omega), rA_a, up_n z5, up_n z1]
    exact g i hi z1 z5
theorem qc35 : qc 35 := by unfold qc fpI fxC; omega
theorem qc34 : qc 34 := by unfold qc fpI fxC; omega
theorem qc36 : qc 36 := by unfold qc fpI fxC; omega
theorem tB35 (h : Sh σ) {p : Nat} (hp : p < 100) (v : Int32) (k : mm_M → Option mm_R) : tB σ 35 (nI p) v k = k (wI σ 35 p (vp_nar .boolean v)) := by
  unfold tB
  rw [k_35 h, if_neg (fun z => absurd z.1 (by decide)), if_pos ⟨rfl, in_nI hp (by decide)⟩, ix_nI (by omega)]
theorem aB35 (h : Sh σ) {p : Nat} (hp : p < 100) (k : Int32 → Option mm_R) : aB σ 35 (nI p) k = k (mI σ 35 p) := by
  unfold aB
  rw [k_35 h, if_pos ⟨Or.inr (Or.inl rfl), in_nI hp (by decide)⟩, ix_nI (by omega)]
theorem bo1 : vp_nar .boolean 1 = 1 := by decide +kernel
theorem bo0 : vp_nar .boolean 0 = 0 := by decide +kernel
theorem fp_1 {a1 a2 a3 : Nat} {x : Int32} : ∀ m i σ, Sh σ → 100 - i = m → i ≤ 100 → (∀ k, k < i → mI σ 35 k = 1) → ∃ τ, rn (d + 1) 105 3 [.ref 34, .ref a1, .ref a2, .ref a3, .int x, .int (nI i)] [] σ = rn (d + 1) 105 27 [.ref 34, .ref a1, .ref a2, .ref a3, .int x, .int 0] [] τ ∧ Ag (fun a => a = 35) σ τ ∧ ∀ k, k < 100 → mI τ 35 k = 1
  | 0, i, σ, h, hm, hi, e => ⟨σ, by rw [e_Guess_findPairs_3, if_pos (show (100 : Int32) ≤ nI i from nI_le (a := 100) (by omega) (by omega))], Ag.refl _ _, fun k hk => e k (by omega)⟩
  | m + 1, i, σ, h, hm, hi, e => by
    obtain ⟨τ, r1, r2, r3⟩ := fp_1 (a1 := a1) (a2 := a2) (a3 := a3) (x := x) m (i + 1) (wI σ 35 i 1) h (by omega) (by omega) (fun k hk => by
      rw [rI_w]
      by_cases z : k = i
      · rw [if_pos ⟨rfl, z⟩]
      · rw [if_neg (fun y => z y.2)]; exact e k (by omega))
    refine ⟨τ, ?_, (Ag.wI (S := fun a => a = 35) (Ag.refl _ σ) rfl i 1).trans r2, r3⟩
    rw [e_Guess_findPairs_3, if_neg (show ¬ (100 : Int32) ≤ nI i from nI_ge (b := 100) (by omega) (by omega)), xr_34_0 h, tB35 h (by omega), bo1, nI_1]
    exact r1
/-- one JOKE asked -/
theorem kp_loop {P : Nat → Prop} {r : Nat → Int32} {j p : Nat} {v x : Int32} (hj : j < nJ l) (ok : OKx l many cs) : ∀ m i σ, CX σ l many cs → 100 - i = m → i ≤ 100 → G4 σ l r j p → (∀ k, k < i → mI σ 35 k = i1 (P k ∧ gl2 l many cs r p j k = v)) → (∀ k, i ≤ k → k < 100 → mI σ 35 k = i1 (P k)) →
    ∃ τ, rn (d + 4) 106 11 [.ref 34, .ref 3, .ref 21, .int (nI j), .int x, .int v, .int (nI i)] [] σ = some (.inl uv, τ) ∧ Ag (fun a => scC a ∨ a = 35) σ τ ∧ ∀ k, k < 100 → mI τ 35 k = i1 (P k ∧ gl2 l many cs r p j k = v)
  | 0, i, σ, h, hm, hi, g, e1, e2 => ⟨σ, by rw [e_Guess_keepPairs_11, if_pos (show (100 : Int32) ≤ nI i from nI_le (a := 100) (by omega) (by omega))], Ag.refl _ _, fun k hk => e1 k (by omega)⟩
  | m + 1, i, σ, h, hm, hi, g, e1, e2 => by
    have hs := h.1
    have go : ∀ (c : Int32) (σ1 : mm_M), CX σ1 l many cs → G4 σ1 l r j p → Ag scC σ σ1 → c = i1 (P i ∧ gl2 l many cs r p j i = v) → (c = 0 ∨ c = 1) → ∃ τ, rn (d + 4) 106 51 [.ref 34, .ref 3, .ref 21, .int (nI j), .int x, .int v, .int (nI i)] [.int c, .int (nI i), .ref 35] σ1 = some (.inl uv, τ) ∧ Ag (fun a => scC a ∨ a = 35) σ τ ∧ ∀ k, k < 100 → mI τ 35 k = i1 (P k ∧ gl2 l many cs r p j k = v) := by
      intro c σ1 h1 g1 a1 ec c01
      have e35 : mI σ1 35 = mI σ 35 := a1.at (by unfold scC; omega)
      have nb : vp_nar .boolean c = c := by rcases c01 with z | z <;> rw [z] <;> decide +kernel
      have a2 : Ag (fun a => a = 35) σ1 (wI σ1 35 i c) := Ag.wI (S := fun a => a = 35) (Ag.refl _ σ1) rfl i c
      obtain ⟨τ, r1, r2, r3⟩ := kp_loop (P := P) (x := x) hj ok m (i + 1) (wI σ1 35 i c) (h1.ag a2 (fun x hx z => by unfold fxC at hx; omega)) (by omega) (by omega) (fun i hi z1 z5 => by rw [rI_o (by decide)]; exact g1 i hi z1 z5) (fun k hk => by
        rw [rI_w, e35]
        by_cases z : k = i
        · rw [if_pos ⟨rfl, z⟩, z]; exact ec
        · rw [if_neg (fun y => z y.2)]; exact e1 k (by omega)) (fun k hk hk2 => by rw [rI_w, if_neg (by omega), e35]; exact e2 k (by omega) hk2)
      refine ⟨τ, ?_, ((a1.mono (T := fun a => scC a ∨ a = 35) (fun _ q => Or.inl q)).trans (a2.mono (fun _ q => Or.inr q))).trans r2, r3⟩
      rw [e_Guess_keepPairs_51, tB35 h1.1 (by omega), nb, nI_1]
      exact r1
    rw [e_Guess_keepPairs_11, if_neg (show ¬ (100 : Int32) ≤ nI i from nI_ge (b := 100) (by omega) (by omega)), xr_34_0 hs, xr_34_0 hs, aB35 hs (by omega), e2 i (Nat.le_refl _) (by omega)]
    by_cases z : P i
    · rw [i1_p z, if_neg (show ¬ (1 : Int32) = 0 by decide)]
      obtain ⟨σ1, c1, c2, c3⟩ := c_gl2 (d := d) h ok g hj (k := i) (by omega)
      rw [c1, cI1_ok]
      by_cases y : gl2 l many cs r p j i = v
      · rw [if_pos y]
        exact go 1 σ1 (h.ag c2 (fun x hx q => by unfold fxC at hx; unfold scC at q; omega)) c3 c2 (i1_p ⟨z, y⟩).symm (Or.inr rfl)
      · rw [if_neg y, e_Guess_keepPairs_50]
        exact go 0 σ1 (h.ag c2 (fun x hx q => by unfold fxC at hx; unfold scC at q; omega)) c3 c2 (i1_n (fun q => y q.2)).symm (Or.inl rfl)
    · rw [i1_n z, if_pos rfl, e_Guess_keepPairs_50]
      exact go 0 σ h g (Ag.refl _ _) (i1_n (fun q => z q.1)).symm (Or.inl rfl)
/-- every JOKE asked -/
theorem fp_2 {p : Nat} (hp : p < nP l) : ∀ m j σ, Iv σ t n l many cs w K b → nJ l - j = m → j ≤ nJ l → (∀ k, k < 100 → mI σ 35 k = i1 (∀ i, i < j → bkv b i ≠ -1 → gl2 l many cs (mI σ 533) p i k = bkv b i)) →
    ∃ τ, rn (d + 5) 105 27 [.ref 34, .ref 3, .ref 21, .ref (bkA σ), .int (nI p), .int (nI j)] [] σ = rn (d + 5) 105 87 [.ref 34, .ref 3, .ref 21, .ref (bkA σ), .int (nI p), .int 99] [] (wI (wI τ 34 2 0) 34 3 (-1)) ∧ Ag qc σ τ ∧ ∀ k, k < 100 → mI τ 35 k = i1 (fit l many cs (mI σ 533) p b k)
  | 0, j, σ, h, hm, hj, e => by
    have hw := h.1
    have h6 := hw.ok.1.2.1
    have s1 : Sh (wI σ 34 2 0) := hw.sh
    refine ⟨σ, by rw [e_Guess_findPairs_27, xr_3_1 hw.sh, xg_ld hw.sh hw.sh.ld, hw.cx.2.1.1.2.1, if_pos (nI_le (by omega) (by omega)), xs_34 hw.sh, xs_34 s1], Ag.refl _ _, fun k hk => ?_⟩
    rw [e k hk, show j = nJ l by omega]
    exact i1_if (fit_iff hw.ib h6)
  | m + 1, j, σ, h, hm, hj, e => by
    have hw := h.1
    have h6 := hw.ok.1.2.1
    have hb : isBk (bkA σ) := hw.sh.bk
    have eb := hw.ib.2.2.2.2.2 j (by omega)
    rw [e_Guess_findPairs_27, xr_3_1 hw.sh, xg_ld hw.sh hw.sh.ld, hw.cx.2.1.1.2.1, if_neg (nI_ge (by omega) (by omega)), xr_bk0 hw.sh hb, xa_bk1 hw.sh hb (by omega), eb]
    by_cases z : bkv b j = -1
    · rw [if_pos z, e_Guess_findPairs_67, nI_1]
      refine fp_2 hp m (j + 1) σ h (by omega) (by omega) (fun k hk => ?_)
      rw [e k hk]
      refine i1_if ⟨fun q i hi ne => ?_, fun q i hi ne => q i (by omega) ne⟩
      by_cases y : i = j
      · exact absurd (y ▸ z) ne
      · exact q i (by omega) ne
    · rw [if_neg z, xr_bk0 hw.sh hb, xa_bk1 hw.sh hb (by omega), eb]
      obtain ⟨g, c1, c2⟩ := c_giveAll (d := d + 1) hw.sh hw.cx.2.1 hw.ok.1 da21 hw.row.1 hw.row.2 (j := j) (by omega) hp
      have a1 := (Ag.refl qc σ).wA qc4 g
      have h1 := h.qc a1
      obtain ⟨τ, k1, k2, k3⟩ := kp_loop (d := d) (P := fun k => ∀ i, i < j → bkv b i ≠ -1 → gl2 l many cs (mI σ 533) p i k = bkv b i) (r := mI σ 533) (j := j) (p := p) (v := bkv b j) (x := nI p) (by omega) hw.ok 100 0 (wA σ 4 g) h1.1.cx rfl (by decide) (fun i hi z1 z5 => by
        rw [rA_a, c2 i hi]
        exact gv_n i hi z1 z5) (fun k hk => absurd hk (Nat.not_lt_zero k)) (fun k _ hk => by rw [rA_o (by decide)]; exact e k hk)
      have a2 : Ag qc σ τ := a1.trans (k2.mono (fun a q => by
        rcases q with q | q
        · exact sc_qc a q
        · rw [q]; exact qc35))
      have h2 := h.qc a2
      have e533 : mI τ 533 = mI σ 533 := a2.at (fun q => by have := q.2.2; omega)
      rw [e_Guess_keepPairs (d + 3) 34 3 21 (nI j) (nI p) (bkv b j) σ (by rw [k_34 hw.sh]), c1, cV1_ok, show rn (d + 3 + 1) 106 11 [.ref 34, .ref 3, .ref 21, .int (nI j), .int (nI p), .int (bkv b j), .int 0] [] (wA σ 4 g) = _ from k1, cV_ok, e_Guess_findPairs_67, nI_1]
      obtain ⟨τ2, q1, q2, q3⟩ := fp_2 hp m (j + 1) τ h2 (by omega) (by omega) (fun k hk => by
        rw [k3 k hk, e533]
        refine i1_if ⟨fun q i hi ne => ?_, fun q => ⟨fun i hi ne => q i (by omega) ne, q j (by omega) z⟩⟩
        by_cases y : i = j
        · rw [y]; exact q.2
        · exact q.1 i (by omega) ne)
      rw [a2.bk] at q1
      rw [e533] at q3
      exact ⟨τ2, q1, a2.trans q2, q3⟩
end FitsV
