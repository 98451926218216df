/-! fits, done -/
noncomputable def cN (f : Nat → Prop) : Nat → Nat
  | 0 => 0
  | k + 1 => cN f k + @ite Nat (f k) (Classical.propDecidable _) 1 0
theorem cN_p {f : Nat → Prop} {k : Nat} (h : f k) : cN f (k + 1) = cN f k + 1 := by
  show cN f k + @ite Nat (f k) (Classical.propDecidable _) 1 0 = _
  rw [if_pos h]
theorem cN_n {f : Nat → Prop} {k : Nat} (h : ¬ f k) : cN f (k + 1) = cN f k := by
  show cN f k + @ite Nat (f k) (Classical.propDecidable _) 1 0 = _
  rw [if_neg h]; rfl
theorem cN_le (f : Nat → Prop) : ∀ k, cN f k ≤ k
  | 0 => Nat.le_refl 0
  | k + 1 => by
    have := cN_le f k
    by_cases h : f k
    · rw [cN_p h]; omega
    · rw [cN_n h]; omega
theorem cN_mono (f : Nat → Prop) (k : Nat) : ∀ m, cN f k ≤ cN f (k + m)
  | 0 => Nat.le_refl _
  | m + 1 => by
    have := cN_mono f k m
    show _ ≤ cN f (k + m + 1)
    by_cases h : f (k + m)
    · rw [cN_p h]; omega
    · rw [cN_n h]; omega
theorem cN_0 {f : Nat → Prop} : ∀ k, cN f k = 0 ↔ ∀ j, j < k → ¬ f j
  | 0 => ⟨fun _ j hj => absurd hj (Nat.not_lt_zero j), fun _ => rfl⟩
  | k + 1 => by
    have ih := cN_0 (f := f) k
    by_cases h : f k
    · rw [cN_p h]
      exact ⟨fun z => by omega, fun z => absurd h (z k (by omega))⟩
    · rw [cN_n h, ih]
      refine ⟨fun z j hj => ?_, fun z j hj => z j (by omega)⟩
      by_cases e : j = k
      · rw [e]; exact h
      · exact z j (by omega)
def Fst (f : Nat → Prop) (lo hi : Nat) (v : Int32) : Prop := (v = -1 ∧ ∀ k, lo ≤ k → k < hi → ¬ f k) ∨ ∃ c, lo ≤ c ∧ c < hi ∧ v = nI c ∧ f c ∧ ∀ k, lo ≤ k → k < c → ¬ f k
theorem Fst.uniq {f : Nat → Prop} {lo hi : Nat} {v v' : Int32} (h : Fst f lo hi v) (g : Fst f lo hi v') : v = v' := by
  rcases h with ⟨h1, h2⟩ | ⟨c, h1, h2, h3, h4, h5⟩ <;> rcases g with ⟨g1, g2⟩ | ⟨c', g1, g2, g3, g4, g5⟩
  · rw [h1, g1]
  · exact absurd g4 (h2 c' g1 g2)
  · exact absurd h4 (g2 c h1 h2)
  · have : c = c' := by
      rcases Nat.lt_trichotomy c c' with z | z | z
      · exact absurd h4 (g5 c h1 z)
      · exact z
      · exact absurd g4 (h5 c' g1 z)
    rw [h3, g3, this]
section FitsO
variable {σ τ σ' τ' υ φ : mm_M} {t : Nat → Nat} {n : Nat} {l : Ln} {many : Nat} {cs : Nat → Int32} {w K : Nat} {b : List (Nat × Nat)} {d : Nat}
theorem fp_3 {f : Nat → Prop} {a1 a2 a3 : Nat} {x : Int32} : ∀ i σ, i ≤ 100 → Sh σ → (∀ k, k < 100 → mI σ 35 k = i1 (f k)) → mI σ 34 2 = nI (cN f 100 - cN f i) → Fst f i 100 (mI σ 34 3) →
    ∃ τ, rn (d + 1) 105 87 [.ref 34, .ref a1, .ref a2, .ref a3, .int x, .int (nI i + (-1))] [] σ = some (.inl uv, τ) ∧ Ag (fun a => a = 34) σ τ ∧ mI τ 34 2 = nI (cN f 100) ∧ Fst f 0 100 (mI τ 34 3)
  | 0, σ, hi, h, e, e2, e3 => ⟨σ, by rw [e_Guess_findPairs_87, if_pos (by decide)], Ag.refl _ _, e2, e3⟩
  | i + 1, σ, hi, h, e, e2, e3 => by
    rw [pk_m1, e_Guess_findPairs_87, if_neg (nI_pos (by omega)), xr_34_0 h, aB35 h (by omega), e i (by omega)]
    by_cases z : f i
    · have s1 : Sh (wI σ 34 2 (mI σ 34 2 + 1)) := h
      have mo := cN_mono f (i + 1) (100 - (i + 1))
      rw [show i + 1 + (100 - (i + 1)) = 100 by omega] at mo
      have cp := cN_p z
      rw [i1_p z, if_neg (show ¬ (1 : Int32) = 0 by decide), xg_34 h, xs_34 h, xs_34 s1, e_Guess_findPairs_118]
      have a : Ag (fun a => a = 34) σ (wI (wI σ 34 2 (mI σ 34 2 + 1)) 34 3 (nI i)) := Ag.wI (S := fun a => a = 34) (Ag.wI (S := fun a => a = 34) (Ag.refl _ σ) rfl _ _) rfl _ _
      obtain ⟨τ, r1, r2, r3⟩ := fp_3 (f := f) (a1 := a1) (a2 := a2) (a3 := a3) (x := x) i (wI (wI σ 34 2 (mI σ 34 2 + 1)) 34 3 (nI i)) (by omega) h (fun k hk => by rw [a.at (by omega)]; exact e k hk) (by
        rw [rI_w, if_neg (by omega), rI_w, if_pos ⟨rfl, rfl⟩, e2, nI_1]
        exact congrArg nI (by omega)) (by
        rw [rI_w, if_pos ⟨rfl, rfl⟩]
        exact Or.inr ⟨i, Nat.le_refl _, by omega, rfl, z, fun k h1 h2 => by omega⟩)
      exact ⟨τ, r1, a.trans r2, r3⟩
    · rw [i1_n z, if_pos rfl, e_Guess_findPairs_118]
      refine fp_3 i σ (by omega) h e (by rw [e2, cN_n z]) ?_
      rcases e3 with ⟨q1, q2⟩ | ⟨c, q1, q2, q3, q4, q5⟩
      · refine Or.inl ⟨q1, fun k h1 h2 => ?_⟩
        by_cases y : k = i
        · rw [y]; exact z
        · exact q2 k (by omega) h2
      · refine Or.inr ⟨c, by omega, q2, q3, q4, fun k h1 h2 => ?_⟩
        by_cases y : k = i
        · rw [y]; exact z
        · exact q5 k (by omega) h2
theorem c_findPairs {p : Nat} (hp : p < nP l) (h : Iv σ t n l many cs w K b) : ∃ τ, ev (d + 5) 105 [.ref 34, .ref 3, .ref 21, .ref (bkA σ), .int (nI p)] σ = some (.inl uv, τ) ∧ Ag qc σ τ ∧ (∀ k, k < 100 → mI τ 35 k = i1 (fit l many cs (mI σ 533) p b k)) ∧ mI τ 34 2 = nI (cN (fit l many cs (mI σ 533) p b) 100) ∧ Fst (fit l many cs (mI σ 533) p b) 0 100 (mI τ 34 3) := by
  have hw := h.1
  obtain ⟨σ1, c1, c2, c3⟩ := fp_1 (d := d + 4) (a1 := 3) (a2 := 21) (a3 := bkA σ) (x := nI p) 100 0 σ hw.sh rfl (by decide) (fun k hk => absurd hk (Nat.not_lt_zero k))
  have a1 : Ag qc σ σ1 := c2.mono (fun a q => by rw [q]; exact qc35)
  have h1 := h.qc a1
  have e533 : mI σ1 533 = mI σ 533 := a1.at (fun q => by have := q.2.2; omega)
  obtain ⟨σ2, k1, k2, k3⟩ := fp_2 (d := d) hp (nJ l) 0 σ1 h1 rfl (Nat.zero_le _) (fun k hk => by
    rw [c3 k hk, i1_p (fun i hi => absurd hi (Nat.not_lt_zero i))])
  rw [a1.bk] at k1
  rw [e533] at k3
  have a2 : Ag qc σ1 (wI (wI σ2 34 2 0) 34 3 (-1)) := (k2.wI qc34 2 0).wI qc34 3 (-1)
  have h2 := h1.qc a2
  obtain ⟨τ, r1, r2, r3, r4⟩ := fp_3 (d := d + 4) (f := fit l many cs (mI σ 533) p b) (a1 := 3) (a2 := 21) (a3 := bkA σ) (x := nI p) 100 (wI (wI σ2 34 2 0) 34 3 (-1)) (by decide) h2.1.sh (fun k hk => by rw [rI_o (by decide), rI_o (by decide)]; exact k3 k hk) (by rw [rI_w, if_neg (by omega), rI_w, if_pos ⟨rfl, rfl⟩, Nat.sub_self]; rfl) (by rw [rI_w, if_pos ⟨rfl, rfl⟩]; exact Or.inl ⟨rfl, fun k h1 h2 => by omega⟩)
  refine ⟨τ, ?_, (a1.trans a2).trans (r2.mono (fun a q => by rw [q]; exact qc34)), fun k hk => ?_, r3, r4⟩
  · rw [e_Guess_findPairs (d + 4) 34 3 21 (bkA σ) (nI p) σ (by rw [k_34 hw.sh]), show rn (d + 4 + 1) 105 3 [.ref 34, .ref 3, .ref 21, .ref (bkA σ), .int (nI p), .int 0] [] σ = _ from c1, show rn (d + 4 + 1) 105 27 [.ref 34, .ref 3, .ref 21, .ref (bkA σ), .int (nI p), .int 0] [] σ1 = _ from k1]
    exact r1
  · rw [r2.at (by omega), rI_o (by decide), rI_o (by decide)]; exact k3 k hk
/-- the reference tries one pair -/
theorem it_loop {r : Nat → Int32} {p k : Nat} (hp : p < nP l) : ∀ m i τ, Iv τ t n l many cs w K b → mI τ 533 = r → b.length - i = m → i ≤ b.length → (∀ q, q < i → gl2 l many cs r p (b.getD q (0, 0)).1 k = nI (b.getD q (0, 0)).2) →
    ∃ φ, rn (d + 5) 246 3 [.ref 53, .int (nI p), .int (nI (k / 10)), .int (nI (k % 10)), .int (nI i)] [] τ = some (.inl (.int (i1 (fit l many cs r p b k))), φ) ∧ Ag scM τ φ
  | 0, i, τ, h, hr, hm, hi, e => by
    have hg := h.1
    have h6 := hg.ib.1
    refine ⟨τ, ?_, Ag.refl _ _⟩
    rw [e_M_isTaste_3, xg_53 hg.sh, hg.ib.2.2.1, if_pos (nI_le (by omega) (by omega)), nar1_1, i1_p (show fit l many cs r p b k from fun q hq => e q (by omega))]
  | m + 1, i, τ, h, hr, hm, hi, e => by
    have hg := h.1
    have h6 := hg.ib.1
    have x := hg.ib.2.2.2.2.1 i (by omega)
    obtain ⟨φ, c1, c2⟩ := m_laughWith (d := d) hg.sh hg.mx.2.1 hg.ok.1 hg.ok.2 hg.mx.2.2 rw533 x.1 hp (nI (k / 10)) (nI (k % 10)) 0
    rw [hr] at c1
    have c : AgM qm qF τ φ := AgM.of c2 sc_qm (by unfold scM; omega)
    have h2 := h.qm c
    have x2 := h2.1.ib.2.2.2.2.1 i (by omega)
    rw [e_M_isTaste_3, xg_53 hg.sh, hg.ib.2.2.1, if_neg (nI_ge (by omega) (by omega)), xr_53_29 hg.sh, xr_53_23 hg.sh, xR_436 hg.sh (by omega), show aI τ (437 + i) 0 = aI τ (437 + i) (nI 0) from rfl, xa_r436 hg.sh (by omega) (by decide), x.2.2.1, c1, cI_ok, xr_53_23 h2.1.sh, xR_436 h2.1.sh (by omega), show aI φ (437 + i) 1 = aI φ (437 + i) (nI 1) from rfl, xa_r436 h2.1.sh (by omega) (by decide), x2.2.2.2]
    by_cases z : gl2 l many cs r p (b.getD i (0, 0)).1 k = nI (b.getD i (0, 0)).2
    · rw [if_pos (show lgv many cs (gvs l r (b.getD i (0, 0)).1 p (nI (k / 10)) (nI (k % 10)) 0) = nI (b.getD i (0, 0)).2 from z), nI_1]
      obtain ⟨φ2, q1, q2⟩ := it_loop (r := r) (k := k) hp m (i + 1) φ h2 (by rw [c2.at (by unfold scM; omega)]; exact hr) (by omega) (by omega) (fun q hq => by
        by_cases y : q = i
        · rw [y]; exact z
        · exact e q (by omega))
      exact ⟨φ2, q1, c2.trans q2⟩
    · rw [if_neg (show ¬ lgv many cs (gvs l r (b.getD i (0, 0)).1 p (nI (k / 10)) (nI (k % 10)) 0) = nI (b.getD i (0, 0)).2 from z), nar1_0, i1_n (show ¬ fit l many cs r p b k from fun q => z (q i (by omega)))]
      exact ⟨φ, rfl, c2⟩
theorem m_isTaste {r : Nat → Int32} {p k : Nat} (hp : p < nP l) (h : Iv τ t n l many cs w K b) (hr : mI τ 533 = r) : ∃ φ, ev (d + 5) 246 [.ref 53, .int (nI p), .int (nI (k / 10)), .int (nI (k % 10))] τ = some (.inl (.int (i1 (fit l many cs r p b k))), φ) ∧ Ag scM τ φ := by
  rw [e_M_isTaste (d + 4) 53 _ _ _ τ (by rw [k_53 h.1.sh])]
  exact it_loop hp _ 0 τ h hr rfl (Nat.zero_le _) (fun q hq => absurd hq (Nat.not_lt_zero q))
theorem scM_qm {τ φ : mm_M} (c : Ag scM τ φ) : AgM qm qF τ φ := AgM.of c sc_qm (by unfold scM; omega)
theorem m_fits_loop {r : Nat → Int32} {p : Nat} (hp : p < nP l) (y : Int32) : ∀ m k x4 τ, Iv τ t n l many cs w K b → mI τ 533 = r → 100 - k = m → k ≤ 100 → Fst (fit l many cs r p b) 0 k x4 →
    ∃ v φ, rn (d + 31) 247 60 [.ref 53, .int (nI p), .int y, .int (nI (cN (fit l many cs r p b) k)), .int x4, .int (nI k)] [] τ = some (.inl (.int (if y = 0 then nI (cN (fit l many cs r p b) 100) else v)), φ) ∧ Fst (fit l many cs r p b) 0 100 v ∧ Ag scM τ φ
  | 0, k, x4, τ, h, hr, hm, hk, f => by
    have : k = 100 := by omega
    subst this
    refine ⟨x4, τ, ?_, f, Ag.refl _ _⟩
    rw [e_M_fits_60, if_pos (show (100 : Int32) ≤ nI 100 by decide)]
    by_cases z : y = 0
    · rw [if_pos z, if_pos z, e_M_fits_120, nar0]
    · rw [if_neg z, if_neg z, e_M_fits_120, nar0]
  | m + 1, k, x4, τ, h, hr, hm, hk, f => by
    have e10 : nI k / 10 = nI (k / 10) := pk_div (d := 10) (by omega) (by decide) (by decide)
    have r10 : nI k - nI (k / 10) * 10 = nI (k % 10) := by rw [← e10]; exact pk_rem (d := 10) (by omega) (by decide) (by decide)
    obtain ⟨φ, c1, c2⟩ := m_isTaste (d := d + 25) (k := k) hp h hr
    have c1' : ev (d + 30) 246 [.ref 53, .int (nI p), .int (nI (k / 10)), .int (nI (k % 10))] τ = _ := c1
    have h2 := h.qm (scM_qm c2)
    have hr2 : mI φ 533 = r := by rw [c2.at (by unfold scM; omega)]; exact hr
    have le := cN_le (fit l many cs r p b) k
    rw [e_M_fits_60, if_neg (show ¬ (100 : Int32) ≤ nI k from nI_ge (b := 100) (by omega) (by omega)), if_neg (show ¬ (10 : Nat) = 0 by decide), if_neg (show ¬ (10 : Nat) = 0 by decide), e10, r10, c1', cI_ok]
    by_cases z : fit l many cs r p b k
    · rw [i1_p z, if_neg (show ¬ (1 : Int32) = 0 by decide)]
      by_cases q : cN (fit l many cs r p b) k = 0
      · have nq := (cN_0 k).mp q
        rw [if_pos (show nI (cN (fit l many cs r p b) k) = 0 by rw [q]; rfl), e_M_fits_99, e_M_fits_104, nI_1, nI_1, ← cN_p z]
        obtain ⟨v, φ2, q1, q2, q3⟩ := m_fits_loop (r := r) hp y m (k + 1) (nI k) φ h2 hr2 (by omega) (by omega) (Or.inr ⟨k, by omega, by omega, rfl, z, fun j _ hj => nq j hj⟩)
        exact ⟨v, φ2, q1, q2, c2.trans q3⟩
      · rw [if_neg (nI_ne0 (by omega) (by omega)), e_M_fits_99, e_M_fits_104, nI_1, nI_1, ← cN_p z]
        obtain ⟨v, φ2, q1, q2, q3⟩ := m_fits_loop (r := r) hp y m (k + 1) x4 φ h2 hr2 (by omega) (by omega) (by
          rcases f with ⟨f1, f2⟩ | ⟨c, f1, f2, f3, f4, f5⟩
          · exact absurd ((cN_0 k).mpr (fun j hj => f2 j (by omega) hj)) q
          · exact Or.inr ⟨c, f1, by omega, f3, f4, f5⟩)
        exact ⟨v, φ2, q1, q2, c2.trans q3⟩
    · rw [i1_n z, if_pos rfl, e_M_fits_104, nI_1, ← cN_n z]
      obtain ⟨v, φ2, q1, q2, q3⟩ := m_fits_loop (r := r) hp y m (k + 1) x4 φ h2 hr2 (by omega) (by omega) (by
        rcases f with ⟨f1, f2⟩ | ⟨c, f1, f2, f3, f4, f5⟩
        · refine Or.inl ⟨f1, fun j h1 h2 => ?_⟩
          by_cases e : j = k
          · rw [e]; exact z
          · exact f2 j h1 (by omega)
        · exact Or.inr ⟨c, f1, by omega, f3, f4, f5⟩)
      exact ⟨v, φ2, q1, q2, c2.trans q3⟩
theorem op_fits (x y : Int32) : OpQ (d + 30) 136 [.ref 0, .int x, .int y] (d + 31) 247 [.ref 53, .int x, .int y] [(1, 1), (2, 2)] :=
  op_gr (M := 1) (cnt := nP) (A := fun c σ => rn (d + 31) 247 19 [.ref 53, .int x, .int y, uv, uv, uv] [.int c, .ref 53] σ) (B := fun c σ => rn (d + 31) 247 42 [.ref 53, .int x, .int y, uv, uv, uv] [.int c, .ref 53] σ) (Z := fun σ => rn (d + 31) 247 50 [.ref 53, .int x, .int y, uv, uv, uv] [] σ) (by decide)
    (fun σ l many cs h ok => c_needP h ok x) (fun σ l many cs _ h ok => m_isP h ok x) (fun σ h => e_W_fits (d + 29) 0 x y σ (by rw [k_0 h])) (fun σ h => e_M_fits (d + 30) 53 x y σ (by rw [k_53 h])) (fun c σ => e_M_fits_19 (d + 30) 53 x y c 53 σ) (fun c σ => e_M_fits_42 (d + 30) 53 x y c 53 σ) (fun σ => by rw [e_M_fits_50, nar0])
    (fun σ τ t n l many cs w K b h p k hp hk ex ey => by
      subst ex
      have hw := h.1.1
      obtain ⟨σ1, c1, c2, c3, c4, c5⟩ := c_findPairs (d := d + 24) hp h.1
      have s1 := c2.sh hw.sh
      obtain ⟨v, φ, m1, m2, m3⟩ := m_fits_loop (d := d) (b := b) (r := mI τ 533) hp y _ 0 (-1) τ h.2.1 rfl rfl (by decide) (Or.inl ⟨rfl, fun k h1 h2 => absurd h2 (Nat.not_lt_zero k)⟩)
      have e := h.r
      rw [e] at m1 m2
      have m1' : rn (d + 31) 247 60 [.ref 53, .int (nI p), .int y, .int 0, .int (-1), .int 0] [] τ = _ := m1
      rw [xr_0_7 hw.sh, xr_0_1 hw.sh, xr_0_3 hw.sh, xr_0_11 hw.sh, show ev (d + 29) 105 [.ref 34, .ref 3, .ref 21, .ref (bkA σ), .int (nI p)] σ = _ from c1, cV1_ok, m1']
      refine ⟨_, σ1, φ, ?_, rfl, c2, scM_qm m3, by rw [m3.at (by unfold scM; omega)]; exact h.2.2.2⟩
      by_cases z : y = 0
      · rw [if_pos z, if_pos z, xr_0_7 s1, xg_34 s1, e_W_fits_54, c4, nar0]
      · rw [if_neg z, if_neg z, xr_0_7 s1, xg_34 s1, e_W_fits_54, nar0, c5.uniq m2])
end FitsO
