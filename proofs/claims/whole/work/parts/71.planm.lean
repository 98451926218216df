/-! the reference tries all -/
section PlanM
variable {σ τ σ' τ' υ φ : mm_M} {t : Nat → Nat} {n : Nat} {l : Ln} {many : Nat} {cs : Nat → Int32} {w K : Nat} {b : List (Nat × Nat)} {d : Nat}
theorem qm556 : qm 556 := by unfold qm fpI fxC; omega
theorem qm557 : qm 557 := by unfold qm fpI fxC; omega
theorem qF42 : qF 42 := by unfold qF fF; omega
theorem cp_loop {J : Nat} {x2 x3 : Int32} (hJ : J ≤ 6) : ∀ m i τ, Sh τ → J - i = m → i ≤ J → (∀ q, q < i → mI τ 557 q = mI τ 556 q) → ∃ φ, rn (d + 1) 237 27 [.ref 53, .int (nI J), .int x2, .int x3, .int (nI i)] [] τ = some (.inl uv, φ) ∧ Ag (fun a => a = 557) τ φ ∧ ∀ q, q < J → mI φ 557 q = mI τ 556 q
  | 0, i, τ, h, hm, hi, e => ⟨τ, by rw [e_M_givesFrom_27, if_pos (nI_le (by omega) (by omega))], Ag.refl _ _, fun q hq => e q (by omega)⟩
  | m + 1, i, τ, h, hm, hi, e => by
    obtain ⟨φ, r1, r2, r3⟩ := cp_loop (x2 := x2) (x3 := x3) hJ m (i + 1) (wI τ 557 i (mI τ 556 i)) h (by omega) (by omega) (fun q hq => by
      rw [rI_w, rI_o (by decide)]
      by_cases z : q = i
      · rw [if_pos ⟨rfl, z⟩, z]
      · rw [if_neg (fun y => z y.2)]; exact e q (by omega))
    refine ⟨φ, ?_, (Ag.wI (S := fun a => a = 557) (Ag.refl _ τ) rfl i _).trans r2, fun q hq => by rw [r3 q hq, rI_o (by decide)]⟩
    rw [e_M_givesFrom_27, if_neg (nI_ge (by omega) (by omega)), xr_53_41 h, xr_53_40 h, xa_556 h (by omega), xt_557 h (by omega), nI_1]
    exact r1
/-- what a search from here makes of the best so far -/
def GvP (l : Ln) (g : Nat → Nat → Nat) (k j T s W : Nat) (τ φ : mm_M) : Prop :=
  (W < s + dpM g (nP l) k j T + 1 ∧ mI φ 53 42 = nI (s + dpM g (nP l) k j T) ∧ (∀ i, i < j → mI φ 557 i = mI τ 556 i) ∧ ChR g (nP l) k j T (mI φ 557)) ∨
  (s + dpM g (nP l) k j T + 1 ≤ W ∧ mI φ 53 42 = mI τ 53 42 ∧ mI φ 557 = mI τ 557)
/-- the best so far, in the middle of one JOKE's turn -/
def LvP (l : Ln) (g : Nat → Nat → Nat) (k j T s W p : Nat) (τ τ' : mm_M) : Prop :=
  ((∀ q, q < p → bt (nI T) q = 0 → s + dpv g (nP l) k j T q + 1 ≤ W) ∧ mI τ' 53 42 = mI τ 53 42 ∧ mI τ' 557 = mI τ 557) ∨
  ∃ q, q < p ∧ bt (nI T) q = 0 ∧ W < s + dpv g (nP l) k j T q + 1 ∧ mI τ' 53 42 = nI (s + dpv g (nP l) k j T q) ∧ (∀ q', q' < p → bt (nI T) q' = 0 → dpv g (nP l) k j T q' ≤ dpv g (nP l) k j T q) ∧ (∀ q', q' < q → bt (nI T) q' = 0 → dpv g (nP l) k j T q' < dpv g (nP l) k j T q) ∧ (∀ i, i < j → mI τ' 557 i = mI τ 556 i) ∧ mI τ' 557 j = nI q ∧ ChR g (nP l) k (j + 1) (T ||| 2 ^ q) (mI τ' 557)
theorem m_gives {r : Nat → Int32} : ∀ k j T s W τ, Iv τ t n l many cs w K b → mI τ 53 0 = 0 → mI τ 533 = r → j + k = nJ l → T < 2 ^ nP l → s ≤ 120 * j → W ≤ 1000 → mI τ 53 42 = nI W + (-1) →
    ∃ φ, ev (d + 7 + k) 237 [.ref 53, .int (nI j), .int (nI T), .int (nI s)] τ = some (.inl uv, φ) ∧ AgM qm qF τ φ ∧ mI φ 53 0 = 0 ∧ (∀ i, i < j → mI φ 556 i = mI τ 556 i) ∧ GvP l (gw l many cs r) k j T s W τ φ
  | 0, j, T, s, W, τ, h, z0, hr, hj, hT, hs, hW, e => by
    have hg := h.1
    have J := hg.ok.1.2.1
    have ej : j = nJ l := by omega
    rw [e_M_givesFrom (d + 6) 53 _ _ _ τ (by rw [k_53 hg.sh]), xr_53_12 hg.sh, show aI τ 57 1 = aI τ 57 (nI 1) from rfl, xa_57 hg.sh (by decide), hg.mx.2.1.1.2.1, if_pos (by rw [ej]), xg_53 hg.sh, e]
    by_cases q : W < s + 1
    · have s1 : Sh (wI τ 53 42 (nI s)) := hg.sh
      obtain ⟨φ, c1, c2, c3⟩ := cp_loop (d := d + 6) (J := j) (x2 := nI T) (x3 := nI s) (by omega) j 0 (wI τ 53 42 (nI s)) s1 rfl (Nat.zero_le _) (fun q hq => absurd hq (Nat.not_lt_zero q))
      rw [if_pos ((wlt (by omega) (by omega)).mpr q), xs_53 hg.sh]
      refine ⟨φ, c1, ((AgM.refl qm qF τ).w53 qF42 _).trans (AgM.of c2 (fun a z => by rw [z]; exact qm557) (by omega)), ?_, fun i hi => by rw [c2.at (by omega), rI_o (by decide)], Or.inl ⟨q, ?_, fun i hi => by rw [c3 i hi, rI_o (by decide)], trivial⟩⟩
      · rw [c2.at (by omega), rI_w, if_neg (by omega)]; exact z0
      · rw [c2.at (by omega), rI_w, if_pos ⟨rfl, rfl⟩]; rfl
    · rw [if_neg (fun z => q ((wlt (by omega) (by omega)).mp z))]
      exact ⟨τ, rfl, AgM.refl _ _ _, z0, fun _ _ => rfl, Or.inr ⟨by show s + 0 + 1 ≤ W; omega, rfl, rfl⟩⟩
  | k + 1, j, T, s, W, τ, h, z0, hr, hj, hT, hs, hW, e => by
    have hg := h.1
    have J := hg.ok.1.2.1
    have P7 := hg.ok.1.1
    have gl := gw_le l many cs r
    have bound : ∀ T', dpM (gw l many cs r) (nP l) k (j + 1) T' ≤ 120 * k := fun T' => dp_le gl k (j + 1) T'
    have T128 := p128 P7 hT
    have loop : ∀ m p τ', nP l - p = m → p ≤ nP l → Iv τ' t n l many cs w K b → mI τ' 53 0 = 0 → mI τ' 533 = r → AgM qm qF τ τ' → (∀ i, i < j → mI τ' 556 i = mI τ 556 i) → LvP l (gw l many cs r) k j T s W p τ τ' →
        ∃ φ, rn (d + 7 + k + 1) 237 57 [.ref 53, .int (nI j), .int (nI T), .int (nI s), .int (nI p)] [] τ' = some (.inl uv, φ) ∧ AgM qm qF τ φ ∧ mI φ 53 0 = 0 ∧ (∀ i, i < j → mI φ 556 i = mI τ 556 i) ∧ GvP l (gw l many cs r) (k + 1) j T s W τ φ := by
      intro m
      induction m with
      | zero =>
        intro p τ' hm hp h' z' hr' a' f' iv
        have ep : p = nP l := by omega
        subst ep
        have hg' := h'.1
        have s1 : Sh (wI τ' 556 j (-1)) := hg'.sh
        have c1 : AgM qm qF τ' (wI τ' 556 j (-1)) := AgM.of (Ag.wI (S := fun a => a = 556) (Ag.refl _ τ') rfl j (-1)) (fun a z => by rw [z]; exact qm556) (by omega)
        have top : ∀ W', W' ≤ 1000 → mI τ' 53 42 = nI W' + (-1) → ∃ φ, rn (d + 7 + k + 1) 237 57 [.ref 53, .int (nI j), .int (nI T), .int (nI s), .int (nI (nP l))] [] τ' = some (.inl uv, φ) ∧ AgM qm qF τ φ ∧ mI φ 53 0 = 0 ∧ (∀ i, i < j → mI φ 556 i = mI τ 556 i) ∧ GvP l (gw l many cs r) k (j + 1) T s W' (wI τ' 556 j (-1)) φ := by
          intro W' hW' eW'
          obtain ⟨φ, r1, r2, r3, r4, r5⟩ := m_gives (r := r) k (j + 1) T s W' (wI τ' 556 j (-1)) (h'.qm c1) (by rw [rI_o (by decide)]; exact z') (by rw [rI_o (by decide)]; exact hr') (by omega) hT (by omega) hW' (by rw [rI_o (by decide)]; exact eW')
          refine ⟨φ, ?_, (a'.trans c1).trans r2, r3, fun i hi => by rw [r4 i (by omega), rI_w, if_neg (by omega)]; exact f' i hi, r5⟩
          rw [e_M_givesFrom_57, xr_53_12 hg'.sh, show aI τ' 57 0 = aI τ' 57 (nI 0) from rfl, xa_57 hg'.sh (by decide), hg'.mx.2.1.1.1, if_pos (nI_le (by omega) (by omega)), xr_53_40 hg'.sh, xt_556 hg'.sh (by omega), nI_1, r1, cV_ok]
        have M0 := dp_0 (g := gw l many cs r) (n := nP l) k j T
        have Me := dp_e (g := gw l many cs r) (n := nP l) k j T
        rcases iv with ⟨i1, i2, i3⟩ | ⟨q, q1, q2, q3, q4, q5, q6, q7, q8, q9⟩
        · obtain ⟨φ, r1, r2, r3, r4, r5⟩ := top W (by omega) (by rw [i2]; exact e)
          refine ⟨φ, r1, r2, r3, r4, ?_⟩
          rcases r5 with ⟨g1, g2, g3, g4⟩ | ⟨g1, g2, g3⟩
          · have Mv : dpM (gw l many cs r) (nP l) (k + 1) j T = dpM (gw l many cs r) (nP l) k (j + 1) T := by
              rcases Me with z | ⟨p, y1, y2, y3⟩
              · exact z
              · have := i1 p y1 y2
                omega
            refine Or.inl ⟨by rw [Mv]; exact g1, by rw [Mv]; exact g2, fun i hi => by rw [g3 i (by omega), rI_w, if_neg (by omega)]; exact f' i hi, nP l, Or.inr ⟨rfl, fun p hp z => ?_⟩, ?_, ?_⟩
            · have := i1 p hp z.1
              have := z.2
              omega
            · rw [g3 j (by omega), rI_w, if_pos ⟨rfl, rfl⟩, if_neg (by omega)]
            · rw [if_neg (by omega)]; exact g4
          · refine Or.inr ⟨?_, by rw [g2, rI_o (by decide)]; exact i2, by rw [g3, rI_o (by decide)]; exact i3⟩
            rcases Me with z | ⟨p, y1, y2, y3⟩
            · omega
            · have := i1 p y1 y2
              omega
        · have b1 := bound (T ||| 2 ^ q)
          have b2 := gl j q
          have q3' := q3
          unfold dpv at q3' q4
          obtain ⟨φ, r1, r2, r3, r4, r5⟩ := top (s + dpv (gw l many cs r) (nP l) k j T q + 1) (by unfold dpv; omega) (by rw [pk_m1]; exact q4)
          refine ⟨φ, r1, r2, r3, r4, Or.inl ?_⟩
          rcases r5 with ⟨g1, g2, g3, g4⟩ | ⟨g1, g2, g3⟩
          · have Mv : dpM (gw l many cs r) (nP l) (k + 1) j T = dpM (gw l many cs r) (nP l) k (j + 1) T := by
              rcases Me with z | ⟨p, y1, y2, y3⟩
              · exact z
              · have := q5 p y1 y2
                omega
            refine ⟨by omega, by rw [Mv]; exact g2, fun i hi => by rw [g3 i (by omega), rI_w, if_neg (by omega)]; exact f' i hi, nP l, Or.inr ⟨rfl, fun p hp z => ?_⟩, ?_, ?_⟩
            · have := q5 p hp z.1
              have := z.2
              omega
            · rw [g3 j (by omega), rI_w, if_pos ⟨rfl, rfl⟩, if_neg (by omega)]
            · rw [if_neg (by omega)]; exact g4
          · have Mp := dp_p (g := gw l many cs r) (k := k) (j := j) q1 q2
            have Mv : dpM (gw l many cs r) (nP l) (k + 1) j T = dpv (gw l many cs r) (nP l) k j T q := by
              rcases Me with z | ⟨p, y1, y2, y3⟩
              · omega
              · have := q5 p y1 y2
                omega
            have e557 : mI φ 557 = mI τ' 557 := by rw [g3, rI_o (by decide)]
            refine ⟨by omega, by rw [Mv, g2, rI_o (by decide)]; exact q4, fun i hi => by rw [e557]; exact q7 i hi, q, Or.inl ⟨q1, ⟨q2, Mv.symm⟩, fun p hp z => ?_⟩, ?_, ?_⟩
            · have := q6 p hp z.1
              have := z.2
              omega
            · rw [e557, if_pos q1]; exact q8
            · rw [if_pos q1, e557]; exact q9
      | succ m ih =>
        intro p τ' hm hp h' z' hr' a' f' iv
        have hg' := h'.1
        rw [e_M_givesFrom_57, xr_53_12 hg'.sh, show aI τ' 57 0 = aI τ' 57 (nI 0) from rfl, xa_57 hg'.sh (by decide), hg'.mx.2.1.1.1, if_neg (nI_ge (by omega) (by omega)), m_has, cI1_ok]
        by_cases fr : bt (nI T) p = 0
        · have s1 : Sh (wI τ' 556 j (nI p)) := hg'.sh
          have c1 : AgM qm qF τ' (wI τ' 556 j (nI p)) := AgM.of (Ag.wI (S := fun a => a = 556) (Ag.refl _ τ') rfl j (nI p)) (fun a z => by rw [z]; exact qm556) (by omega)
          have h1 := h'.qm c1
          obtain ⟨τ2, w1, w2⟩ := m_waterOf (d := d + 1 + k) (b := 533) s1 h1.1.mx.2.1 h1.1.ok.1 h1.1.ok.2 h1.1.mx.2.2 rw533 (j := j) (p := p) (by omega) (by omega)
          rw [rI_o (show (533 : Nat) ≠ 556 by decide), hr', gw_ok h1.1.ok (by omega)] at w1
          have w1' : ev (d + 7 + k) 215 [.ref 53, .ref 533, .int (nI j), .int (nI p)] (wI τ' 556 j (nI p)) = some (.inl (.int (nI (gw l many cs r j p))), τ2) := by
            rw [show d + 7 + k = d + 1 + k + 6 by omega]; exact w1
          have h2 := h1.qm (scM_qm w2)
          have e53 : mI τ2 53 = mI τ' 53 := by rw [w2.at (by unfold scM; omega), rI_o (by decide)]
          have e533 : mI τ2 533 = r := by rw [w2.at (by unfold scM; omega), rI_o (by decide)]; exact hr'
          have e556 : ∀ i, mI τ2 556 i = if i = j then nI p else mI τ' 556 i := fun i => by
            rw [w2.at (by unfold scM; omega), rI_w]
            by_cases z : i = j
            · rw [if_pos ⟨rfl, z⟩, if_pos z]
            · rw [if_neg (fun y => z y.2), if_neg z]
          have e557 : mI τ2 557 = mI τ' 557 := by rw [w2.at (by unfold scM; omega), rI_o (by decide)]
          have b1 := bound (T ||| 2 ^ p)
          have b2 := gl j p
          have top : ∀ W', W' ≤ 1000 → mI τ' 53 42 = nI W' + (-1) → ∃ φ, ev (d + 7 + k) 237 [.ref 53, .int (nI j + 1), .int (nI T ||| ((1 : Int32) <<< (nI p &&& 31))), .int (nI s + nI (gw l many cs r j p))] τ2 = some (.inl uv, φ) ∧ AgM qm qF τ φ ∧ mI φ 53 0 = 0 ∧ Iv φ t n l many cs w K b ∧ mI φ 533 = r ∧ (∀ i, i < j → mI φ 556 i = mI τ 556 i) ∧ GvP l (gw l many cs r) k (j + 1) (T ||| 2 ^ p) (s + gw l many cs r j p) W' τ2 φ := by
            intro W' hW' eW'
            obtain ⟨φ, r1, r2, r3, r4, r5⟩ := m_gives (r := r) k (j + 1) (T ||| 2 ^ p) (s + gw l many cs r j p) W' τ2 h2 (by rw [e53]; exact z') e533 (by omega) (or_lt hT (by omega)) (by omega) hW' (by rw [e53]; exact eW')
            refine ⟨φ, ?_, ((a'.trans c1).trans (scM_qm w2)).trans r2, r3, h2.qm r2, ?_, fun i hi => by rw [r4 i (by omega), e556, if_neg (by omega)]; exact f' i hi, r5⟩
            · rw [nI_1, show nI T ||| ((1 : Int32) <<< (nI p &&& 31)) = nI (T ||| 2 ^ p) from (or_small T T128 p (by omega)).1, nI_add]; exact r1
            · rw [r2.at (by decide) (fun q => q.1 f533)]; exact e533
          rw [if_pos fr, xr_53_40 hg'.sh, xt_556 hg'.sh (by omega), xr_53_29 s1, w1', cI_ok]
          rcases iv with ⟨i1, i2, i3⟩ | ⟨q, q1, q2, q3, q4, q5, q6, q7, q8, q9⟩
          · obtain ⟨φ, r1, r2, r3, r4, r5, r6, r7⟩ := top W (by omega) (by rw [i2]; exact e)
            rw [r1, cV_ok, e_M_givesFrom_114, nI_1]
            refine ih (p + 1) φ (by omega) (by omega) r4 r3 r5 r2 r6 ?_
            rcases r7 with ⟨g1, g2, g3, g4⟩ | ⟨g1, g2, g3⟩
            · refine Or.inr ⟨p, by omega, fr, by unfold dpv; omega, by unfold dpv; rw [← Nat.add_assoc]; exact g2, fun q' h1 h2 => ?_, fun q' h1 h2 => ?_, fun i hi => by rw [g3 i (by omega), e556, if_neg (by omega)]; exact f' i hi, by rw [g3 j (by omega), e556, if_pos rfl], g4⟩
              · by_cases y : q' = p
                · rw [y]; exact Nat.le_refl _
                · have := i1 q' (by omega) h2
                  unfold dpv at this ⊢
                  omega
              · have := i1 q' (by omega) h2
                unfold dpv at this ⊢
                omega
            · refine Or.inl ⟨fun q' h1 h2 => ?_, by rw [g2, e53]; exact i2, by rw [g3, e557]; exact i3⟩
              by_cases y : q' = p
              · rw [y]; unfold dpv; omega
              · exact i1 q' (by omega) h2
          · have bq1 := bound (T ||| 2 ^ q)
            have bq2 := gl j q
            obtain ⟨φ, r1, r2, r3, r4, r5, r6, r7⟩ := top (s + dpv (gw l many cs r) (nP l) k j T q + 1) (by unfold dpv; omega) (by rw [pk_m1]; exact q4)
            rw [r1, cV_ok, e_M_givesFrom_114, nI_1]
            refine ih (p + 1) φ (by omega) (by omega) r4 r3 r5 r2 r6 (Or.inr ?_)
            rcases r7 with ⟨g1, g2, g3, g4⟩ | ⟨g1, g2, g3⟩
            · have lt : dpv (gw l many cs r) (nP l) k j T q < dpv (gw l many cs r) (nP l) k j T p := by
                have g1' := g1
                show dpv (gw l many cs r) (nP l) k j T q < gw l many cs r j p + dpM (gw l many cs r) (nP l) k (j + 1) (T ||| 2 ^ p)
                omega
              refine ⟨p, by omega, fr, by omega, by unfold dpv; rw [← Nat.add_assoc]; exact g2, fun q' h1 h2 => ?_, fun q' h1 h2 => ?_, fun i hi => by rw [g3 i (by omega), e556, if_neg (by omega)]; exact f' i hi, by rw [g3 j (by omega), e556, if_pos rfl], g4⟩
              · by_cases y : q' = p
                · rw [y]; exact Nat.le_refl _
                · have := q5 q' (by omega) h2
                  omega
              · have := q5 q' (by omega) h2
                omega
            · have le : dpv (gw l many cs r) (nP l) k j T p ≤ dpv (gw l many cs r) (nP l) k j T q := by
                show gw l many cs r j p + dpM (gw l many cs r) (nP l) k (j + 1) (T ||| 2 ^ p) ≤ dpv (gw l many cs r) (nP l) k j T q
                omega
              refine ⟨q, by omega, q2, q3, by rw [g2, e53]; exact q4, fun q' h1 h2 => ?_, q6, fun i hi => by rw [g3, e557]; exact q7 i hi, by rw [g3, e557]; exact q8, by rw [g3, e557]; exact q9⟩
              by_cases y : q' = p
              · rw [y]; exact le
              · exact q5 q' (by omega) h2
        · rw [if_neg fr, e_M_givesFrom_114, nI_1]
          refine ih (p + 1) τ' (by omega) (by omega) h' z' hr' a' f' ?_
          rcases iv with ⟨i1, i2, i3⟩ | ⟨q, q1, q2, q3, q4, q5, q6, q7, q8, q9⟩
          · refine Or.inl ⟨fun q' h1 h2 => ?_, i2, i3⟩
            by_cases y : q' = p
            · exact absurd (y ▸ h2) fr
            · exact i1 q' (by omega) h2
          · refine Or.inr ⟨q, by omega, q2, q3, q4, fun q' h1 h2 => ?_, q6, q7, q8, q9⟩
            by_cases y : q' = p
            · exact absurd (y ▸ h2) fr
            · exact q5 q' (by omega) h2
    rw [show d + 7 + (k + 1) = d + 7 + k + 1 from rfl, e_M_givesFrom (d + 7 + k) 53 _ _ _ τ (by rw [k_53 hg.sh]), xr_53_12 hg.sh, show aI τ 57 1 = aI τ 57 (nI 1) from rfl, xa_57 hg.sh (by decide), hg.mx.2.1.1.2.1, if_neg (fun z => by have := (nI_eq (a := j) (b := nJ l) (by omega) (by omega)).mp z; omega)]
    exact loop (nP l) 0 τ rfl (Nat.zero_le _) h z0 hr (AgM.refl _ _ _) (fun _ _ => rfl) (Or.inl ⟨fun q hq => absurd hq (Nat.not_lt_zero q), rfl, rfl⟩)
end PlanM
