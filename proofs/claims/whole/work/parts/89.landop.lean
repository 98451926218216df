/-! land -/
def l00 : Ln := (0, 0, 0, fun x y => if x = 6 ∧ y = 0 then 20 else if x = 6 ∧ y = 1 then 2 else 0)
theorem l00_ok : LnOK l00 := ⟨by decide, by decide, by decide, fun p hp => absurd hp (Nat.not_lt_zero p), fun p hp => absurd hp (Nat.not_lt_zero p), fun p hp => absurd hp (Nat.not_lt_zero p), ⟨20, by decide, rfl⟩, ⟨2, by decide, rfl⟩⟩
theorem l00_near (x : Int32) : near l00 x = 0 := rfl
/-- what everything begins with -/
def Rw0 (c r : Nat → Int32) (v : Int32) : Prop := (∀ j, j < 79 → c j = if j = 1 then v else 0) ∧ (∀ k, k < 79 → r k = if k = 77 then v else 0)
theorem tS_zero {r : Nat → Int32} {j : Nat} : ∀ n, (∀ p, p < n → r (35 + 7 * j + p) = 0) → tS n r j = 0
  | 0, _ => rfl
  | n + 1, h => by
    show tS n r j + r (35 + 7 * j + n) = 0
    rw [tS_zero n (fun p hp => h p (by omega)), h n (by omega)]
    decide
theorem RP_0 {n : Nat} {c r : Nat → Int32} {v : Int32} (hn : n ≤ 7) (h : Rw0 c r v) (hv : ∃ g, g ≤ 999 ∧ v = nI g) : RP n c r := by
  obtain ⟨h1, h2⟩ := h
  have c0 : ∀ j, j < 79 → j ≠ 1 → c j = 0 := fun j hj hne => by rw [h1 j hj, if_neg hne]
  have r0 : ∀ j, j < 79 → j ≠ 77 → r j = 0 := fun j hj hne => by rw [h2 j hj, if_neg hne]
  refine ⟨⟨⟨?_, ?_, fun p hp => ⟨?_, ?_, ?_, ?_⟩, fun j hj => ⟨?_, fun p hp => ?_⟩⟩, ?_⟩, fun p h1 h2 => ⟨?_, ?_⟩, fun p hp => Or.inl ?_, fun p hp => ⟨0, by decide, ?_⟩, ?_⟩
  · rw [c0 0 (by decide) (by decide), r0 78 (by decide) (by decide)]
  · rw [h1 1 (by decide), h2 77 (by decide), if_pos rfl, if_pos rfl]
  · rw [c0 _ (by omega) (by omega), r0 _ (by omega) (by omega)]
  · rw [c0 _ (by omega) (by omega), r0 _ (by omega) (by omega)]
  · rw [c0 _ (by omega) (by omega), r0 _ (by omega) (by omega)]
  · rw [c0 _ (by omega) (by omega), r0 _ (by omega) (by omega)]
  · rw [c0 _ (by omega) (by omega), tS_zero n (fun p hp => r0 _ (by omega) (by omega))]
  · rw [c0 _ (by omega) (by omega), r0 _ (by omega) (by omega)]
  · rw [c0 2 (by decide) (by decide), who_no n (fun p hp => by rw [r0 _ (by omega) (by omega)]; decide)]
  · exact r0 _ (by omega) (by omega)
  · exact r0 _ (by omega) (by omega)
  · exact r0 _ (by omega) (by omega)
  · rw [r0 _ (by omega) (by omega)]; rfl
  · rw [h2 77 (by decide), if_pos rfl]; exact hv
theorem Iv_fresh {φ : mm_M} {t : Nat → Nat} {l : Ln} {cs : Nat → Int32} (sh : Sh φ) (stl : Stl φ) (tc : TxC φ t 0) (tm : TxM φ t 0) (e1 : mI φ 1 1 = 0) (e53 : mI φ 53 1 = 0) (e3 : mI φ 53 3 = mI φ 1 9) (ok : LnOK l) (cl : CLn φ (ldA φ) l) (w2 : mI φ (lwA φ) 2 = nI 11) (w1 : ∀ i, i < 11 → mI φ (lwA φ + 1) i = stdI i) (ml : MLn φ l) (e19 : mI φ 53 19 = 0)
    (row : Rw0 (mI φ 22) (mI φ 533) (lJ l)) (rz : RZ (mI φ 533)) (h3 : mI φ 25 3 = 0) (h34 : mI φ 53 34 = 0) (h4 : mI φ 25 4 = 0) (h36 : mI φ 53 36 = 0) (b1 : mI φ (bkA φ) 1 = 0) (h33 : mI φ 53 33 = 0) (b2 : ∀ j, j < 6 → mI φ (bkA φ + 1) j = -1) (ic : IC φ) : Iv φ t 0 l 0 cs 0 0 [] := by
  obtain ⟨g, hg, eg⟩ := ok.2.2.2.2.2.2.1
  refine ⟨⟨⟨sh, stl⟩, ⟨tc, tm, e1, e53, e3⟩, ⟨⟨ok, Or.inl rfl⟩, ⟨sh, cl, w2, fun i hi => w1 i hi⟩, ⟨sh, ml, e19, fun i hi => absurd hi (Nat.not_lt_zero i)⟩⟩, ⟨RP_0 ok.1 row ⟨g, by omega, eg⟩, rz⟩, ⟨Nat.zero_le _, h3, h34, fun i hi => absurd hi (Nat.not_lt_zero i)⟩, ⟨Nat.zero_le _, h4, h36, fun i hi => absurd hi (Nat.not_lt_zero i)⟩, ⟨Nat.zero_le _, b1, h33, List.nodup_nil, fun i hi => absurd hi (Nat.not_lt_zero i), fun j hj => b2 j hj⟩⟩, ic⟩
section LandO
variable {σ τ σ' τ' υ φ : mm_M} {t : Nat → Nat} {n : Nat} {l : Ln} {many : Nat} {cs : Nat → Int32} {w K : Nat} {b : List (Nat × Nat)} {d : Nat}
theorem m_tellsN (h : Sh τ) : ∃ υ, ev d 163 [.ref 53] τ = some (.inl uv, υ) ∧ LzT υ 0 0 0 l00 ∧ Ag (fun a => a = 56) τ υ := by
  have s1 : Sh (wI τ 56 0 0) := h
  have s2 : Sh (wI (wI τ 56 0 0) 56 1 0) := h
  have s3 : Sh (wI (wI (wI τ 56 0 0) 56 1 0) 56 2 0) := h
  have s4 : Sh (wI (wI (wI (wI τ 56 0 0) 56 1 0) 56 2 0) 56 3 20) := h
  have st : ∀ (υ : mm_M) (i : Nat), Sh υ → i < 3 → rn d 163 2 [.ref 53, .int (nI i)] [] υ = rn d 163 2 [.ref 53, .int (nI (i + 1))] [] (wI υ 56 i 0) := by
    intro υ i hu hi
    rw [e_M_tellsNothing_2, if_neg (show ¬ (3 : Int32) ≤ nI i from nI_ge (b := 3) hi (by decide)), xr_53_11 hu, xt_56 hu (by omega), nI_1]
  refine ⟨wI (wI (wI (wI (wI τ 56 0 0) 56 1 0) 56 2 0) 56 3 20) 56 4 2, ?_, ⟨⟨?_, ?_, ?_, ?_, ?_⟩, fun p hp => absurd hp (Nat.not_lt_zero p), fun p hp => absurd hp (Nat.not_lt_zero p), fun p hp => absurd hp (Nat.not_lt_zero p)⟩, Ag.wI (S := fun a => a = 56) (Ag.wI (S := fun a => a = 56) (Ag.wI (S := fun a => a = 56) (Ag.wI (S := fun a => a = 56) (Ag.wI (S := fun a => a = 56) (Ag.refl _ τ) rfl _ _) rfl _ _) rfl _ _) rfl _ _) rfl _ _⟩
  · rw [e_M_tellsNothing d 53 τ (by rw [k_53 h]), show rn d 163 2 [.ref 53, .int 0] [] τ = rn d 163 2 [.ref 53, .int (nI 0)] [] τ from rfl, st τ 0 h (by decide), st _ 1 s1 (by decide), st _ 2 s2 (by decide), e_M_tellsNothing_2, if_pos (show (3 : Int32) ≤ nI (2 + 1) by decide), xr_53_11 s3, show tI (wI (wI (wI τ 56 0 0) 56 1 0) 56 2 0) 56 3 = tI (wI (wI (wI τ 56 0 0) 56 1 0) 56 2 0) 56 (nI 3) from rfl, xt_56 s3 (by decide), xr_53_11 s4, show tI (wI (wI (wI (wI τ 56 0 0) 56 1 0) 56 2 0) 56 3 20) 56 4 = tI (wI (wI (wI (wI τ 56 0 0) 56 1 0) 56 2 0) 56 3 20) 56 (nI 4) from rfl, xt_56 s4 (by decide)]
  · rw [rI_w, if_neg (by omega), rI_w, if_neg (by omega), rI_w, if_neg (by omega), rI_w, if_neg (by omega), rI_w, if_pos ⟨rfl, rfl⟩]; rfl
  · rw [rI_w, if_neg (by omega), rI_w, if_neg (by omega), rI_w, if_neg (by omega), rI_w, if_pos ⟨rfl, rfl⟩]; rfl
  · rw [rI_w, if_neg (by omega), rI_w, if_neg (by omega), rI_w, if_pos ⟨rfl, rfl⟩]; rfl
  · rw [rI_w, if_neg (by omega), rI_w, if_pos ⟨rfl, rfl⟩]; rfl
  · rw [rI_w, if_pos ⟨rfl, rfl⟩]; rfl
def bgS (a : Nat) : Prop := a = 57 ∨ (67 ≤ a ∧ a ≤ 73) ∨ (82 ≤ a ∧ a ≤ 87) ∨ (102 ≤ a ∧ a ≤ 113) ∨ a = 533
def bgF (i : Nat) : Prop := i = 19 ∨ i = 33 ∨ i = 34 ∨ i = 35 ∨ i = 36
theorem m_begins (h : Sh τ) (lt : LzT τ (nP l) (nJ l) (nS l) l) (ok : LnOK l) : ∃ φ, ev (d + 1) 194 [.ref 53] τ = some (.inl uv, φ) ∧ MLn φ l ∧ (∀ k, k < 79 → mI φ 533 k = if k = 77 then lJ l else 0) ∧ (∀ k, 79 ≤ k → mI φ 533 k = mI τ 533 k) ∧ (∀ i, bgF i → mI φ 53 i = 0) ∧ AgM bgS bgF τ φ := by
  have P7 := ok.1
  have J6 := ok.2.1
  have S12 := ok.2.2.1
  -- told
  have st : ∀ (υ : mm_M) (i : Nat), Sh υ → i < 5 → rn (d + 1) 194 2 [.ref 53, .int (nI i)] [] υ = rn (d + 1) 194 2 [.ref 53, .int (nI (i + 1))] [] (wI υ 57 i (mI υ 56 i)) := by
    intro υ i hu hi
    rw [e_M_beginsAnew_2, if_neg (show ¬ (5 : Int32) ≤ nI i from nI_ge (b := 5) hi (by decide)), xr_53_12 hu, xr_53_11 hu, xa_56 hu (by omega), xt_57 hu (by omega), nI_1]
  have key1 : ∀ k, k ≤ 5 → ∃ υ, rn (d + 1) 194 2 [.ref 53, .int (nI 0)] [] τ = rn (d + 1) 194 2 [.ref 53, .int (nI k)] [] υ ∧ Ag (fun a => a = 57) τ υ ∧ ∀ i, i < k → mI υ 57 i = mI τ 56 i := by
    intro k
    induction k with
    | zero => exact fun _ => ⟨τ, rfl, Ag.refl _ _, fun i hi => absurd hi (Nat.not_lt_zero i)⟩
    | succ k ih =>
      intro hk
      obtain ⟨υ, a1, a2, a3⟩ := ih (by omega)
      refine ⟨wI υ 57 k (mI υ 56 k), by rw [a1, st υ k (a2.sh h) (by omega)], a2.wI rfl _ _, fun i hi => ?_⟩
      rw [rI_w]
      by_cases z : i = k
      · rw [if_pos ⟨rfl, z⟩, z, a2.at (by omega)]
      · rw [if_neg (fun y => z y.2)]; exact a3 i (by omega)
  obtain ⟨τ1, a1, a2, a3⟩ := key1 5 (Nat.le_refl _)
  have h1 := a2.sh h
  have e0 : mI τ1 57 0 = nI (nP l) := by rw [a3 0 (by decide)]; exact lt.1.1
  have e1 : mI τ1 57 1 = nI (nJ l) := by rw [a3 1 (by decide)]; exact lt.1.2.1
  have e2 : mI τ1 57 2 = nI (nS l) := by rw [a3 2 (by decide)]; exact lt.1.2.2.1
  have e3 : mI τ1 57 3 = lJ l := by rw [a3 3 (by decide)]; exact lt.1.2.2.2.1
  have e4 : mI τ1 57 4 = lW l := by rw [a3 4 (by decide)]; exact lt.1.2.2.2.2
  -- the lists
  obtain ⟨τ2, l1, l2, l3⟩ := m_lays (d := d) (σ := τ1) (a := 58) (c := 66) (A := 7) (by decide)
    (fun σ' hk hr q hq k => aR_k (by rw [hk]; exact k_58 h1) hq (by decide) (by rw [hr]; exact r_g58 h1 hq) k)
    (fun σ' hk hr q hq k => aR_k (by rw [hk]; exact k_66 h1) hq (by decide) (by rw [hr]; exact r_g66 h1 hq) k)
    (fun q hq => k_r58 h1 hq) (fun q hq => k_r66 h1 hq) (fun p q hp hq => by omega) (m := nP l) P7
  have h2 := l2.sh h1
  obtain ⟨τ3, m1, m2, m3⟩ := m_lays (d := d) (σ := τ2) (a := 74) (c := 81) (A := 6) (by decide)
    (fun σ' hk hr q hq k => aR_k (by rw [hk]; exact k_74 h2) hq (by decide) (by rw [hr]; exact r_g74 h2 hq) k)
    (fun σ' hk hr q hq k => aR_k (by rw [hk]; exact k_81 h2) hq (by decide) (by rw [hr]; exact r_g81 h2 hq) k)
    (fun q hq => k_r74 h2 hq) (fun q hq => k_r81 h2 hq) (fun p q hp hq => by omega) (m := nJ l) J6
  have h3 := m2.sh h2
  obtain ⟨τ4, n1, n2, n3⟩ := m_lays (d := d) (σ := τ3) (a := 88) (c := 101) (A := 12) (by decide)
    (fun σ' hk hr q hq k => aR_k (by rw [hk]; exact k_88 h3) hq (by decide) (by rw [hr]; exact r_g88 h3 hq) k)
    (fun σ' hk hr q hq k => aR_k (by rw [hk]; exact k_101 h3) hq (by decide) (by rw [hr]; exact r_g101 h3 hq) k)
    (fun q hq => k_r88 h3 hq) (fun q hq => k_r101 h3 hq) (fun p q hp hq => by omega) (m := nS l) S12
  have h4 := n2.sh h3
  have e1' : mI τ2 57 1 = nI (nJ l) := by rw [l2.at (by omega)]; exact e1
  have e2' : mI τ3 57 2 = nI (nS l) := by rw [m2.at (by omega), l2.at (by omega)]; exact e2
  -- the row
  have st2 : ∀ (υ : mm_M) (i : Nat), Sh υ → i < 79 → rn (d + 1) 194 78 [.ref 53, .int (nI i)] [] υ = rn (d + 1) 194 78 [.ref 53, .int (nI (i + 1))] [] (wI υ 533 i 0) := by
    intro υ i hu hi
    rw [e_M_beginsAnew_78, if_neg (show ¬ (79 : Int32) ≤ nI i from nI_ge (b := 79) hi (by decide)), xr_53_29 hu, xt_533 hu hi, nI_1]
  have key2 : ∀ k, k ≤ 79 → ∃ υ, rn (d + 1) 194 78 [.ref 53, .int (nI 0)] [] τ4 = rn (d + 1) 194 78 [.ref 53, .int (nI k)] [] υ ∧ Ag (fun a => a = 533) τ4 υ ∧ (∀ i, i < k → mI υ 533 i = 0) ∧ ∀ i, k ≤ i → mI υ 533 i = mI τ4 533 i := by
    intro k
    induction k with
    | zero => exact fun _ => ⟨τ4, rfl, Ag.refl _ _, fun i hi => absurd hi (Nat.not_lt_zero i), fun _ _ => rfl⟩
    | succ k ih =>
      intro hk
      obtain ⟨υ, a1, a2, a3, a4⟩ := ih (by omega)
      refine ⟨wI υ 533 k 0, by rw [a1, st2 υ k (a2.sh h4) (by omega)], a2.wI rfl _ _, fun i hi => ?_, fun i hi => ?_⟩
      · rw [rI_w]
        by_cases z : i = k
        · rw [if_pos ⟨rfl, z⟩]
        · rw [if_neg (fun y => z y.2)]; exact a3 i (by omega)
      · rw [rI_w, if_neg (by omega)]; exact a4 i (by omega)
  obtain ⟨τ5, b1, b2, b3, b4⟩ := key2 79 (Nat.le_refl _)
  have h5 := b2.sh h4
  have e3' : mI τ5 57 3 = lJ l := by rw [b2.at (by omega), n2.at (by omega), m2.at (by omega), l2.at (by omega)]; exact e3
  have c1 : Sh (wI τ5 533 77 (lJ l)) := h5
  have c2 : Sh (wI (wI τ5 533 77 (lJ l)) 53 19 0) := h5
  have c3 : Sh (wI (wI (wI τ5 533 77 (lJ l)) 53 19 0) 53 33 0) := h5
  have c4 : Sh (wI (wI (wI (wI τ5 533 77 (lJ l)) 53 19 0) 53 33 0) 53 34 0) := h5
  have c5 : Sh (wI (wI (wI (wI (wI τ5 533 77 (lJ l)) 53 19 0) 53 33 0) 53 34 0) 53 35 0) := h5
  have run : ev (d + 1) 194 [.ref 53] τ = some (.inl uv, wI (wI (wI (wI (wI (wI τ5 533 77 (lJ l)) 53 19 0) 53 33 0) 53 34 0) 53 35 0) 53 36 0) := by
    rw [e_M_beginsAnew d 53 τ (by rw [k_53 h]), show rn (d + 1) 194 2 [.ref 53, .int 0] [] τ = rn (d + 1) 194 2 [.ref 53, .int (nI 0)] [] τ from rfl, a1, e_M_beginsAnew_2, if_pos (show (5 : Int32) ≤ nI 5 by decide), xr_53_13 h1, xr_53_14 h1, xr_53_12 h1, show aI τ1 57 0 = aI τ1 57 (nI 0) from rfl, xa_57 h1 (by decide), e0, l1, cV1_ok, xr_53_15 h2, xr_53_16 h2, xr_53_12 h2, show aI τ2 57 1 = aI τ2 57 (nI 1) from rfl, xa_57 h2 (by decide), e1', m1, cV1_ok, xr_53_17 h3, xr_53_18 h3, xr_53_12 h3, show aI τ3 57 2 = aI τ3 57 (nI 2) from rfl, xa_57 h3 (by decide), e2', n1, cV1_ok, show rn (d + 1) 194 78 [.ref 53, .int 0] [] τ4 = rn (d + 1) 194 78 [.ref 53, .int (nI 0)] [] τ4 from rfl, b1, e_M_beginsAnew_78, if_pos (show (79 : Int32) ≤ nI 79 by decide), xr_53_29 h5, xr_53_12 h5, show aI τ5 57 3 = aI τ5 57 (nI 3) from rfl, xa_57 h5 (by decide), e3', show tI τ5 533 77 = tI τ5 533 (nI 77) from rfl, xt_533 h5 (by decide), xs_53 c1, xs_53 c2, xs_53 c3, xs_53 c4, xs_53 c5]
  have A5 : AgM bgS bgF τ τ5 := (((((AgM.of a2 (fun a q => Or.inl q) (by omega)) : AgM bgS bgF τ τ1).trans (AgM.of l2 (fun a q => by unfold bgS; omega) (by omega))).trans (AgM.of m2 (fun a q => by unfold bgS; omega) (by omega))).trans (AgM.of n2 (fun a q => by unfold bgS; omega) (by omega))).trans (AgM.of b2 (fun a q => by unfold bgS; omega) (by omega))
  have A6 : AgM bgS bgF τ (wI τ5 533 77 (lJ l)) := A5.trans (AgM.of (S := fun a => a = 533) (Ag.wI (S := fun a => a = 533) (Ag.refl _ τ5) rfl _ _) (fun a q => by unfold bgS; omega) (by omega))
  have A7 : AgM bgS bgF τ (wI (wI (wI (wI (wI (wI τ5 533 77 (lJ l)) 53 19 0) 53 33 0) 53 34 0) 53 35 0) 53 36 0) := AgM.w53 (AgM.w53 (AgM.w53 (AgM.w53 (AgM.w53 A6 (show bgF 19 by unfold bgF; omega) _) (show bgF 33 by unfold bgF; omega) _) (show bgF 34 by unfold bgF; omega) _) (show bgF 35 by unfold bgF; omega) _) (show bgF 36 by unfold bgF; omega) _
  have at5 : ∀ x, x ≠ 53 → x ≠ 533 → mI (wI (wI (wI (wI (wI (wI τ5 533 77 (lJ l)) 53 19 0) 53 33 0) 53 34 0) 53 35 0) 53 36 0) x = mI τ4 x := fun x q1 q2 => by rw [rI_o q1, rI_o q1, rI_o q1, rI_o q1, rI_o q1, rI_o q2, b2.at q2]
  have row : ∀ i, mI (wI (wI (wI (wI (wI (wI τ5 533 77 (lJ l)) 53 19 0) 53 33 0) 53 34 0) 53 35 0) 53 36 0) 533 i = if i = 77 then lJ l else mI τ5 533 i := fun i => by
    rw [rI_o (by decide), rI_o (by decide), rI_o (by decide), rI_o (by decide), rI_o (by decide), rI_w]
    by_cases z : i = 77
    · rw [if_pos ⟨rfl, z⟩, if_pos z]
    · rw [if_neg (fun y => z y.2), if_neg z]
  refine ⟨_, run, ⟨⟨?_, ?_, ?_, ?_, ?_⟩, fun p hp => ?_, fun j hj => ?_, fun i hi => ?_⟩, fun k hk => ?_, fun k hk => ?_, fun i hi => ?_, A7⟩
  · rw [at5 57 (by decide) (by decide), n2.at (by omega), m2.at (by omega), l2.at (by omega)]; exact e0
  · rw [at5 57 (by decide) (by decide), n2.at (by omega), m2.at (by omega), l2.at (by omega)]; exact e1
  · rw [at5 57 (by decide) (by decide), n2.at (by omega), m2.at (by omega), l2.at (by omega)]; exact e2
  · rw [at5 57 (by decide) (by decide), n2.at (by omega), m2.at (by omega), l2.at (by omega)]; exact e3
  · rw [at5 57 (by decide) (by decide), n2.at (by omega), m2.at (by omega), l2.at (by omega)]; exact e4
  · obtain ⟨x0, x1⟩ := l3 p hp
    have x0 : mI τ2 (67 + p) 0 = mI τ1 (59 + p) 0 := x0
    have x1 : mI τ2 (67 + p) 1 = mI τ1 (59 + p) 1 := x1
    rw [at5 (67 + p) (by omega) (by omega), n2.at (by omega), m2.at (by omega), x0, x1, a2.at (by omega)]
    exact lt.2.1 p hp
  · obtain ⟨x0, x1⟩ := m3 j hj
    have x0 : mI τ3 (82 + j) 0 = mI τ2 (75 + j) 0 := x0
    have x1 : mI τ3 (82 + j) 1 = mI τ2 (75 + j) 1 := x1
    rw [at5 (82 + j) (by omega) (by omega), n2.at (by omega), x0, x1, l2.at (by omega), a2.at (by omega)]
    exact lt.2.2.1 j hj
  · obtain ⟨x0, x1⟩ := n3 i hi
    have x0 : mI τ4 (102 + i) 0 = mI τ3 (89 + i) 0 := x0
    have x1 : mI τ4 (102 + i) 1 = mI τ3 (89 + i) 1 := x1
    rw [at5 (102 + i) (by omega) (by omega), x0, x1, m2.at (by omega), l2.at (by omega), a2.at (by omega)]
    exact lt.2.2.2 i hi
  · rw [row]
    by_cases z : k = 77
    · rw [if_pos z, if_pos z]
    · rw [if_neg z, if_neg z]; exact b3 k hk
  · rw [row, if_neg (by omega), b4 k hk, n2.at (by omega), m2.at (by omega), l2.at (by omega), a2.at (by omega)]
  · unfold bgF at hi
    rcases hi with rfl | rfl | rfl | rfl | rfl
    · rw [w53n _ (show (19 : Nat) ≠ 36 by decide), w53n _ (show (19 : Nat) ≠ 35 by decide), w53n _ (show (19 : Nat) ≠ 34 by decide), w53n _ (show (19 : Nat) ≠ 33 by decide), w53e]
    · rw [w53n _ (show (33 : Nat) ≠ 36 by decide), w53n _ (show (33 : Nat) ≠ 35 by decide), w53n _ (show (33 : Nat) ≠ 34 by decide), w53e]
    · rw [w53n _ (show (34 : Nat) ≠ 36 by decide), w53n _ (show (34 : Nat) ≠ 35 by decide), w53e]
    · rw [w53n _ (show (35 : Nat) ≠ 36 by decide), w53e]
    · rw [w53e]
/-- the class's standard LAW -/
theorem c_std {L : Nat} (h : Sh σ) (stl : Stl σ) (hL : isLw L) : ∃ υ, ev d 60 [.ref L] σ = some (.inl uv, υ) ∧ Ag (fun a => a = L ∨ a = L + 1) σ υ ∧ mI υ L 2 = nI 11 ∧ ∀ i, i < 11 → mI υ (L + 1) i = stdI i := by
  have hL' : L = 13 ∨ L = 46 := hL
  have k1 : mK σ 1000001 = (21, 11) := (h.2.2.2.2.2.2.2 1000001 (by decide) (by decide)).1
  have k2 : mK σ (L + 1) = (1, 150) := k_lw1 h hL
  have std : mI σ 1000001 = stdI := stl 1000001 (by decide) (by decide)
  have n1 : ∀ (τ : mm_M) (k : Int32 → Option mm_R), mK τ = mK σ → aN τ 1000001 k = k (nI 11) := fun τ k e => by
    unfold aN
    rw [e, k1, if_pos ⟨by decide, by decide⟩]
    rfl
  have cp : ∀ k : mm_M → Option mm_R, cpy σ 1000001 0 (L + 1) 0 (nI 11) k = k (wA σ (L + 1) (fun j => if 0 ≤ j ∧ j < 0 + 11 then mI σ 1000001 (0 + (j - 0)) else mI σ (L + 1) j)) := fun k => by
    unfold cpy
    rw [k1, k2, if_pos ⟨Or.inr rfl, rfl, by omega, ⟨by decide, by decide, by decide⟩, by decide, by decide⟩]
    rfl
  generalize hf : (fun j => if 0 ≤ j ∧ j < 0 + 11 then mI σ 1000001 (0 + (j - 0)) else mI σ (L + 1) j) = f at cp
  have s1 : Sh (wA σ (L + 1) f) := h
  refine ⟨wI (wA σ (L + 1) f) L 2 (nI 11), ?_, Ag.wI (S := fun a => a = L ∨ a = L + 1) (Ag.wA (S := fun a => a = L ∨ a = L + 1) (Ag.refl _ σ) (Or.inr rfl) _) (Or.inl rfl) _ _, by rw [rI_w, if_pos ⟨rfl, rfl⟩], fun i hi => ?_⟩
  · rw [e_Law_makeStandard d L σ (by rw [k_lw0 h hL]), xr_lw0 h hL, n1 σ _ rfl, cp, n1 (wA σ (L + 1) f) _ rfl, xs_lw s1 hL]
  · rw [rI_o (by omega), rA_a, ← hf]
    show (if 0 ≤ i ∧ i < 0 + 11 then mI σ 1000001 (0 + (i - 0)) else mI σ (L + 1) i) = _
    rw [if_pos ⟨Nat.zero_le _, by omega⟩, std]
    exact congrArg stdI (by omega)
theorem c_bclear {B : Nat} (h : Sh σ) (hB : isBk B) : ∃ υ, ev (d + 1) 87 [.ref B] σ = some (.inl uv, υ) ∧ Ag (fun a => a = B ∨ a = B + 1) σ υ ∧ mI υ B 1 = 0 ∧ ∀ j, j < 6 → mI υ (B + 1) j = -1 := by
  have s1 : Sh (wA σ (B + 1) (fun j => if j < 6 then -1 else mI σ (B + 1) j)) := h
  refine ⟨wI (wA σ (B + 1) (fun j => if j < 6 then -1 else mI σ (B + 1) j)) B 1 0, ?_, Ag.wI (S := fun a => a = B ∨ a = B + 1) (Ag.wA (S := fun a => a = B ∨ a = B + 1) (Ag.refl _ σ) (Or.inr rfl) _) (Or.inl rfl) _ _, by rw [rI_w, if_pos ⟨rfl, rfl⟩], fun j hj => ?_⟩
  · rw [e_Book_clear d B σ (by rw [k_bk0 h hB]), xr_bk0 h hB, c_fill (k_bk1 h hB) (by decide), cV1_ok, xs_bk s1 hB]
  · rw [rI_o (by omega), rA_a]
    exact if_pos hj
def lswp (υ : mm_M) : mm_M := wR (wR υ 3 1 (43 - ldA υ)) 0 9 (ldA υ)
theorem rr_ld : rr 3 1 = none ∧ rr 0 9 = none := by decide +kernel
theorem lswp_r (υ : mm_M) {a i : Nat} (h1 : ¬ (a = 3 ∧ i = 1)) (h2 : ¬ (a = 0 ∧ i = 9)) : mR (lswp υ) a i = mR υ a i := by
  show (if a = 0 ∧ i = 9 then some (ldA υ) else if a = 3 ∧ i = 1 then some (43 - ldA υ) else mR υ a i) = _
  rw [if_neg h2, if_neg h1]
theorem lswp_sh {υ : mm_M} (h : Sh υ) : Sh (lswp υ) := by
  obtain ⟨h1, h2, ⟨h3, h4, h5, h6, h7, h8⟩, h9, h10, h11, h12, h13⟩ := h
  have hw : ldA υ = 5 ∨ ldA υ = 38 := h10
  have eld : ldA (lswp υ) = 43 - ldA υ := rfl
  refine ⟨h1, fun a i v e => ?_, ⟨rfl, ?_, ?_, ?_, ?_, ?_⟩, h9, ?_, h11, h12, fun a p q => ⟨(h13 a p q).1, ?_⟩⟩
  · rw [lswp_r υ (fun z => by rw [z.1, z.2, rr_ld.1] at e; cases e) (fun z => by rw [z.1, z.2, rr_ld.2] at e; cases e)]
    exact h2 a i v e
  · rw [lswp_r υ (by omega) (by omega)]; exact h4
  · show some (ldA υ) = some (43 - (43 - ldA υ))
    congr 1
    omega
  · rw [lswp_r υ (by omega) (by omega)]; exact h6
  · rw [lswp_r υ (by omega) (by omega)]; exact h7
  · rw [lswp_r υ (by omega) (by omega)]; exact h8
  · rw [eld]
    show 43 - ldA υ = 5 ∨ 43 - ldA υ = 38
    omega
  · funext i
    rw [lswp_r υ (by omega) (by omega), (h13 a p q).2]
theorem sR_3 {σ : mm_M} (h : mK σ 3 = (102, 0)) (i v : Nat) (k : mm_M → Option mm_R) : sR σ 2 3 i v k = k (wR σ 3 i v) := by
  unfold sR
  rw [if_pos (by rw [h])]
theorem CLn_of {L : Nat} (h : LzC σ L l) (ok : LnOK l) : CLn σ L l := by
  have P7 := ok.1
  exact ⟨h.1, fun p hp => ⟨(h.2.1 p hp).1, (h.2.1 p hp).2, h.2.2.1 p (by omega)⟩, h.2.2.2.1, h.2.2.2.2⟩
/-- the class reads a land from its beginning -/
theorem c_lread {L : Nat} (hL : isLd L) (h : Sh σ) : ∃ υ, ev (d + 1) 47 [.ref L, .ref 1] σ = rn (d + 1) 47 36 [.ref L, .ref 1, .int (nI 0)] [] υ ∧ LzC υ L l00 ∧ Ag (fun a => L ≤ a ∧ a ≤ L + 7) σ υ := by
  have s1 : Sh (wI σ L 7 0) := h
  have s2 : Sh (wI (wI σ L 7 0) L 8 0) := h
  have s3 : Sh (wI (wI (wI σ L 7 0) L 8 0) L 9 0) := h
  have s4 : Sh (wI (wI (wI (wI σ L 7 0) L 8 0) L 9 0) L 10 20) := h
  have s5 : Sh (wI (wI (wI (wI (wI σ L 7 0) L 8 0) L 9 0) L 10 20) L 11 2) := h
  have z7 : mI (wI (wI (wI (wI (wI σ L 7 0) L 8 0) L 9 0) L 10 20) L 11 2) L 7 = 0 := by rw [rI_w, if_neg (by omega), rI_w, if_neg (by omega), rI_w, if_neg (by omega), rI_w, if_neg (by omega), rI_w, if_pos ⟨rfl, rfl⟩]
  have z8 : mI (wI (wI (wI (wI (wI σ L 7 0) L 8 0) L 9 0) L 10 20) L 11 2) L 8 = 0 := by rw [rI_w, if_neg (by omega), rI_w, if_neg (by omega), rI_w, if_neg (by omega), rI_w, if_pos ⟨rfl, rfl⟩]
  have z9 : mI (wI (wI (wI (wI (wI σ L 7 0) L 8 0) L 9 0) L 10 20) L 11 2) L 9 = 0 := by rw [rI_w, if_neg (by omega), rI_w, if_neg (by omega), rI_w, if_pos ⟨rfl, rfl⟩]
  have z10 : mI (wI (wI (wI (wI (wI σ L 7 0) L 8 0) L 9 0) L 10 20) L 11 2) L 10 = 20 := by rw [rI_w, if_neg (by omega), rI_w, if_pos ⟨rfl, rfl⟩]
  have z11 : mI (wI (wI (wI (wI (wI σ L 7 0) L 8 0) L 9 0) L 10 20) L 11 2) L 11 = 2 := by rw [rI_w, if_pos ⟨rfl, rfl⟩]
  have ag : Ag (fun a => L ≤ a ∧ a ≤ L + 7) σ (wI (wI (wI (wI (wI σ L 7 0) L 8 0) L 9 0) L 10 20) L 11 2) := Ag.wI (S := fun a => L ≤ a ∧ a ≤ L + 7) (Ag.wI (S := fun a => L ≤ a ∧ a ≤ L + 7) (Ag.wI (S := fun a => L ≤ a ∧ a ≤ L + 7) (Ag.wI (S := fun a => L ≤ a ∧ a ≤ L + 7) (Ag.wI (S := fun a => L ≤ a ∧ a ≤ L + 7) (Ag.refl _ σ) ⟨by omega, by omega⟩ _ _) ⟨by omega, by omega⟩ _ _) ⟨by omega, by omega⟩ _ _) ⟨by omega, by omega⟩ _ _) ⟨by omega, by omega⟩ _ _
  have run : ev (d + 1) 47 [.ref L, .ref 1] σ = rn (d + 1) 47 36 [.ref L, .ref 1, .int (nI 0)] [] (wA (wI (wI (wI (wI (wI σ L 7 0) L 8 0) L 9 0) L 10 20) L 11 2) (L + 3) (fun j => if j < 7 then 0 else mI (wI (wI (wI (wI (wI σ L 7 0) L 8 0) L 9 0) L 10 20) L 11 2) (L + 3) j)) := by
    rw [e_Land_read d L 1 σ (by rw [k_ld0 h hL]), xs_ld h hL, xs_ld s1 hL, xs_ld s2 hL, xs_ld s3 hL, xs_ld s4 hL, xr_ld2 s5 hL, c_fill (k_ld3 s5 hL) (by decide), cV1_ok]
    rfl
  generalize wI (wI (wI (wI (wI σ L 7 0) L 8 0) L 9 0) L 10 20) L 11 2 = ω at *
  refine ⟨_, run, ⟨⟨?_, ?_, ?_, ?_, ?_⟩, fun p hp => absurd hp (Nat.not_lt_zero p), fun p hp => ?_, fun p hp => absurd hp (Nat.not_lt_zero p), fun p hp => absurd hp (Nat.not_lt_zero p)⟩, ag.wA ⟨by omega, by omega⟩ _⟩
  · rw [rA_o (by omega)]; exact z7
  · rw [rA_o (by omega)]; exact z8
  · rw [rA_o (by omega)]; exact z9
  · rw [rA_o (by omega)]; exact z10
  · rw [rA_o (by omega)]; exact z11
  · rw [rA_a]
    exact if_pos hp
theorem op_land (x : Int32) : OpW (d + 31) 276 [.ref 0, .int x, .ref 560] (d + 31) 191 [.ref 53, .int x] := by
  intro σ hI
  obtain ⟨t, n, l, many, cs, w, K, b, h⟩ := hI
  have wr := fun σ => e_L_land (d + 30) 0 x 560 σ
  have hw := h.1
  obtain ⟨⟨sh, stl⟩, ⟨tc, tm, n1, n2, pl⟩, ⟨ok, cx, mx⟩, idd, ih, im, ib⟩ := hw
  have hn := tc.1
  obtain ⟨g1, g2⟩ := c_needR (d := d + 29) sh x (m := n) (by omega)
  have start : ev (d + 30) 116 [.ref 0, .int x] σ = _ := e_W_land (d + 29) 0 x σ (by rw [k_0 sh])
  rw [xr_0_0 sh, xg_1 sh, n1] at start
  have hbs : bkA σ = 49 ∨ bkA σ = 51 := sh.bk
  have lds : ldA σ = 5 ∨ ldA σ = 38 := sh.ld
  have lws : lwA σ = 13 ∨ lwA σ = 46 := sh.lw
  by_cases q : inN x (n + 1)
  · have qq := q
    obtain ⟨m, hm, rfl⟩ := q
    have m1 : m ≤ n := by omega
    obtain ⟨υ1, o1, o2, o3, o4, o5, o6⟩ := t_open (d := d + 28) sh stl tc m1
    have sh1 := o2.1
    have ld1 : ldA υ1 = ldA σ := o3.ld
    have hL : isLd (43 - ldA σ) := by
      show 43 - ldA σ = 5 ∨ 43 - ldA σ = 38
      omega
    generalize hLL : 43 - ldA σ = L at hL
    have hL' : L = 5 ∨ L = 38 := hL
    obtain ⟨r, rf, rc, rm⟩ := cl_all (t := t) (m := m) _ (sp isB t m 0) l00 0 rfl o2.2.2.2.1 l00_ok (Nat.zero_le _)
    obtain ⟨υ2, c1, c2, c3⟩ := c_lread (d := d + 28) hL sh1
    have rs2 := lz_rs hL o2 c3
    obtain ⟨bb, υ3, p1, p2⟩ := rc L υ2 (d + 23) hL rs2 c2
    have y1 : mI υ2 1 = mI υ1 1 := c3.at (by omega)
    rw [g1 qq, cI_ok, xr_0_0 sh, show ev (d + 29) 16 [.ref 1, .int (nI m)] σ = _ from o1, cV1_ok, xr_0_9 sh1, ld1, hLL, xr_0_0 sh1, show ev (d + 29) 47 [.ref L, .ref 1] υ1 = _ from c1, show rn (d + 28 + 1) 47 36 [.ref L, .ref 1, .int (nI 0)] [] υ2 = _ from p1, cI1_ok] at start
    have A12 : Ag (lzS L) σ υ2 := (o3.mono (fun _ => at1_lz)).trans (c3.mono (fun _ q => Or.inr q))
    have n53 : ¬ lzS L 53 := by unfold lzS; omega
    have n54 : ¬ lzS L 54 := by unfold lzS; omega
    -- the reference, over a memory τ
    have ref : ∀ τ, Sh τ → TxM τ t n → mI τ 53 1 = nI n → ∃ υ, ev (d + 31) 191 [.ref 53, .int (nI m)] τ = rn (d + 31) 191 71 [.ref 53, .int (nI m)] [] υ ∧ mI υ 53 1 = 0 ∧ mI υ 53 0 = 0 ∧ AgM lzM (fun i => i = 0 ∨ stF i) τ υ ∧ (∀ e p, r = .inl (e, p) → mI υ 53 5 = nI e ∧ mI υ 53 6 = nI p) ∧ (∀ l', r = .inr l' → mI υ 53 5 = 0 ∧ LzT υ (nP l') (nJ l') (nS l') l') := by
      intro τ s0 tx0 e1
      have s1 : Sh (wI τ 53 0 0) := s0
      have x1 : TxM (wI τ 53 0 0) t n := ⟨tx0.1, tx0.2.1, fun k hk => by rw [rI_o (by decide)]; exact tx0.2.2 k hk⟩
      obtain ⟨τ2, a1, a2, a3, a4, a5, a6, a7⟩ := u_start (d := d + 28) s1 x1 m1
      obtain ⟨τ3, b1, b2, b3⟩ := m_tellsN (d := d + 30) a2.1
      have b3' : AgM lzM nS0 τ2 τ3 := AgM.of b3 (fun _ q => Or.inl q) (by omega)
      have A0 : AgM lzM (fun i => i = 0 ∨ stF i) τ (wI τ 53 0 0) := AgM.w53 (F := fun i => i = 0 ∨ stF i) (AgM.refl _ _ τ) (Or.inl rfl) _
      have A1 : AgM lzM (fun i => i = 0 ∨ stF i) τ τ3 := (A0.trans (a3.mono (fun _ q => q.elim) (fun _ q => Or.inr q))).trans (b3'.mono (fun _ q => q) (fun _ q => q.elim))
      have r2 : RM τ3 t m (sp isB t m 0) := a2.agm b3' (by unfold lzM; omega) (fun q => q) (fun q => q) (fun q => q)
      obtain ⟨υ, p1, p2⟩ := rm τ3 (d + 25) (nI m) r2 (by rw [b3.at (by omega)]; exact a7) b2 (by rw [b3.at (by omega)]; exact a5)
      have t0 : mI τ3 53 0 = 0 := by rw [b3.at (by omega), a3.f (by unfold stF; omega), w53e]
      have t1 : mI τ3 53 1 = 0 := by rw [b3.at (by omega)]; exact a4
      have ag : AgM lzM lzF τ3 υ := by
        match r, p2 with
        | .inl (e, p), p2 => exact p2.1
        | .inr W, p2 => exact p2.2.2
      refine ⟨υ, ?_, by rw [ag.f (by unfold lzF; omega)]; exact t1, by rw [ag.f (by unfold lzF; omega)]; exact t0, A1.trans (ag.mono (fun _ q => q) (fun i q => by unfold lzF at q; unfold stF; omega)), ?_, ?_⟩
      · rw [e_M_land (d + 30) 53 (nI m) τ (by rw [k_53 s0]), xs_53 s0, xg_53 s1, w53n τ (show (1 : Nat) ≠ 0 by decide), e1, m_inN (m := n) (by omega) (nI m), cI1_ok, @i01_p _ (Classical.propDecidable _) (show inN (nI m) (n + 1) from ⟨m, by omega, rfl⟩), if_neg (show ¬ (1 : Int32) = 0 by decide), e_M_land_23, m_bad0 s1 (th0 τ), cI_ok, if_pos (show (0 : Int32) = 0 from rfl), show ev (d + 30) 184 [.ref 53, .int (nI m)] (wI τ 53 0 0) = _ from a1, cV_ok, b1, cV_ok]
        exact p1
      · intro e p z
        subst z
        exact ⟨p2.2.1, p2.2.2.1⟩
      · intro W z
        subst z
        exact ⟨p2.1, p2.2.1⟩
    clear rc rm p1
    cases r with
    | inl ep =>
      obtain ⟨e, p⟩ := ep
      obtain ⟨rfl, tf⟩ := p2
      have A2 : Ag (lzS L) σ υ3 := A12.trans tf.1
      have sh2 := A2.sh sh
      rw [if_pos (show (0 : Int32) = 0 from rfl), xr_0_0 sh2, xg_1 sh2, tf.2.2.1, nar0] at start
      obtain ⟨υ4, r1, r2, r3, r4, r5, -⟩ := ref (wL υ3 560 0 (Int32.toInt64 (nI e - 10))) sh2 ⟨tm.1, tm.2.1, fun k hk => by
        show mI υ3 54 k = _
        rw [A2.at n54]; exact tm.2.2 k hk⟩ (by
        show mI υ3 53 1 = _
        rw [A2.at n53]; exact n2)
      obtain ⟨r5, r6⟩ := r5 e p rfl
      have rf : 1 ≤ e ∧ e ≤ 3 := rf
      have sh3 : Sh υ4 := r4.sh sh2
      have sh4 : Sh (wI υ4 53 3 (nI p)) := sh3
      have rf' : ev (d + 31) 191 [.ref 53, .int (nI m)] (wL υ3 560 0 (Int32.toInt64 (nI e - 10))) = some (.inl (.int (nI e - 10)), wI υ4 53 3 (nI p)) := by
        rw [r1, e_M_land_71, xg_53 sh3, r5, if_neg (mf5 rf.1 rf.2), e_M_ends (d + 30) 53 υ4 (by rw [k_53 sh3]), xg_53 sh3, r6, xs_53 sh3, xg_53 sh4, w53n _ (show (5 : Nat) ≠ 3 by decide), r5, nar0, cI_ok, nar0]
      have A4 : AgM (fun x => lzS L x ∨ lzM x) (fun i => i = 0 ∨ stF i ∨ i = 3) (wL υ3 560 0 (Int32.toInt64 (nI e - 10))) (wI υ4 53 3 (nI p)) := AgM.w53 (F := fun i => i = 0 ∨ stF i ∨ i = 3) (r4.mono (fun _ q => Or.inr q) (fun _ q => by unfold stF at q ⊢; omega)) (Or.inr (Or.inr rfl)) _
      have A3 : AgM (fun x => lzS L x ∨ lzM x) (fun i => i = 0 ∨ stF i ∨ i = 3) (wL σ 560 0 (Int32.toInt64 (nI e - 10))) (wL υ3 560 0 (Int32.toInt64 (nI e - 10))) := AgM.of (A2.wL' _ _ _) (fun x q => Or.inl q) n53
      have A := A3.trans A4
      have at_ : ∀ a, a ≠ 53 → ¬ (lzS L a ∨ lzM a) → mI (wI υ4 53 3 (nI p)) a = mI σ a := fun a h1 h2 => A.at h1 h2
      have f_ : ∀ i, ¬ (i = 0 ∨ stF i ∨ i = 3) → mI (wI υ4 53 3 (nI p)) 53 i = mI σ 53 i := fun i h1 => A.f h1
      have z0 : mI (wI υ4 53 3 (nI p)) 53 0 = 0 := by rw [w53n _ (show (0 : Nat) ≠ 3 by decide)]; exact r3
      have z1 : mI (wI υ4 53 3 (nI p)) 53 1 = 0 := by rw [w53n _ (show (1 : Nat) ≠ 3 by decide)]; exact r2
      have z3 : mI (wI υ4 53 3 (nI p)) 53 3 = nI p := w53e _ _ _
      have yy : mI (wI υ4 53 3 (nI p)) 1 = mI υ3 1 := by
        rw [rI_o (by decide), r4.at (by decide) (by unfold lzM; omega)]; rfl
      generalize hφ : wI υ4 53 3 (nI p) = φ at *
      have su : Cst σ υ3 := (Cst.refl σ).ag (AgM.of (F := nS0) A2 (fun _ q => q) n53) (fun x q => by unfold lzS at q; omega)
      have N : ∀ a, fpI a → a ≠ 1 → ¬ (L ≤ a ∧ a ≤ L + 7) → ¬ (lzS L a ∨ lzM a) := fun a h1 h2 h3 => by unfold fpI fxC at h1; unfold lzS lzM; omega
      refine opw_k wr start su sh2 rf' z0 A4.2.2.1 (Cst.ag (τ := wL υ3 560 0 (Int32.toInt64 (nI e - 10))) su A4 (fun x q => by unfold lzS lzM at q; omega)) ⟨t, 0, l, many, cs, w, K, b, ⟨⟨A.sh sh, Stl_o stl (fun x hx => at_ x (by omega) (by unfold lzS lzM; omega))⟩, ⟨⟨by omega, tc.2.1, fun k hk => by rw [at_ 2 (by decide) (by unfold lzS lzM; omega)]; exact tc.2.2 k hk⟩, ⟨by omega, tm.2.1, fun k hk => by rw [at_ 54 (by decide) (by unfold lzS lzM; omega)]; exact tm.2.2 k hk⟩, by rw [yy, tf.2.1, y1]; exact o4, z1, by rw [z3, yy, tf.2.2.2]⟩,
        ⟨ok, ⟨A.sh sh, ?_, ?_⟩, ⟨A.sh sh, MLn_o ok.1 mx.2.1 (fun x hx hn => at_ x hn (by unfold fxM at hx; unfold lzS lzM; omega)), MLw_o ok.2 mx.2.2 (f_ 19 (by unfold stF; omega)) (fun x h1 h2 => at_ x (by omega) (by unfold lzS lzM; omega))⟩⟩, ⟨by rw [at_ 22 (by decide) (by unfold lzS lzM; omega), at_ 533 (by decide) (by unfold lzS lzM; omega)]; exact idd.1, by rw [at_ 533 (by decide) (by unfold lzS lzM; omega)]; exact idd.2⟩,
        IH_o ih (by rw [at_ 25 (by decide) (by unfold lzS lzM; omega)]) (at_ 26 (by decide) (by unfold lzS lzM; omega)) (f_ 34 (by unfold stF; omega)) (fun i hi => at_ _ (by omega) (by unfold lzS lzM; omega)), IM_o im (by rw [at_ 25 (by decide) (by unfold lzS lzM; omega)]) (at_ 27 (by decide) (by unfold lzS lzM; omega)) (at_ 28 (by decide) (by unfold lzS lzM; omega)) (f_ 36 (by unfold stF; omega)) (fun i hi => at_ _ (by omega) (by unfold lzS lzM; omega)),
        IB_o ib A.bkA' (by rw [at_ _ (by omega) (by unfold lzS lzM; omega)]) (at_ _ (by omega) (by unfold lzS lzM; omega)) (f_ 33 (by unfold stF; omega)) (fun i hi => at_ _ (by omega) (by unfold lzS lzM; omega))⟩, ?_⟩
      · rw [show ldA φ = ldA σ from A.ldA']
        exact CLn_o cx.2.1 (fun k hk => at_ _ (by omega) (by unfold lzS lzM; omega))
      · exact CLw_o cx.2.2 A.lwA' (at_ _ (by omega) (by unfold lzS lzM; omega)) (at_ _ (by omega) (by unfold lzS lzM; omega))
      · unfold IC
        rw [at_ 0 (by decide) (by unfold lzS lzM; omega), at_ 55 (by decide) (by unfold lzS lzM; omega), f_ 35 (by unfold stF; omega)]
        exact h.2
    | inr l' =>
      obtain ⟨rfl, lzc, tg⟩ := p2
      have ok' : LnOK l' := rf
      have P7 := ok'.1
      have A2 : Ag (lzS L) σ υ3 := A12.trans tg.1
      have sh2 := A2.sh sh
      have ld2 : ldA υ3 = ldA σ := A2.ld
      have lw2 : lwA υ3 = lwA σ := A2.lw
      have bk2 : bkA υ3 = bkA σ := A2.bk
      have shs : Sh (lswp υ3) := lswp_sh sh2
      have lds' : ldA (lswp υ3) = L := by show 43 - ldA υ3 = L; rw [ld2]; exact hLL
      have lws' : lwA (lswp υ3) = lwA σ := lw2
      have bks' : bkA (lswp υ3) = bkA σ := bk2
      have stl3 : Stl (lswp υ3) := Stl_o (τ := υ3) stl (fun x hx => A2.at (by unfold lzS; omega))
      obtain ⟨υ4, e1, e2, e3, e4⟩ := c_std (d := d + 29) (L := lwA σ) shs stl3 sh.lw
      have sh4 := e2.sh shs
      have bk4 : bkA υ4 = bkA σ := e2.bk.trans bks'
      obtain ⟨υ5, f1, f2, f3, f4⟩ := c_bclear (d := d + 28) (B := bkA σ) sh4 sh.bk
      have sh5 := f2.sh sh4
      have s51 : Sh (wI υ5 25 3 0) := sh5
      have s52 : Sh (wI (wI υ5 25 3 0) 25 4 0) := sh5
      have hist : ev (d + 29) 91 [.ref 25] υ5 = some (.inl uv, wI (wI υ5 25 3 0) 25 4 0) := by
        rw [e_History_clear (d + 29) 25 υ5 (by rw [k_25 sh5]), xs_25 sh5, xs_25 s51]
      have ld5 : ldA (wI (wI υ5 25 3 0) 25 4 0) = L := by
        show ldA υ5 = L
        rw [f2.ld, e2.ld]; exact lds'
      have atS : ∀ x, x ≠ lwA σ → x ≠ lwA σ + 1 → x ≠ bkA σ → x ≠ bkA σ + 1 → x ≠ 25 → mI (wI (wI υ5 25 3 0) 25 4 0) x = mI υ3 x := fun x h1 h2 h3 h4 h5 => by
        rw [rI_o h5, rI_o h5, f2.at (by omega), e2.at (by omega)]; rfl
      have e10 : mI (wI (wI υ5 25 3 0) 25 4 0) L 10 = lJ l' := by rw [atS L (by omega) (by omega) (by omega) (by omega) (by omega)]; exact lzc.1.2.2.2.1
      have bg := c_begin (d := d + 28) (a := 21) s52 (Or.inl rfl) (lJ l')
      generalize hf22 : (fun j => if j = 1 then lJ l' else if j < 79 then 0 else mI (wI (wI υ5 25 3 0) 25 4 0) (21 + 1) j) = f22 at bg
      have bg : ev (d + 29) 25 [.ref 21, .int (lJ l')] (wI (wI υ5 25 3 0) 25 4 0) = some (.inl uv, wA (wI (wI υ5 25 3 0) 25 4 0) 22 f22) := bg
      have sh7 : Sh (wA (wI (wI υ5 25 3 0) 25 4 0) 22 f22) := sh5
      have sh8 : Sh (wI (wA (wI (wI υ5 25 3 0) 25 4 0) 22 f22) 0 13 0) := sh5
      have ld8 : ldA (wI (wA (wI (wI υ5 25 3 0) 25 4 0) 22 f22) 0 13 0) = L := ld5
      have e7 : mI (wI (wA (wI (wI υ5 25 3 0) 25 4 0) 22 f22) 0 13 0) L 7 = nI (nP l') := by rw [rI_o (by omega), rA_o (by omega), atS L (by omega) (by omega) (by omega) (by omega) (by omega)]; exact lzc.1.1
      rw [if_neg (show ¬ (1 : Int32) = 0 by decide), xr_0_1 sh2, xr_3_1 sh2, xr_0_1 sh2, xr_0_9 sh2, sR_3 (k_3 sh2), sR_0 (σ := wR υ3 3 1 (43 - ldA υ3)) (show mK υ3 0 = (100, 0) from k_0 sh2), show (wR (wR υ3 3 1 (43 - ldA υ3)) 0 9 (ldA υ3)) = lswp υ3 from rfl, xr_0_1 shs, xr_3_2 shs, lws', e1, cV1_ok, xr_0_11 sh4, bk4, show ev (d + 29) 87 [.ref (bkA σ)] υ4 = _ from f1, cV1_ok, xr_0_5 sh5, hist, cV1_ok, xr_0_3 s52, xr_0_1 s52, xr_3_1 s52, ld5, xg_ld s52 hL, e10, bg, cV1_ok, xs_0 sh7, xr_0_1 sh8, xr_3_1 sh8, ld8, xg_ld sh8 hL, e7, nar0] at start
      have A8 : Ag (fun a => a = 0 ∨ a = 22 ∨ a = 25 ∨ a = lwA σ ∨ a = lwA σ + 1 ∨ a = bkA σ ∨ a = bkA σ + 1) (lswp υ3) (wI (wA (wI (wI υ5 25 3 0) 25 4 0) 22 f22) 0 13 0) := by
        refine Ag.wI (Ag.wA (Ag.wI (Ag.wI ((e2.mono (fun a q => by omega)).trans (f2.mono (fun a q => by omega))) ?_ _ _) ?_ _ _) ?_ f22) ?_ _ _
        · omega
        · omega
        · omega
        · omega
      have v22 : mI (wI (wA (wI (wI υ5 25 3 0) 25 4 0) 22 f22) 0 13 0) 22 = f22 := by rw [rI_o (by decide), rA_a]
      have v25 : mI (wI (wA (wI (wI υ5 25 3 0) 25 4 0) 22 f22) 0 13 0) 25 3 = 0 ∧ mI (wI (wA (wI (wI υ5 25 3 0) 25 4 0) 22 f22) 0 13 0) 25 4 = 0 := by
        rw [rI_o (by decide), rA_o (by decide)]
        exact ⟨by rw [rI_w, if_neg (by omega), rI_w, if_pos ⟨rfl, rfl⟩], by rw [rI_w, if_pos ⟨rfl, rfl⟩]⟩
      have v0 : ∀ i, mI (wI (wA (wI (wI υ5 25 3 0) 25 4 0) 22 f22) 0 13 0) 0 i = if i = 13 then 0 else mI σ 0 i := fun i => by
        rw [rI_w]
        by_cases z : i = 13
        · rw [if_pos ⟨rfl, z⟩, if_pos z]
        · rw [if_neg (fun y => z y.2), if_neg z, rA_o (by decide), atS 0 (by omega) (by omega) (by omega) (by omega) (by omega), A2.at (by unfold lzS; omega)]
      have vw2 : mI (wI (wA (wI (wI υ5 25 3 0) 25 4 0) 22 f22) 0 13 0) (lwA σ) 2 = nI 11 := by rw [rI_o (by omega), rA_o (by omega), rI_o (by omega), rI_o (by omega), f2.at (by omega)]; exact e3
      have vw1 : ∀ i, i < 11 → mI (wI (wA (wI (wI υ5 25 3 0) 25 4 0) 22 f22) 0 13 0) (lwA σ + 1) i = stdI i := fun i hi => by rw [rI_o (by omega), rA_o (by omega), rI_o (by omega), rI_o (by omega), f2.at (by omega)]; exact e4 i hi
      have vb1 : mI (wI (wA (wI (wI υ5 25 3 0) 25 4 0) 22 f22) 0 13 0) (bkA σ) 1 = 0 := by rw [rI_o (by omega), rA_o (by omega), rI_o (by omega), rI_o (by omega)]; exact f3
      have vb2 : ∀ j, j < 6 → mI (wI (wA (wI (wI υ5 25 3 0) 25 4 0) 22 f22) 0 13 0) (bkA σ + 1) j = -1 := fun j hj => by rw [rI_o (by omega), rA_o (by omega), rI_o (by omega), rI_o (by omega)]; exact f4 j hj
      have lw8 : lwA (wI (wA (wI (wI υ5 25 3 0) 25 4 0) 22 f22) 0 13 0) = lwA σ := by
        show lwA υ5 = lwA σ
        rw [f2.lw, e2.lw]; exact lws'
      have bk8 : bkA (wI (wA (wI (wI υ5 25 3 0) 25 4 0) 22 f22) 0 13 0) = bkA σ := by
        show bkA υ5 = bkA σ
        rw [f2.bk, e2.bk]; exact bks'
      generalize hυ8 : wI (wA (wI (wI υ5 25 3 0) 25 4 0) 22 f22) 0 13 0 = υ8 at *
      have at8 : ∀ a, ¬ (a = 0 ∨ a = 22 ∨ a = 25 ∨ a = lwA σ ∨ a = lwA σ + 1 ∨ a = bkA σ ∨ a = bkA σ + 1) → mI υ8 a = mI υ3 a := fun a h1 => (A8.at h1).trans rfl
      have atσ : ∀ a, ¬ (a = 0 ∨ a = 22 ∨ a = 25 ∨ a = lwA σ ∨ a = lwA σ + 1 ∨ a = bkA σ ∨ a = bkA σ + 1) → ¬ lzS L a → mI υ8 a = mI σ a := fun a h1 h2 => (at8 a h1).trans (A2.at h2)
      have m53 : mI υ8 53 = mI σ 53 := atσ 53 (by omega) n53
      have m54 : mI υ8 54 = mI σ 54 := atσ 54 (by omega) n54
      obtain ⟨υ9, r1, r2, r3, r4, -, r5⟩ := ref (wL υ8 560 0 (Int32.toInt64 (nI (nP l')))) sh8 ⟨tm.1, tm.2.1, fun k hk => by
        show mI υ8 54 k = _
        rw [m54]; exact tm.2.2 k hk⟩ (by
        show mI υ8 53 1 = _
        rw [m53]; exact n2)
      obtain ⟨r5, r6⟩ := r5 l' rfl
      have sh9 : Sh υ9 := r4.sh sh8
      have s91 : Sh (wI υ9 53 3 (-1)) := sh9
      have lt9 : LzT (wI υ9 53 3 (-1)) (nP l') (nJ l') (nS l') l' := LzT_o ok' r6 (fun x hx => rI_o (fun z => by rw [z] at hx; unfold lzM at hx; omega))
      obtain ⟨φ, k1, k2, k3, k4, k5, k6⟩ := m_begins (d := d + 29) s91 lt9 ok'
      have shf : Sh φ := k6.sh s91
      have rf' : ev (d + 31) 191 [.ref 53, .int (nI m)] (wL υ8 560 0 (Int32.toInt64 (nI (nP l')))) = some (.inl (.int (nI (nP l'))), φ) := by
        rw [r1, e_M_land_71, xg_53 sh9, r5, if_pos (show (0 : Int32) = 0 from rfl), xs_53 sh9, show ev (d + 30) 194 [.ref 53] (wI υ9 53 3 (-1)) = _ from k1, cV_ok, xr_53_12 shf, show aI φ 57 0 = aI φ 57 (nI 0) from rfl, xa_57 shf (by decide), k2.1.1, nar0]
      have A9 : AgM (fun a => lzM a ∨ bgS a) (fun i => i = 0 ∨ stF i ∨ i = 3 ∨ bgF i) (wL υ8 560 0 (Int32.toInt64 (nI (nP l')))) φ := (AgM.w53 (F := fun i => i = 0 ∨ stF i ∨ i = 3 ∨ bgF i) (r4.mono (fun _ q => Or.inl q) (fun _ q => q.elim Or.inl (fun z => Or.inr (Or.inl z)))) (Or.inr (Or.inr (Or.inl rfl))) _).trans (k6.mono (fun _ q => Or.inr q) (fun _ q => Or.inr (Or.inr (Or.inr q))))
      have at2 : ∀ a, a ≠ 53 → ¬ (lzM a ∨ bgS a) → mI φ a = mI υ8 a := fun a h1 h2 => A9.at h1 h2
      have f9 : ∀ i, ¬ bgF i → mI φ 53 i = mI (wI υ9 53 3 (-1)) 53 i := fun i h1 => k6.f h1
      have z0 : mI φ 53 0 = 0 := by rw [f9 0 (by unfold bgF; omega), w53n _ (show (0 : Nat) ≠ 3 by decide)]; exact r3
      have z1 : mI φ 53 1 = 0 := by rw [f9 1 (by unfold bgF; omega), w53n _ (show (1 : Nat) ≠ 3 by decide)]; exact r2
      have z3 : mI φ 53 3 = -1 := by rw [f9 3 (by unfold bgF; omega), w53e]
      have y1f : mI φ 1 = mI υ3 1 := by rw [at2 1 (by decide) (by unfold lzM bgS; omega), at8 1 (by omega)]
      have ldf : ldA φ = L := (A9.ldA').trans ld8
      have lwf : lwA φ = lwA σ := (A9.lwA').trans lw8
      have bkf : bkA φ = bkA σ := (A9.bkA').trans bk8
      have fx22 : ∀ j, j < 79 → f22 j = if j = 1 then lJ l' else 0 := fun j hj => by
        rw [← hf22]
        show (if j = 1 then lJ l' else if j < 79 then 0 else mI (wI (wI υ5 25 3 0) 25 4 0) (21 + 1) j) = _
        by_cases z : j = 1
        · rw [if_pos z, if_pos z]
        · rw [if_neg z, if_neg z, if_pos hj]
      have su3 : Cst σ υ3 := (Cst.refl σ).ag (AgM.of (F := nS0) A2 (fun _ q => q) n53) (fun x q => by unfold lzS at q; omega)
      have su : Cst σ υ8 := Cst.ag (τ := lswp υ3) (S := fun a => a = 0 ∨ a = 22 ∨ a = 25 ∨ a = lwA σ ∨ a = lwA σ + 1 ∨ a = bkA σ ∨ a = bkA σ + 1) (F := nS0) su3 (AgM.of A8 (fun _ q => q) (by omega)) (fun x q => by omega)
      have i533 : mI (wI υ9 53 3 (-1)) 533 = mI σ 533 := by
        rw [rI_o (by decide), r4.at (by decide) (by unfold lzM; omega)]
        show mI υ8 533 = _
        exact atσ 533 (by omega) (by unfold lzS; omega)
      refine opw_k wr start su sh8 rf' z0 A9.2.2.1 (Cst.ag (τ := wL υ8 560 0 (Int32.toInt64 (nI (nP l')))) su A9 (fun x q => by unfold lzM bgS at q; omega)) ⟨t, 0, l', 0, cs, 0, 0, [], Iv_fresh shf (Stl_o stl (fun x hx => by rw [at2 x (by omega) (by unfold lzM bgS; omega)]; exact atσ x (by omega) (by unfold lzS; omega))) ⟨by omega, tc.2.1, fun k hk => by rw [at2 2 (by decide) (by unfold lzM bgS; omega), atσ 2 (by omega) (by unfold lzS; omega)]; exact tc.2.2 k hk⟩ ⟨by omega, tm.2.1, fun k hk => by rw [at2 54 (by decide) (by unfold lzM bgS; omega), m54]; exact tm.2.2 k hk⟩ (by rw [y1f, tg.2.1, y1]; exact o4) z1 (by rw [z3, y1f, tg.2.2.2, y1]; exact o6.symm) ok' ?_ (by rw [lwf, at2 _ (by omega) (by unfold lzM bgS; omega)]; exact vw2) (fun i hi => by rw [lwf, at2 _ (by omega) (by unfold lzM bgS; omega)]; exact vw1 i hi) k2 (k5 19 (by unfold bgF; omega)) ⟨fun j hj => by rw [at2 22 (by decide) (by unfold lzM bgS; omega), v22]; exact fx22 j hj, k3⟩ (fun k hk => by rw [k4 k hk, i533]; exact idd.2 k hk) (by rw [at2 25 (by decide) (by unfold lzM bgS; omega)]; exact v25.1) (k5 34 (by unfold bgF; omega)) (by rw [at2 25 (by decide) (by unfold lzM bgS; omega)]; exact v25.2) (k5 36 (by unfold bgF; omega)) (by rw [bkf, at2 _ (by omega) (by unfold lzM bgS; omega)]; exact vb1) (k5 33 (by unfold bgF; omega)) (fun j hj => by rw [bkf, at2 _ (by omega) (by unfold lzM bgS; omega)]; exact vb2 j hj) ?_⟩
      · rw [ldf]
        exact CLn_o (CLn_of lzc ok') (fun k hk => by rw [at2 _ (by omega) (by unfold lzM bgS; omega)]; exact at8 _ (by omega))
      · unfold IC
        rw [at2 0 (by decide) (by unfold lzM bgS; omega), at2 55 (by decide) (by unfold lzM bgS; omega), atσ 55 (by omega) (by unfold lzS; omega), v0, v0, v0, if_pos rfl, if_neg (by decide), if_neg (by decide), k5 35 (by unfold bgF; omega)]
        exact ⟨rfl, h.2.2⟩
  · rw [g2 q] at start
    refine opw_e wr h (e := 2) (c := 1) (Or.inr rfl) rfl (by decide) (Ag.refl _ _) (σ' := σ) start (fun τ g' => ?_)
    have g3 := g'.th
    have e1 : mI (wI τ 53 0 0) 53 1 = nI n := by rw [w53n _ (show (1 : Nat) ≠ 0 by decide)]; exact g'.2.1.2.2.2.1
    rw [e_M_land (d + 30) 53 x τ (by rw [k_53 g'.sh]), xs_53 g'.sh, xg_53 g3.sh, e1, m_inN (m := n) (by omega) x, cI1_ok, @i01_n _ (Classical.propDecidable _) q, if_pos (show (0 : Int32) = 0 from rfl), e_M_land_23, m_bx1 g'.sh (by decide), cI_ok, if_neg (show ¬ (1 : Int32) = 0 by decide), nar0]
end LandO
