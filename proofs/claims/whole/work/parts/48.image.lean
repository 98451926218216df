/-! image, restore -/
section ImageV
variable {σ τ σ' τ' υ φ : mm_M} {t : Nat → Nat} {n : Nat} {l : Ln} {many : Nat} {cs : Nat → Int32} {w K : Nat} {b : List (Nat × Nat)} {d : Nat}
/-- the class keeps an image -/
theorem c_keep (h : Sh σ) (e3 : mI σ 25 3 = nI w) (hw : w ≤ 16) (e4 : mI σ 25 4 = nI K) : (¬ K < 3 → K ≤ 3 → ev d 95 [.ref 25, .ref 21] σ = some (.inl (.int 0), σ)) ∧
    (K < 3 → ∃ f, ev d 95 [.ref 25, .ref 21] σ = some (.inl (.int 1), wI (wI (wA σ 27 f) 28 K (nI w)) 25 4 (nI (K + 1))) ∧ (∀ j, j < 1343 * K → f j = mI σ 27 j) ∧ (∀ i, i < w → ∀ j, j < 79 → f (1343 * K + 79 * i + j) = mI σ 26 (79 * i + j)) ∧ ∀ j, j < 79 → f (1343 * K + 1264 + j) = mI σ 22 j) := by
  rw [e_History_keep d 25 21 σ (by rw [k_25 h]), xg_25 h, e4]
  refine ⟨fun q q2 => by rw [if_neg (show ¬ nI K < (3 : Int32) from nI_nlt (b := 3) (by omega) (by omega)), nar1_0], fun q => ?_⟩
  rw [if_pos (show nI K < (3 : Int32) from nI_lt (b := 3) q (by decide)), xg_25 h, e4, xr_25_0 h, xr_25_1 h, xg_25 h, e3, show nI K * (1343 : Int32) = nI (K * 1343) from pk_mul _ 1343, show nI w * (79 : Int32) = nI (w * 79) from pk_mul _ 79, show (cpy σ 26 0) = cpy σ 26 (nI 0) from rfl, cpy_k (k_26 h) (k_27 h) (by decide) (by omega) (by omega) (by decide) (by decide)]
  generalize hf : (fun j => if K * 1343 ≤ j ∧ j < K * 1343 + w * 79 then mI σ 26 (0 + (j - K * 1343)) else mI σ 27 j) = f1
  have s1 : Sh (wA σ 27 f1) := h
  rw [xr_21_0 s1, xr_25_1 s1, show nI (K * 1343) + (1264 : Int32) = nI (K * 1343 + 1264) from nI_add _ 1264, show (cpy (wA σ 27 f1) 22 0 27 (nI (K * 1343 + 1264)) 79) = cpy (wA σ 27 f1) 22 (nI 0) 27 (nI (K * 1343 + 1264)) (nI 79) from rfl, cpy_k (k_22 s1) (k_27 s1) (by decide) (by decide) (by omega) (by decide) (by decide), wA_wA, rA_a, rA_o (show 22 ≠ 27 by decide)]
  generalize hg : (fun j => if K * 1343 + 1264 ≤ j ∧ j < K * 1343 + 1264 + 79 then mI σ 22 (0 + (j - (K * 1343 + 1264))) else f1 j) = f
  have s2 : Sh (wA σ 27 f) := h
  have s3 : Sh (wI (wA σ 27 f) 28 K (nI w)) := h
  rw [xr_25_2 s2, xg_25 s2, rA_o (show 25 ≠ 27 by decide), e4, xg_25 s2, rA_o (show 25 ≠ 27 by decide), e3, xt_28 s2 q, xg_25 s3, rI_o (show 25 ≠ 28 by decide), rA_o (show 25 ≠ 27 by decide), e4, xs_25 s3, nI_1, nar1_1]
  have f1j : ∀ j, f1 j = if K * 1343 ≤ j ∧ j < K * 1343 + w * 79 then mI σ 26 (0 + (j - K * 1343)) else mI σ 27 j := fun j => by rw [← hf]
  have fj : ∀ j, f j = if K * 1343 + 1264 ≤ j ∧ j < K * 1343 + 1264 + 79 then mI σ 22 (0 + (j - (K * 1343 + 1264))) else f1 j := fun j => by rw [← hg]
  refine ⟨f, rfl, fun j hj => ?_, fun i hi j hj => ?_, fun j hj => ?_⟩
  · rw [fj, if_neg (by omega), f1j, if_neg (by omega)]
  · rw [fj, if_neg (by omega), f1j, if_pos ⟨by omega, by omega⟩]
    exact congrArg (mI σ 26) (by omega)
  · rw [fj, if_pos ⟨by omega, by omega⟩]
    exact congrArg (mI σ 22) (by omega)
theorem op_image : OpN (d + 31) 151 [.ref 0] (d + 31) 272 [.ref 53] := by
  intro σ hI
  obtain ⟨t, n, l, many, cs, w, K, b, h⟩ := hI
  have hw := h.1
  obtain ⟨⟨sh, stl⟩, it, ⟨ok, cx, mx⟩, ⟨row, rz⟩, ⟨ih1, ih2, ih3, ih4⟩, ⟨im1, im2, im3, im4⟩, ib⟩ := hw
  have h7 := ok.1.1
  obtain ⟨p1, p2⟩ := c_keep (d := d + 30) sh ih2 ih1 im2
  rw [e_W_image (d + 30) 0 σ (by rw [k_0 sh]), xr_0_5 sh, xr_0_3 sh]
  by_cases q : K < 3
  · obtain ⟨f, r1, r2, r3, r4⟩ := p2 q
    have shυ : Sh (wI (wI (wA σ 27 f) 28 K (nI w)) 25 4 (nI (K + 1))) := sh
    rw [r1, cI1_ok, if_neg (show ¬ (1 : Int32) = 0 by decide), xr_0_5 shυ, xg_25 shυ, rI_w, if_pos ⟨rfl, rfl⟩, e_W_image_25, nar0]
    generalize hυ : wI (wI (wA σ 27 f) 28 K (nI w)) 25 4 (nI (K + 1)) = υ at *
    have a1 : Ag (fun x => x = 25 ∨ x = 27 ∨ x = 28) σ υ := by
      rw [← hυ]
      exact Ag.wI (Ag.wI (Ag.wA (Ag.refl _ σ) (Or.inr (Or.inl rfl)) f) (Or.inr (Or.inr rfl)) _ _) (Or.inl rfl) _ _
    have a2 : AgM (fun x => x = 25 ∨ x = 27 ∨ x = 28 ∨ x = 553 + K) (fun i => i = 0 ∨ i = 36 ∨ i = 37) σ υ := AgM.of a1 (fun x q => by omega) (by omega)
    have e53 : mI υ 53 = mI σ 53 := a1.at (show ¬ ((53 : Nat) = 25 ∨ (53 : Nat) = 27 ∨ (53 : Nat) = 28) by omega)
    have s1 : Sh (wI υ 53 0 0) := shυ
    obtain ⟨g, k1, k2, k3, k4⟩ := p_keep (d := d + 29) s1 q
    have s2 := Pt_sh s1 (553 + K) g 1344
    have x36 : mI (Pt (wI υ 53 0 0) (553 + K) g 1344) 53 36 = nI K := by unfold Pt; rw [w53n _ (show (36 : Nat) ≠ 37 by decide), rA_o (by omega), w53n _ (show (36 : Nat) ≠ 0 by decide), e53, im3]
    have s3 : Sh (wI (Pt (wI υ 53 0 0) (553 + K) g 1344) 53 36 (nI (K + 1))) := s2
    have ref : ev (d + 31) 272 [.ref 53] υ = some (.inl (.int (nI (K + 1))), wI (Pt (wI υ 53 0 0) (553 + K) g 1344) 53 36 (nI (K + 1))) := by
      rw [e_M_image (d + 30) 53 υ (by rw [k_53 shυ]), xs_53 shυ, xg_53 s1, w53n υ (show (36 : Nat) ≠ 0 by decide), e53, im3, if_neg (show ¬ nI K = (3 : Int32) from fun z => by have := (nI_eq (b := 3) (by omega) (by decide)).mp z; omega), xr_53_32 s1, xg_53 s1, w53n υ (show (36 : Nat) ≠ 0 by decide), e53, im3, xR_552 s1 q, k1, cV_ok, xg_53 s2, x36, xs_53 s2, nI_1, xg_53 s3, w53e, nar0]
    have a3 : AgM (fun x => x = 25 ∨ x = 27 ∨ x = 28 ∨ x = 553 + K) (fun i => i = 0 ∨ i = 36 ∨ i = 37) υ (wI (Pt (wI υ 53 0 0) (553 + K) g 1344) 53 36 (nI (K + 1))) :=
      AgM.w53 (AgM.w53 (AgM.wA (AgM.w53 (AgM.refl _ _ υ) (Or.inl rfl) _) (Or.inr (Or.inr (Or.inr rfl))) (by omega) g) (Or.inr (Or.inr rfl)) _) (Or.inr (Or.inl rfl)) _
    have a := a2.trans a3
    have xR : mI (wI (Pt (wI υ 53 0 0) (553 + K) g 1344) 53 36 (nI (K + 1))) (553 + K) = g := by rw [rI_o (by omega), Pt_R (by omega)]
    have x25 : ∀ i, mI (wI (Pt (wI υ 53 0 0) (553 + K) g 1344) 53 36 (nI (K + 1))) 25 i = if i = 4 then nI (K + 1) else mI σ 25 i := by
      intro i
      rw [rI_o (by decide), Pt_o (by decide) (by omega), rI_o (by decide), ← hυ, rI_w]
      by_cases z : i = 4
      · rw [if_pos ⟨rfl, z⟩, if_pos z]
      · rw [if_neg (fun y => z y.2), if_neg z, rI_o (by decide), rA_o (by decide)]
    have x27 : mI (wI (Pt (wI υ 53 0 0) (553 + K) g 1344) 53 36 (nI (K + 1))) 27 = f := by
      rw [rI_o (by decide), Pt_o (by decide) (by omega), rI_o (by decide), ← hυ, rI_o (by decide), rI_o (by decide), rA_a]
    have x28 : ∀ i, mI (wI (Pt (wI υ 53 0 0) (553 + K) g 1344) 53 36 (nI (K + 1))) 28 i = if i = K then nI w else mI σ 28 i := by
      intro i
      rw [rI_o (by decide), Pt_o (by decide) (by omega), rI_o (by decide), ← hυ, rI_o (by decide), rI_w]
      by_cases z : i = K
      · rw [if_pos ⟨rfl, z⟩, if_pos z]
      · rw [if_neg (fun y => z y.2), if_neg z, rA_o (by decide)]
    have y36 : mI (wI (Pt (wI υ 53 0 0) (553 + K) g 1344) 53 36 (nI (K + 1))) 53 36 = nI (K + 1) := w53e _ _ _
    have o1 : ∀ x, x ≠ 53 → x ≠ 25 → x ≠ 27 → x ≠ 28 → mI (wI υ 53 0 0) x = mI σ x := fun x n1 n2 n3 n4 => by rw [rI_o n1, a1.at (by omega)]
    have k2' : g 0 = nI w := by rw [k2, w53n υ (show (34 : Nat) ≠ 0 by decide), e53, ih3]
    generalize hφ : wI (Pt (wI υ 53 0 0) (553 + K) g 1344) 53 36 (nI (K + 1)) = φ at *
    have c1 : Cst σ υ := (Cst.refl σ).ag a2 (fun x q => by omega)
    have hb : bkA σ = 49 ∨ bkA σ = 51 := sh.bk
    refine ⟨nI (K + 1), υ, φ, rfl, c1, ref, c1.ag a3 (fun x q => by omega), t, n, l, many, cs, w, K + 1, b, ⟨⟨a.sh sh, Stl_o stl (fun x hx => a.at (by omega) (by omega))⟩, IT_o it (by rw [a.at (by decide) (by omega)]) (by rw [a.at (by decide) (by omega)]) (a.at (by decide) (by omega)) (a.at (by decide) (by omega)) (a.f (by omega)) (a.f (by omega)), ⟨ok, cx.agm a (fun x hx => by unfold fxC at hx; omega), mx.agm ok a (fun x hx hn => by unfold fxM at hx; omega) (by omega)⟩, ⟨by rw [a.at (a := 22) (by decide) (by omega), a.at (a := 533) (by decide) (by omega)]; exact row, by rw [a.at (a := 533) (by decide) (by omega)]; exact rz⟩,
      IH_o ⟨ih1, ih2, ih3, ih4⟩ (by rw [x25, if_neg (by decide)]) (a.at (by decide) (by omega)) (a.f (by omega)) (fun i hi => a.at (by omega) (by omega)), ⟨by omega, by rw [x25, if_pos rfl], y36, fun k hk => ?_⟩,
      IB_o ib a.bkA' (by rw [a.at (by omega) (by omega)]) (a.at (by omega) (by omega)) (a.f (by omega)) (fun i hi => a.at (by omega) (by omega))⟩, ?_⟩
    · by_cases z : k = K
      · subst z
        refine ⟨w, ih1, by rw [x28, if_pos rfl], by rw [xR]; exact k2', ?_, fun i hi => ?_⟩
        · rw [x27, xR]
          exact row.as h7 (fun j hj => r4 j hj) (fun j hj => by (try dsimp only); rw [k3 j hj, o1 533 (by decide) (by decide) (by decide) (by decide)])
        · rw [x27, xR]
          exact (ih4 i hi).as h7 (fun j hj => r3 i hi j hj) (fun j hj => by (try dsimp only); rw [k4 i (by omega) j hj, o1 (536 + i) (by omega) (by omega) (by omega) (by omega)])
      · obtain ⟨w', u1, u2, u3, u4, u5⟩ := im4 k (by omega)
        refine ⟨w', u1, by rw [x28, if_neg z]; exact u2, by rw [a.at (a := 553 + k) (by omega) (by omega)]; exact u3, ?_, fun i hi => ?_⟩
        · rw [x27, a.at (a := 553 + k) (by omega) (by omega)]
          exact u4.as h7 (fun j hj => r2 _ (by omega)) (fun j hj => rfl)
        · rw [x27, a.at (a := 553 + k) (by omega) (by omega)]
          exact (u5 i hi).as h7 (fun j hj => r2 _ (by omega)) (fun j hj => rfl)
    · unfold IC
      rw [a.at (a := 0) (by decide) (by omega), a.at (a := 55) (by decide) (by omega), a.f (i := 35) (by omega)]
      exact h.2
  · rw [p1 q im1, cI1_ok, if_pos (show (0 : Int32) = 0 from rfl), e_W_image_25, nar0]
    have g2 := h.th
    refine ⟨-1, σ, wI σ 53 0 0, rfl, Cst.refl σ, ?_, (Cst.refl σ).ag (AgM.th σ) (fun x q => by have := q.2.2.2; omega), t, n, l, many, cs, w, K, b, g2⟩
    rw [e_M_image (d + 30) 53 σ (by rw [k_53 sh]), xs_53 sh, xg_53 g2.1.sh, w53n σ (show (36 : Nat) ≠ 0 by decide), im3, if_pos (show nI K = (3 : Int32) by rw [show K = 3 by omega]; rfl), nar0]
end ImageV
