/-! restore -/
section RestoreV
variable {σ τ σ' τ' υ φ : mm_M} {t : Nat → Nat} {n : Nat} {l : Ln} {many : Nat} {cs : Nat → Int32} {w K : Nat} {b : List (Nat × Nat)} {d : Nat}
theorem c_bring {v : Nat} (h : Sh σ) (e4 : mI σ 25 4 = nI K) (hK : K ≤ 3) : (K = 0 → ev d 96 [.ref 25, .ref 21] σ = some (.inl (.int 0), σ)) ∧
    (0 < K → mI σ 28 (K - 1) = nI v → v ≤ 16 → ∃ f g, ev d 96 [.ref 25, .ref 21] σ = some (.inl (.int 1), wA (wA (wI (wI σ 25 4 (nI (K - 1))) 25 3 (nI v)) 26 f) 22 g) ∧ (∀ i, i < v → ∀ j, j < 79 → f (79 * i + j) = mI σ 27 (1343 * (K - 1) + 79 * i + j)) ∧ ∀ j, j < 79 → g j = mI σ 27 (1343 * (K - 1) + 1264 + j)) := by
  rw [e_History_bring d 25 21 σ (by rw [k_25 h]), xg_25 h, e4]
  refine ⟨fun q => by rw [if_neg (by rw [q]; decide), nar1_0], fun q e hv => ?_⟩
  have s1 : Sh (wI σ 25 4 (nI (K - 1))) := h
  have s2 : Sh (wI (wI σ 25 4 (nI (K - 1))) 25 3 (nI v)) := h
  have x4 : mI (wI σ 25 4 (nI (K - 1))) 25 4 = nI (K - 1) := by rw [rI_w, if_pos ⟨rfl, rfl⟩]
  rw [if_pos (show (0 : Int32) < nI K from nI_lt (a := 0) q (by omega)), xg_25 h, e4, show nI K - (1 : Int32) = nI (K - 1) from pk_sub (b := 1) q, xs_25 h, xg_25 s1, x4, xr_25_2 s1, xg_25 s1, x4, xa_28 s1 (by omega), rI_o (show 28 ≠ 25 by decide), e, xs_25 s1, xr_25_1 s2, xr_25_0 s2, xg_25 s2, show mI (wI (wI σ 25 4 (nI (K - 1))) 25 3 (nI v)) 25 3 = nI v by (rw [rI_w, if_pos ⟨rfl, rfl⟩]), show nI (K - 1) * (1343 : Int32) = nI ((K - 1) * 1343) from pk_mul _ 1343, show nI v * (79 : Int32) = nI (v * 79) from pk_mul _ 79, show (cpy (wI (wI σ 25 4 (nI (K - 1))) 25 3 (nI v)) 27 (nI ((K - 1) * 1343)) 26 0 (nI (v * 79))) = cpy (wI (wI σ 25 4 (nI (K - 1))) 25 3 (nI v)) 27 (nI ((K - 1) * 1343)) 26 (nI 0) (nI (v * 79)) from rfl, cpy_k (k_27 s2) (k_26 s2) (by decide) (by omega) (by omega) (by decide) (by decide)]
  generalize hf : (fun j => if 0 ≤ j ∧ j < 0 + v * 79 then mI (wI (wI σ 25 4 (nI (K - 1))) 25 3 (nI v)) 27 ((K - 1) * 1343 + (j - 0)) else mI (wI (wI σ 25 4 (nI (K - 1))) 25 3 (nI v)) 26 j) = f
  have s3 : Sh (wA (wI (wI σ 25 4 (nI (K - 1))) 25 3 (nI v)) 26 f) := h
  rw [xr_25_1 s3, xr_21_0 s3, show nI ((K - 1) * 1343) + (1264 : Int32) = nI ((K - 1) * 1343 + 1264) from nI_add _ 1264, show (cpy (wA (wI (wI σ 25 4 (nI (K - 1))) 25 3 (nI v)) 26 f) 27 (nI ((K - 1) * 1343 + 1264)) 22 0 79) = cpy (wA (wI (wI σ 25 4 (nI (K - 1))) 25 3 (nI v)) 26 f) 27 (nI ((K - 1) * 1343 + 1264)) 22 (nI 0) (nI 79) from rfl, cpy_k (k_27 s3) (k_22 s3) (by decide) (by omega) (by decide) (by decide) (by decide), nar1_1]
  refine ⟨f, _, rfl, fun i hi j hj => ?_, fun j hj => ?_⟩
  · rw [← hf]
    show (if 0 ≤ 79 * i + j ∧ 79 * i + j < 0 + v * 79 then mI (wI (wI σ 25 4 (nI (K - 1))) 25 3 (nI v)) 27 ((K - 1) * 1343 + (79 * i + j - 0)) else mI (wI (wI σ 25 4 (nI (K - 1))) 25 3 (nI v)) 26 (79 * i + j)) = _
    rw [if_pos ⟨Nat.zero_le _, by omega⟩, rI_o (show 27 ≠ 25 by decide), rI_o (show 27 ≠ 25 by decide)]
    exact congrArg (mI σ 27) (by omega)
  · show (if 0 ≤ j ∧ j < 0 + 79 then mI (wA (wI (wI σ 25 4 (nI (K - 1))) 25 3 (nI v)) 26 f) 27 ((K - 1) * 1343 + 1264 + (j - 0)) else _) = _
    rw [if_pos ⟨Nat.zero_le _, by omega⟩, rA_o (show 27 ≠ 26 by decide), rI_o (show 27 ≠ 25 by decide), rI_o (show 27 ≠ 25 by decide)]
    exact congrArg (mI σ 27) (by omega)
theorem op_restore : OpN (d + 31) 152 [.ref 0] (d + 31) 273 [.ref 53] := by
  intro σ hI
  obtain ⟨t, n, l, many, cs, w, K, b, h⟩ := hI
  have hw := h.1
  obtain ⟨⟨sh, stl⟩, it, ⟨ok, cx, mx⟩, ⟨row, rz⟩, ⟨ih1, ih2, ih3, ih4⟩, ⟨im1, im2, im3, im4⟩, ib⟩ := hw
  have h7 := ok.1.1
  rw [e_W_restore (d + 30) 0 σ (by rw [k_0 sh]), xr_0_5 sh, xr_0_3 sh]
  by_cases q : K = 0
  · obtain ⟨p1, -⟩ := c_bring (d := d + 30) (v := 0) sh im2 im1
    rw [p1 q, cI1_ok, if_pos (show (0 : Int32) = 0 from rfl), nar0]
    have g2 := h.th
    refine ⟨-1, σ, wI σ 53 0 0, rfl, Cst.refl σ, ?_, (Cst.refl σ).ag (AgM.th σ) (fun x q => by have := q.2.2.2; omega), t, n, l, many, cs, w, K, b, g2⟩
    rw [e_M_restore (d + 30) 53 σ (by rw [k_53 sh]), xs_53 sh, xg_53 g2.1.sh, w53n σ (show (36 : Nat) ≠ 0 by decide), im3, q, if_pos (show nI 0 = (0 : Int32) from rfl), nar0]
  · have hK0 : 0 < K := by omega
    obtain ⟨v, u1, u2, u3, u4, u5⟩ := im4 (K - 1) (by omega)
    obtain ⟨-, p2⟩ := c_bring (d := d + 30) (v := v) sh im2 im1
    obtain ⟨f, g, r1, r2, r3⟩ := p2 hK0 u2 u1
    have sh1 : Sh (wA (wA (wI (wI σ 25 4 (nI (K - 1))) 25 3 (nI v)) 26 f) 22 g) := sh
    have shυ : Sh (wI (wA (wA (wI (wI σ 25 4 (nI (K - 1))) 25 3 (nI v)) 26 f) 22 g) 0 13 0) := sh
    rw [r1, cI1_ok, if_neg (show ¬ (1 : Int32) = 0 by decide), xs_0 sh1, xr_0_5 shυ, xg_25 shυ, rI_o (show 25 ≠ 0 by decide), rA_o (show 25 ≠ 22 by decide), rA_o (show 25 ≠ 26 by decide), rI_w, if_neg (show ¬ ((25 : Nat) = 25 ∧ (4 : Nat) = 3) by decide), rI_w, if_pos ⟨rfl, rfl⟩, nar0]
    have y25 : ∀ i, mI (wI (wA (wA (wI (wI σ 25 4 (nI (K - 1))) 25 3 (nI v)) 26 f) 22 g) 0 13 0) 25 i = if i = 3 then nI v else if i = 4 then nI (K - 1) else mI σ 25 i := by
      intro i
      rw [rI_o (by decide), rA_o (by decide), rA_o (by decide), rI_w]
      by_cases z : i = 3
      · rw [if_pos ⟨rfl, z⟩, if_pos z]
      · rw [if_neg (fun y => z y.2), if_neg z, rI_w]
        by_cases z2 : i = 4
        · rw [if_pos ⟨rfl, z2⟩, if_pos z2]
        · rw [if_neg (fun y => z2 y.2), if_neg z2]
    have y0 : ∀ i, mI (wI (wA (wA (wI (wI σ 25 4 (nI (K - 1))) 25 3 (nI v)) 26 f) 22 g) 0 13 0) 0 i = if i = 13 then 0 else mI σ 0 i := by
      intro i
      rw [rI_w]
      by_cases z : i = 13
      · rw [if_pos ⟨rfl, z⟩, if_pos z]
      · rw [if_neg (fun y => z y.2), if_neg z, rA_o (by decide), rA_o (by decide), rI_o (by decide), rI_o (by decide)]
    have y22 : mI (wI (wA (wA (wI (wI σ 25 4 (nI (K - 1))) 25 3 (nI v)) 26 f) 22 g) 0 13 0) 22 = g := by rw [rI_o (by decide), rA_a]
    have y26 : mI (wI (wA (wA (wI (wI σ 25 4 (nI (K - 1))) 25 3 (nI v)) 26 f) 22 g) 0 13 0) 26 = f := by rw [rI_o (by decide), rA_o (by decide), rA_a]
    have a1 : Ag (fun x => x = 25 ∨ x = 26 ∨ x = 22 ∨ x = 0) σ (wI (wA (wA (wI (wI σ 25 4 (nI (K - 1))) 25 3 (nI v)) 26 f) 22 g) 0 13 0) :=
      Ag.wI (Ag.wA (Ag.wA (Ag.wI (Ag.wI (Ag.refl _ σ) (Or.inl rfl) _ _) (Or.inl rfl) _ _) (Or.inr (Or.inl rfl)) f) (Or.inr (Or.inr (Or.inl rfl))) g) (Or.inr (Or.inr (Or.inr rfl))) _ _
    generalize hυ : wI (wA (wA (wI (wI σ 25 4 (nI (K - 1))) 25 3 (nI v)) 26 f) 22 g) 0 13 0 = υ at *
    have a2 : AgM (fun x => x = 25 ∨ x = 26 ∨ x = 22 ∨ x = 0 ∨ x = 533 ∨ (536 ≤ x ∧ x ≤ 551)) (fun i => i = 0 ∨ i = 34 ∨ i = 35 ∨ i = 36 ∨ i = 37) σ υ := AgM.of a1 (fun x q => by omega) (by omega)
    have e53 : mI υ 53 = mI σ 53 := a1.at (show ¬ ((53 : Nat) = 25 ∨ (53 : Nat) = 26 ∨ (53 : Nat) = 22 ∨ (53 : Nat) = 0) by omega)
    have s1 : Sh (wI υ 53 0 0) := shυ
    have s2 : Sh (wI (wI υ 53 0 0) 53 36 (nI (K - 1))) := shυ
    obtain ⟨τ1, k1, k2, k3, k4, k5, k6⟩ := p_bring (d := d + 29) s2 (K := K - 1) (by omega)
    have s3 := k2.sh s2
    have s4 : Sh (wI τ1 53 35 0) := s3
    have x36 : mI (wI τ1 53 35 0) 53 36 = nI (K - 1) := by rw [w53n _ (show (36 : Nat) ≠ 35 by decide), k2.f (by omega), w53e]
    have o1 : ∀ x, x ≠ 53 → x ≠ 25 → x ≠ 26 → x ≠ 22 → x ≠ 0 → mI (wI (wI υ 53 0 0) 53 36 (nI (K - 1))) x = mI σ x := fun x n1 n2 n3 n4 n5 => by rw [rI_o n1, rI_o n1, a1.at (by omega)]
    have ref : ev (d + 31) 273 [.ref 53] υ = some (.inl (.int (nI (K - 1))), wI τ1 53 35 0) := by
      rw [e_M_restore (d + 30) 53 υ (by rw [k_53 shυ]), xs_53 shυ, xg_53 s1, w53n υ (show (36 : Nat) ≠ 0 by decide), e53, im3, if_neg (show ¬ nI K = (0 : Int32) from fun z => by have := (nI_eq (b := 0) (by omega) (by decide)).mp z; omega), xg_53 s1, w53n υ (show (36 : Nat) ≠ 0 by decide), e53, im3, show nI K - (1 : Int32) = nI (K - 1) from pk_sub (b := 1) hK0, xs_53 s1, xr_53_32 s2, xg_53 s2, w53e, xR_552 s2 (by omega), k1, cV_ok, xs_53 s3, xg_53 s4, x36, nar0]
    have a3 : AgM (fun x => x = 25 ∨ x = 26 ∨ x = 22 ∨ x = 0 ∨ x = 533 ∨ (536 ≤ x ∧ x ≤ 551)) (fun i => i = 0 ∨ i = 34 ∨ i = 35 ∨ i = 36 ∨ i = 37) υ (wI τ1 53 35 0) :=
      AgM.w53 ((AgM.w53 (AgM.w53 (AgM.refl _ _ υ) (Or.inl rfl) _) (Or.inr (Or.inr (Or.inr (Or.inl rfl)))) (nI (K - 1))).trans (k2.mono (fun x q => by omega) (fun x q => by omega))) (Or.inr (Or.inr (Or.inl rfl))) _
    have a := a2.trans a3
    have z22 : mI (wI τ1 53 35 0) 22 = g := by rw [rI_o (by decide), k2.at (by decide) (by omega), rI_o (by decide), rI_o (by decide), y22]
    have z26 : mI (wI τ1 53 35 0) 26 = f := by rw [rI_o (by decide), k2.at (by decide) (by omega), rI_o (by decide), rI_o (by decide), y26]
    have z25 : mI (wI τ1 53 35 0) 25 = mI υ 25 := by rw [rI_o (by decide), k2.at (by decide) (by omega), rI_o (by decide), rI_o (by decide)]
    have z0 : mI (wI τ1 53 35 0) 0 = mI υ 0 := by rw [rI_o (by decide), k2.at (by decide) (by omega), rI_o (by decide), rI_o (by decide)]
    have z34 : mI (wI τ1 53 35 0) 53 34 = nI v := by rw [w53n _ (show (34 : Nat) ≠ 35 by decide), k3, o1 _ (by omega) (by omega) (by omega) (by omega) (by omega), u3]
    have z35 : mI (wI τ1 53 35 0) 53 35 = 0 := w53e _ _ _
    have z533 : mI (wI τ1 53 35 0) 533 = mI τ1 533 := rI_o (by decide)
    have z536 : ∀ i, i < 16 → mI (wI τ1 53 35 0) (536 + i) = mI τ1 (536 + i) := fun i hi => rI_o (by omega)
    generalize hφ : wI τ1 53 35 0 = φ at *
    have c1 : Cst σ υ := (Cst.refl σ).ag a2 (fun x q => by omega)
    have hb : bkA σ = 49 ∨ bkA σ = 51 := sh.bk
    refine ⟨nI (K - 1), υ, φ, rfl, c1, ref, c1.ag a3 (fun x q => by omega), t, n, l, many, cs, v, K - 1, b, ⟨⟨a.sh sh, Stl_o stl (fun x hx => a.at (by omega) (by omega))⟩, IT_o it (by rw [a.at (by decide) (by omega)]) (by rw [a.at (by decide) (by omega)]) (a.at (by decide) (by omega)) (a.at (by decide) (by omega)) (a.f (by omega)) (a.f (by omega)), ⟨ok, cx.agm a (fun x hx => by unfold fxC at hx; omega), mx.agm ok a (fun x hx hn => by unfold fxM at hx; omega) (by omega)⟩, ⟨?_, ?_⟩,
      ⟨u1, by rw [z25, y25, if_pos rfl], z34, fun i hi => ?_⟩, ⟨by omega, by rw [z25, y25, if_neg (by decide), if_pos rfl], x36, fun k hk => ?_⟩,
      IB_o ib a.bkA' (by rw [a.at (by omega) (by omega)]) (a.at (by omega) (by omega)) (a.f (by omega)) (fun i hi => a.at (by omega) (by omega))⟩, ?_, ?_, ?_⟩
    · rw [z22, z533]
      exact u4.as h7 (fun j hj => r3 j hj) (fun j hj => by rw [k4 j hj, o1 _ (by omega) (by omega) (by omega) (by omega) (by omega)])
    · intro j hj
      rw [z533, k5 j hj, o1 _ (by omega) (by omega) (by omega) (by omega) (by omega)]
      exact rz j hj
    · rw [z26, z536 i (by omega)]
      exact (u5 i hi).as h7 (fun j hj => r2 i hi j hj) (fun j hj => by rw [k6 i (by omega) j hj, o1 _ (by omega) (by omega) (by omega) (by omega) (by omega)])
    · obtain ⟨v', w1⟩ := im4 k (by omega)
      exact ⟨v', IM1_o w1 (a.at (by decide) (by omega)) (a.at (by decide) (by omega)) (a.at (by omega) (by omega))⟩
    · rw [z35, z0, y0, if_pos rfl]
    · rw [a.at (a := 55) (by decide) (by omega), z0, y0, if_neg (by decide)]; exact h.2.2.1
    · rw [a.at (a := 55) (by decide) (by omega), z0, y0, if_neg (by decide)]; exact h.2.2.2
end RestoreV
