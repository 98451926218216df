/-! undo -/
section HistV
variable {σ τ σ' τ' υ φ : mm_M} {t : Nat → Nat} {n : Nat} {l : Ln} {many : Nat} {cs : Nat → Int32} {w K : Nat} {b : List (Nat × Nat)} {d : Nat} {R S : Option mm_R}
theorem cpy_k {a c sp dp m A B : Nat} (ka : mK σ a = (1, A)) (kb : mK σ c = (1, B)) (ab : a ≠ c) (h1 : sp + m ≤ A) (h2 : dp + m ≤ B) (hA : A < 2147483648) (hB : B < 2147483648) (k : mm_M → Option mm_R) : cpy σ a (nI sp) c (nI dp) (nI m) k = k (wA σ c (fun j => if dp ≤ j ∧ j < dp + m then mI σ a (sp + (j - dp)) else mI σ c j)) := by
  unfold cpy
  rw [ka, kb, ix_nI (by omega), ix_nI (by omega), ix_nI (by omega), if_pos ⟨Or.inl rfl, rfl, ab, ⟨nI_pos (by omega), nI_pos (by omega), nI_pos (by omega)⟩, h1, h2⟩]
  rfl
theorem c_pop (h : Sh σ) (e3 : mI σ 25 3 = nI w) (hw : w ≤ 16) : (w = 0 → ev d 94 [.ref 25, .ref 21] σ = some (.inl (.int 0), σ)) ∧
    (0 < w → ev d 94 [.ref 25, .ref 21] σ = some (.inl (.int 1), wA (wI σ 25 3 (nI (w - 1))) 22 (fun j => if j < 79 then mI σ 26 (79 * (w - 1) + j) else mI σ 22 j))) := by
  rw [e_History_pop d 25 21 σ (by rw [k_25 h]), xg_25 h, e3]
  refine ⟨fun q => by rw [if_neg (by rw [q]; decide), nar1_0], fun q => ?_⟩
  have h1 : Sh (wI σ 25 3 (nI (w - 1))) := h
  rw [if_pos (show (0 : Int32) < nI w from nI_lt (a := 0) q (by omega)), xg_25 h, e3, show nI w - (1 : Int32) = nI (w - 1) from pk_sub (b := 1) q, xs_25 h, xr_25_0 h1, xg_25 h1, rI_w, if_pos ⟨rfl, rfl⟩, xr_21_0 h1, show nI (w - 1) * (79 : Int32) = nI ((w - 1) * 79) from pk_mul _ 79, show (cpy (wI σ 25 3 (nI (w - 1))) 26 (nI ((w - 1) * 79)) 22 0 79) = cpy (wI σ 25 3 (nI (w - 1))) 26 (nI ((w - 1) * 79)) 22 (nI 0) (nI 79) from rfl, cpy_k (k_26 h1) (k_22 h1) (by decide) (by omega) (by decide) (by decide) (by decide), nar1_1]
  congr 2
  congr 1
  funext j
  rw [rI_o (show 26 ≠ 25 by decide), rI_o (show 22 ≠ 25 by decide)]
  by_cases z : j < 79
  · rw [if_pos ⟨Nat.zero_le _, by omega⟩, if_pos z]
    congr 1
    omega
  · rw [if_neg (by omega), if_neg z]
theorem w53e (σ : mm_M) (i : Nat) (v : Int32) : mI (wI σ 53 i v) 53 i = v := by rw [rI_w, if_pos ⟨rfl, rfl⟩]
theorem w53n (σ : mm_M) {i j : Nat} (h : j ≠ i) (v : Int32) : mI (wI σ 53 i v) 53 j = mI σ 53 j := by rw [rI_w, if_neg (fun y => h y.2)]
theorem op_undo : OpN (d + 31) 121 [.ref 0] (d + 31) 222 [.ref 53] := by
  intro σ hI
  obtain ⟨t, n, l, many, cs, w, K, b, h⟩ := hI
  have hw := h.1
  obtain ⟨⟨sh, stl⟩, it, ⟨ok, cx, mx⟩, ⟨row, rz⟩, ⟨ih1, ih2, ih3, ih4⟩, im, ib⟩ := hw
  have h7 := ok.1.1
  obtain ⟨p1, p2⟩ := c_pop (d := d + 30) sh ih2 ih1
  rw [e_W_undo (d + 30) 0 σ (by rw [k_0 sh]), xr_0_5 sh, xr_0_3 sh]
  by_cases q : w = 0
  · rw [p1 q, cI1_ok, if_pos (show (0 : Int32) = 0 from rfl), nar0]
    have g2 := h.th
    refine ⟨-1, σ, wI σ 53 0 0, rfl, Cst.refl σ, ?_, (Cst.refl σ).ag (AgM.th σ) (fun x q => by have := q.2.2.2; omega), t, n, l, many, cs, w, K, b, g2⟩
    rw [e_M_undo (d + 30) 53 σ (by rw [k_53 sh]), xs_53 sh, xg_53 g2.1.sh, w53n σ (show (34 : Nat) ≠ 0 by decide), ih3, q, if_pos (show nI 0 = (0 : Int32) from rfl), nar0]
  · have hw0 : 0 < w := by omega
    rw [p2 hw0, cI1_ok, if_neg (show ¬ (1 : Int32) = 0 by decide)]
    generalize hf : (fun j => if j < 79 then mI σ 26 (79 * (w - 1) + j) else mI σ 22 j) = f
    have sh1 : Sh (wA (wI σ 25 3 (nI (w - 1))) 22 f) := sh
    have sh2 : Sh (wI (wA (wI σ 25 3 (nI (w - 1))) 22 f) 0 13 0) := sh
    rw [xs_0 sh1, xr_0_5 sh2, xg_25 sh2, rI_o (show 25 ≠ 0 by decide), rA_o (show 25 ≠ 22 by decide), rI_w, if_pos ⟨rfl, rfl⟩, nar0]
    generalize hυ : wI (wA (wI σ 25 3 (nI (w - 1))) 22 f) 0 13 0 = υ at *
    have a1 : Ag (fun x => x = 25 ∨ x = 22 ∨ x = 0) σ υ := by
      rw [← hυ]
      exact Ag.wI (Ag.wA (Ag.wI (Ag.refl _ σ) (Or.inl rfl) _ _) (Or.inr (Or.inl rfl)) f) (Or.inr (Or.inr rfl)) _ _
    have a2 : AgM (fun x => x = 25 ∨ x = 22 ∨ x = 0 ∨ x = 533) (fun i => i = 0 ∨ i = 34 ∨ i = 35) σ υ := AgM.of a1 (fun x q => by omega) (by omega)
    have e34 : mI υ 53 34 = nI w := by rw [a1.at (show ¬ ((53 : Nat) = 25 ∨ (53 : Nat) = 22 ∨ (53 : Nat) = 0) by omega)]; exact ih3
    -- the reference
    have s1 : Sh (wI υ 53 0 0) := sh2
    have s2 : Sh (wI (wI υ 53 0 0) 53 34 (nI (w - 1))) := sh2
    generalize hg : (fun j => if j < 79 then mI (wI (wI υ 53 0 0) 53 34 (nI (w - 1))) (536 + (w - 1)) j else mI (wI (wI υ 53 0 0) 53 34 (nI (w - 1))) 533 j) = g
    have s3 : Sh (wA (wI (wI υ 53 0 0) 53 34 (nI (w - 1))) 533 g) := sh2
    have s4 : Sh (wI (wA (wI (wI υ 53 0 0) 53 34 (nI (w - 1))) 533 g) 53 35 0) := sh2
    have ref : ev (d + 31) 222 [.ref 53] υ = some (.inl (.int (nI (w - 1))), wI (wA (wI (wI υ 53 0 0) 53 34 (nI (w - 1))) 533 g) 53 35 0) := by
      rw [e_M_undo (d + 30) 53 υ (by rw [k_53 sh2]), xs_53 sh2, xg_53 s1, w53n υ (show (34 : Nat) ≠ 0 by decide), e34, if_neg (show ¬ nI w = (0 : Int32) from fun z => by have := (nI_eq (b := 0) (by omega) (by decide)).mp z; omega), xg_53 s1, w53n υ (show (34 : Nat) ≠ 0 by decide), e34, show nI w - (1 : Int32) = nI (w - 1) from pk_sub (b := 1) hw0, xs_53 s1, xr_53_31 s2, xg_53 s2, w53e, xR_535 s2 (by omega), xr_53_29 s2, m_copies (k_r535 s2 (by omega)) (k_533 s2) (by omega), cV1_ok, hg, xs_53 s3, xg_53 s4, w53n _ (show (34 : Nat) ≠ 35 by decide), rA_o (show 53 ≠ 533 by decide), w53e, nar0]
    have a3 : AgM (fun x => x = 25 ∨ x = 22 ∨ x = 0 ∨ x = 533) (fun i => i = 0 ∨ i = 34 ∨ i = 35) υ (wI (wA (wI (wI υ 53 0 0) 53 34 (nI (w - 1))) 533 g) 53 35 0) :=
      AgM.w53 (AgM.wA (AgM.w53 (AgM.w53 (AgM.refl _ _ υ) (Or.inl rfl) _) (Or.inr (Or.inl rfl)) _) (Or.inr (Or.inr (Or.inr rfl))) (by decide) g) (Or.inr (Or.inr rfl)) _
    have f22' : mI υ 22 = f := by rw [← hυ, rI_o (by decide), rA_a]
    have f22 : mI (wI (wA (wI (wI υ 53 0 0) 53 34 (nI (w - 1))) 533 g) 53 35 0) 22 = f := by rw [rI_o (by decide), rA_o (by decide), rI_o (by decide), rI_o (by decide), f22']
    have f533 : mI (wI (wA (wI (wI υ 53 0 0) 53 34 (nI (w - 1))) 533 g) 53 35 0) 533 = g := by rw [rI_o (by decide), rA_a]
    have e25 : ∀ i, mI (wI (wA (wI (wI υ 53 0 0) 53 34 (nI (w - 1))) 533 g) 53 35 0) 25 i = if i = 3 then nI (w - 1) else mI σ 25 i := by
      intro i
      rw [rI_o (by decide), rA_o (by decide), rI_o (by decide), rI_o (by decide), ← hυ, rI_o (by decide), rA_o (by decide), rI_w]
      by_cases z : i = 3
      · rw [if_pos ⟨rfl, z⟩, if_pos z]
      · rw [if_neg (fun y => z y.2), if_neg z]
    have e0 : ∀ i, mI (wI (wA (wI (wI υ 53 0 0) 53 34 (nI (w - 1))) 533 g) 53 35 0) 0 i = if i = 13 then 0 else mI σ 0 i := by
      intro i
      rw [rI_o (by decide), rA_o (by decide), rI_o (by decide), rI_o (by decide), ← hυ, rI_w]
      by_cases z : i = 13
      · rw [if_pos ⟨rfl, z⟩, if_pos z]
      · rw [if_neg (fun y => z y.2), if_neg z, rA_o (by decide), rI_o (by decide)]
    have e35 : mI (wI (wA (wI (wI υ 53 0 0) 53 34 (nI (w - 1))) 533 g) 53 35 0) 53 35 = 0 := w53e _ _ _
    have e34' : mI (wI (wA (wI (wI υ 53 0 0) 53 34 (nI (w - 1))) 533 g) 53 35 0) 53 34 = nI (w - 1) := by rw [w53n _ (show (34 : Nat) ≠ 35 by decide), rA_o (by decide), w53e]
    have hgj : ∀ j, g j = if j < 79 then mI σ (536 + (w - 1)) j else mI σ 533 j := by
      intro j
      rw [← hg]
      show (if j < 79 then mI (wI (wI υ 53 0 0) 53 34 (nI (w - 1))) (536 + (w - 1)) j else mI (wI (wI υ 53 0 0) 53 34 (nI (w - 1))) 533 j) = _
      rw [rI_o (show 536 + (w - 1) ≠ 53 by omega), rI_o (show 536 + (w - 1) ≠ 53 by omega), rI_o (show 533 ≠ 53 by omega), rI_o (show 533 ≠ 53 by omega), a1.at (show ¬ (536 + (w - 1) = 25 ∨ 536 + (w - 1) = 22 ∨ 536 + (w - 1) = 0) by omega), a1.at (show ¬ ((533 : Nat) = 25 ∨ (533 : Nat) = 22 ∨ (533 : Nat) = 0) by omega)]
    have hfj : ∀ j, f j = if j < 79 then mI σ 26 (79 * (w - 1) + j) else mI σ 22 j := fun j => by rw [← hf]
    generalize hφ : wI (wA (wI (wI υ 53 0 0) 53 34 (nI (w - 1))) 533 g) 53 35 0 = φ at *
    have a := a2.trans a3
    have c1 : Cst σ υ := (Cst.refl σ).ag a2 (fun x q => by omega)
    have hb : bkA σ = 49 ∨ bkA σ = 51 := sh.bk
    refine ⟨nI (w - 1), υ, φ, rfl, c1, ref, c1.ag a3 (fun x q => by omega), t, n, l, many, cs, w - 1, K, b, ⟨⟨a.sh sh, Stl_o stl (fun x hx => a.at (by omega) (by omega))⟩, IT_o it (by rw [a.at (by decide) (by omega)]) (by rw [a.at (by decide) (by omega)]) (a.at (by decide) (by omega)) (a.at (by decide) (by omega)) (a.f (by omega)) (a.f (by omega)), ⟨ok, cx.agm a (fun x hx => by unfold fxC at hx; omega), mx.agm ok a (fun x hx hn => by unfold fxM at hx; omega) (by omega)⟩, ⟨?_, ?_⟩, ⟨by omega, by rw [e25, if_pos rfl], e34', fun i hi => ?_⟩,
      IM_o im (by rw [e25, if_neg (by decide)]) (a.at (by decide) (by omega)) (a.at (by decide) (by omega)) (a.f (by omega)) (fun i hi => a.at (by omega) (by omega)),
      IB_o ib a.bkA' (by rw [a.at (by omega) (by omega)]) (a.at (by omega) (by omega)) (a.f (by omega)) (fun i hi => a.at (by omega) (by omega))⟩, ?_, ?_, ?_⟩
    · rw [f22, f533]
      exact (ih4 (w - 1) (by omega)).as h7 (fun k hk => by rw [hfj, if_pos hk]) (fun k hk => by rw [hgj, if_pos hk])
    · intro k hk
      rw [f533, hgj, if_neg (by omega)]
      exact rz k hk
    · rw [a.at (a := 26) (by decide) (by omega), a.at (a := 536 + i) (by omega) (by omega)]
      exact ih4 i (by omega)
    · rw [e35, e0, if_pos rfl]
    · rw [a.at (a := 55) (by decide) (by omega), e0, if_neg (by decide)]; exact h.2.2.1
    · rw [a.at (a := 55) (by decide) (by omega), e0, if_neg (by decide)]; exact h.2.2.2
end HistV
