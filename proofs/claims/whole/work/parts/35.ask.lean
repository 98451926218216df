/-! the questions -/
section AskV
variable {σ τ υ φ : mm_M} {t : Nat → Nat} {n : Nat} {l : Ln} {many : Nat} {cs : Nat → Int32} {w K : Nat} {b : List (Nat × Nat)} {d : Nat}
theorem f533 : fpI 533 := by unfold fpI; omega
theorem f22 : fpI 22 := by unfold fpI; omega
theorem da21 : isDa 21 := Or.inl rfl
theorem rw533 : isRw 533 := Or.inl rfl
theorem sc_qc : ∀ a, scC a → qc a := by
  intro a h
  unfold scC at h
  unfold qc fpI fxC
  omega
theorem sc_qm : ∀ a, scM a → qm a := by
  intro a h
  unfold scM at h
  unfold qm fpI fxC
  omega
/-- a question of a joke and a person -/
theorem op_jp {mc mr : Nat} {x y : Int32} {f : mm_M → Option mm_R} {g : mm_M → Option mm_R}
    (hc : ∀ σ, Sh σ → ev (d + 30) mc [.ref 0, .int x, .int y] σ = cV (ev (d + 29) 158 [.ref 0, .int x, .int y] σ) f)
    (hm : ∀ σ, Sh σ → ev (d + 31) mr [.ref 53, .int x, .int y] σ = sI σ 12 53 0 0 fun σ1 => cI (ev (d + 30) 227 [.ref 53, .int x, .int y] σ1) fun r3 σ2 => cI (ev (d + 30) 165 [.ref 53, .int r3, .int 1, .int 0] σ2) fun r5 σ4 => if r5 = 0 then g σ4 else some (Sum.inl (Value.int (nar 0 0)), σ4))
    (H : ∀ σ t n l many cs w K b, Iv σ t n l many cs w K b → ∀ j p, j < nJ l → p < nP l → x = nI j → y = nI p → ∃ v, CQu σ (f σ) v ∧ ∀ τ, Iv τ t n l many cs w K b → Same σ τ → mI τ 53 0 = 0 → MQu τ (g τ) v) : OpQ (d + 30) mc [.ref 0, .int x, .int y] (d + 31) mr [.ref 53, .int x, .int y] [(1, 1)] := by
  intro σ t n l many cs w K b h
  have hw := h.1
  obtain ⟨c1, c2⟩ := c_needJP (d := d + 28) hw.cx hw.ok.1 x y
  by_cases q : inN x (nJ l) ∧ inN y (nP l)
  · left
    have qq := q
    obtain ⟨⟨j, hj, ej⟩, p, hp, ep⟩ := qq
    obtain ⟨v, r1, r2⟩ := H σ t n l many cs w K b h j p hj hp ej ep
    refine ⟨v, ?_, fun τ g' s => ?_⟩
    · rw [hc σ hw.sh, c1 q, cV_ok]; exact r1
    · haveI := Classical.propDecidable (inN x (nJ l) ∧ inN y (nP l))
      have g2 := g'.th
      have s2 := s.th
      rw [hm τ g'.1.sh, xs_53 g'.1.sh, m_isN g2.1.mx g2.1.ok.1 x y, cI_ok, i01_n (fun z => z q), m_bad0 g2.1.sh (th0 τ), cI_ok, if_pos rfl]
      obtain ⟨φ, m1, m2, m3⟩ := r2 _ g2 s2 (th0 τ)
      exact ⟨φ, m1, (AgM.th τ).trans m2, m3⟩
  · right
    refine ⟨1, 1, σ, Or.inl rfl, rfl, by decide, Ag.refl _ _, ?_, fun τ g' => ?_⟩
    · rw [hc σ hw.sh, c2 q]; rfl
    · haveI := Classical.propDecidable (inN x (nJ l) ∧ inN y (nP l))
      have g2 := g'.th
      rw [hm τ g'.sh, xs_53 g'.sh, m_isN g2.mx g2.ok.1 x y, cI_ok, i01_p q, m_bx0 g'.sh (by decide), cI_ok, if_neg (by decide), nar0]
theorem op_worn (x y : Int32) : OpQ (d + 30) 126 [.ref 0, .int x, .int y] (d + 31) 231 [.ref 53, .int x, .int y] [(1, 1)] := by
  refine op_jp (fun σ h => e_W_worn (d + 29) 0 x y σ (by rw [k_0 h])) (fun σ h => e_M_worn (d + 30) 53 x y σ (by rw [k_53 h])) ?_
  intro σ t n l many cs w K b h j p hj hp ex ey
  subst ex ey
  have hj6 := h.1.ok.1.2.1
  have hp7 := h.1.ok.1.1
  have row := h.1.row.1.1.2.2.2 j (by omega)
  refine ⟨mI σ 533 (35 + 7 * j + p), ⟨σ, ?_, Ag.refl _ _⟩, fun τ g s e0 => ⟨τ, ?_, AgM.refl _ _ _, e0⟩⟩
  · rw [xr_0_3 h.1.sh, c_wornOf h.1.sh da21 (by omega) (by omega), cI1_ok, nar0, show mI σ (21 + 1) = mI σ 22 from rfl, row.2 p (by omega)]
  · rw [xr_53_29 g.1.sh, show ((35 : Int32) + (7 : Int32) * nI j) + nI p = nI (35 + 7 * j + p) by rw [show (7 : Int32) * nI j = nI (7 * j) from pk_mul 7 _, show (35 : Int32) + nI (7 * j) = nI (35 + 7 * j) from nI_add 35 _, nI_add], xa_533 g.1.sh (by omega), nar0, s.1 533 f533]
theorem op_laugh (x y : Int32) : OpQ (d + 30) 127 [.ref 0, .int x, .int y] (d + 31) 232 [.ref 53, .int x, .int y] [(1, 1)] := by
  refine op_jp (fun σ h => e_W_laugh (d + 29) 0 x y σ (by rw [k_0 h])) (fun σ h => e_M_laugh (d + 30) 53 x y σ (by rw [k_53 h])) ?_
  intro σ t n l many cs w K b h j p hj hp ex ey
  subst ex ey
  have hw := h.1
  refine ⟨lgv many cs (gvs l (mI σ 533) j p (lT l p) (mI σ 533 p) 0), ?_, fun τ g s e0 => ?_⟩
  · obtain ⟨υ, c1, c2⟩ := c_laughOf (d := d + 26) hw.sh hw.cx.2.1 hw.ok.1 hw.ok.2 hw.cx.2.2 da21 hw.row.1 hw.row.2 hj hp
    exact ⟨υ, by rw [xr_0_1 hw.sh, xr_0_3 hw.sh, c1, cI1_ok, nar0], c2.mono sc_qc⟩
  · obtain ⟨φ, c1, c2⟩ := m_laughOf (d := d + 25) g.1.sh g.1.mx.2.1 g.1.ok.1 g.1.ok.2 g.1.mx.2.2 rw533 hj hp
    rw [s.1 533 f533] at c1
    exact ⟨φ, by rw [xr_53_29 g.1.sh, c1, cI_ok, nar0], AgM.of c2 sc_qm (by unfold scM; omega), by rw [c2.at (by unfold scM; omega)]; exact e0⟩
theorem op_water (x y : Int32) : OpQ (d + 30) 128 [.ref 0, .int x, .int y] (d + 31) 233 [.ref 53, .int x, .int y] [(1, 1)] := by
  refine op_jp (fun σ h => e_W_water (d + 29) 0 x y σ (by rw [k_0 h])) (fun σ h => e_M_water (d + 30) 53 x y σ (by rw [k_53 h])) ?_
  intro σ t n l many cs w K b h j p hj hp ex ey
  subst ex ey
  have hw := h.1
  refine ⟨lgv many cs (gvs l (mI σ 533) j p (lT l p) (mI σ 533 p) 0) * lD l p, ?_, fun τ g s e0 => ?_⟩
  · obtain ⟨υ, c1, c2⟩ := c_waterOf (d := d + 25) hw.sh hw.cx.2.1 hw.ok.1 hw.ok.2 hw.cx.2.2 da21 hw.row.1 hw.row.2 hj hp
    exact ⟨υ, by rw [xr_0_1 hw.sh, xr_0_3 hw.sh, c1, cI1_ok, nar0], c2.mono sc_qc⟩
  · obtain ⟨φ, c1, c2⟩ := m_waterOf (d := d + 24) g.1.sh g.1.mx.2.1 g.1.ok.1 g.1.ok.2 g.1.mx.2.2 rw533 hj hp
    rw [s.1 533 f533] at c1
    exact ⟨φ, by rw [xr_53_29 g.1.sh, c1, cI_ok, nar0], AgM.of c2 sc_qm (by unfold scM; omega), by rw [c2.at (by unfold scM; omega)]; exact e0⟩
end AskV
