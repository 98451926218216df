/-! best and given, done -/
section PlanO
variable {σ τ σ' τ' υ φ : mm_M} {t : Nat → Nat} {n : Nat} {l : Ln} {many : Nat} {cs : Nat → Int32} {w K : Nat} {b : List (Nat × Nat)} {d : Nat}
theorem c_giveBest (h : Iv σ t n l many cs w K b) {T : Nat} (hT : T < 2 ^ nP l) (eT : whoB (nP l) (fun p => mI σ 533 (14 + p)) = nI T) : ∃ τ, ev (d + 5) 98 [.ref 29, .ref 3, .ref 21] σ = some (.inl (.int (nI (dpM (gw l many cs (mI σ 533)) (nP l) (nJ l) 0 T))), τ) ∧ Ag qc σ τ ∧ ChR (gw l many cs (mI σ 533)) (nP l) (nJ l) 0 T (mI τ 33) := by
  have hw := h.1
  have h7 := hw.ok.1.1
  have h6 := hw.ok.1.2.1
  have T128 := p128 h7 hT
  have a1 := (Ag.refl qc σ).wA qc33 (fun v => if v < 6 then -1 else mI σ 33 v)
  have h1 := h.qc a1
  have l1 : ldA (wA σ 33 (fun v => if v < 6 then -1 else mI σ 33 v)) = ldA σ := rfl
  obtain ⟨σ2, c1, c2, c3⟩ := gb_0 (d := d + 4) (l := l) (a1 := 3) (a2 := 21) h6 128 0 (wA σ 33 (fun v => if v < 6 then -1 else mI σ 33 v)) h1.1.sh h1.1.cx.2.1.1.2.1 rfl (by decide) (fun q hq => absurd hq (Nat.not_lt_zero q))
  rw [l1] at c1
  have a2 : Ag qc σ σ2 := a1.trans (c2.mono (fun _ q => by rw [q]; exact qc31))
  have h2 := h.qc a2
  have e533 : mI σ2 533 = mI σ 533 := a2.at (fun q => by have := q.2.2; omega)
  obtain ⟨σ3, v3, k1, k2, k3, k4⟩ := gb_all (d := d) (r := mI σ 533) (nJ l) uv σ2 h2 e533 (Nat.le_refl _) (fun i h1 h2 q hq => by
    have : i = nJ l := by omega
    subst this
    rw [c3 q (p128 h7 hq), Nat.sub_self]
    rfl) (fun i h1 h2 => by omega)
  rw [a2.ld] at k1
  have a3 : Ag qc σ σ3 := a2.trans (k2.mono (fun a q => by
    rcases q with q | q | q
    · exact sc_qc a q
    · rw [q]; exact qc31
    · rw [q]; exact qc32))
  have h3 := h.qc a3
  have hw3 := h3.1
  have e22 : mI σ3 22 2 = nI T := by rw [hw3.row.1.2, a3.at (a := 533) (fun q => by have := q.2.2; omega)]; exact eT
  have e33 : ∀ i, 0 ≤ i → i < 6 → mI σ3 33 i = -1 := fun i _ hi => by
    rw [k2.at (by unfold scC; omega), c2.at (by omega), rA_a]; exact if_pos hi
  obtain ⟨τ, r1, r2, r3, -⟩ := ch_out (d := d + 3) (x2 := nI T) (gw_le l many cs (mI σ 533)) h7 h6 (nJ l) 0 T uv uv σ3 hw3.sh hw3.cx.2.1.1.1 hw3.cx.2.1.1.2.1 k3 k4 e33 (by omega) hT
  rw [a3.ld] at r1
  have a4 : Ag qc σ3 τ := r2.mono (fun _ q => by rw [q]; exact qc33)
  have h4 := h3.qc a4
  have e22' : mI τ 22 2 = nI T := by rw [r2.at (by omega)]; exact e22
  have e31 : mI τ 31 T = nI (dpM (gw l many cs (mI σ 533)) (nP l) (nJ l) 0 T) := by
    rw [r2.at (by omega)]
    have := k3 0 (by omega) (by omega) T hT
    rw [show 0 * 128 + T = T by omega] at this
    exact this
  refine ⟨τ, ?_, a3.trans a4, r3⟩
  rw [e_Plan_giveBest (d + 4) 29 3 21 σ (by rw [k_29 hw.sh]), xr_29_3 hw.sh, c_fill (k_33 hw.sh) (by decide), cV1_ok, xr_3_1 h1.1.sh, l1, show rn (d + 4 + 1) 98 16 [.ref 29, .ref 3, .ref 21, .ref (ldA σ), .int 0, uv] [] (wA σ 33 (fun v => if v < 6 then -1 else mI σ 33 v)) = _ from c1, k1, e_Plan_giveBest_55, if_pos (by decide), c_toldBits hw3.sh da21, cI1_ok, show mI σ3 (21 + 1) 2 = nI T from e22, e_Plan_choose (d + 3) 29 (ldA σ) (nI T) σ3 (by rw [k_29 hw3.sh]), show rn (d + 3 + 1) 101 5 [.ref 29, .ref (ldA σ), .int (nI T), .int (nI T), .int 0, uv, uv] [] σ3 = _ from r1, cV_ok, xr_29_1 h4.1.sh, c_toldBits h4.1.sh da21, cI1_ok, show mI τ (21 + 1) 2 = nI T from e22', xa_31 h4.1.sh (by omega), e31, nar0]
theorem m_givesAll (h : Iv τ t n l many cs w K b) (z0 : mI τ 53 0 = 0) {T : Nat} (hT : T < 2 ^ nP l) (eT : whoB (nP l) (fun p => mI τ 533 (14 + p)) = nI T) : ∃ φ, ev (d + 14) 238 [.ref 53] τ = some (.inl uv, φ) ∧ AgM qm qF τ φ ∧ mI φ 53 0 = 0 ∧ mI φ 53 42 = nI (dpM (gw l many cs (mI τ 533)) (nP l) (nJ l) 0 T) ∧ ChR (gw l many cs (mI τ 533)) (nP l) (nJ l) 0 T (mI φ 557) := by
  have hg := h.1
  have h7 := hg.ok.1.1
  have h6 := hg.ok.1.2.1
  have a1 := (AgM.refl qm qF τ).w53 qF42 (-1)
  have h1 := h.qm a1
  have s1 := h1.1.sh
  have e533 : mI (wI τ 53 42 (-1)) 533 = mI τ 533 := rI_o (by decide)
  obtain ⟨φ, r1, r2, r3, -, r5⟩ := m_gives (d := d + 6 - nJ l) (r := mI τ 533) (nJ l) 0 T 0 0 (wI τ 53 42 (-1)) h1 (by rw [rI_w, if_neg (by omega)]; exact z0) e533 (by omega) hT (by omega) (by omega) (by rw [rI_w, if_pos ⟨rfl, rfl⟩]; decide)
  rw [show d + 6 - nJ l + 7 + nJ l = d + 13 by omega] at r1
  rcases r5 with ⟨g1, g2, g3, g4⟩ | ⟨g1, -, -⟩
  · rw [Nat.zero_add] at g2
    refine ⟨φ, ?_, a1.trans r2, r3, g2, g4⟩
    rw [e_M_gives (d + 13) 53 τ (by rw [k_53 hg.sh]), xs_53 hg.sh, xr_53_29 s1, show ev (d + 13) 211 [.ref 53, .ref 533, .int 14] (wI τ 53 42 (-1)) = _ from m_whoHas (f := 14) s1 (k_533 s1) h7 h1.1.mx.2.1.1.1 (by decide), cI_ok, e533, eT, show ev (d + 13) 237 [.ref 53, .int 0, .int (nI T), .int 0] (wI τ 53 42 (-1)) = _ from r1, cV_ok]
  · omega
theorem op_best : OpN (d + 31) 131 [.ref 0] (d + 31) 239 [.ref 53] :=
  op_n (fun σ h => e_M_best (d + 30) 53 σ (by rw [k_53 h])) (fun σ τ t n l many cs w K b h => by
    have hw := h.1.1
    have hg := h.2.1.1
    obtain ⟨T, hT, eT⟩ := who_lt (f := fun p => mI σ 533 (14 + p)) (nP l) hw.ok.1.1
    obtain ⟨σ1, c1, c2, -⟩ := c_giveBest (d := d + 25) h.1 hT eT
    obtain ⟨φ, m1, m2, m3, m4, -⟩ := m_givesAll (d := d + 16) h.2.1 h.2.2.2 hT (by rw [h.r]; exact eT)
    rw [h.r] at m4
    rw [e_W_best (d + 30) 0 σ (by rw [k_0 hw.sh]), xr_0_6 hw.sh, xr_0_1 hw.sh, xr_0_3 hw.sh, show ev (d + 30) 98 [.ref 29, .ref 3, .ref 21] σ = _ from c1, cI1_ok, nar0, show ev (d + 30) 238 [.ref 53] τ = _ from m1, cV_ok, xg_53 (m2.sh hg.sh), m4, nar0]
    exact ⟨_, σ1, φ, rfl, rfl, c2, m2, m3⟩)
theorem op_given (x : Int32) : OpQ (d + 30) 132 [.ref 0, .int x] (d + 31) 240 [.ref 53, .int x] [(1, 1)] :=
  op_g1 (cnt := nJ) (A := fun c σ => rn (d + 31) 240 19 [.ref 53, .int x] [.int c, .ref 53] σ)
    (fun σ l many cs h ok => c_needJ h ok x) (fun σ l many cs _ h ok => m_isJ h ok x) (fun σ h => e_W_given (d + 29) 0 x σ (by rw [k_0 h])) (fun σ h => e_M_given (d + 30) 53 x σ (by rw [k_53 h])) (fun c σ => e_M_given_19 (d + 30) 53 x c 53 σ)
    (fun σ τ t n l many cs w K b h j hj ex => by
      subst ex
      have hw := h.1.1
      have hg := h.2.1.1
      have h6 := hw.ok.1.2.1
      obtain ⟨T, hT, eT⟩ := who_lt (f := fun p => mI σ 533 (14 + p)) (nP l) hw.ok.1.1
      obtain ⟨σ1, c1, c2, c3⟩ := c_giveBest (d := d + 24) h.1 hT eT
      obtain ⟨φ, m1, m2, m3, -, m5⟩ := m_givesAll (d := d + 16) h.2.1 h.2.2.2 hT (by rw [h.r]; exact eT)
      rw [h.r] at m5
      have s1 := c2.sh hw.sh
      have s2 := m2.sh hg.sh
      have e := ChR.uniq (nJ l) 0 T c3 m5 j (by omega) (by omega)
      rw [xr_0_6 hw.sh, xr_0_1 hw.sh, xr_0_3 hw.sh, show ev (d + 29) 98 [.ref 29, .ref 3, .ref 21] σ = _ from c1, cI1_ok, xr_0_6 s1, xr_29_3 s1, xa_33 s1 (by omega), nar0, show ev (d + 30) 238 [.ref 53] τ = _ from m1, cV_ok, xr_53_41 s2, xa_557 s2 (by omega), nar0, e]
      exact ⟨_, σ1, φ, rfl, rfl, c2, m2, m3⟩)
end PlanO
