/-! enough: the water of a set -/
section EnoughV
variable {σ τ σ' τ' υ φ : mm_M} {t : Nat → Nat} {n : Nat} {l : Ln} {many : Nat} {cs : Nat → Int32} {w K : Nat} {b : List (Nat × Nat)} {d : Nat}
theorem c_waterOfAll {N : Nat} {f : Nat → Int32} (h : Sh σ) (hN : N ≤ 7) (e : ∀ p, p < N → mI σ 30 p = f p) (x : Int32) : ev d 103 [.ref 29, .int x, .int (nI N)] σ = some (.inl (.int (fo N (fun p s => s + (if bt x p = 0 then 0 else f p)) 0)), σ) := by
  rw [e_Plan_waterOfAll d 29 x (nI N) σ (by rw [k_29 h])]
  refine (lp (F := fun i s => rn d 103 5 [.ref 29, .int x, .int (nI N), .int s, .int (nI i)] [] σ) (n := N) (st := fun p s => s + (if bt x p = 0 then 0 else f p)) (fun i s hi => ?_) 0).trans ?_
  · show rn d 103 5 [.ref 29, .int x, .int (nI N), .int s, .int (nI i)] [] σ = _
    rw [e_Plan_waterOfAll_5, if_neg (nI_ge (by omega) (by omega))]
    show (if bt x i = 0 then _ else _) = _
    by_cases q : bt x i = 0
    · rw [if_pos q, if_pos q, e_Plan_waterOfAll_32, nI_1]
    · rw [if_neg q, if_neg q, xr_29_0 h, xa_30 h (by omega), e i hi, e_Plan_waterOfAll_32, nI_1]
  · show rn d 103 5 [.ref 29, .int x, .int (nI N), .int _, .int (nI N)] [] σ = _
    rw [e_Plan_waterOfAll_5, if_pos (nI_le (Nat.le_refl _) (by omega))]
    rfl
/-- the sum from the jug on -/
theorem fo_from {f : Nat → Int32} (g : Int32) : ∀ N, fo N (fun p s => s + f p) g = g + fo N (fun p s => s + f p) 0
  | 0 => by
    show g = g + 0
    rw [Int32.add_zero]
  | N + 1 => by
    show fo N (fun p s => s + f p) g + f N = g + (fo N (fun p s => s + f p) 0 + f N)
    rw [fo_from g N, Int32.add_assoc]
/-- the reference's water of a set, from the jug on -/
theorem m_waterSet {x1 x2 x3 : Int32} {s : Int32} (h : Iv τ t n l many cs w K b) (e0 : mI τ 53 0 = 0) (g : Int32) : ∃ φ, rn (d + 31) 242 74 [.ref 53, .int x1, .int x2, .int x3, .int s, .int g, .int 0] [] τ = rn (d + 31) 242 74 [.ref 53, .int x1, .int x2, .int x3, .int s, .int (g + fo (nP l) (fun p a => a + (if bt s p = 0 then 0 else mo l many cs (mI τ 533) p)) 0), .int (nI (nP l))] [] φ ∧ AgM qm qF τ φ ∧ mI φ 53 0 = 0 := by
  have key : ∀ m i τ', Iv τ' t n l many cs w K b → AgM qm qF τ τ' → mI τ' 53 0 = 0 → nP l - i = m → i ≤ nP l → ∃ φ, rn (d + 31) 242 74 [.ref 53, .int x1, .int x2, .int x3, .int s, .int (fo i (fun p a => a + (if bt s p = 0 then 0 else mo l many cs (mI τ 533) p)) g), .int (nI i)] [] τ' = rn (d + 31) 242 74 [.ref 53, .int x1, .int x2, .int x3, .int s, .int (fo (nP l) (fun p a => a + (if bt s p = 0 then 0 else mo l many cs (mI τ 533) p)) g), .int (nI (nP l))] [] φ ∧ AgM qm qF τ φ ∧ mI φ 53 0 = 0 := by
    intro m
    induction m with
    | zero =>
      intro i τ' h a z hm hi
      rw [show i = nP l by omega]
      exact ⟨τ', rfl, a, z⟩
    | succ m ih =>
      intro i τ' h a z hm hi
      have hg := h.1
      have h7 := hg.ok.1.1
      have e5 : mI τ' 533 = mI τ 533 := a.at (by decide) (fun q => q.1 f533)
      have hd : rn (d + 31) 242 74 [.ref 53, .int x1, .int x2, .int x3, .int s, .int (fo i (fun p a => a + (if bt s p = 0 then 0 else mo l many cs (mI τ 533) p)) g), .int (nI i)] [] τ' = cI1 (ev (d + 30) 169 [.int s, .int (nI i)] τ') fun r8 σ7 => if r8 = 0 then rn (d + 31) 242 107 [.ref 53, .int x1, .int x2, .int x3, .int s, .int (fo i (fun p a => a + (if bt s p = 0 then 0 else mo l many cs (mI τ 533) p)) g), .int (nI i)] [.int 0, .int (fo i (fun p a => a + (if bt s p = 0 then 0 else mo l many cs (mI τ 533) p)) g)] σ7 else cI (ev (d + 30) 241 [.ref 53, .int (nI i)] σ7) fun r10 σ9 => rn (d + 31) 242 107 [.ref 53, .int x1, .int x2, .int x3, .int s, .int (fo i (fun p a => a + (if bt s p = 0 then 0 else mo l many cs (mI τ 533) p)) g), .int (nI i)] [.int r10, .int (fo i (fun p a => a + (if bt s p = 0 then 0 else mo l many cs (mI τ 533) p)) g)] σ9 := by
        rw [e_M_enough_74, xr_53_12 hg.sh, show aI τ' 57 0 = aI τ' 57 (nI 0) from rfl, xa_57 hg.sh (by decide), hg.mx.2.1.1.1, if_neg (nI_ge (by omega) (by omega))]
      rw [hd, m_has, cI1_ok]
      by_cases q : bt s i = 0
      · obtain ⟨φ, k1, k2, k3⟩ := ih (i + 1) τ' h a z (by omega) (by omega)
        refine ⟨φ, ?_, k2, k3⟩
        rw [if_pos q, e_M_enough_107, nI_1, ← k1, fo_s, if_pos q]
      · obtain ⟨τ1, c1, c2, c3⟩ := m_mostOfOne (d := d + 21) (p := i) (by omega) h z
        rw [e5] at c1
        obtain ⟨φ, k1, k2, k3⟩ := ih (i + 1) τ1 (h.qm c2) (a.trans c2) c3 (by omega) (by omega)
        refine ⟨φ, ?_, k2, k3⟩
        rw [if_neg q, show ev (d + 30) 241 [.ref 53, .int (nI i)] τ' = _ from c1, cI_ok, e_M_enough_107, nI_1, ← k1, fo_s, if_neg q]
  obtain ⟨φ, k1, k2, k3⟩ := key _ 0 τ h (AgM.refl _ _ _) e0 rfl (Nat.zero_le _)
  refine ⟨φ, ?_, k2, k3⟩
  rw [← fo_from]
  exact k1
end EnoughV
