/-! what holds between two calls -/
/-- a row of the class and a row of the reference -/
def RP (n : Nat) (c r : Nat → Int32) : Prop := CRc c n r ∧ ROK n r
theorem RP.as {n : Nat} {c r c' r' : Nat → Int32} (hn : n ≤ 7) (h : RP n c r) (ec : ∀ k, k < 79 → c' k = c k) (er : ∀ k, k < 79 → r' k = r k) : RP n c' r' := by
  obtain ⟨⟨⟨h1, h2, h3, h4⟩, h5⟩, g1, g2, g3, g4⟩ := h
  refine ⟨⟨⟨by rw [ec 0 (by omega), er 78 (by omega)]; exact h1, by rw [ec 1 (by omega), er 77 (by omega)]; exact h2, fun p hp => ?_, fun j hj => ⟨?_, fun p hp => ?_⟩⟩, ?_⟩, fun p q hp => ?_, fun p hp => ?_, fun p hp => ?_, ?_⟩
  · rw [ec _ (by omega), ec _ (by omega), ec _ (by omega), ec _ (by omega), er _ (by omega), er _ (by omega), er _ (by omega), er _ (by omega)]; exact h3 p hp
  · rw [ec _ (by omega), (h4 j hj).1]
    exact tS_as (fun p hp => (er _ (by omega)).symm)
  · rw [ec _ (by omega), er _ (by omega)]; exact (h4 j hj).2 p hp
  · rw [ec _ (by omega), h5]
    exact fo_as n (fun p hp x => by simp only [er (14 + p) (by omega)])
  · rw [er _ (by omega), er _ (by omega)]; exact g1 p q hp
  · rw [er _ (by omega)]; exact g2 p hp
  · rw [er _ (by omega)]; exact g3 p hp
  · rw [er _ (by omega)]; exact g4
def IH (σ : mm_M) (n w : Nat) : Prop := w ≤ 16 ∧ mI σ 25 3 = nI w ∧ mI σ 53 34 = nI w ∧ ∀ i, i < w → RP n (fun k => mI σ 26 (79 * i + k)) (mI σ (536 + i))
def IM1 (σ : mm_M) (n k w : Nat) : Prop := w ≤ 16 ∧ mI σ 28 k = nI w ∧ mI σ (553 + k) 0 = nI w ∧ RP n (fun j => mI σ 27 (1343 * k + 1264 + j)) (fun j => mI σ (553 + k) (1 + j)) ∧
  ∀ i, i < w → RP n (fun j => mI σ 27 (1343 * k + 79 * i + j)) (fun j => mI σ (553 + k) (80 + 79 * i + j))
def IM (σ : mm_M) (n K : Nat) : Prop := K ≤ 3 ∧ mI σ 25 4 = nI K ∧ mI σ 53 36 = nI K ∧ ∀ k, k < K → ∃ w, IM1 σ n k w
/-- the book: jokes and LAUGHS, in their order -/
def bkv (b : List (Nat × Nat)) (j : Nat) : Int32 := match b with
  | [] => -1
  | q :: r => if q.1 = j then nI q.2 else bkv r j
def IB (σ : mm_M) (l : Ln) (b : List (Nat × Nat)) : Prop := b.length ≤ 6 ∧ mI σ (bkA σ) 1 = nI b.length ∧ mI σ 53 33 = nI b.length ∧ (b.map (fun q => q.1)).Nodup ∧
  (∀ i, i < b.length → (b.getD i (0, 0)).1 < nJ l ∧ (b.getD i (0, 0)).2 ≤ 40 ∧ mI σ (437 + i) 0 = nI (b.getD i (0, 0)).1 ∧ mI σ (437 + i) 1 = nI (b.getD i (0, 0)).2) ∧ ∀ j, j < 6 → mI σ (bkA σ + 1) j = bkv b j
def IT (σ : mm_M) (t : Nat → Nat) (n : Nat) : Prop := TxC σ t n ∧ TxM σ t n ∧ mI σ 1 1 = nI n ∧ mI σ 53 1 = nI n ∧ mI σ 53 3 = mI σ 1 9
def IX (σ : mm_M) (l : Ln) (many : Nat) (cs : Nat → Int32) : Prop := OKx l many cs ∧ CX σ l many cs ∧ MX σ l many cs
def ID (σ : mm_M) (n : Nat) : Prop := RP n (mI σ 22) (mI σ 533) ∧ RZ (mI σ 533)
def IC (σ : mm_M) : Prop := mI σ 53 35 = mI σ 0 13 ∧ mI σ 55 0 = mI σ 0 14 ∧ mI σ 55 1 = mI σ 0 15
def Iw (σ : mm_M) (t : Nat → Nat) (n : Nat) (l : Ln) (many : Nat) (cs : Nat → Int32) (w K : Nat) (b : List (Nat × Nat)) : Prop :=
  (Sh σ ∧ Stl σ) ∧ IT σ t n ∧ IX σ l many cs ∧ ID σ (nP l) ∧ IH σ (nP l) w ∧ IM σ (nP l) K ∧ IB σ l b
def Iv (σ : mm_M) (t : Nat → Nat) (n : Nat) (l : Ln) (many : Nat) (cs : Nat → Int32) (w K : Nat) (b : List (Nat × Nat)) : Prop := Iw σ t n l many cs w K b ∧ IC σ
def fpI (a : Nat) : Prop := a = 1 ∨ a = 2 ∨ fxC a ∨ a = 22 ∨ (25 ≤ a ∧ a ≤ 28) ∨ (49 ≤ a ∧ a ≤ 52) ∨ a = 54 ∨ a = 57 ∨ (67 ≤ a ∧ a ≤ 73) ∨ (82 ≤ a ∧ a ≤ 87) ∨ (102 ≤ a ∧ a ≤ 113) ∨ (115 ≤ a ∧ a ≤ 274) ∨ (437 ≤ a ∧ a ≤ 442) ∨ a = 533 ∨ (536 ≤ a ∧ a ≤ 551) ∨ (553 ≤ a ∧ a ≤ 555) ∨ 1000000 ≤ a
def fF (i : Nat) : Prop := i = 1 ∨ i = 3 ∨ i = 19 ∨ i = 33 ∨ i = 34 ∨ i = 36
theorem Stl_o {σ τ : mm_M} (h : Stl σ) (e : ∀ a, 1000001 ≤ a → mI τ a = mI σ a) : Stl τ := fun a p q => by rw [e a p]; exact h a p q
section InvV
variable {σ τ : mm_M} {t : Nat → Nat} {n : Nat} {l : Ln} {many : Nat} {cs : Nat → Int32} {w K : Nat} {b : List (Nat × Nat)} {S F : Nat → Prop}
theorem IT_o (h : IT σ t n) (e1 : mI τ 1 1 = mI σ 1 1) (e9 : mI τ 1 9 = mI σ 1 9) (e2 : mI τ 2 = mI σ 2) (e54 : mI τ 54 = mI σ 54) (f1 : mI τ 53 1 = mI σ 53 1) (f3 : mI τ 53 3 = mI σ 53 3) : IT τ t n := by
  obtain ⟨h1, h2, h3, h4, h5⟩ := h
  exact ⟨⟨h1.1, h1.2.1, fun k hk => by rw [e2]; exact h1.2.2 k hk⟩, ⟨h2.1, h2.2.1, fun k hk => by rw [e54]; exact h2.2.2 k hk⟩, by rw [e1]; exact h3, by rw [f1]; exact h4, by rw [f3, e9]; exact h5⟩
theorem IH_o {m : Nat} (h : IH σ m w) (e25 : mI τ 25 3 = mI σ 25 3) (e26 : mI τ 26 = mI σ 26) (f : mI τ 53 34 = mI σ 53 34) (g : ∀ i, i < 16 → mI τ (536 + i) = mI σ (536 + i)) : IH τ m w := by
  obtain ⟨h1, h2, h3, h4⟩ := h
  exact ⟨h1, by rw [e25]; exact h2, by rw [f]; exact h3, fun i hi => by rw [e26, g i (by omega)]; exact h4 i hi⟩
theorem IM1_o {m k : Nat} (h : IM1 σ m k w) (e27 : mI τ 27 = mI σ 27) (e28 : mI τ 28 = mI σ 28) (g : mI τ (553 + k) = mI σ (553 + k)) : IM1 τ m k w := by
  unfold IM1
  rw [e27, e28, g]
  exact h
theorem IM_o {m : Nat} (h : IM σ m K) (e25 : mI τ 25 4 = mI σ 25 4) (e27 : mI τ 27 = mI σ 27) (e28 : mI τ 28 = mI σ 28) (f : mI τ 53 36 = mI σ 53 36) (g : ∀ i, i < 3 → mI τ (553 + i) = mI σ (553 + i)) : IM τ m K := by
  obtain ⟨h1, h2, h3, h4⟩ := h
  refine ⟨h1, by rw [e25]; exact h2, by rw [f]; exact h3, fun k hk => ?_⟩
  obtain ⟨w, hw⟩ := h4 k hk
  exact ⟨w, IM1_o hw e27 e28 (g k (by omega))⟩
theorem IB_o (h : IB σ l b) (eb : bkA τ = bkA σ) (e1 : mI τ (bkA σ) 1 = mI σ (bkA σ) 1) (e2 : mI τ (bkA σ + 1) = mI σ (bkA σ + 1)) (f : mI τ 53 33 = mI σ 53 33) (g : ∀ i, i < 6 → mI τ (437 + i) = mI σ (437 + i)) : IB τ l b := by
  obtain ⟨h1, h2, h3, h4, h5, h6⟩ := h
  refine ⟨h1, by rw [eb, e1]; exact h2, by rw [f]; exact h3, h4, fun i hi => by rw [g i (by omega)]; exact h5 i hi, fun j hj => by rw [eb, e2]; exact h6 j hj⟩
theorem AgM.ldA' (a : AgM S F σ τ) : ldA τ = ldA σ := by unfold ldA; rw [a.2.1]
theorem AgM.lwA' (a : AgM S F σ τ) : lwA τ = lwA σ := by unfold lwA; rw [a.2.1]
theorem AgM.bkA' (a : AgM S F σ τ) : bkA τ = bkA σ := by unfold bkA; rw [a.2.1]
theorem CX.agm (h : CX σ l many cs) (a : AgM S F σ τ) (hS : ∀ x, fxC x → ¬ S x) : CX τ l many cs := by
  obtain ⟨h1, h2, h3⟩ := h
  have hl : ldA σ = 5 ∨ ldA σ = 38 := h1.ld
  have hw : lwA σ = 13 ∨ lwA σ = 46 := h1.lw
  refine ⟨a.sh h1, ?_, CLw_o h3 a.lwA' (a.at (by omega) (hS _ (by unfold fxC; omega))) (a.at (by omega) (hS _ (by unfold fxC; omega)))⟩
  rw [a.ldA']
  exact CLn_o h2 (fun k hk => a.at (by omega) (hS _ (by unfold fxC; omega)))
/-- nothing that counts was touched -/
theorem Iw.keep (h : Iw σ t n l many cs w K b) (a : AgM S F σ τ) (hS : ∀ x, fpI x → ¬ S x) (hF : ∀ i, fF i → ¬ F i) : Iw τ t n l many cs w K b := by
  obtain ⟨⟨h1, h2⟩, h3, ⟨h4, h5, h6⟩, ⟨h7, h8⟩, h9, h10, h11⟩ := h
  have at_ : ∀ x, x ≠ 53 → fpI x → mI τ x = mI σ x := fun x n f => a.at n (hS x f)
  have f_ : ∀ i, fF i → mI τ 53 i = mI σ 53 i := fun i f => a.f (hF i f)
  have hb : bkA σ = 49 ∨ bkA σ = 51 := h1.bk
  refine ⟨⟨a.sh h1, Stl_o h2 (fun x hx => at_ x (by omega) (by unfold fpI; omega))⟩, IT_o h3 (by rw [at_ 1 (by omega) (by unfold fpI; omega)]) (by rw [at_ 1 (by omega) (by unfold fpI; omega)]) (at_ 2 (by omega) (by unfold fpI; omega)) (at_ 54 (by omega) (by unfold fpI; omega)) (f_ 1 (by unfold fF; omega)) (f_ 3 (by unfold fF; omega)), ⟨h4, h5.agm a (fun x hx => hS x (by unfold fpI; exact Or.inr (Or.inr (Or.inl hx)))), h6.agm h4 a (fun x hx hn => hS x (by unfold fpI; unfold fxM at hx; omega)) (hF 19 (by unfold fF; omega))⟩, ⟨by rw [at_ 22 (by omega) (by unfold fpI; omega), at_ 533 (by omega) (by unfold fpI; omega)]; exact h7, by rw [at_ 533 (by omega) (by unfold fpI; omega)]; exact h8⟩,
    IH_o h9 (by rw [at_ 25 (by omega) (by unfold fpI; omega)]) (at_ 26 (by omega) (by unfold fpI; omega)) (f_ 34 (by unfold fF; omega)) (fun i hi => at_ _ (by omega) (by unfold fpI; omega)),
    IM_o h10 (by rw [at_ 25 (by omega) (by unfold fpI; omega)]) (at_ 27 (by omega) (by unfold fpI; omega)) (at_ 28 (by omega) (by unfold fpI; omega)) (f_ 36 (by unfold fF; omega)) (fun i hi => at_ _ (by omega) (by unfold fpI; omega)),
    IB_o h11 a.bkA' (by rw [at_ (bkA σ) (by omega) (by unfold fpI; omega)]) (at_ _ (by omega) (by unfold fpI; omega)) (f_ 33 (by unfold fF; omega)) (fun i hi => at_ _ (by omega) (by unfold fpI; omega))⟩
theorem Iv.keep (h : Iv σ t n l many cs w K b) (a : AgM S F σ τ) (hS : ∀ x, fpI x → ¬ S x) (hF : ∀ i, fF i → ¬ F i) (h0 : ¬ S 0) (h55 : ¬ S 55) (h35 : ¬ F 35) : Iv τ t n l many cs w K b := by
  refine ⟨h.1.keep a hS hF, ?_⟩
  unfold IC
  rw [a.at (by decide) h0, a.at (by decide) h55, a.f h35]
  exact h.2
theorem Iw.mT' (h : Iw σ t n l many cs w K b) : Iw (mT σ) t n l many cs w K b := h
theorem Iv.mT' (h : Iv σ t n l many cs w K b) : Iv (mT σ) t n l many cs w K b := h
theorem Iv.wL' (h : Iv σ t n l many cs w K b) (a i : Nat) (v : Int64) : Iv (wL σ a i v) t n l many cs w K b := h
end InvV
