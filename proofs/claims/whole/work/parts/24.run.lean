/-! WORK: the run of its rows -/
/-- the row, steps begun, done, refused -/
abbrev Sw : Type := (Nat → Int32) × Nat × Int32 × Int32
/-- one row that is no again -/
def one1 (l : Ln) (many : Nat) (cs : Nat → Int32) (w : Wk) (i : Nat) (s : Sw) : Sw :=
  ((dos l many cs (kW w i, kX w i, kY w i) s.1).2, s.2.1 + 1, s.2.2.1 + (if (dos l many cs (kW w i, kX w i, kY w i) s.1).1 then 1 else 0), s.2.2.2 + (if (dos l many cs (kW w i, kX w i, kY w i) s.1).1 then 0 else 1))
def goF (l : Ln) (many : Nat) (cs : Nat → Int32) (w : Wk) : Nat → Nat → Nat → Sw → Sw
  | 0, _, _, s => s
  | k + 1, from_, to_, s => if to_ ≤ from_ ∨ 200 ≤ s.2.1 then s else
      if kW w from_ = 5 then goF l many cs w k (kB w from_) to_ (fo (kX w from_) (fun _ t => goF l many cs w k (from_ + 1) (kB w from_) t) (s.1, s.2.1 + 1, s.2.2))
      else goF l many cs w k (kB w from_) to_ (one1 l many cs w from_ s)
theorem goF_full (l : Ln) (many : Nat) (cs : Nat → Int32) (w : Wk) (k f t : Nat) (s : Sw) (h : 200 ≤ s.2.1) : goF l many cs w k f t s = s := by
  cases k with
  | zero => rfl
  | succ k => unfold goF; rw [if_pos (Or.inr h)]
section RunV
variable {d : Nat} {l : Ln} {many : Nat} {cs : Nat → Int32} {w : Wk}
/-- the class in the middle of a run -/
def CSw (l : Ln) (many : Nat) (cs : Nat → Int32) (w : Wk) (σ : mm_M) (s : Sw) : Prop := CX σ l many cs ∧ CWk σ w ∧ CRc (mI σ 22) (nP l) s.1 ∧ ROK (nP l) s.1 ∧ RZ s.1 ∧ s.2.1 ≤ 200 ∧ mI σ 16 5 = nI s.2.1 ∧ mI σ 16 6 = s.2.2.1 ∧ mI σ 16 7 = s.2.2.2
/-- what a run of the class may write -/
def wrC (a : Nat) : Prop := scC a ∨ a = 22 ∨ a = 16
theorem CWk_ag {S : Nat → Prop} {σ τ : mm_M} (h : CWk σ w) (a : Ag S σ τ) (hS : ∀ x, 17 ≤ x → x ≤ 20 → ¬ S x) : CWk τ w := by
  intro i hi
  rw [a.at (hS 17 (by omega) (by omega)), a.at (hS 18 (by omega) (by omega)), a.at (hS 19 (by omega) (by omega)), a.at (hS 20 (by omega) (by omega))]
  exact h i hi
theorem wrC_fx : ∀ x, fxC x → ¬ wrC x := by
  intro x h q
  unfold fxC at h
  unfold wrC scC at q
  omega
theorem wrC_wk : ∀ x, 17 ≤ x → x ≤ 20 → ¬ wrC x := by
  intro x h1 h2 q
  unfold wrC scC at q
  omega
/-- the class's rows, by the depth that is left -/
theorem c_rows (ok : OKx l many cs) (wok : WkOK l w) : ∀ (k e from_ to_ op i f0 : Nat) (v : Value) (σ : mm_M) (s : Sw), op + e = 6 → blk w k from_ to_ op → i ≤ from_ → to_ ≤ w.1 → CSw l many cs w σ s →
    ∃ τ, rn (d + 5 + e) 84 6 [.ref 16, .ref 3, .ref 21, .int (nI f0), .int (nI to_), .int (nI op), .int (nI from_), .int (nI i), v] [] σ = some (.inl uv, τ) ∧ CSw l many cs w τ (goF l many cs w k from_ to_ s) ∧ Ag wrC σ τ
  | 0, e, from_, to_, op, i, f0, v, σ, s, he, hb, hi, ht, hs => by
    have hb : from_ = to_ := hb
    subst hb
    have := wok.1
    refine ⟨σ, ?_, hs, Ag.refl _ σ⟩
    rw [show d + 5 + e = (d + 4 + e) + 1 by omega, e_Steps_runRows_6]
    by_cases q : nI from_ ≤ nI i
    · rw [if_pos q, e_Steps_runRows_162]
    · rw [if_neg q, if_pos (Int32.le_refl _), e_Steps_runRows_162]
  | k + 1, e, from_, to_, op, i, f0, v, σ, s, he, hb, hi, ht, hs => by
    have hw38 := wok.1
    obtain ⟨h1, h2, h3, h4, h5, h6, h7, h8, h9⟩ := hs
    have hsh := h1.1
    rw [show d + 5 + e = (d + 4 + e) + 1 by omega, e_Steps_runRows_6]
    have fin : ∀ (x : Option mm_R), goF l many cs w (k + 1) from_ to_ s = s → x = some (.inl uv, σ) → ∃ τ, x = some (.inl uv, τ) ∧ CSw l many cs w τ (goF l many cs w (k + 1) from_ to_ s) ∧ Ag wrC σ τ := by
      intro x g e
      rw [g]
      exact ⟨σ, e, ⟨h1, h2, h3, h4, h5, h6, h7, h8, h9⟩, Ag.refl _ σ⟩
    rcases hb with rfl | ⟨hb1, hb2, hb3, hb4, hb5⟩
    · refine fin _ (by unfold goF; rw [if_pos (Or.inl (Nat.le_refl _))]) ?_
      by_cases q : nI from_ ≤ nI i
      · rw [if_pos q, e_Steps_runRows_162]
      · rw [if_neg q, if_pos (Int32.le_refl _), e_Steps_runRows_162]
    · rw [if_neg (show ¬ nI to_ ≤ nI i from nI_ge (b := to_) (a := i) (by omega) (by omega)), if_neg (show ¬ nI to_ ≤ nI from_ from nI_ge (b := to_) (a := from_) (by omega) (by omega)), xg_16 hsh, h7]
      by_cases q : 200 ≤ s.2.1
      · rw [if_pos (show (200 : Int32) ≤ nI s.2.1 from nI_le (a := 200) q (by omega)), e_Steps_runRows_162]
        exact fin _ (goF_full _ _ _ _ _ _ _ _ q) rfl
      · rw [if_neg (show ¬ (200 : Int32) ≤ nI s.2.1 from nI_ge (b := 200) (by omega) (by omega)), xg_16 hsh, h7, xs_16 hsh, nI_1]
        have hfr : from_ < 38 := by omega
        obtain ⟨c1, c2, c3, c4⟩ := h2 from_ (by omega)
        obtain ⟨wk1, wk2, -, -, -, -, wk6⟩ := wok.2 from_ (by omega)
        have a0 : Ag wrC σ (wI σ 16 5 (nI (s.2.1 + 1))) := (Ag.refl _ σ).wI (Or.inr (Or.inr rfl)) _ _
        rw [xr_16_0 (σ := wI σ 16 5 (nI (s.2.1 + 1))) hsh, xa_17 (σ := wI σ 16 5 (nI (s.2.1 + 1))) hsh hfr, rI_o (by decide), c1]
        have egoF : goF l many cs w (k + 1) from_ to_ s = if kW w from_ = 5 then goF l many cs w k (kB w from_) to_ (fo (kX w from_) (fun _ t => goF l many cs w k (from_ + 1) (kB w from_) t) (s.1, s.2.1 + 1, s.2.2)) else goF l many cs w k (kB w from_) to_ (one1 l many cs w from_ s) := by
          show (if to_ ≤ from_ ∨ 200 ≤ s.2.1 then s else _) = _
          rw [if_neg (by omega)]
        -- what comes behind a row
        have behind : ∀ (σ1 : mm_M) (s1 : Sw) (v1 : Value), CSw l many cs w σ1 s1 → Ag wrC σ σ1 → ∃ τ, rn (d + 4 + e + 1) 84 147 [.ref 16, .ref 3, .ref 21, .int (nI f0), .int (nI to_), .int (nI op), .int (nI from_), .int (nI i), v1] [] σ1 = some (.inl uv, τ) ∧ CSw l many cs w τ (goF l many cs w k (kB w from_) to_ s1) ∧ Ag wrC σ τ := by
          intro σ1 s1 v1 g1 g2
          have gs := g1.1.1
          obtain ⟨-, -, -, c5⟩ := g1.2.1 from_ (by omega)
          rw [e_Steps_runRows_147, xr_16_3 gs, xa_20 gs hfr, c5, nI_1]
          obtain ⟨τ, r1, r2, r3⟩ := c_rows ok wok k e (kB w from_) to_ op (i + 1) f0 v1 σ1 s1 he hb5 (by omega) ht g1
          rw [show d + 5 + e = d + 4 + e + 1 by omega] at r1
          exact ⟨τ, r1, r2, g2.trans r3⟩
        have g0 : CSw l many cs w (wI σ 16 5 (nI (s.2.1 + 1))) (s.1, s.2.1 + 1, s.2.2) := by
          refine ⟨h1.ag a0 wrC_fx, CWk_ag h2 a0 wrC_wk, ?_, h4, h5, by show s.2.1 + 1 ≤ 200; omega, by rw [rI_w, if_pos ⟨rfl, rfl⟩], ?_, ?_⟩
          · rw [rI_o (by decide)]; exact h3
          · rw [rI_w, if_neg (by decide)]; exact h8
          · rw [rI_w, if_neg (by decide)]; exact h9
        by_cases q5 : kW w from_ = 5
        · rw [q5, if_pos (show nI 5 = (5 : Int32) from rfl)]
          rw [egoF, if_pos q5]
          obtain ⟨hop, hsub⟩ := hb4 q5
          obtain ⟨e', rfl⟩ : ∃ e', e = e' + 1 := ⟨e - 1, by omega⟩
          have wx := wk6 q5
          -- the loop of an again
          have loop : ∀ (m t : Nat) (σ1 : mm_M) (s1 : Sw), t + m = kX w from_ → CSw l many cs w σ1 s1 → Ag wrC σ σ1 → ∃ τ, rn (d + 4 + (e' + 1) + 1) 84 54 [.ref 16, .ref 3, .ref 21, .int (nI f0), .int (nI to_), .int (nI op), .int (nI from_), .int (nI i), .int (nI t)] [] σ1 = some (.inl uv, τ) ∧ CSw l many cs w τ (goF l many cs w k (kB w from_) to_ (fo m (fun _ t => goF l many cs w k (from_ + 1) (kB w from_) t) s1)) ∧ Ag wrC σ τ := by
            intro m
            induction m with
            | zero =>
              intro t σ1 s1 hm g1 g2
              have gs := g1.1.1
              obtain ⟨-, c6, -, -⟩ := g1.2.1 from_ (by omega)
              rw [e_Steps_runRows_54, xr_16_1 gs, xa_18 gs hfr, c6 (by omega), if_pos (show nI (kX w from_) ≤ nI t from nI_le (a := (kX w from_)) (b := t) (by omega) (by omega)), e_Steps_runRows_110]
              exact behind σ1 s1 _ g1 g2
            | succ m ih =>
              intro t σ1 s1 hm g1 g2
              have gs := g1.1.1
              obtain ⟨-, c6, -, c7⟩ := g1.2.1 from_ (by omega)
              rw [e_Steps_runRows_54, xr_16_1 gs, xa_18 gs hfr, c6 (by omega), if_neg (show ¬ nI (kX w from_) ≤ nI t from nI_ge (b := (kX w from_)) (a := t) (by omega) (by omega)), if_neg (show ¬ (6 : Int32) ≤ nI op from nI_ge (b := 6) (a := op) (by omega) (by omega)), xg_16 gs, g1.2.2.2.2.2.2.1]
              have hstep : fo (m + 1) (fun _ t => goF l many cs w k (from_ + 1) (kB w from_) t) s1 = fo m (fun _ t => goF l many cs w k (from_ + 1) (kB w from_) t) (goF l many cs w k (from_ + 1) (kB w from_) s1) := by
                clear ih hm
                induction m with
                | zero => rfl
                | succ m ih => rw [fo_s, ih]; rfl
              have g6 := g1.2.2.2.2.2.1
              by_cases q2 : 200 ≤ s1.2.1
              · rw [if_pos (show (200 : Int32) ≤ nI s1.2.1 from nI_le (a := 200) q2 (by omega)), e_Steps_runRows_110]
                have : fo (m + 1) (fun _ t => goF l many cs w k (from_ + 1) (kB w from_) t) s1 = s1 := by
                  clear ih hm hstep
                  induction m with
                  | zero => exact goF_full _ _ _ _ _ _ _ _ q2
                  | succ m ih => rw [fo_s, ih]; exact goF_full _ _ _ _ _ _ _ _ q2
                rw [this]
                exact behind σ1 s1 _ g1 g2
              · rw [if_neg (show ¬ (200 : Int32) ≤ nI s1.2.1 from nI_ge (b := 200) (by omega) (by omega)), xr_16_3 gs, xa_20 gs hfr, c7, nI_1, nI_1, hstep]
                obtain ⟨τ, r1, r2, r3⟩ := c_rows ok wok k e' (from_ + 1) (kB w from_) (op + 1) (from_ + 1) (from_ + 1) uv σ1 s1 (by omega) hsub (Nat.le_refl _) (by
                  have : kB w from_ ≤ to_ ∨ to_ ≤ kB w from_ := Nat.le_total _ _
                  rcases k with _ | k
                  · have hb5 : kB w from_ = to_ := hb5
                    omega
                  · rcases hb5 with hb5 | hb5
                    · omega
                    · omega) g1
                have r0 : ev (d + 4 + (e' + 1)) 84 [.ref 16, .ref 3, .ref 21, .int (nI (from_ + 1)), .int (nI (kB w from_)), .int (nI (op + 1))] σ1 = some (.inl uv, τ) := by
                  rw [show d + 4 + (e' + 1) = (d + 4 + e') + 1 by omega, e_Steps_runRows _ 16 3 21 _ _ _ σ1 (by rw [k_16 gs])]
                  rw [show d + 5 + e' = d + 4 + e' + 1 by omega] at r1
                  exact r1
                rw [r0]
                dsimp only [cV, uv]
                rw [nI_1]
                exact ih (t + 1) τ _ (by omega) r2 (g2.trans r3)
          exact loop (kX w from_) 0 _ _ (by omega) g0 a0
        · rw [if_neg (show ¬ nI (kW w from_) = 5 from fun z => q5 ((nI_eq (b := 5) (by omega) (by decide)).mp z))]
          rw [egoF, if_neg q5]
          obtain ⟨τ, r1, r2, r3⟩ := c_isDone (d := d + e) g0.1 ok wok g0.2.1 (show from_ < w.1 by omega) q5 g0.2.2.1 h4
          rw [show d + e + 4 = d + 4 + e by omega] at r1
          rw [r1]
          dsimp only [cI]
          have gt := r2.sh hsh
          have a1 : Ag wrC σ τ := a0.trans (r2.mono (fun x hx => by rcases hx with hx | hx; exact Or.inl hx; exact Or.inr (Or.inl hx)))
          have e16 : mI τ 16 = mI (wI σ 16 5 (nI (s.2.1 + 1))) 16 := r2.at (by unfold scC; omega)
          obtain ⟨k1, k2⟩ := dos_ROK ok h4 h5 (q := (kW w from_, kX w from_, kY w from_)) (fun z => (wok.2 from_ (by omega)).2.2.1 z) (fun z => ((wok.2 from_ (by omega)).2.2.2.1 z).1) (fun z => (wok.2 from_ (by omega)).2.2.2.2.1 z) (fun z => (wok.2 from_ (by omega)).2.2.2.2.2.1 z)
          have cx := g0.1.ag r2 (fun x hx z => wrC_fx x hx (by rcases z with z | z; exact Or.inl z; exact Or.inr (Or.inl z)))
          have cw := CWk_ag g0.2.1 r2 (fun x h1 h2 z => wrC_wk x h1 h2 (by rcases z with z | z; exact Or.inl z; exact Or.inr (Or.inl z)))
          cases hd : (dos l many cs (kW w from_, kX w from_, kY w from_) s.1).1 with
          | true =>
            rw [if_pos rfl, if_neg (by decide), xg_16 gt, xs_16 gt]
            have a2 : Ag wrC τ (wI τ 16 6 (mI τ 16 6 + 1)) := (Ag.refl _ τ).wI (Or.inr (Or.inr rfl)) _ _
            refine behind _ (one1 l many cs w from_ s) _ ⟨cx.ag a2 wrC_fx, CWk_ag cw a2 wrC_wk, ?_, k1, k2, by show s.2.1 + 1 ≤ 200; omega, ?_, ?_, ?_⟩ (a1.trans a2)
            · rw [rI_o (by decide)]; exact r3
            · rw [rI_w, if_neg (by decide), e16, rI_w, if_pos ⟨rfl, rfl⟩]; rfl
            · rw [rI_w, if_pos ⟨rfl, rfl⟩, e16, rI_w, if_neg (by decide), h8]; unfold one1; rw [hd]; rfl
            · rw [rI_w, if_neg (by decide), e16, rI_w, if_neg (by decide), h9]; unfold one1; rw [hd]; exact (Int32.add_zero _).symm
          | false =>
            rw [if_pos (show (if false = true then (1 : Int32) else 0) = 0 from rfl), xg_16 gt, xs_16 gt]
            have a2 : Ag wrC τ (wI τ 16 7 (mI τ 16 7 + 1)) := (Ag.refl _ τ).wI (Or.inr (Or.inr rfl)) _ _
            refine behind _ (one1 l many cs w from_ s) _ ⟨cx.ag a2 wrC_fx, CWk_ag cw a2 wrC_wk, ?_, k1, k2, by show s.2.1 + 1 ≤ 200; omega, ?_, ?_, ?_⟩ (a1.trans a2)
            · rw [rI_o (by decide)]; exact r3
            · rw [rI_w, if_neg (by decide), e16, rI_w, if_pos ⟨rfl, rfl⟩]; rfl
            · rw [rI_w, if_neg (by decide), e16, rI_w, if_neg (by decide), h8]; unfold one1; rw [hd]; exact (Int32.add_zero _).symm
            · rw [rI_w, if_pos ⟨rfl, rfl⟩, e16, rI_w, if_neg (by decide), h9]; unfold one1; rw [hd]; rfl
/-- the reference in the middle of a run -/
def MSw (l : Ln) (many : Nat) (cs : Nat → Int32) (w : Wk) (σ : mm_M) (s : Sw) : Prop := MX σ l many cs ∧ MWk σ w ∧ mI σ 533 = s.1 ∧ s.2.1 ≤ 200 ∧ mI σ 53 38 = nI s.2.1 ∧ mI σ 53 39 = s.2.2.1 ∧ mI σ 53 35 = s.2.2.2
/-- τ is σ but for the pile, what is known, the row now, and three numbers -/
def AgM (S F : Nat → Prop) (σ τ : mm_M) : Prop := mK τ = mK σ ∧ mR τ = mR σ ∧ mL τ = mL σ ∧ mN τ = mN σ ∧ mX τ = mX σ ∧ mS τ = mS σ ∧ (∀ a, a ≠ 53 → ¬ S a → mI τ a = mI σ a) ∧ ∀ i, ¬ F i → mI τ 53 i = mI σ 53 i
theorem AgM.refl (S F : Nat → Prop) (σ : mm_M) : AgM S F σ σ := ⟨rfl, rfl, rfl, rfl, rfl, rfl, fun _ _ _ => rfl, fun _ _ => rfl⟩
theorem AgM.trans {S F : Nat → Prop} {σ τ υ : mm_M} (h : AgM S F σ τ) (g : AgM S F τ υ) : AgM S F σ υ := ⟨g.1.trans h.1, g.2.1.trans h.2.1, g.2.2.1.trans h.2.2.1, g.2.2.2.1.trans h.2.2.2.1, g.2.2.2.2.1.trans h.2.2.2.2.1, g.2.2.2.2.2.1.trans h.2.2.2.2.2.1, fun a n m => (g.2.2.2.2.2.2.1 a n m).trans (h.2.2.2.2.2.2.1 a n m), fun i n => (g.2.2.2.2.2.2.2 i n).trans (h.2.2.2.2.2.2.2 i n)⟩
theorem AgM.at {S F : Nat → Prop} {σ τ : mm_M} (h : AgM S F σ τ) {a : Nat} (n : a ≠ 53) (m : ¬ S a) : mI τ a = mI σ a := h.2.2.2.2.2.2.1 a n m
theorem AgM.f {S F : Nat → Prop} {σ τ : mm_M} (h : AgM S F σ τ) {i : Nat} (n : ¬ F i) : mI τ 53 i = mI σ 53 i := h.2.2.2.2.2.2.2 i n
theorem AgM.of {S T F : Nat → Prop} {σ τ : mm_M} (h : Ag S σ τ) (i : ∀ a, S a → T a) (n : ¬ S 53) : AgM T F σ τ := ⟨h.1, h.2.1, h.2.2.1, h.2.2.2.1, h.2.2.2.2.1, h.2.2.2.2.2.1, fun a _ m => h.at (fun q => m (i a q)), fun j _ => by rw [h.at n]⟩
theorem AgM.w53 {S F : Nat → Prop} {σ τ : mm_M} (h : AgM S F σ τ) {i : Nat} (n : F i) (v : Int32) : AgM S F σ (wI τ 53 i v) := ⟨h.1, h.2.1, h.2.2.1, h.2.2.2.1, h.2.2.2.2.1, h.2.2.2.2.2.1, fun a p m => by rw [rI_o p]; exact h.at p m, fun j m => by
  have hne : j ≠ i := fun e => m (by rw [e]; exact n)
  rw [rI_w, if_neg (fun q => hne q.2)]
  exact h.f m⟩
theorem AgM.mono {S T F G : Nat → Prop} {σ τ : mm_M} (h : AgM S F σ τ) (i : ∀ a, S a → T a) (j : ∀ a, F a → G a) : AgM T G σ τ := ⟨h.1, h.2.1, h.2.2.1, h.2.2.2.1, h.2.2.2.2.1, h.2.2.2.2.2.1, fun a n m => h.at n (fun q => m (i a q)), fun k m => h.f (fun q => m (j k q))⟩
theorem AgM.wA {S F : Nat → Prop} {σ τ : mm_M} (h : AgM S F σ τ) {a : Nat} (n : S a) (ha : a ≠ 53) (f : Nat → Int32) : AgM S F σ (wA τ a f) := ⟨h.1, h.2.1, h.2.2.1, h.2.2.2.1, h.2.2.2.2.1, h.2.2.2.2.2.1, fun b p m => by
  have hne : b ≠ a := fun e => m (by rw [e]; exact n)
  rw [rA_o hne]; exact h.at p m, fun j m => by
  rw [rA_o (fun e => ha e.symm)]
  exact h.f m⟩
theorem AgM.sh {S F : Nat → Prop} {σ τ : mm_M} (h : AgM S F σ τ) (g : Sh σ) : Sh τ := by
  obtain ⟨h1, h2, -, h4, -⟩ := h
  unfold Sh ldA lwA bkA at g ⊢
  rw [h1, h2, h4]
  exact g
theorem MX.agm {S F : Nat → Prop} {σ τ : mm_M} (h : MX σ l many cs) (ok : OKx l many cs) (a : AgM S F σ τ) (hS : ∀ x, fxM x → x ≠ 53 → ¬ S x) (hF : ¬ F 19) : MX τ l many cs :=
  ⟨a.sh h.1, MLn_o ok.1 h.2.1 (fun x hx n => a.at n (hS x hx n)), MLw_o ok.2 h.2.2 (a.f hF) (fun x h1 h2 => a.at (by omega) (hS x (by unfold fxM; omega) (by omega)))⟩
def wrM (a : Nat) : Prop := scM a ∨ a = 533
def wrF (i : Nat) : Prop := i = 38 ∨ i = 39 ∨ i = 35
theorem wrM_fx : ∀ x, fxM x → x ≠ 53 → ¬ wrM x := by
  intro x h _ q
  unfold fxM at h
  unfold wrM scM at q
  omega
theorem MWk_ag {S F : Nat → Prop} {σ τ : mm_M} (wok : WkOK l w) (h : MWk σ w) (a : AgM S F σ τ) (hS : ∀ x, 453 ≤ x → x ≤ 532 → ¬ S x) : MWk τ w := by
  intro i hi
  have := wok.1
  rw [a.at (a := 453 + i) (by omega) (hS _ (by omega) (by omega))]
  exact h i hi
theorem wrM_wk : ∀ x, 453 ≤ x → x ≤ 532 → ¬ wrM x := by
  intro x h1 h2 q
  unfold wrM scM at q
  omega
theorem m_rows (ok : OKx l many cs) (wok : WkOK l w) : ∀ (k e from_ to_ op f0 : Nat) (v : Value) (σ : mm_M) (s : Sw), op + e = 6 → blk w k from_ to_ op → to_ ≤ w.1 → MSw l many cs w σ s →
    ∃ τ, rn (d + 8 + e) 220 2 [.ref 53, .int (nI f0), .int (nI to_), .int (nI from_), v] [] σ = some (.inl uv, τ) ∧ MSw l many cs w τ (goF l many cs w k from_ to_ s) ∧ AgM wrM wrF σ τ
  | 0, e, from_, to_, op, f0, v, σ, s, he, hb, ht, hs => by
    have hb : from_ = to_ := hb
    subst hb
    refine ⟨σ, ?_, hs, AgM.refl _ _ σ⟩
    rw [show d + 8 + e = (d + 7 + e) + 1 by omega, e_M_goes_2, if_pos (Int32.le_refl _), e_M_goes_155]
  | k + 1, e, from_, to_, op, f0, v, σ, s, he, hb, ht, hs => by
    have hw38 := wok.1
    obtain ⟨h1, h2, h3, h6, h7, h8, h9⟩ := hs
    have hsh := h1.1
    rw [show d + 8 + e = (d + 7 + e) + 1 by omega, e_M_goes_2]
    have fin : ∀ (x : Option mm_R), goF l many cs w (k + 1) from_ to_ s = s → x = some (.inl uv, σ) → ∃ τ, x = some (.inl uv, τ) ∧ MSw l many cs w τ (goF l many cs w (k + 1) from_ to_ s) ∧ AgM wrM wrF σ τ := by
      intro x g e
      rw [g]
      exact ⟨σ, e, ⟨h1, h2, h3, h6, h7, h8, h9⟩, AgM.refl _ _ σ⟩
    rcases hb with rfl | ⟨hb1, hb2, hb3, hb4, hb5⟩
    · refine fin _ (by unfold goF; rw [if_pos (Or.inl (Nat.le_refl _))]) ?_
      rw [if_pos (Int32.le_refl _), e_M_goes_155]
    · rw [if_neg (show ¬ nI to_ ≤ nI from_ from nI_ge (b := to_) (a := from_) (by omega) (by omega)), xg_53 hsh, h7]
      by_cases q : 200 ≤ s.2.1
      · rw [if_pos (show (200 : Int32) ≤ nI s.2.1 from nI_le (a := 200) q (by omega)), e_M_goes_155]
        exact fin _ (goF_full _ _ _ _ _ _ _ _ q) rfl
      · rw [if_neg (show ¬ (200 : Int32) ≤ nI s.2.1 from nI_ge (b := 200) (by omega) (by omega)), xg_53 hsh, h7, xs_53 hsh, nI_1]
        have hfr : from_ < 80 := by omega
        obtain ⟨c1, c2, c3, c4, c5⟩ := h2 from_ (by omega)
        obtain ⟨wk1, wk2, -, -, -, -, wk6⟩ := wok.2 from_ (by omega)
        have a0 : AgM wrM wrF σ (wI σ 53 38 (nI (s.2.1 + 1))) := (AgM.refl _ _ σ).w53 (Or.inl rfl) _
        have hsh1 : Sh (wI σ 53 38 (nI (s.2.1 + 1))) := hsh
        simp (disch := first | assumption | decide | (simp only [Sh_wI, Sh_wA, Sh_wL, Sh_mT, ldA_wI, lwA_wI, bkA_wI, ldA_wA, lwA_wA, bkA_wA]; assumption) | omega) only [xr_53_27, xR_452, xa_r452, al_0]
        rw [rI_o (by omega), c1]
        have egoF : goF l many cs w (k + 1) from_ to_ s = if kW w from_ = 5 then goF l many cs w k (kB w from_) to_ (fo (kX w from_) (fun _ t => goF l many cs w k (from_ + 1) (kB w from_) t) (s.1, s.2.1 + 1, s.2.2)) else goF l many cs w k (kB w from_) to_ (one1 l many cs w from_ s) := by
          show (if to_ ≤ from_ ∨ 200 ≤ s.2.1 then s else _) = _
          rw [if_neg (by omega)]
        have behind : ∀ (σ1 : mm_M) (s1 : Sw) (x1 : Int32), MSw l many cs w σ1 s1 → AgM wrM wrF σ σ1 → ∃ τ, rn (d + 7 + e + 1) 220 143 [.ref 53, .int (nI f0), .int (nI to_), .int (nI from_), .int x1] [] σ1 = some (.inl uv, τ) ∧ MSw l many cs w τ (goF l many cs w k (kB w from_) to_ s1) ∧ AgM wrM wrF σ τ := by
          intro σ1 s1 x1 g1 g2
          have gs := g1.1.1
          obtain ⟨-, c5, -⟩ := g1.2.1 from_ (by omega)
          rw [e_M_goes_143]
          simp (disch := first | assumption | decide | (simp only [Sh_wI, Sh_wA, Sh_wL, Sh_mT, ldA_wI, lwA_wI, bkA_wI, ldA_wA, lwA_wA, bkA_wA]; assumption) | omega) only [xr_53_27, xR_452, xa_r452, al_3, c5]
          obtain ⟨τ, r1, r2, r3⟩ := m_rows ok wok k e (kB w from_) to_ op f0 (.int x1) σ1 s1 he hb5 ht g1
          rw [show d + 8 + e = d + 7 + e + 1 by omega] at r1
          exact ⟨τ, r1, r2, g2.trans r3⟩
        have g0 : MSw l many cs w (wI σ 53 38 (nI (s.2.1 + 1))) (s.1, s.2.1 + 1, s.2.2) := by
          refine ⟨h1.agm ok a0 wrM_fx (by unfold wrF; omega), MWk_ag wok h2 a0 wrM_wk, ?_, by show s.2.1 + 1 ≤ 200; omega, by rw [rI_w, if_pos ⟨rfl, rfl⟩], ?_, ?_⟩
          · rw [rI_o (by decide)]; exact h3
          · rw [rI_w, if_neg (by decide)]; exact h8
          · rw [rI_w, if_neg (by decide)]; exact h9
        by_cases q5 : kW w from_ = 5
        · rw [q5, if_pos (show nI 5 = (5 : Int32) from rfl)]
          rw [egoF, if_pos q5]
          obtain ⟨hop, hsub⟩ := hb4 q5
          obtain ⟨e', rfl⟩ : ∃ e', e = e' + 1 := ⟨e - 1, by omega⟩
          have wx := wk6 q5
          have loop : ∀ (m t : Nat) (σ1 : mm_M) (s1 : Sw), t + m = kX w from_ → MSw l many cs w σ1 s1 → AgM wrM wrF σ σ1 → ∃ τ, rn (d + 7 + (e' + 1) + 1) 220 42 [.ref 53, .int (nI f0), .int (nI to_), .int (nI from_), .int (nI t)] [] σ1 = some (.inl uv, τ) ∧ MSw l many cs w τ (goF l many cs w k (kB w from_) to_ (fo m (fun _ t => goF l many cs w k (from_ + 1) (kB w from_) t) s1)) ∧ AgM wrM wrF σ τ := by
            intro m
            induction m with
            | zero =>
              intro t σ1 s1 hm g1 g2
              have gs := g1.1.1
              obtain ⟨-, -, -, -, c6⟩ := g1.2.1 from_ (by omega)
              have c6 := c6 (by omega) (by omega)
              rw [e_M_goes_42]
              simp (disch := first | assumption | decide | (simp only [Sh_wI, Sh_wA, Sh_wL, Sh_mT, ldA_wI, lwA_wI, bkA_wI, ldA_wA, lwA_wA, bkA_wA]; assumption) | omega) only [xr_53_27, xR_452, xa_r452, al_1, c6]
              rw [if_pos (show nI (kX w from_) ≤ nI t from nI_le (a := (kX w from_)) (b := t) (by omega) (by omega)), e_M_goes_86]
              exact behind σ1 s1 _ g1 g2
            | succ m ih =>
              intro t σ1 s1 hm g1 g2
              have gs := g1.1.1
              obtain ⟨-, c7, -, -, c6⟩ := g1.2.1 from_ (by omega)
              have c6 := c6 (by omega) (by omega)
              have g5 := g1.2.2.2.2.1
              rw [e_M_goes_42]
              simp (disch := first | assumption | decide | (simp only [Sh_wI, Sh_wA, Sh_wL, Sh_mT, ldA_wI, lwA_wI, bkA_wI, ldA_wA, lwA_wA, bkA_wA]; assumption) | omega) only [xr_53_27, xR_452, xa_r452, xg_53, al_1, al_3, c6, c7, g5]
              rw [if_neg (show ¬ nI (kX w from_) ≤ nI t from nI_ge (b := (kX w from_)) (a := t) (by omega) (by omega))]
              have hstep : fo (m + 1) (fun _ t => goF l many cs w k (from_ + 1) (kB w from_) t) s1 = fo m (fun _ t => goF l many cs w k (from_ + 1) (kB w from_) t) (goF l many cs w k (from_ + 1) (kB w from_) s1) := by
                clear ih hm
                induction m with
                | zero => rfl
                | succ m ih => rw [fo_s, ih]; rfl
              have g6 := g1.2.2.2.1
              by_cases q2 : 200 ≤ s1.2.1
              · rw [if_pos (show (200 : Int32) ≤ nI s1.2.1 from nI_le (a := 200) q2 (by omega)), e_M_goes_86]
                have : fo (m + 1) (fun _ t => goF l many cs w k (from_ + 1) (kB w from_) t) s1 = s1 := by
                  clear ih hm hstep
                  induction m with
                  | zero => exact goF_full _ _ _ _ _ _ _ _ q2
                  | succ m ih => rw [fo_s, ih]; exact goF_full _ _ _ _ _ _ _ _ q2
                rw [this]
                exact behind σ1 s1 _ g1 g2
              · rw [if_neg (show ¬ (200 : Int32) ≤ nI s1.2.1 from nI_ge (b := 200) (by omega) (by omega)), nI_1, hstep]
                obtain ⟨τ, r1, r2, r3⟩ := m_rows ok wok k e' (from_ + 1) (kB w from_) (op + 1) (from_ + 1) uv σ1 s1 (by omega) hsub (by
                  rcases k with _ | k
                  · have hb5 : kB w from_ = to_ := hb5
                    omega
                  · rcases hb5 with hb5 | hb5
                    · omega
                    · omega) g1
                have r0 : ev (d + 7 + (e' + 1)) 220 [.ref 53, .int (nI (from_ + 1)), .int (nI (kB w from_))] σ1 = some (.inl uv, τ) := by
                  rw [show d + 7 + (e' + 1) = (d + 7 + e') + 1 by omega, e_M_goes _ 53 _ _ σ1 (by rw [k_53 gs])]
                  rw [show d + 8 + e' = d + 7 + e' + 1 by omega] at r1
                  exact r1
                rw [r0]
                dsimp only [cV, uv]
                rw [nI_1]
                exact ih (t + 1) τ _ (by omega) r2 (g2.trans r3)
          exact loop (kX w from_) 0 _ _ (by omega) g0 a0
        · rw [if_neg (show ¬ nI (kW w from_) = 5 from fun z => q5 ((nI_eq (b := 5) (by omega) (by decide)).mp z))]
          rw [egoF, if_neg q5]
          obtain ⟨τ, r1, r2, r3⟩ := m_does (d := d + e) (r := s.1) g0.1 ok wok g0.2.1 (show from_ < w.1 by omega) q5 g0.2.2.1
          rw [show d + e + 7 = d + 7 + e by omega] at r1
          rw [xr_53_29 hsh1, r1]
          dsimp only [cI]
          have gt := r2.sh hsh1
          have b2 : AgM wrM wrF (wI σ 53 38 (nI (s.2.1 + 1))) τ := AgM.of r2 (fun x hx => hx) (by unfold scM; omega)
          have a1 : AgM wrM wrF σ τ := a0.trans b2
          have e53 : mI τ 53 = mI (wI σ 53 38 (nI (s.2.1 + 1))) 53 := r2.at (by unfold scM; omega)
          have cx := g0.1.agm ok b2 wrM_fx (by unfold wrF; omega)
          have cw := MWk_ag wok g0.2.1 b2 wrM_wk
          cases hd : (dos l many cs (kW w from_, kX w from_, kY w from_) s.1).1 with
          | true =>
            rw [if_pos rfl, xg_53 gt, if_neg (by decide), e_M_goes_120, xs_53 gt, xg_53 (σ := wI τ 53 39 (mI τ 53 39 + 1)) gt, if_neg (by decide), e_M_goes_139, xs_53 (σ := wI τ 53 39 (mI τ 53 39 + 1)) gt]
            have a2 : AgM wrM wrF τ (wI (wI τ 53 39 (mI τ 53 39 + 1)) 53 35 (mI (wI τ 53 39 (mI τ 53 39 + 1)) 53 35 + 0)) := ((AgM.refl _ _ τ).w53 (Or.inr (Or.inl rfl)) _).w53 (Or.inr (Or.inr rfl)) _
            refine behind _ (one1 l many cs w from_ s) _ ⟨cx.agm ok a2 wrM_fx (by unfold wrF; omega), MWk_ag wok cw a2 wrM_wk, ?_, by show s.2.1 + 1 ≤ 200; omega, ?_, ?_, ?_⟩ (a1.trans a2)
            · rw [rI_o (by decide), rI_o (by decide)]; exact r3
            · rw [rI_w, if_neg (by decide), rI_w, if_neg (by decide), e53, rI_w, if_pos ⟨rfl, rfl⟩]; rfl
            · rw [rI_w, if_neg (by decide), rI_w, if_pos ⟨rfl, rfl⟩, e53, rI_w, if_neg (by decide), h8]; unfold one1; rw [hd]; rfl
            · rw [rI_w, if_pos ⟨rfl, rfl⟩, rI_w, if_neg (by decide), e53, rI_w, if_neg (by decide), h9]; unfold one1; rw [hd]; rfl
          | false =>
            rw [if_neg (show ¬ false = true by decide), xg_53 gt, if_pos rfl, e_M_goes_120, xs_53 gt, xg_53 (σ := wI τ 53 39 (mI τ 53 39 + 0)) gt, if_pos rfl, e_M_goes_139, xs_53 (σ := wI τ 53 39 (mI τ 53 39 + 0)) gt]
            have a2 : AgM wrM wrF τ (wI (wI τ 53 39 (mI τ 53 39 + 0)) 53 35 (mI (wI τ 53 39 (mI τ 53 39 + 0)) 53 35 + 1)) := ((AgM.refl _ _ τ).w53 (Or.inr (Or.inl rfl)) _).w53 (Or.inr (Or.inr rfl)) _
            refine behind _ (one1 l many cs w from_ s) _ ⟨cx.agm ok a2 wrM_fx (by unfold wrF; omega), MWk_ag wok cw a2 wrM_wk, ?_, by show s.2.1 + 1 ≤ 200; omega, ?_, ?_, ?_⟩ (a1.trans a2)
            · rw [rI_o (by decide), rI_o (by decide)]; exact r3
            · rw [rI_w, if_neg (by decide), rI_w, if_neg (by decide), e53, rI_w, if_pos ⟨rfl, rfl⟩]; rfl
            · rw [rI_w, if_neg (by decide), rI_w, if_pos ⟨rfl, rfl⟩, e53, rI_w, if_neg (by decide), h8]; unfold one1; rw [hd]; rfl
            · rw [rI_w, if_pos ⟨rfl, rfl⟩, rI_w, if_neg (by decide), e53, rI_w, if_neg (by decide), h9]; unfold one1; rw [hd]; rfl
end RunV
