/-! WORK as a text: a step, both sides -/
theorem blk_le {w : Wk} : ∀ k f t op, blk w k f t op → f ≤ t
  | 0, f, t, _, h => by have h : f = t := h; omega
  | k + 1, f, t, op, h => by
    rcases (show f = t ∨ _ from h) with h | h
    · omega
    · omega
theorem blk_as {w w' : Wk} : ∀ k f t op, blk w k f t op → (∀ i, f ≤ i → i < t → w'.2 i = w.2 i) → t ≤ w'.1 → blk w' k f t op
  | 0, f, t, _, h, _, _ => h
  | k + 1, f, t, op, h, e, ht => by
    rcases (show f = t ∨ _ from h) with h | ⟨h1, h2, h3, h4, h5⟩
    · exact Or.inl h
    · have ef := e f (Nat.le_refl _) h1
      have b := blk_le k _ _ _ h5
      have eB : kB w' f = kB w f := by unfold kB; rw [ef]
      have eW : kW w' f = kW w f := by unfold kW; rw [ef]
      refine Or.inr ⟨h1, ht, by rw [eB]; exact h3, fun z => ?_, ?_⟩
      · rw [eW] at z
        refine ⟨(h4 z).1, ?_⟩
        rw [eB]
        exact blk_as k _ _ _ (h4 z).2 (fun i p q => e i (by omega) (by omega)) (by omega)
      · rw [eB]
        exact blk_as k _ _ _ h5 (fun i p q => e i (by omega) q) ht
theorem blk_up {w : Wk} : ∀ k f t op, blk w k f t op → blk w (k + 1) f t op
  | 0, f, t, _, h => Or.inl h
  | k + 1, f, t, op, h => by
    rcases (show f = t ∨ _ from h) with h | ⟨h1, h2, h3, h4, h5⟩
    · exact Or.inl h
    · exact Or.inr ⟨h1, h2, h3, fun z => ⟨(h4 z).1, blk_up k _ _ _ (h4 z).2⟩, blk_up k _ _ _ h5⟩
theorem blk_ups {w : Wk} {k f t op : Nat} (h : blk w k f t op) : ∀ j, blk w (k + j) f t op
  | 0 => h
  | j + 1 => blk_up _ _ _ _ (blk_ups h j)
section WStep2
variable {σ τ σ' τ' υ φ : mm_M} {t : Nat → Nat} {m s c op : Nat} {d : Nat}
theorem wN_no2 {ws : List (List Nat)} (h : tkK t m s ≠ 2) : ∀ k, wN t m s ws k = none := by
  induction ws with
  | nil => intro k; rfl
  | cons w r ih => intro k; rw [wN_miss (fun q => h q.1)]; exact ih (k + 1)
theorem u_byteAt (hr : RM τ t m s) {k : Nat} (hk : k < 2000) : ev d 171 [.ref 53, .int (nI k)] τ = some (.inl (.int (byM t m k)), τ) := by
  have := m_byteAt (d := d) (g := mI τ 53) hr.1 hr.2.1 hr.2.2.2.1 hk
  rw [wA_id] at this
  exact this
theorem c_152 {r : Int32} {x2 x4 : Int32} {L : Nat} (h : Sh υ) (hc : c < 38) : rn (d + 1) 79 152 [.ref 16, .ref 1, .ref L, .int x2, .int x4, .int (nI c), .int r] [] υ = some (.inl (.int (nar 1 r)), wI υ 20 c (mI υ 16 4)) := by
  rw [e_Steps_readStep_152, xr_16_3 h, xg_16 h, xt_20 h hc]
theorem tf20 {e p : Nat} {v : Int32} (h : TF kS σ υ e p) : TF kS σ (wI υ 20 c v) e p := by
  have f1 : mI (wI υ 20 c v) 1 = mI υ 1 := rI_o (by decide)
  exact ⟨h.1.wI (by unfold kS; omega) _ _, by rw [f1]; exact h.2.1, by rw [f1]; exact h.2.2.1, by rw [f1]; exact h.2.2.2⟩
/-- a step that is no again -/
theorem step_a {J P k e' : Nat} (hm : m ≤ 150) (hJ : J ≤ 6) (hP : P ≤ 7) (he : op + e' = 6) (hs : s ≤ m) (hc : 4 * c ≤ s) (hw : wN t m s wds3 0 = some k) (hk : k ≤ 4) : SpS t J P m op e' s c := by
  have lt : s < m := wN_lt hw
  have wl := wds3_len hw
  have nx := nxt_le (t := t) hs
  have te : tkE t m s ≤ nxt t m s := (sp_all (P := isB) (t := t) (n := m) (tkE t m s) (tkE_le hs).2.1).1
  have hc38 : c < 38 := by omega
  obtain ⟨r1, p1, c1, m1⟩ := nums (t := t) (k := k) nx.2.1 hJ hP hk
  have n5 : ¬ nI k = (5 : Int32) := fun y => by have := (nI_eq (a := k) (b := 5) (by omega) (by decide)).mp y; omega
  have cpre : ∀ (σ : mm_M) (D : Nat), RS σ t m s → LdC σ J P → mI σ 16 4 = nI c → ∃ x υ υ0, ev (D + 5) 79 [.ref 16, .ref 1, .ref (ldA σ), .int (nI op)] σ = some (.inl (.int x), wI υ 20 c (mI υ 16 4)) ∧ (x = 0 ∨ x = 1) ∧ NrC t m k c υ0 υ x r1 ∧ TG kS σ υ0 ∧ mI υ0 17 c = nI k ∧ mI υ0 16 4 = nI (c + 1) ∧ (∀ i, i ≠ c → mI υ0 17 i = mI σ 17 i) ∧ mI υ0 18 = mI σ 18 ∧ mI υ0 19 = mI σ 19 ∧ mI υ0 20 = mI σ 20 ∧ Sh υ0 := by
    intro σ D hr ld e4
    have hl : ldA σ = 5 ∨ ldA σ = 38 := hr.1.ld
    obtain ⟨υ0, a1, a2, a3, a4, a5, a6, a7, a8, a9⟩ := c_pre (op := op) (d := D) (L := ldA σ) hr hw (by omega) (fun z => by omega) hc38 e4
    have e7 : mI υ0 (ldA σ) 7 = nI P := by rw [a9.1.at (by unfold kS; omega)]; exact ld.1
    have e8 : mI υ0 (ldA σ) 8 = nI J := by rw [a9.1.at (by unfold kS; omega)]; exact ld.2
    obtain ⟨x, υ, b1, b2⟩ := c1 υ0 (D + 1) c (ldA σ) hc38 hr.1.ld a2 a3 e7 e8
    have sh : Sh υ := by
      match r1, b2 with
      | .inl (e, p), b2 => exact b2.2.1.sh a2.1
      | .inr (s', X, Y), b2 => exact b2.2.1.1
    have x01 : x = 0 ∨ x = 1 := by
      match r1, b2 with
      | .inl (e, p), b2 => exact Or.inl b2.1
      | .inr (s', X, Y), b2 => exact Or.inr b2.1
    refine ⟨x, υ, υ0, ?_, x01, b2, a9, a3, a4, a5, a6, a7, a8, a2.1⟩
    rw [a1, show ev (D + 4) 80 [.ref 16, .ref 1, .ref (ldA σ), .int (nI c)] υ0 = _ from b1, cI_ok]
    rcases x01 with rfl | rfl
    · rw [if_pos (show (0 : Int32) = 0 from rfl), c_152 sh hc38, nar1_0]
    · rw [if_neg (show ¬ (1 : Int32) = 0 by decide), if_neg n5, c_152 sh hc38, nar1_1]
  have mpre : ∀ (τ : mm_M) (D : Nat), RM τ t m s → LdM τ J P → mI τ 53 28 = nI c → mI τ 53 8 = nI op → ∃ υ υ0, ev (D + 5) 205 [.ref 53] τ = rn (D + 5) 205 211 [.ref 53, .int (nI k), .ref (453 + c)] [] υ ∧ NrM t m k c υ0 υ r1 ∧ AgM stS sF τ υ0 ∧ Sh υ0 ∧ mI υ0 (453 + c) 0 = nI k ∧ mI υ0 53 28 = nI (c + 1) ∧ mI υ0 53 8 = nI op ∧ (∀ i, i ≠ c → mI υ0 (453 + i) = mI τ (453 + i)) := by
    intro τ D hr ld e28 e8
    obtain ⟨υ0, a1, a2, a3, a4, a5, a6, a7⟩ := m_pre (d := D) hr hw (by omega) (fun z => by omega) (show c < 80 by omega) e28 e8
    have ld' := sF_ld a7 ld
    obtain ⟨υ, b1, b2⟩ := m1 υ0 (D + 2) c (by omega) a2 ld'.1 ld'.2
    exact ⟨υ, υ0, by rw [a1]; exact b1, b2, a7, a2.1, a3, a4, by rw [a5, if_neg (by omega)], a6⟩
  match r1, p1, cpre, mpre with
  | .inl (e, p), p1, cpre, mpre =>
    refine ⟨.inl (e, p), p1, fun σ d K0 K1 hr ld e4 => ?_, fun τ d hr ld e28 e8 => ?_⟩
    · obtain ⟨x, υ, υ0, a1, -, ⟨a3, a4⟩, a5, -⟩ := cpre σ (d + 1 + 2 * e') hr ld e4
      refine ⟨wI υ 20 c (mI υ 16 4), ?_, tf20 (a5.tf (a4.mono (fun _ => n18_kS)))⟩
      rw [show d + 6 + 2 * e' = d + 1 + 2 * e' + 5 by omega, a1, cI_ok, a3, if_pos (show (0 : Int32) = 0 from rfl)]
    · obtain ⟨υ, υ0, a1, a2, a3, a4, -⟩ := mpre τ (d + 1 + e') hr ld e28 e8
      have a2 : MF (fun a => a = 453 + c) f456 υ0 υ e p := a2
      obtain ⟨φ, l1, l2⟩ := l211F (d := d + 1 + e' + 3) (x := nI k) (show c < 80 by omega) (a2.1.sh a4) (mftr a3 (mfup (by omega) a2)) p1.1 p1.2
      refine ⟨φ, ?_, l2⟩
      rw [show d + 6 + e' = d + 1 + e' + 5 by omega, a1]
      exact l1
  | .inr (s2, X, Y), p1, cpre, mpre =>
    obtain ⟨q1, q2, q3, q4, q5, q6⟩ := p1
    have nx2 := nxt_le (t := t) q2
    have pre2 : ∀ (σ : mm_M) (D : Nat), RS σ t m s → LdC σ J P → mI σ 16 4 = nI c → ∃ υ, ev (D + 5) 79 [.ref 16, .ref 1, .ref (ldA σ), .int (nI op)] σ = some (.inl (.int 1), υ) ∧ CSt t m c σ υ s2 (c + 1) (fun _ => (k, X, Y, c + 1)) := by
      intro σ D hr ld e4
      obtain ⟨x, υ, υ0, a1, -, ⟨a3, a4, a5, a6, a7, a8⟩, b1, b2, b3, b4, b5, b6, b7, -⟩ := cpre σ D hr ld e4
      subst a3
      have ag : Ag (fun a => a = 20) υ (wI υ 20 c (mI υ 16 4)) := Ag.wI (S := fun a => a = 20) (Ag.refl _ υ) rfl _ _
      have f1 : mI (wI υ 20 c (mI υ 16 4)) 1 = mI υ 1 := rI_o (by decide)
      have e16 : mI υ 16 = mI υ0 16 := a8.1.at (by unfold n18; omega)
      have e17 : mI υ 17 = mI υ0 17 := a8.1.at (by unfold n18; omega)
      have e20 : mI υ 20 = mI υ0 20 := a8.1.at (by unfold n18; omega)
      have tg : TG kS σ υ := b1.trans (a8.mono (fun _ => n18_kS))
      refine ⟨wI υ 20 c (mI υ 16 4), a1, a4.ag ag (by omega) (by omega) (fun x hx => by omega), by rw [rI_o (by decide), e16]; exact b3, fun i h1 h2 => ?_, fun i hi => ?_, ⟨tg.1.wI (by unfold kS; omega) _ _, by rw [f1]; exact tg.2.1, by rw [f1]; exact tg.2.2.1, by rw [f1]; exact tg.2.2.2⟩⟩
      · have : i = c := by omega
        subst this
        exact ⟨by rw [rI_o (by decide), e17]; exact b2, fun z => by rw [rI_o (by decide)]; exact a5 z, fun z => by rw [rI_o (by decide)]; exact a6 z, by rw [rI_w, if_pos ⟨rfl, rfl⟩, e16]; exact b3⟩
      · have ne : i ≠ c := by omega
        refine ⟨by rw [rI_o (by decide), e17]; exact b4 i ne, by rw [rI_o (by decide), (a7 i ne).1, b5], by rw [rI_o (by decide), (a7 i ne).2, b6], by rw [rI_w, if_neg (fun z => ne z.2), e20, b7]⟩
    have mpr2 : ∀ (τ : mm_M) (D : Nat), RM τ t m s → LdM τ J P → mI τ 53 28 = nI c → mI τ 53 8 = nI op → ∃ υ, ev (D + 5) 205 [.ref 53] τ = (cV (ev (D + 4) 182 [.ref 53, .int (nI 59)] υ) fun σ3 => some (Sum.inl uv, σ3)) ∧ MSt t m c op τ υ s2 (c + 1) (fun _ => (k, X, Y, c + 1)) := by
      intro τ D hr ld e28 e8
      obtain ⟨υ, υ0, a1, ⟨b1, b2, b3, b4, b5, b6⟩, a3, a4, a5, a6, a7, a8⟩ := mpre τ D hr ld e28 e8
      have e28' : mI υ 53 28 = nI (c + 1) := by rw [b6.f (show ¬ (28 : Nat) = 4 by decide)]; exact a6
      have ag0 : AgM (fun a => a = 453 + c) nS0 υ (wI υ (453 + c) 3 (nI (c + 1))) := AgM.of (Ag.wI (S := fun a => a = 453 + c) (Ag.refl _ υ) rfl _ _) (fun _ q => q) (by omega)
      refine ⟨wI υ (453 + c) 3 (nI (c + 1)), ?_, b1.agm ag0 (by omega) (fun q => q) (fun q => q) (fun q => q), by rw [rI_o (by omega)]; exact e28', by rw [rI_o (by omega), b6.f (show ¬ (8 : Nat) = 4 by decide)]; exact a7, fun i h1 h2 => ?_, fun i hi => ?_, (a3.trans (agup (by omega) b6)).trans (ag0.mono (fun a q => by unfold stS; omega) (fun _ q => q.elim))⟩
      · rw [a1, e_M_readsStep_211, xg_53 b1.1, e28', show tI υ (453 + c) 3 = tI υ (453 + c) (nI 3) from rfl, xt_r452 b1.1 (by omega) (by decide)]
        rfl
      · have : i = c := by omega
        subst this
        have w : ∀ j, j ≠ 3 → mI (wI υ (453 + i) 3 (nI (i + 1))) (453 + i) j = mI υ (453 + i) j := fun j hj => by rw [rI_w, if_neg (fun z => hj z.2)]
        exact ⟨by rw [w 0 (by decide), b5]; exact a5, by rw [rI_w, if_pos ⟨rfl, rfl⟩], fun z => ⟨by rw [w 1 (by decide)]; exact (b2 z).1, by rw [w 2 (by decide)]; exact (b2 z).2⟩, fun z => ⟨by rw [w 1 (by decide)]; exact (b3 z).1, by rw [w 2 (by decide)]; exact (b3 z).2⟩, fun z y => by rw [w 1 (by decide)]; exact b4 z y⟩
      · rw [rI_o (by omega), b6.at (by omega) (by omega)]
        exact a8 i (by omega)
    have rok : RowOK J P (k, X, Y, c + 1) := ⟨by show k ≤ 5; omega, by show c + 1 ≤ 38; omega, q3, q4, q5, q6, fun z => by have z : k = 5 := z; omega⟩
    by_cases sg : s2 < m ∧ t s2 = 59
    · have l2 := nx2.2.2 sg.1
      refine ⟨.inr (nxt t m s2, c + 1, fun _ => (k, X, Y, c + 1)), ⟨by omega, nx2.2.1, by omega, by omega, fun i _ _ => rok, rfl, fun z => by have z : k = 5 := z; omega⟩, fun σ d K0 K1 hr ld e4 => ?_, fun τ d hr ld e28 e8 => ?_⟩
      · obtain ⟨υ, a1, a2, a3, a4, a5, a6⟩ := pre2 σ (d + 1 + 2 * e') hr ld e4
        obtain ⟨φ, w1, w2, w3⟩ := (t_take (d := d + 5 + 2 * e') a2 sg59).1 sg
        refine ⟨φ, ?_, w2, by rw [w3.1.at (show ¬ (16 : Nat) = 1 by decide)]; exact a3, fun i h1 h2 => CRow_o (a4 i h1 h2) (by rw [w3.1.at (show ¬ (17 : Nat) = 1 by decide)]) (by rw [w3.1.at (show ¬ (18 : Nat) = 1 by decide)]) (by rw [w3.1.at (show ¬ (19 : Nat) = 1 by decide)]) (by rw [w3.1.at (show ¬ (20 : Nat) = 1 by decide)]), a5.trans (kS_RSm w3.1 n1_17 c), a6.trans (w3.mono (fun _ => at1_kS))⟩
        rw [show ev (d + 6 + 2 * e') 79 [.ref 16, .ref 1, .ref (ldA σ), .int (nI op)] σ = some (.inl (.int 1), υ) by rw [show d + 6 + 2 * e' = d + 1 + 2 * e' + 5 by omega]; exact a1, cI_ok, if_neg (show ¬ (1 : Int32) = 0 by decide), show ev (d + 6 + 2 * e') 20 [.ref 1, .int 59] υ = some (.inl (.int 1), φ) by rw [show d + 6 + 2 * e' = d + 5 + 2 * e' + 1 by omega]; exact w1, cI1_ok, if_neg (show ¬ (1 : Int32) = 0 by decide)]
      · obtain ⟨υ, a1, a2, a3, a4, a5, a6, a7⟩ := mpr2 τ (d + 1 + e') hr ld e28 e8
        obtain ⟨φ, w1, w2, w3⟩ := (u_sign (d := d + 1 + e' + 2) a2 sg59).1 sg
        refine ⟨φ, ?_, w2, by rw [w3.f (show ¬ (28 : Nat) = 4 by decide)]; exact a3, by rw [w3.f (show ¬ (8 : Nat) = 4 by decide)]; exact a4, fun i h1 h2 => MRow_o (a5 i h1 h2) (w3.at (by omega) (fun q => q)), fun i hi => by rw [w3.at (by omega) (fun q => q)]; exact a6 i hi, a7.trans (ag4 w3)⟩
        rw [show d + 6 + e' = d + 1 + e' + 5 by omega, a1, w1, cV_ok]
    · refine ⟨.inl (1, s2), ⟨by decide, by decide⟩, fun σ d K0 K1 hr ld e4 => ?_, fun τ d hr ld e28 e8 => ?_⟩
      · obtain ⟨υ, a1, a2, a3, a4, a5, a6⟩ := pre2 σ (d + 1 + 2 * e') hr ld e4
        obtain ⟨φ, w1, w2⟩ := (t_take (d := d + 5 + 2 * e') a2 sg59).2 sg
        refine ⟨φ, ?_, a6.tf (w2.mono (fun _ => at1_kS))⟩
        rw [show ev (d + 6 + 2 * e') 79 [.ref 16, .ref 1, .ref (ldA σ), .int (nI op)] σ = some (.inl (.int 1), υ) by rw [show d + 6 + 2 * e' = d + 1 + 2 * e' + 5 by omega]; exact a1, cI_ok, if_neg (show ¬ (1 : Int32) = 0 by decide), show ev (d + 6 + 2 * e') 20 [.ref 1, .int 59] υ = some (.inl (.int 0), φ) by rw [show d + 6 + 2 * e' = d + 5 + 2 * e' + 1 by omega]; exact w1, cI1_ok, if_pos (show (0 : Int32) = 0 from rfl)]
      · obtain ⟨υ, a1, a2, a3, a4, a5, a6, a7⟩ := mpr2 τ (d + 1 + e') hr ld e28 e8
        obtain ⟨φ, w1, w2⟩ := (u_sign (d := d + 1 + e' + 2) a2 sg59).2 sg
        refine ⟨φ, ?_, mftr a7 (mf4 w2)⟩
        rw [show d + 6 + e' = d + 1 + e' + 5 by omega, a1, w1, cV_ok]
end WStep2
