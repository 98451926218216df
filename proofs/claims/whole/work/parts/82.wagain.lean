/-! WORK as a text: no step, one too many, an again -/
section WStep3
variable {σ τ σ' τ' υ φ : mm_M} {t : Nat → Nat} {m s c op : Nat} {d : Nat}
theorem sp_flt {J P e' e p : Nat} (e1 : 1 ≤ e) (e3 : e ≤ 3) (hc : ∀ (σ : mm_M) (d : Nat), RS σ t m s → LdC σ J P → mI σ 16 4 = nI c → ∃ υ, ev (d + 6 + 2 * e') 79 [.ref 16, .ref 1, .ref (ldA σ), .int (nI op)] σ = some (.inl (.int 0), υ) ∧ TF kS σ υ e p)
    (hr : ∀ (τ : mm_M) (d : Nat), RM τ t m s → LdM τ J P → mI τ 53 28 = nI c → mI τ 53 8 = nI op → ∃ υ, ev (d + 6 + e') 205 [.ref 53] τ = some (.inl uv, υ) ∧ MF stS sF τ υ e p) : SpS t J P m op e' s c := by
  refine ⟨.inl (e, p), ⟨e1, e3⟩, fun σ d K0 K1 h ld e4 => ?_, fun τ d a b x y => hr τ d a b x y⟩
  obtain ⟨υ, a1, a2⟩ := hc σ d h ld e4
  exact ⟨υ, by rw [a1, cI_ok, if_pos rfl], a2⟩
theorem sp_sem {J P e' s2 e1 : Nat} {f : RFn} (h1 : s ≤ s2) (h2 : s2 ≤ m) (ce : c < e1) (h4 : 4 * e1 ≤ s2 + 1) (rok : ∀ i, c ≤ i → i < e1 → RowOK J P (f i)) (hb : (f c).2.2.2 = e1) (h5 : (f c).1 = 5 → op < 6 ∧ ∃ k, blk (e1, f) k (c + 1) e1 (op + 1)) (h80 : e1 ≤ 80)
    (hc : ∀ (σ : mm_M) (d : Nat), RS σ t m s → LdC σ J P → mI σ 16 4 = nI c → ∃ υ, ev (d + 6 + 2 * e') 79 [.ref 16, .ref 1, .ref (ldA σ), .int (nI op)] σ = some (.inl (.int 1), υ) ∧ CSt t m c σ υ s2 e1 f)
    (hr : ∀ (τ : mm_M) (d : Nat), RM τ t m s → LdM τ J P → mI τ 53 28 = nI c → mI τ 53 8 = nI op → ∃ υ, ev (d + 6 + e') 205 [.ref 53] τ = (cV (ev (d + 5 + e') 182 [.ref 53, .int (nI 59)] υ) fun σ3 => some (Sum.inl uv, σ3)) ∧ MSt t m c op τ υ s2 e1 f) : SpS t J P m op e' s c := by
  have nx2 := nxt_le (t := t) h2
  by_cases sg : s2 < m ∧ t s2 = 59
  · have l2 := nx2.2.2 sg.1
    refine ⟨.inr (nxt t m s2, e1, f), ⟨by omega, nx2.2.1, ce, by omega, rok, hb, h5⟩, fun σ d K0 K1 h ld e4 => ?_, fun τ d h ld e28 e8 => ?_⟩
    · obtain ⟨υ, a1, a2, a3, a4, a5, a6⟩ := hc σ d h ld e4
      obtain ⟨φ, w1, w2, w3⟩ := (t_take (d := d + 5 + 2 * e') a2 sg59).1 sg
      refine ⟨φ, ?_, w2, by rw [w3.1.at (show ¬ (16 : Nat) = 1 by decide)]; exact a3, fun i h1 h2 => CRow_o (a4 i h1 h2) (by rw [w3.1.at (show ¬ (17 : Nat) = 1 by decide)]) (by rw [w3.1.at (show ¬ (18 : Nat) = 1 by decide)]) (by rw [w3.1.at (show ¬ (19 : Nat) = 1 by decide)]) (by rw [w3.1.at (show ¬ (20 : Nat) = 1 by decide)]), a5.trans (kS_RSm w3.1 n1_17 c), a6.trans (w3.mono (fun _ => at1_kS))⟩
      rw [a1, cI_ok, if_neg (show ¬ (1 : Int32) = 0 by decide), show ev (d + 6 + 2 * e') 20 [.ref 1, .int 59] υ = some (.inl (.int 1), φ) by (rw [show d + 6 + 2 * e' = d + 5 + 2 * e' + 1 by omega]; exact w1), cI1_ok, if_neg (show ¬ (1 : Int32) = 0 by decide)]
    · obtain ⟨υ, a1, a2, a3, a4, a5, a6, a7⟩ := hr τ d h ld e28 e8
      obtain ⟨φ, w1, w2, w3⟩ := (u_sign (d := d + 3 + e') a2 sg59).1 sg
      refine ⟨φ, ?_, w2, by rw [w3.f (show ¬ (28 : Nat) = 4 by decide)]; exact a3, by rw [w3.f (show ¬ (8 : Nat) = 4 by decide)]; exact a4, fun i h1 h2 => MRow_o (a5 i h1 h2) (w3.at (by omega) (fun q => q)), fun i hi => by rw [w3.at (by omega) (fun q => q)]; exact a6 i hi, a7.trans (ag4 w3)⟩
      rw [a1, show d + 5 + e' = d + 3 + e' + 2 by omega, w1, cV_ok]
  · refine ⟨.inl (1, s2), ⟨by decide, by decide⟩, fun σ d K0 K1 h ld e4 => ?_, fun τ d h ld e28 e8 => ?_⟩
    · obtain ⟨υ, a1, a2, a3, a4, a5, a6⟩ := hc σ d h ld e4
      obtain ⟨φ, w1, w2⟩ := (t_take (d := d + 5 + 2 * e') a2 sg59).2 sg
      refine ⟨φ, ?_, a6.tf (w2.mono (fun _ => at1_kS))⟩
      rw [a1, cI_ok, if_neg (show ¬ (1 : Int32) = 0 by decide), show ev (d + 6 + 2 * e') 20 [.ref 1, .int 59] υ = some (.inl (.int 0), φ) by (rw [show d + 6 + 2 * e' = d + 5 + 2 * e' + 1 by omega]; exact w1), cI1_ok, if_pos (show (0 : Int32) = 0 from rfl)]
    · obtain ⟨υ, a1, a2, a3, a4, a5, a6, a7⟩ := hr τ d h ld e28 e8
      obtain ⟨φ, w1, w2⟩ := (u_sign (d := d + 3 + e') a2 sg59).2 sg
      refine ⟨φ, ?_, mftr a7 (mf4 w2)⟩
      rw [a1, show d + 5 + e' = d + 3 + e' + 2 by omega, w1, cV_ok]
theorem step_n {J P e' : Nat} (hw : wN t m s wds3 0 = none) : SpS t J P m op e' s c := by
  refine sp_flt (e := 1) (p := s) (by decide) (by decide) (fun σ d hr ld e4 => ?_) (fun τ d hr ld e28 e8 => ?_)
  · have w := t_wordOf (d := d + 1 + 2 * e') hr (i := 3) (by decide) str3
    rw [wN_ok, hw] at w
    obtain ⟨υ, f1, f2⟩ := t_fail (d := d + 5 + 2 * e') hr 1 s
    refine ⟨υ, ?_, f2.mono (fun _ => at1_kS)⟩
    rw [show d + 6 + 2 * e' = d + 5 + 2 * e' + 1 by omega, e_Steps_readStep (d + 5 + 2 * e') 16 1 (ldA σ) (nI op) σ (by rw [k_16 hr.1]), show ev (d + 5 + 2 * e') 22 [.ref 1, .ref 1000005] σ = some (.inl (.int (-1)), σ) by (rw [show d + 5 + 2 * e' = d + 1 + 2 * e' + 4 by omega]; exact w), cI1_ok, if_pos rfl, xg_1 hr.1, (t_kind hr).2, show ev (d + 5 + 2 * e') 23 [.ref 1, .int 1, .int (nI s)] σ = _ from f1, cI1_ok, nar1_0]
  · obtain ⟨υ, f1, f2⟩ := m_noStep (d := d + 1 + e') hr hw
    exact ⟨υ, by rw [show d + 6 + e' = d + 1 + e' + 5 by omega]; exact f1, f2⟩
theorem step_o {J P : Nat} (hw : wN t m s wds3 0 = some 5) : SpS t J P m 6 0 s c := by
  refine sp_flt (e := 3) (p := s) (by decide) (by decide) (fun σ d hr ld e4 => ?_) (fun τ d hr ld e28 e8 => ?_)
  · have w := t_wordOf (d := d + 1) hr (i := 3) (by decide) str3
    rw [wN_ok, hw] at w
    obtain ⟨υ, f1, f2⟩ := t_fail (d := d + 5) hr 3 s
    refine ⟨υ, ?_, f2.mono (fun _ => at1_kS)⟩
    rw [show d + 6 + 2 * 0 = d + 5 + 1 by omega, e_Steps_readStep (d + 5) 16 1 (ldA σ) (nI 6) σ (by rw [k_16 hr.1]), show ev (d + 5) 22 [.ref 1, .ref 1000005] σ = some (.inl (.int (nI 5)), σ) from w, cI1_ok, if_neg (nI_m1 (k := 5) (by decide)), if_pos (show nI 5 = (5 : Int32) from rfl), if_neg (show ¬ nI 6 < (6 : Int32) by decide), xg_1 hr.1, (t_kind hr).2, show ev (d + 5) 23 [.ref 1, .int 3, .int (nI s)] σ = _ from f1, cI1_ok, nar1_0]
  · obtain ⟨τ1, a1, a2, a3, a4⟩ := u_stepHere (d := d + 1) hr
    rw [hw] at a1
    have e8' : mI τ1 53 8 = nI 6 := by rw [a3.f (show ¬ (8 : Nat) = 4 by decide)]; exact e8
    obtain ⟨-, o2⟩ := u_opens (d := d + 4) a2 a4 e8' (Nat.le_refl 6)
    obtain ⟨υ, g1, g2⟩ := o2 (by decide)
    refine ⟨υ, ?_, mftr (ag4 a3) (mf4 g2)⟩
    rw [show d + 6 + 0 = d + 5 + 1 by omega, e_M_readsStep (d + 5) 53 τ (by rw [k_53 hr.1]), show ev (d + 5) 204 [.ref 53] τ = some (.inl (.int (nI 5)), τ1) from a1, cI_ok, if_neg (nI_m1 (k := 5) (by decide)), e_M_readsStep_19, if_pos (show nI 5 = (5 : Int32) from rfl), show ev (d + 5) 196 [.ref 53] τ1 = _ from g1, cI_ok, if_pos rfl]
theorem ftail {row e p : Nat} {x : Int32} (hr : row < 80) (h : RM τ t m s) (mf : MF stS sF τ υ e p) (e1 : 1 ≤ e) (e3 : e ≤ 3) : ∃ φ, (cV (ev (d + 1) 172 [.ref 53] υ) fun σ5 => rn (d + 2) 205 164 [.ref 53, .int x, .ref (453 + row)] [] σ5) = some (.inl uv, φ) ∧ MF stS sF τ φ e p := by
  obtain ⟨φ, b1, b2⟩ := blF (d := d) h.1 h.2.1 h.2.2.2.1 mf
  obtain ⟨ψ, l1, l2⟩ := l164F (d := d) (x := x) hr (b2.1.sh h.1) b2 e1 e3
  exact ⟨ψ, by rw [b1, cV_ok]; exact l1, l2⟩
theorem c_149 {r : Int32} {x2 x4 : Int32} {L : Nat} (h : Sh υ) (hc : c < 38) : rn (d + 1) 79 149 [.ref 16, .ref 1, .ref L, .int x2, .int x4, .int (nI c), .int r] [] υ = some (.inl (.int 0), wI υ 20 c (mI υ 16 4)) := by
  rw [e_Steps_readStep_149, e_Steps_readStep_150, c_152 h hc, nar1_0]
theorem n80 {L : Nat} {x : Int32} (h38 : c < 38) (hr : Sh σ) (e17 : mI σ 17 c = nI 5) (h : ev (d + 2) 81 [.ref 16, .ref 1, .int (nI c), .int 0, .int 60] σ = some (.inl (.int x), υ)) (hx : x = 0 ∨ x = 1) : ev (d + 3) 80 [.ref 16, .ref 1, .ref L, .int (nI c)] σ = some (.inl (.int x), υ) := by
  rw [e_Steps_readNumbers (d + 2) 16 1 L (nI c) σ (by rw [k_16 hr]), xr_16_0 hr, xa_17 hr h38, e17, show swT 6 144 0 5 #[38, 76, 110, 124, 144, 134] (nI 5) = 140 by decide, e_Steps_readNumbers_140, h, cI_ok]
  rcases hx with rfl | rfl
  · rw [nar1_0]
  · rw [nar1_1]
theorem m_ex5 (D row : Nat) (υ : mm_M) : Ex (D + 6) 5 row υ = cI (ev (D + 4 + 2) 176 [.ref 53, .int (nI 0), .int 60] υ) fun r2 σ1 => tI σ1 (453 + row) (nI 1) r2 fun σ3 => cV (ev (D + 6) 182 [.ref 53, .int (nI 91)] σ3) fun σ4 => cV (ev (D + 6) 172 [.ref 53] σ4) fun σ5 => rn (D + 7) 205 164 [.ref 53, .int (nI 5), .ref (453 + row)] [] σ5 := by
  unfold Ex
  rw [if_neg (show ¬ nI 5 = (0 : Int32) by decide), e_M_readsStep_88, if_pos (by decide), e_M_readsStep_109, if_neg (by decide), e_M_readsStep_124, if_neg (by decide), e_M_readsStep_139, if_pos (show nI 5 = (5 : Int32) from rfl)]
  rfl
theorem byM_ne93 {τ : mm_M} (hr : RM τ t m s) (h : ¬ (s < m ∧ t s = 93)) : ¬ byM t m s = (93 : Int32) := fun z => by
  have z : byM t m s = nI 93 := z
  rw [byM_eq hr.2.1 (by decide)] at z
  exact h z
theorem tg20 {v : Int32} (h : TG kS σ υ) : TG kS σ (wI υ 20 c v) := by
  have f1 : mI (wI υ 20 c v) 1 = mI υ 1 := rI_o (by decide)
  exact ⟨h.1.wI (by unfold kS; omega) _ _, by rw [f1]; exact h.2.1, by rw [f1]; exact h.2.2.1, by rw [f1]; exact h.2.2.2⟩
/-- an again -/
theorem step_g {J P e' : Nat} (hm : m ≤ 150) (he : op + (e' + 1) = 6) (hs : s ≤ m) (hc : 4 * c ≤ s) (hw : wN t m s wds3 0 = some 5) (hB : ∀ s c, s ≤ m → 4 * c ≤ s → SpB t J P m (op + 1) e' s c) : SpS t J P m op (e' + 1) s c := by
  have lt : s < m := wN_lt hw
  have wl5 := (wds3_len hw).2.1 rfl
  have nx := nxt_le (t := t) hs
  have te : tkE t m s ≤ nxt t m s := (sp_all (P := isB) (t := t) (n := m) (tkE t m s) (tkE_le hs).2.1).1
  have hc38 : c < 38 := by omega
  have hi60 : isHi 60 61 := hi_s (m := 60) (by decide)
  have nx2 := nxt_le (t := t) nx.2.1
  have nx3 := nxt_le (t := t) nx2.2.1
  have cpre := fun (σ : mm_M) (D : Nat) (hr : RS σ t m s) (e4 : mI σ 16 4 = nI c) => c_pre (d := D + 3) (L := ldA σ) hr hw (show op ≤ 6 by omega) (fun _ => by omega) hc38 e4
  have mpre := fun (τ : mm_M) (D : Nat) (hr : RM τ t m s) (e28 : mI τ 53 28 = nI c) (e8 : mI τ 53 8 = nI op) => m_pre (d := D + 2) hr hw (show op ≤ 6 by omega) (fun _ => by omega) (show c < 80 by omega) e28 e8
  cases hX : pN t m (nxt t m s) 0 61 with
  | inl e =>
    obtain ⟨p1, p3⟩ := pN_e hX
    refine sp_flt (e := e) (p := nxt t m s) p1 p3 (fun σ d hr ld e4 => ?_) (fun τ d hr ld e28 e8 => ?_)
    · obtain ⟨υ0, a1, a2, a3, a4, a5, a6, a7, a8, a9⟩ := cpre σ (d + 2 * e') hr e4
      obtain ⟨υ, f1, f2⟩ := (c_first (d := d + 2 * e' + 4) a2 hc38 (Nat.zero_le 1) hi60).2 e hX
      have n8 := n80 (d := d + 2 * e' + 4) (L := ldA σ) hc38 a2.1 a3 f1 (Or.inl rfl)
      refine ⟨wI υ 20 c (mI υ 16 4), ?_, tf20 (a9.tf (f2.mono (fun _ => n18_kS)))⟩
      rw [show d + 6 + 2 * (e' + 1) = d + 2 * e' + 3 + 5 by omega, a1, show ev (d + 2 * e' + 3 + 4) 80 [.ref 16, .ref 1, .ref (ldA σ), .int (nI c)] υ0 = _ from n8, cI_ok, if_pos rfl, c_152 (f2.1.sh a2.1) hc38, nar1_0]
    · obtain ⟨υ0, a1, a2, a3, a4, a5, a6, a7⟩ := mpre τ (d + e') hr e28 e8
      obtain ⟨υ, f1, f2⟩ := (m_num (d := d + e' + 4) (K := fun σ3 => cV (ev (d + e' + 6) 182 [.ref 53, .int (nI 91)] σ3) fun σ4 => cV (ev (d + e' + 6) 172 [.ref 53] σ4) fun σ5 => rn (d + e' + 7) 205 164 [.ref 53, .int (nI 5), .ref (453 + c)] [] σ5) a2 (show c < 80 by omega) (show 1 < 4 by decide) (Nat.zero_le 1) hi60).2 e hX
      have mf := mftr a7 (mfup (show c < 80 by omega) f2)
      obtain ⟨φ, t1, t2⟩ := ftail (d := d + e' + 5) (x := nI 5) (show c < 80 by omega) hr mf p1 p3
      refine ⟨φ, ?_, t2⟩
      rw [show d + 6 + (e' + 1) = d + e' + 2 + 5 by omega, a1, show Ex (d + e' + 2 + 4) 5 c υ0 = _ from m_ex5 (d + e') c υ0, f1, u_signF (d := d + e' + 5) (f2.1.sh a2.1) (f2.bad p1 p3), cV_ok]
      exact t1
  | inr X =>
    have bX := pN_i hX
    have cnum : ∀ (σ : mm_M) (d : Nat), RS σ t m s → mI σ 16 4 = nI c → ∃ υ, ev (d + 2 * e' + 8) 79 [.ref 16, .ref 1, .ref (ldA σ), .int (nI op)] σ = (cI1 (ev (d + 2 * e' + 7) 20 [.ref 1, .int 91] υ) fun r11 σ10 => if r11 = 0 then rn (d + 2 * e' + 8) 79 149 [.ref 16, .ref 1, .ref (ldA σ), .int (nI op), .int (nI 5), .int (nI c), .int 1] [] σ10 else cI (ev (d + 2 * e' + 7) 78 [.ref 16, .ref 1, .ref (ldA σ), .int (nI op + (1 : Int32))] σ10) fun r13 σ12 => if r13 = 0 then rn (d + 2 * e' + 8) 79 149 [.ref 16, .ref 1, .ref (ldA σ), .int (nI op), .int (nI 5), .int (nI c), .int 1] [] σ12 else cI1 (ev (d + 2 * e' + 7) 20 [.ref 1, .int 93] σ12) fun r15 σ14 => if r15 = 0 then rn (d + 2 * e' + 8) 79 149 [.ref 16, .ref 1, .ref (ldA σ), .int (nI op), .int (nI 5), .int (nI c), .int 1] [] σ14 else rn (d + 2 * e' + 8) 79 150 [.ref 16, .ref 1, .ref (ldA σ), .int (nI op), .int (nI 5), .int (nI c), .int 1] [.int 1] σ14) ∧
        RS υ t m (nxt t m (nxt t m s)) ∧ TG kS σ υ ∧ mI υ 17 c = nI 5 ∧ mI υ 18 c = nI X ∧ mI υ 16 4 = nI (c + 1) ∧ (∀ i, i ≠ c → mI υ 17 i = mI σ 17 i ∧ mI υ 18 i = mI σ 18 i) ∧ mI υ 19 = mI σ 19 ∧ mI υ 20 = mI σ 20 := by
      intro σ d hr e4
      obtain ⟨υ0, a1, a2, a3, a4, a5, a6, a7, a8, a9⟩ := cpre σ (d + 2 * e') hr e4
      obtain ⟨υ, f1, f2, f3, f4, f5, f6⟩ := (c_first (d := d + 2 * e' + 4) a2 hc38 (Nat.zero_le 1) hi60).1 X hX
      have n8 := n80 (d := d + 2 * e' + 4) (L := ldA σ) hc38 a2.1 a3 f1 (Or.inr rfl)
      refine ⟨υ, ?_, f2, a9.trans (f6.mono (fun _ => n18_kS)), by rw [f6.1.at (by unfold n18; omega)]; exact a3, f3, by rw [f6.1.at (by unfold n18; omega)]; exact a4, fun i hi => ⟨by rw [f6.1.at (by unfold n18; omega)]; exact a5 i hi, by rw [f4 i hi, a6]⟩, by rw [f5, a7], by rw [f6.1.at (by unfold n18; omega), a8]⟩
      rw [show d + 2 * e' + 8 = d + 2 * e' + 3 + 5 by omega, a1, show ev (d + 2 * e' + 3 + 4) 80 [.ref 16, .ref 1, .ref (ldA σ), .int (nI c)] υ0 = _ from n8, cI_ok, if_neg (show ¬ (1 : Int32) = 0 by decide), if_pos (show nI 5 = (5 : Int32) from rfl)]
    have mnum : ∀ (τ : mm_M) (d : Nat), RM τ t m s → mI τ 53 28 = nI c → mI τ 53 8 = nI op → ∃ υ, ev (d + e' + 7) 205 [.ref 53] τ = (cV (ev (d + e' + 6) 182 [.ref 53, .int (nI 91)] υ) fun σ4 => cV (ev (d + e' + 6) 172 [.ref 53] σ4) fun σ5 => rn (d + e' + 7) 205 164 [.ref 53, .int (nI 5), .ref (453 + c)] [] σ5) ∧ RM υ t m (nxt t m (nxt t m s)) ∧ AgM stS sF τ υ ∧ mI υ (453 + c) 0 = nI 5 ∧ mI υ (453 + c) 1 = nI X ∧ mI υ 53 28 = nI (c + 1) ∧ mI υ 53 8 = nI (op + 1) ∧ (∀ i, i ≠ c → mI υ (453 + i) = mI τ (453 + i)) := by
      intro τ d hr e28 e8
      obtain ⟨υ0, a1, a2, a3, a4, a5, a6, a7⟩ := mpre τ (d + e') hr e28 e8
      obtain ⟨υ, f1, f2, f3, f4, f5⟩ := (m_num (d := d + e' + 4) (K := fun σ3 => cV (ev (d + e' + 6) 182 [.ref 53, .int (nI 91)] σ3) fun σ4 => cV (ev (d + e' + 6) 172 [.ref 53] σ4) fun σ5 => rn (d + e' + 7) 205 164 [.ref 53, .int (nI 5), .ref (453 + c)] [] σ5) a2 (show c < 80 by omega) (show 1 < 4 by decide) (Nat.zero_le 1) hi60).1 X hX
      refine ⟨υ, ?_, f2, a7.trans (agup (by omega) f5), by rw [f4 0 (by decide)]; exact a3, f3, by rw [f5.f (show ¬ (28 : Nat) = 4 by decide)]; exact a4, by rw [f5.f (show ¬ (8 : Nat) = 4 by decide), a5, if_pos rfl], fun i hi => by rw [f5.at (by omega) (by omega)]; exact a6 i hi⟩
      rw [show d + e' + 7 = d + e' + 2 + 5 by omega, a1, show Ex (d + e' + 2 + 4) 5 c υ0 = _ from m_ex5 (d + e') c υ0]
      exact f1
    clear cpre mpre
    by_cases g1 : nxt t m (nxt t m s) < m ∧ t (nxt t m (nxt t m s)) = 91
    · obtain ⟨rB, fB, cB, mB⟩ := hB (nxt t m (nxt t m (nxt t m s))) (c + 1) nx3.2.1 (by omega)
      -- the class up to the block's end
      have cblk : ∀ (σ : mm_M) (d : Nat), RS σ t m s → LdC σ J P → mI σ 16 4 = nI c → ∃ x υ1 υ2, ev (d + 2 * e' + 8) 79 [.ref 16, .ref 1, .ref (ldA σ), .int (nI op)] σ = (if x = 0 then rn (d + 2 * e' + 8) 79 149 [.ref 16, .ref 1, .ref (ldA σ), .int (nI op), .int (nI 5), .int (nI c), .int 1] [] υ2 else cI1 (ev (d + 2 * e' + 7) 20 [.ref 1, .int 93] υ2) fun r15 σ14 => if r15 = 0 then rn (d + 2 * e' + 8) 79 149 [.ref 16, .ref 1, .ref (ldA σ), .int (nI op), .int (nI 5), .int (nI c), .int 1] [] σ14 else rn (d + 2 * e' + 8) 79 150 [.ref 16, .ref 1, .ref (ldA σ), .int (nI op), .int (nI 5), .int (nI c), .int 1] [.int 1] σ14) ∧ CbR t m (c + 1) x υ1 υ2 rB ∧ Sh υ1 ∧ TG kS σ υ1 ∧ mI υ1 17 c = nI 5 ∧ mI υ1 18 c = nI X ∧ (∀ i, i ≠ c → mI υ1 17 i = mI σ 17 i ∧ mI υ1 18 i = mI σ 18 i) ∧ mI υ1 19 = mI σ 19 ∧ mI υ1 20 = mI σ 20 := by
        intro σ d hr ld e4
        obtain ⟨υ, a1, a2, a3, a4, a5, a6, a7, a8, a9⟩ := cnum σ d hr e4
        obtain ⟨υ1, w1, w2, w3⟩ := (t_take (d := d + 2 * e' + 6) a2 sg91).1 g1
        have tg : TG kS σ υ1 := a3.trans (w3.mono (fun _ => at1_kS))
        obtain ⟨x, υ2, b1, b2⟩ := cB υ1 d 0 (Nat.zero_le _) w2 (kS_ld hr.1 tg.1 ld) (by rw [w3.1.at (show ¬ (16 : Nat) = 1 by decide)]; exact a6)
        refine ⟨x, υ1, υ2, ?_, b2, w2.1, tg, by rw [w3.1.at (show ¬ (17 : Nat) = 1 by decide)]; exact a4, by rw [w3.1.at (show ¬ (18 : Nat) = 1 by decide)]; exact a5, fun i hi => ⟨by rw [w3.1.at (show ¬ (17 : Nat) = 1 by decide)]; exact (a7 i hi).1, by rw [w3.1.at (show ¬ (18 : Nat) = 1 by decide)]; exact (a7 i hi).2⟩, by rw [w3.1.at (show ¬ (19 : Nat) = 1 by decide)]; exact a8, by rw [w3.1.at (show ¬ (20 : Nat) = 1 by decide)]; exact a9⟩
        rw [tg.1.ld, show d + 7 + 2 * e' = d + 2 * e' + 7 by omega] at b1
        rw [a1, show ev (d + 2 * e' + 7) 20 [.ref 1, .int 91] υ = _ from w1, cI1_ok, if_neg (show ¬ (1 : Int32) = 0 by decide), e_Steps_readBlock (d + 2 * e' + 6) 16 1 (ldA σ) (nI op + 1) υ1 (by rw [k_16 w2.1]), nI_1, show rn (d + 2 * e' + 6 + 1) 78 3 [.ref 16, .ref 1, .ref (ldA σ), .int (nI (op + 1)), .int 0] [] υ1 = _ from b1, cI_ok]
      have mblk : ∀ (τ : mm_M) (d : Nat), RM τ t m s → LdM τ J P → mI τ 53 28 = nI c → mI τ 53 8 = nI op → ∃ υ1 υ2, MbR t m (c + 1) (op + 1) (fun σ5 => rn (d + e' + 7) 205 164 [.ref 53, .int (nI 5), .ref (453 + c)] [] σ5) (fun σ5 => rn (d + e' + 7) 205 195 [.ref 53, .int (nI 5), .ref (453 + c)] [] σ5) (ev (d + e' + 7) 205 [.ref 53] τ) υ1 υ2 rB ∧ AgM stS sF τ υ1 ∧ mI υ1 (453 + c) 0 = nI 5 ∧ mI υ1 (453 + c) 1 = nI X ∧ (∀ i, i ≠ c → i < 80 → mI υ1 (453 + i) = mI τ (453 + i)) := by
        intro τ d hr ld e28 e8
        obtain ⟨υ, a1, a2, a3, a4, a5, a6, a7, a8⟩ := mnum τ d hr e28 e8
        obtain ⟨τ1, w1, w2, w3⟩ := (u_sign (d := d + e' + 4) a2 sg91).1 g1
        obtain ⟨υ1, y1, y2, y3, y4⟩ := u_blanks (d := d + e' + 5) w2
        have ag : AgM stS sF τ υ1 := (a3.trans (ag4 w3)).trans (ag4 y3)
        obtain ⟨υ2, b1⟩ := mB υ1 d (fun σ5 => rn (d + e' + 7) 205 164 [.ref 53, .int (nI 5), .ref (453 + c)] [] σ5) (fun σ5 => rn (d + e' + 7) 205 195 [.ref 53, .int (nI 5), .ref (453 + c)] [] σ5) (fun τ2 s2 r2 e2 k2 => by
            show rn (d + e' + 7) 205 164 [.ref 53, .int (nI 5), .ref (453 + c)] [] τ2 = _
            have lt2 : s2 < m := tk_lt (t := t) (by rw [k2]; decide)
            rw [e_M_readsStep_164, xg_53 r2.1, r2.2.2.2.2.1, if_pos (show (0 : Int32) = 0 from rfl), xg_53 r2.1, e2, u_byteAt r2 (by omega), cI_ok, if_neg (byM_ne93 r2 (fun z => by have := tk_sg sg93 z; omega)), show d + 6 + e' = d + e' + 6 by omega]) (fun τ2 h2 n5 => by
            show rn (d + e' + 7) 205 164 [.ref 53, .int (nI 5), .ref (453 + c)] [] τ2 = _
            rw [e_M_readsStep_164, xg_53 h2, if_neg n5]) y2 y4 (sF_ld ag ld) (by rw [y3.f (show ¬ (28 : Nat) = 4 by decide), w3.f (show ¬ (28 : Nat) = 4 by decide)]; exact a6) (by rw [y3.f (show ¬ (8 : Nat) = 4 by decide), w3.f (show ¬ (8 : Nat) = 4 by decide)]; exact a7)
        refine ⟨υ1, υ2, ?_, ag, by rw [y3.at (by omega) (fun q => q), w3.at (by omega) (fun q => q)]; exact a4, by rw [y3.at (by omega) (fun q => q), w3.at (by omega) (fun q => q)]; exact a5, fun i hi _ => by rw [y3.at (by omega) (fun q => q), w3.at (by omega) (fun q => q)]; exact a8 i hi⟩
        rw [a1, show ev (d + e' + 6) 182 [.ref 53, .int (nI 91)] υ = _ from w1, cV_ok, show ev (d + e' + 6) 172 [.ref 53] τ1 = _ from y1, cV_ok]
        exact b1
      clear cnum mnum cB mB
      match rB, fB, cblk, mblk with
      | .inl (e, p), fB, cblk, mblk =>
        refine sp_flt (e := e) (p := p) fB.1 fB.2 (fun σ d hr ld e4 => ?_) (fun τ d hr ld e28 e8 => ?_)
        · obtain ⟨x, υ1, υ2, a1, ⟨rfl, a2⟩, a3, a4, -⟩ := cblk σ d hr ld e4
          refine ⟨wI υ2 20 c (mI υ2 16 4), ?_, tf20 (a4.tf a2)⟩
          rw [show d + 6 + 2 * (e' + 1) = d + 2 * e' + 8 by omega, a1, if_pos rfl, c_149 (a2.1.sh a3) hc38]
        · obtain ⟨υ1, υ2, ⟨a1, a2⟩, a3, -⟩ := mblk τ d hr ld e28 e8
          have mf := mftr a3 a2
          obtain ⟨φ, l1, l2⟩ := l195F (d := d + e' + 5) (x := nI 5) (show c < 80 by omega) (mf.1.sh hr.1) mf fB.1 fB.2
          refine ⟨φ, ?_, l2⟩
          rw [show d + 6 + (e' + 1) = d + e' + 7 by omega, a1]
          exact l1
      | .inr (s4, e1, f), fB, cblk, mblk =>
        obtain ⟨q1, q2, q3, q4, q5, ⟨k, q6⟩, q7⟩ := fB
        have nx4 := nxt_le (t := t) q2
        by_cases g2 : s4 < m ∧ t s4 = 93
        · have l4 := nx4.2.2 g2.1
          have F0 : ∀ i, i ≠ c → (if i = c then ((5, X, 0, e1) : Nat × Nat × Nat × Nat) else f i) = f i := fun i hi => if_neg hi
          refine sp_sem (s2 := nxt t m s4) (e1 := e1) (f := fun i => if i = c then (5, X, 0, e1) else f i) (by omega) nx4.2.1 (by omega) (by omega) (fun i h1 h2 => ?_) (by show (if c = c then ((5, X, 0, e1) : Nat × Nat × Nat × Nat) else f c).2.2.2 = e1; rw [if_pos rfl]) (fun _ => ⟨by omega, k, blk_as k _ _ _ q6 (fun i h1 h2 => F0 i (by omega)) (Nat.le_refl _)⟩) (by omega) (fun σ d hr ld e4 => ?_) (fun τ d hr ld e28 e8 => ?_)
          · by_cases z : i = c
            · rw [if_pos z]
              exact ⟨Nat.le_refl 5, by show e1 ≤ 38; omega, fun z => absurd (show (5 : Nat) = 0 from z) (by decide), fun z => absurd (show (5 : Nat) = 1 from z) (by decide), fun z => absurd (show (5 : Nat) = 2 from z) (by decide), fun z => absurd (show (5 : Nat) = 3 from z) (by decide), fun _ => by show X ≤ 60; omega⟩
            · rw [F0 i z]
              exact q5 i (by omega) h2
          · obtain ⟨x, υ1, υ2, a1, ⟨rfl, b1, b2, b3, b4, b5⟩, a3, a4, a5, a6, a7, a8, a9⟩ := cblk σ d hr ld e4
            obtain ⟨υ3, w1, w2, w3⟩ := (t_take (d := d + 2 * e' + 6) b1 sg93).1 g2
            have tg : TG kS σ υ3 := (a4.trans b5).trans (w3.mono (fun _ => at1_kS))
            have e16 : mI υ3 16 4 = nI e1 := by rw [w3.1.at (show ¬ (16 : Nat) = 1 by decide)]; exact b2
            have z17 : mI υ3 17 = mI υ2 17 := w3.1.at (show ¬ (17 : Nat) = 1 by decide)
            have z18 : mI υ3 18 = mI υ2 18 := w3.1.at (show ¬ (18 : Nat) = 1 by decide)
            have z19 : mI υ3 19 = mI υ2 19 := w3.1.at (show ¬ (19 : Nat) = 1 by decide)
            have z20 : mI υ3 20 = mI υ2 20 := w3.1.at (show ¬ (20 : Nat) = 1 by decide)
            have ag : Ag (fun a => a = 20) υ3 (wI υ3 20 c (mI υ3 16 4)) := Ag.wI (S := fun a => a = 20) (Ag.refl _ υ3) rfl _ _
            refine ⟨wI υ3 20 c (mI υ3 16 4), ?_, w2.ag ag (by omega) (by omega) (fun x hx => by omega), by rw [rI_o (by decide)]; exact e16, fun i h1 h2 => ?_, fun i hi => ?_, tg20 tg⟩
            · rw [show d + 6 + 2 * (e' + 1) = d + 2 * e' + 8 by omega, a1, if_neg (show ¬ (1 : Int32) = 0 by decide), show ev (d + 2 * e' + 7) 20 [.ref 1, .int 93] υ2 = _ from w1, cI1_ok, if_neg (show ¬ (1 : Int32) = 0 by decide), e_Steps_readStep_150, c_152 w2.1 hc38, nar1_1]
            · by_cases z : i = c
              · subst z
                show CRow _ i (if i = i then ((5, X, 0, e1) : Nat × Nat × Nat × Nat) else f i)
                rw [if_pos rfl]
                obtain ⟨y1, y2, y3, y4⟩ := b4 i (by omega)
                exact ⟨by rw [rI_o (by decide), z17, y1]; exact a5, fun _ => by rw [rI_o (by decide), z18, y2]; exact a6, fun z => absurd (show (5 : Nat) ≤ 1 from z) (by decide), by rw [rI_w, if_pos ⟨rfl, rfl⟩]; exact e16⟩
              · show CRow _ i (if i = c then ((5, X, 0, e1) : Nat × Nat × Nat × Nat) else f i)
                rw [F0 i z]
                exact CRow_o (b3 i (by omega) h2) (by rw [rI_o (by decide), z17]) (by rw [rI_o (by decide), z18]) (by rw [rI_o (by decide), z19]) (by rw [rI_w, if_neg (fun y => z y.2), z20])
            · obtain ⟨y1, y2, y3, y4⟩ := b4 i (by omega)
              have ne : i ≠ c := by omega
              exact ⟨by rw [rI_o (by decide), z17, y1]; exact (a7 i ne).1, by rw [rI_o (by decide), z18, y2]; exact (a7 i ne).2, by rw [rI_o (by decide), z19, y3, a8], by rw [rI_w, if_neg (fun y => ne y.2), z20, y4, a9]⟩
          · obtain ⟨υ1, υ2, ⟨a1, a2, b1, b2, b3, b4, b5, b6⟩, a3, a4, a5, a6⟩ := mblk τ d hr ld e28 e8
            obtain ⟨υ3, w1, w2, w3⟩ := (u_sign (d := d + e' + 4) b1 sg93).1 g2
            have z8 : mI υ3 53 8 = nI (op + 1) := by rw [w3.f (show ¬ (8 : Nat) = 4 by decide)]; exact b3
            have z28 : mI υ3 53 28 = nI e1 := by rw [w3.f (show ¬ (28 : Nat) = 4 by decide)]; exact b2
            have sA : Sh (wI υ3 53 8 (nI op)) := w2.1
            have y28 : mI (wI υ3 53 8 (nI op)) 53 28 = nI e1 := by rw [w53n _ (show (28 : Nat) ≠ 8 by decide)]; exact z28
            have ag0 : AgM (fun a => a = 453 + c) (fun i => i = 8) υ3 (wI (wI υ3 53 8 (nI op)) (453 + c) 3 (nI e1)) := (AgM.w53 (F := fun i => i = 8) (AgM.refl _ _ υ3) rfl _).trans (AgM.of (S := fun a => a = 453 + c) (Ag.wI (S := fun a => a = 453 + c) (Ag.refl _ _) rfl _ _) (fun _ q => q) (by omega))
            have row : ∀ i, i < 80 → mI υ3 (453 + i) = mI υ2 (453 + i) := fun i hi => w3.at (by omega) (fun q => q)
            refine ⟨wI (wI υ3 53 8 (nI op)) (453 + c) 3 (nI e1), ?_, w2.agm ag0 (by omega) (by omega) (by omega) (by omega), by rw [rI_o (by omega)]; exact y28, by rw [rI_o (by omega), w53e], fun i h1 h2 => ?_, fun i hi => ?_, (((a3.trans b6).trans (ag4 w3)).trans (ag0.mono (fun a q => by unfold stS; omega) (fun i q => by unfold sF; omega)))⟩
            · rw [show d + 6 + (e' + 1) = d + e' + 7 by omega, show ev (d + e' + 7) 205 [.ref 53] τ = rn (d + e' + 7) 205 164 [.ref 53, .int (nI 5), .ref (453 + c)] [] υ2 from a1, e_M_readsStep_164, xg_53 b1.1, b1.2.2.2.2.1, if_pos (show (0 : Int32) = 0 from rfl), xg_53 b1.1, a2, u_byteAt b1 (by omega), cI_ok, if_pos (show byM t m s4 = (93 : Int32) from (byM_eq b1.2.1 (by decide)).mpr g2), e_M_readsStep_195, show ev (d + e' + 6) 182 [.ref 53, .int 93] υ2 = _ from w1, cV_ok, xg_53 w2.1, z8, show nI (op + 1) - (1 : Int32) = nI op from pk_sub (a := op + 1) (b := 1) (by omega), xs_53 w2.1, e_M_readsStep_211, xg_53 sA, y28, show tI (wI υ3 53 8 (nI op)) (453 + c) 3 = tI (wI υ3 53 8 (nI op)) (453 + c) (nI 3) from rfl, xt_r452 sA (by omega) (by decide), show d + 5 + (e' + 1) = d + e' + 6 by omega]
              rfl
            · by_cases z : i = c
              · subst z
                show MRow _ i (if i = i then ((5, X, 0, e1) : Nat × Nat × Nat × Nat) else f i)
                rw [if_pos rfl]
                have ww : ∀ j, j ≠ 3 → mI (wI (wI υ3 53 8 (nI op)) (453 + i) 3 (nI e1)) (453 + i) j = mI υ1 (453 + i) j := fun j hj => by rw [rI_w, if_neg (fun z => hj z.2), rI_o (by omega), row i (by omega), b5 i (by omega)]
                exact ⟨by rw [ww 0 (by decide)]; exact a4, by rw [rI_w, if_pos ⟨rfl, rfl⟩], fun z => absurd (show (5 : Nat) = 0 from z) (by decide), fun z => absurd (show (5 : Nat) = 1 from z) (by decide), fun _ _ => by rw [ww 1 (by decide)]; exact a5⟩
              · show MRow _ i (if i = c then ((5, X, 0, e1) : Nat × Nat × Nat × Nat) else f i)
                rw [F0 i z]
                exact MRow_o (b4 i (by omega) h2) (by rw [rI_o (by omega), rI_o (by omega), row i (by omega)])
            · rw [rI_o (by omega), rI_o (by omega), row i (by omega), b5 i (by omega)]
              exact a6 i (by omega) (by omega)
        · refine sp_flt (e := 1) (p := s4) (by decide) (by decide) (fun σ d hr ld e4 => ?_) (fun τ d hr ld e28 e8 => ?_)
          · obtain ⟨x, υ1, υ2, a1, ⟨rfl, b1, b2, b3, b4, b5⟩, a3, a4, -⟩ := cblk σ d hr ld e4
            obtain ⟨υ3, w1, w2⟩ := (t_take (d := d + 2 * e' + 6) b1 sg93).2 g2
            refine ⟨wI υ3 20 c (mI υ3 16 4), ?_, tf20 ((a4.trans b5).tf (w2.mono (fun _ => at1_kS)))⟩
            rw [show d + 6 + 2 * (e' + 1) = d + 2 * e' + 8 by omega, a1, if_neg (show ¬ (1 : Int32) = 0 by decide), show ev (d + 2 * e' + 7) 20 [.ref 1, .int 93] υ2 = _ from w1, cI1_ok, if_pos rfl, c_149 (w2.1.sh b1.1) hc38]
          · obtain ⟨υ1, υ2, ⟨a1, a2, b1, b2, b3, b4, b5, b6⟩, a3, -⟩ := mblk τ d hr ld e28 e8
            obtain ⟨υ3, w1, w2⟩ := m_noStep (d := d + e' + 1) b1 (wN_no2 q7 0)
            have mf := mftr (a3.trans b6) w2
            obtain ⟨φ, t1, t2⟩ := ftail (d := d + e' + 5) (x := nI 5) (show c < 80 by omega) hr mf (by decide) (by decide)
            refine ⟨φ, ?_, t2⟩
            rw [show d + 6 + (e' + 1) = d + e' + 7 by omega, show ev (d + e' + 7) 205 [.ref 53] τ = rn (d + e' + 7) 205 164 [.ref 53, .int (nI 5), .ref (453 + c)] [] υ2 from a1, e_M_readsStep_164, xg_53 b1.1, b1.2.2.2.2.1, if_pos (show (0 : Int32) = 0 from rfl), xg_53 b1.1, a2, u_byteAt b1 (by omega), cI_ok, if_neg (byM_ne93 b1 g2), show ev (d + e' + 6) 205 [.ref 53] υ2 = _ from w1, cV_ok]
            exact t1
    · refine sp_flt (e := 1) (p := nxt t m (nxt t m s)) (by decide) (by decide) (fun σ d hr ld e4 => ?_) (fun τ d hr ld e28 e8 => ?_)
      · obtain ⟨υ, a1, a2, a3, -⟩ := cnum σ d hr e4
        obtain ⟨υ1, w1, w2⟩ := (t_take (d := d + 2 * e' + 6) a2 sg91).2 g1
        refine ⟨wI υ1 20 c (mI υ1 16 4), ?_, tf20 (a3.tf (w2.mono (fun _ => at1_kS)))⟩
        rw [show d + 6 + 2 * (e' + 1) = d + 2 * e' + 8 by omega, a1, show ev (d + 2 * e' + 7) 20 [.ref 1, .int 91] υ = _ from w1, cI1_ok, if_pos rfl, c_149 (w2.1.sh a2.1) hc38]
      · obtain ⟨υ, a1, a2, a3, -⟩ := mnum τ d hr e28 e8
        obtain ⟨υ1, w1, w2⟩ := (u_sign (d := d + e' + 4) a2 sg91).2 g1
        obtain ⟨φ, t1, t2⟩ := ftail (d := d + e' + 5) (x := nI 5) (show c < 80 by omega) hr (mftr a3 (mf4 w2)) (by decide) (by decide)
        refine ⟨φ, ?_, t2⟩
        rw [show d + 6 + (e' + 1) = d + e' + 7 by omega, a1, show ev (d + e' + 6) 182 [.ref 53, .int (nI 91)] υ = _ from w1, cV_ok]
        exact t1
end WStep3
