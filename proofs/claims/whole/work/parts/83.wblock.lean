/-! WORK as a text: a block, both sides -/
section WBlk
variable {σ τ σ' τ' υ φ : mm_M} {t : Nat → Nat} {m s c op : Nat} {d : Nat}
theorem sp_blk {J P e' : Nat} (hm : m ≤ 150) (hS : ∀ s c, s ≤ m → 4 * c ≤ s → tkK t m s = 2 → SpS t J P m op e' s c) : ∀ g s c, m - s = g → s ≤ m → 4 * c ≤ s → SpB t J P m op e' s c := by
  intro g
  induction g using Nat.strongRecOn with
  | _ g ih =>
    intro s c hg hs hc
    by_cases z : tkK t m s = 2
    · have lt : s < m := tk_lt (t := t) (by rw [z]; decide)
      obtain ⟨r1, f1, c1, m1⟩ := hS s c hs hc z
      have cgo : ∀ (σ : mm_M) (d i : Nat), i ≤ s → RS σ t m s → rn (d + 7 + 2 * e') 78 3 [.ref 16, .ref 1, .ref (ldA σ), .int (nI op), .int (nI i)] [] σ = (cI (ev (d + 6 + 2 * e') 79 [.ref 16, .ref 1, .ref (ldA σ), .int (nI op)] σ) fun r3 σ2 => if r3 = 0 then rn (d + 7 + 2 * e') 78 38 [.ref 16, .ref 1, .ref (ldA σ), .int (nI op), .int (nI i)] [] σ2 else cI1 (ev (d + 6 + 2 * e') 20 [.ref 1, .int 59] σ2) fun r5 σ4 => if r5 = 0 then rn (d + 7 + 2 * e') 78 38 [.ref 16, .ref 1, .ref (ldA σ), .int (nI op), .int (nI i)] [] σ4 else rn (d + 7 + 2 * e') 78 3 [.ref 16, .ref 1, .ref (ldA σ), .int (nI op), .int (nI (i + 1))] [] σ4) := by
        intro σ d i hi hr
        have := e_Steps_readBlock_3 (d + 6 + 2 * e') 16 1 (ldA σ) (nI op) (nI i) σ
        rw [show d + 6 + 2 * e' + 1 = d + 7 + 2 * e' by omega, if_neg (show ¬ (150 : Int32) ≤ nI i from nI_ge (b := 150) (by omega) (by omega)), xg_1 hr.1, (t_kind hr).1, z, if_pos (show nI 2 = (2 : Int32) from rfl), nI_1] at this
        exact this
      have c38 : ∀ (σ υ : mm_M) (d i : Nat), rn (d + 7 + 2 * e') 78 38 [.ref 16, .ref 1, .ref (ldA σ), .int (nI op), .int (nI i)] [] υ = some (.inl (.int 0), υ) := by
        intro σ υ d i
        rw [show d + 7 + 2 * e' = d + 6 + 2 * e' + 1 by omega, e_Steps_readBlock_38, nar1_0]
      match r1, f1, c1, m1 with
      | .inl (e, p), f1, c1, m1 =>
        refine ⟨.inl (e, p), f1, fun σ d i hi hr ld e4 => ?_, fun τ d L E hL hE hr e4 ld e28 e8 => ?_⟩
        · obtain ⟨υ, a1, a2⟩ := c1 σ d (fun σ2 => rn (d + 7 + 2 * e') 78 38 [.ref 16, .ref 1, .ref (ldA σ), .int (nI op), .int (nI i)] [] σ2) (fun σ4 => rn (d + 7 + 2 * e') 78 3 [.ref 16, .ref 1, .ref (ldA σ), .int (nI op), .int (nI (i + 1))] [] σ4) hr ld e4
          refine ⟨0, υ, ?_, rfl, a2⟩
          rw [cgo σ d i hi hr]
          exact a1.trans (c38 σ υ d i)
        · obtain ⟨υ, a1, a2⟩ := m1 τ d hr ld e28 e8
          have a2 : MF stS sF τ υ e p := a2
          obtain ⟨φ, b1, b2⟩ := blF (d := d + 5 + e') hr.1 hr.2.1 hr.2.2.2.1 a2
          refine ⟨φ, ?_, b2⟩
          rw [hL τ s hr e4 z, a1, cV_ok, show d + 6 + e' = d + 5 + e' + 1 by omega, b1, cV_ok]
          exact hE φ (b2.1.sh hr.1) (b2.bad f1.1 f1.2)
      | .inr (s1, e1, f), f1, c1, m1 =>
        obtain ⟨q1, q2, q3, q4, q5, q6, q7⟩ := f1
        obtain ⟨r2, f2, c2, m2⟩ := ih (m - s1) (by omega) s1 e1 rfl q2 q4
        have cst : ∀ (σ : mm_M) (d i : Nat), i ≤ s → RS σ t m s → LdC σ J P → mI σ 16 4 = nI c → ∃ υ x υ2, rn (d + 7 + 2 * e') 78 3 [.ref 16, .ref 1, .ref (ldA σ), .int (nI op), .int (nI i)] [] σ = some (.inl (.int x), υ2) ∧ CSt t m c σ υ s1 e1 f ∧ CbR t m e1 x υ υ2 r2 := by
          intro σ d i hi hr ld e4
          obtain ⟨υ, a1, a2⟩ := c1 σ d (fun σ2 => rn (d + 7 + 2 * e') 78 38 [.ref 16, .ref 1, .ref (ldA σ), .int (nI op), .int (nI i)] [] σ2) (fun σ4 => rn (d + 7 + 2 * e') 78 3 [.ref 16, .ref 1, .ref (ldA σ), .int (nI op), .int (nI (i + 1))] [] σ4) hr ld e4
          have tg : TG kS σ υ := a2.2.2.2.2
          obtain ⟨x, υ2, b1, b2⟩ := c2 υ d (i + 1) (by omega) a2.1 (kS_ld hr.1 tg.1 ld) a2.2.1
          rw [tg.1.ld] at b1
          exact ⟨υ, x, υ2, by rw [cgo σ d i hi hr]; exact a1.trans b1, a2, b2⟩
        have mst : ∀ (τ : mm_M) (d : Nat) (L E : mm_M → Option mm_R), (∀ τ s, RM τ t m s → mI τ 53 4 = nI s → tkK t m s = 2 → L τ = cV (ev (d + 6 + e') 205 [.ref 53] τ) fun σ5 => cV (ev (d + 6 + e') 172 [.ref 53] σ5) L) → (∀ τ, Sh τ → ¬ mI τ 53 5 = 0 → L τ = E τ) → RM τ t m s → mI τ 53 4 = nI s → LdM τ J P → mI τ 53 28 = nI c → mI τ 53 8 = nI op → ∃ υ υ2, MSt t m c op τ υ s1 e1 f ∧ MbR t m e1 op L E (L τ) υ υ2 r2 := by
          intro τ d L E hL hE hr e4 ld e28 e8
          obtain ⟨υ, a1, a2⟩ := m1 τ d hr ld e28 e8
          have a2 : MSt t m c op τ υ s1 e1 f := a2
          obtain ⟨b1, b2, b3, b4, b5, b6⟩ := a2
          obtain ⟨υ', y1, y2, y3, y4⟩ := u_blanks (d := d + 5 + e') b1
          have ag : AgM stS sF τ υ' := b6.trans (ag4 y3)
          obtain ⟨υ2, x1⟩ := m2 υ' d L E hL hE y2 y4 (sF_ld ag ld) (by rw [y3.f (show ¬ (28 : Nat) = 4 by decide)]; exact b2) (by rw [y3.f (show ¬ (8 : Nat) = 4 by decide)]; exact b3)
          refine ⟨υ', υ2, ⟨y2, by rw [y3.f (show ¬ (28 : Nat) = 4 by decide)]; exact b2, by rw [y3.f (show ¬ (8 : Nat) = 4 by decide)]; exact b3, fun i h1 h2 => MRow_o (b4 i h1 h2) (y3.at (by omega) (fun q => q)), fun i hi => by rw [y3.at (by omega) (fun q => q)]; exact b5 i hi, ag⟩, ?_⟩
          rw [hL τ s hr e4 z, a1, cV_ok, show d + 6 + e' = d + 5 + e' + 1 by omega, y1, cV_ok]
          exact x1
        clear c1 m1 c2 m2 cgo c38
        match r2, f2, cst, mst with
        | .inl (e, p), f2, cst, mst =>
          refine ⟨.inl (e, p), f2, fun σ d i hi hr ld e4 => ?_, fun τ d L E hL hE hr e4 ld e28 e8 => ?_⟩
          · obtain ⟨υ, x, υ2, a1, a2, a3⟩ := cst σ d i hi hr ld e4
            exact ⟨x, υ2, a1, a3.1, a2.2.2.2.2.tf a3.2⟩
          · obtain ⟨υ, υ2, a1, a2⟩ := mst τ d L E hL hE hr e4 ld e28 e8
            exact ⟨υ2, a2.1, mftr a1.2.2.2.2.2 a2.2⟩
        | .inr (s2, e2, f'), f2, cst, mst =>
          obtain ⟨p1, p2, p3, p4, p5, ⟨k2, p6⟩, p7⟩ := f2
          have Fl : ∀ i, i < e1 → (if i < e1 then f i else f' i) = f i := fun i hi => if_pos hi
          have Fr : ∀ i, e1 ≤ i → (if i < e1 then f i else f' i) = f' i := fun i hi => if_neg (by omega)
          refine ⟨.inr (s2, e2, fun i => if i < e1 then f i else f' i), ⟨by omega, p2, by omega, p4, fun i h1 h2 => ?_, ?_, p7⟩, fun σ d i hi hr ld e4 => ?_, fun τ d L E hL hE hr e4 ld e28 e8 => ?_⟩
          · show RowOK J P (if i < e1 then f i else f' i)
            by_cases y : i < e1
            · rw [Fl i y]; exact q5 i h1 y
            · rw [Fr i (by omega)]; exact p5 i (by omega) h2
          · have eB : kB (e2, fun i => if i < e1 then f i else f' i) c = e1 := by
              show (if c < e1 then f c else f' c).2.2.2 = e1
              rw [Fl c q3]; exact q6
            have eW : kW (e2, fun i => if i < e1 then f i else f' i) c = (f c).1 := by
              show (if c < e1 then f c else f' c).1 = _
              rw [Fl c q3]
            by_cases y : (f c).1 = 5
            · obtain ⟨o1, k1, o2⟩ := q7 y
              have b1 : blk (e2, fun i => if i < e1 then f i else f' i) k1 (c + 1) e1 (op + 1) := blk_as k1 _ _ _ o2 (fun i h1 h2 => Fl i h2) p3
              have b2 : blk (e2, fun i => if i < e1 then f i else f' i) k2 e1 e2 op := blk_as k2 _ _ _ p6 (fun i h1 h2 => Fr i h1) (Nat.le_refl _)
              refine ⟨k1 + k2 + 1, Or.inr ⟨by omega, Nat.le_refl _, by rw [eB]; exact q3, fun _ => ⟨o1, ?_⟩, ?_⟩⟩
              · rw [eB]; exact blk_ups b1 k2
              · rw [eB, Nat.add_comm k1 k2]; exact blk_ups b2 k1
            · have b2 : blk (e2, fun i => if i < e1 then f i else f' i) k2 e1 e2 op := blk_as k2 _ _ _ p6 (fun i h1 h2 => Fr i h1) (Nat.le_refl _)
              refine ⟨k2 + 1, Or.inr ⟨by omega, Nat.le_refl _, by rw [eB]; exact q3, fun w => absurd (eW.symm.trans w) y, ?_⟩⟩
              rw [eB]; exact b2
          · obtain ⟨υ, x, υ2, a1, ⟨a2, a3, a4, a5, a6⟩, ⟨rfl, b2, b3, b4, b5, b6⟩⟩ := cst σ d i hi hr ld e4
            refine ⟨1, υ2, a1, rfl, b2, b3, fun j h1 h2 => ?_, RSm.trans a5 (fun j hj => b5 j (by omega)), a6.trans b6⟩
            show CRow υ2 j (if j < e1 then f j else f' j)
            by_cases y : j < e1
            · rw [Fl j y]
              obtain ⟨x1, x2, x3, x4⟩ := b5 j y
              exact CRow_o (a4 j h1 y) x1 x2 x3 x4
            · rw [Fr j (by omega)]; exact b4 j (by omega) h2
          · obtain ⟨υ, υ2, ⟨a1, a2, a3, a4, a5, a6⟩, ⟨b0, b1, b2, b3, b4, b5, b6, b7⟩⟩ := mst τ d L E hL hE hr e4 ld e28 e8
            refine ⟨υ2, b0, b1, b2, b3, b4, fun j h1 h2 => ?_, fun j hj => by rw [b6 j (by omega)]; exact a5 j hj, a6.trans b7⟩
            show MRow υ2 j (if j < e1 then f j else f' j)
            by_cases y : j < e1
            · rw [Fl j y]; exact MRow_o (a4 j h1 y) (b6 j y)
            · rw [Fr j (by omega)]; exact b5 j (by omega) h2
    · refine ⟨.inr (s, c, fun _ => (0, 0, 0, 0)), ⟨Nat.le_refl _, hs, Nat.le_refl _, hc, fun i h1 h2 => by omega, ⟨0, rfl⟩, z⟩, fun σ d i hi hr ld e4 => ?_, fun τ d L E hL hE hr e4 ld e28 e8 => ?_⟩
      · refine ⟨1, σ, ?_, rfl, hr, e4, fun i h1 h2 => by omega, fun i _ => ⟨rfl, rfl, rfl, rfl⟩, TG.refl _ _⟩
        have n2 : ¬ nI (tkK t m s) = (2 : Int32) := fun y => z ((nI_eq (b := 2) (by have := tkK_le (t := t) (n := m) (s := s); omega) (by decide)).mp y)
        rw [show d + 7 + 2 * e' = d + 6 + 2 * e' + 1 by omega, e_Steps_readBlock_3, xg_1 hr.1, (t_kind hr).1, if_neg n2, e_Steps_readBlock_46, nar1_1]
        split <;> rfl
      · exact ⟨τ, rfl, e4, hr, e28, e8, fun i h1 h2 => by omega, fun i _ => rfl, AgM.refl _ _ _⟩
theorem sp_all6 {J P : Nat} (hm : m ≤ 150) (hJ : J ≤ 6) (hP : P ≤ 7) : ∀ e' op, op + e' = 6 → ∀ s c, s ≤ m → 4 * c ≤ s → SpB t J P m op e' s c
  | 0, op, he, s, c, hs, hc => by
    refine sp_blk hm (fun s c hs hc k2 => ?_) _ s c rfl hs hc
    obtain rfl : op = 6 := by omega
    cases hw : wN t m s wds3 0 with
    | none => exact step_n hw
    | some k =>
      have k5 := (wds3_len hw).2.2
      by_cases z : k = 5
      · subst z; exact step_o hw
      · exact step_a hm hJ hP he hs hc hw (by omega)
  | e' + 1, op, he, s, c, hs, hc => by
    refine sp_blk hm (fun s c hs hc k2 => ?_) _ s c rfl hs hc
    cases hw : wN t m s wds3 0 with
    | none => exact step_n hw
    | some k =>
      have k5 := (wds3_len hw).2.2
      by_cases z : k = 5
      · subst z; exact step_g hm he hs hc hw (fun s c hs hc => sp_all6 hm hJ hP e' (op + 1) (by omega) s c hs hc)
      · exact step_a hm hJ hP he hs hc hw (by omega)
end WBlk
