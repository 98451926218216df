/-! reading a LAW: a unit, by the reference -/
section LawU
variable {d : Nat} {t : Nat → Nat} {n : Nat}
/-- behind a FAULT, open goes down and nothing else -/
theorem MF.dn {τ υ : mm_M} {e p : Nat} (h : MF lmS lmF τ υ e p) (v : Int32) : MF lmS lmF τ (wI υ 53 8 v) e p :=
  ⟨h.1.w53 (Or.inr (Or.inr (Or.inr (Or.inl rfl)))) v, by rw [rI_w, if_neg (by omega)]; exact h.2.1, by rw [rI_w, if_neg (by omega)]; exact h.2.2.1, by rw [rI_w, if_neg (by omega)]; exact h.2.2.2⟩
/-- open goes down, no FAULT -/
theorem u_dn {τ υ : mm_M} {out : List Nat} {s op : Nat} (hr : RM υ t n s) (hl : LM υ out) (h160 : out.length ≤ 160) (a : AgM lmS lmF τ υ) (e8 : mI υ 53 8 = nI (op + 1)) (ho : op < 6) : MRes t n op τ (wI υ 53 8 (mI υ 53 8 - 1)) (.inr (s, out)) := by
  have b : AgM nS0 (fun i => i = 8) υ (wI υ 53 8 (mI υ 53 8 - 1)) := AgM.w53 (F := fun i => i = 8) (AgM.refl _ _ υ) (show (8 : Nat) = 8 from rfl) _
  refine ⟨hr.agm b (fun z => z) (by omega) (by omega) (by omega), hl.agm b h160 (fun _ _ z => z) (by omega), a.trans (b.mono (fun _ => nS_lm) (fun _ q => Or.inr (Or.inr (Or.inr (Or.inl q))))), ?_⟩
  rw [rI_w, if_pos ⟨rfl, rfl⟩, e8]
  exact pk_sub (b := 1) (by omega)
theorem pls_none (y : Option PR) (f : Nat → Option PR) : pls none y f = y := rfl
theorem pls_some (c : Nat) (y : Option PR) (f : Nat → Option PR) : pls (some c) y f = f c := rfl
theorem pN_e {s a m e : Nat} (h : pN t n s a m = .inl e) : 1 ≤ e ∧ e ≤ 3 := by
  unfold pN at h
  split at h
  · split at h
    · cases h
    · cases h; omega
  · cases h; omega
theorem tk_sg {s c : Nat} (hc : isS c) (q : s < n ∧ t s = c) : tkK t n s = 3 := by
  unfold tkK
  rw [if_pos q.1, q.2, hc.2.1, hc.2.2]
  rfl
theorem m_U (hn : n ≤ 150) {k : Nat} (hS : MSm d t n k) : MU d t n (k + 1) := by
  intro op e s out τ r he h hr hl ho e8
  have hs := hr.2.2.1
  have hsh := hr.1
  have e5 : mI τ 53 5 = 0 := hr.2.2.2.2.1
  have nx := nxt_le (t := t) hs
  have h : unitF t n (fun op s out => lpF t n k 0 op s out) op s out = some r := h
  unfold unitF at h
  -- least, most
  have big : ∀ i τ', wN t n s wds2 0 = some i → wN t n s wds1 0 = none → RM τ' t n s → mI τ' 53 4 = nI s → AgM nS0 f4 τ τ' → ∃ υ, rn (d + 5 + 3 * e + 1) 200 56 [.ref 53, uv, uv] [.int (nI (7 + i))] τ' = some (.inl uv, υ) ∧ MRes t n op τ υ r := by
    intro i τ' z2 z1 r' e4 a'
    obtain ⟨k2, -, i3⟩ := wN_some _ _ _ z2
    have i3 : i < 2 := by simpa [wds2] using i3
    have lt := nx.2.2 (wN_lt z2)
    rw [if_neg (by omega), z1, pls_none, z2, pls_some] at h
    have e8' : mI τ' 53 8 = nI op := by rw [a'.f (show ¬ (8 : Nat) = 4 by decide)]; exact e8
    rw [e_M_one_56, if_neg (nI_m1 (by omega))]
    obtain ⟨o1, o2⟩ := u_opens (d := d + 4 + 3 * e) r' e4 e8' (by omega)
    rw [show d + 4 + 3 * e + 1 = d + 5 + 3 * e by omega] at o1 o2
    by_cases q6 : 6 ≤ op
    · rw [if_pos q6] at h
      cases h
      obtain ⟨υ, g1, g2⟩ := o2 (by omega)
      rw [g1, cI_ok, if_pos rfl]
      exact ⟨υ, rfl, g2.up.after a'.f4up, (show 1 ≤ _ from Nat.succ_le_of_lt (Nat.succ_pos _)), (show _ ≤ 3 by first | exact Nat.le_refl 3 | exact Nat.le_succ_of_le (Nat.le_succ 1))⟩
    · rw [if_neg q6] at h
      obtain ⟨e', rfl⟩ : ∃ e', e = e' + 1 := ⟨e - 1, by omega⟩
      obtain ⟨τ1, g1, g2, g3, g4⟩ := o1 (by omega)
      have A1 : AgM lmS lmF τ τ1 := a'.f4up.trans (g3.mono (fun _ => nS_lm) (fun _ q => Or.inr (Or.inr (Or.inr (Or.inl q)))))
      have L1 : LM τ1 out := (hl.go4 (by omega) a').agm g3 (by omega) (fun _ _ z => z) (by omega)
      rw [g1, cI_ok, if_neg (by decide), show d + 5 + 3 * (e' + 1) = d + 5 + 3 * e' + 3 by omega]
      obtain ⟨τ2, s1, s2, s3⟩ := u_skipWord (d := d + 5 + 3 * e' + 2) g2 (by rw [g3.f (by omega)]; exact e4) k2
      have A2 := A1.trans s3.f4up
      have L2 := L1.go4 (by omega) s3
      rw [s1, cV_ok, show (91 : Int32) = nI 91 from rfl, show (44 : Int32) = nI 44 from rfl, show (93 : Int32) = nI 93 from rfl]
      obtain ⟨c1, c2⟩ := u_sign (d := d + 5 + 3 * e' + 1) s2 sg91
      have h : (if nxt t n s < n ∧ t (nxt t n s) = 91 then pb (lpF t n k 0 (op + 1) (nxt t n (nxt t n s)) out) (fun s2 o2 => ptk t n s2 44 fun s3 => pb (lpF t n k 0 (op + 1) s3 o2) fun s4 o4 => ptk t n s4 93 fun s5 => some (.inr (s5, o4 ++ [1015 + i]))) else some (.inl (1, nxt t n s))) = some r := h
      have nx2 := nxt_le (t := t) nx.2.1
      by_cases p1 : nxt t n s < n ∧ t (nxt t n s) = 91
      · rw [if_pos p1] at h
        obtain ⟨τ3, b1, b2, b3⟩ := c1 p1
        have A3 := A2.trans b3.f4up
        have L3 := L2.go4 (by omega) b3
        rw [b1, cV_ok]
        cases hx : lpF t n k 0 (op + 1) (nxt t n (nxt t n s)) out with
        | none => rw [hx] at h; cases h
        | some r1 =>
          rw [hx] at h
          obtain ⟨τ4, u1, u2⟩ := hS (op + 1) e' (nxt t n (nxt t n s)) out τ3 r1 (by omega) hx b2 L3 (by omega) (by rw [b3.f (show ¬ (8 : Nat) = 4 by decide), s3.f (show ¬ (8 : Nat) = 4 by decide)]; exact g4)
          rw [show d + 8 + 3 * e' = d + 5 + 3 * e' + 3 by omega] at u1
          rw [u1, cV_ok]
          match r1, u2, h, hx with
          | .inl q, u2, h, _ =>
            obtain ⟨u3, u4, u5⟩ := u2
            cases h
            have f := u3.after A3
            have sh := f.1.sh hsh
            have bad := f.bad u4 u5
            rw [u_signF sh bad, cV_ok, u_sumF sh bad, cV_ok, u_signF sh bad, cV_ok, u_notesF sh bad, cV_ok, xg_53 sh, xs_53 sh]
            exact ⟨_, rfl, f.dn _, u4, u5⟩
          | .inr q, u2, h, hx =>
            obtain ⟨u3, u4, u5, u6⟩ := u2
            have A4 := A3.trans u5
            have ln := lpF_len k 0 (op + 1) _ out q.1 q.2 nx2.2.1 hx
            have nx3 := nxt_le (t := t) ln.2.1
            obtain ⟨c3, c4⟩ := u_sign (d := d + 5 + 3 * e' + 1) u3 sg44
            have h : (if q.1 < n ∧ t q.1 = 44 then pb (lpF t n k 0 (op + 1) (nxt t n q.1) q.2) fun s4 o4 => ptk t n s4 93 fun s5 => some (.inr (s5, o4 ++ [1015 + i])) else some (.inl (1, q.1))) = some r := h
            by_cases p2 : q.1 < n ∧ t q.1 = 44
            · rw [if_pos p2] at h
              obtain ⟨τ5, d1, d2, d3⟩ := c3 p2
              have A5 := A4.trans d3.f4up
              have L5 := u4.go4 (by omega) d3
              rw [d1, cV_ok]
              cases hy : lpF t n k 0 (op + 1) (nxt t n q.1) q.2 with
              | none => rw [hy] at h; cases h
              | some r2 =>
                rw [hy] at h
                obtain ⟨τ6, v1, v2⟩ := hS (op + 1) e' (nxt t n q.1) q.2 τ5 r2 (by omega) hy d2 L5 (by omega) (by rw [d3.f (show ¬ (8 : Nat) = 4 by decide)]; exact u6)
                rw [show d + 8 + 3 * e' = d + 5 + 3 * e' + 3 by omega] at v1
                rw [v1, cV_ok]
                match r2, v2, h, hy with
                | .inl p, v2, h, _ =>
                  obtain ⟨v3, v4, v5⟩ := v2
                  cases h
                  have f := v3.after A5
                  have sh := f.1.sh hsh
                  have bad := f.bad v4 v5
                  rw [u_signF sh bad, cV_ok, u_notesF sh bad, cV_ok, xg_53 sh, xs_53 sh]
                  exact ⟨_, rfl, f.dn _, v4, v5⟩
                | .inr p, v2, h, hy =>
                  obtain ⟨v3, v4, v5, v6⟩ := v2
                  have A6 := A5.trans v5
                  have ln2 := lpF_len k 0 (op + 1) _ q.2 p.1 p.2 nx3.2.1 hy
                  have nx4 := nxt_le (t := t) ln2.2.1
                  obtain ⟨c5, c6⟩ := u_sign (d := d + 5 + 3 * e' + 1) v3 sg93
                  have h : (if p.1 < n ∧ t p.1 = 93 then some (.inr (nxt t n p.1, p.2 ++ [1015 + i])) else some (.inl (1, p.1))) = some r := h
                  by_cases p3 : p.1 < n ∧ t p.1 = 93
                  · rw [if_pos p3] at h
                    cases h
                    obtain ⟨τ7, f1, f2, f3⟩ := c5 p3
                    have L7 := v4.go4 (by omega) f3
                    obtain ⟨τ8, a1, a2, a3, a4, a5⟩ := u_notes (d := d + 5 + 3 * e' + 3) f2 L7 (by omega) (men_op (k := 1015 + i) (by omega) (by omega))
                    rw [show 2 + (1015 + i - 1010) = 7 + i by omega] at a1
                    have A8 := (A6.trans f3.f4up).trans a4
                    have sh := A8.sh hsh
                    rw [f1, cV_ok, a1, cV_ok, xg_53 sh, xs_53 sh]
                    refine ⟨_, rfl, u_dn a2 a3 ?_ A8 (by rw [a5, f3.f (show ¬ (8 : Nat) = 4 by decide)]; exact v6) (by omega)⟩
                    rw [List.length_append]
                    show p.2.length + 1 ≤ 160
                    omega
                  · rw [if_neg p3] at h
                    cases h
                    obtain ⟨τ7, f1, f2⟩ := c6 p3
                    have f := f2.up.after A6
                    have sh := f.1.sh hsh
                    have bad := f.bad (by decide) (by decide)
                    rw [f1, cV_ok, u_notesF sh bad, cV_ok, xg_53 sh, xs_53 sh]
                    exact ⟨_, rfl, f.dn _, (show 1 ≤ _ from Nat.succ_le_of_lt (Nat.succ_pos _)), (show _ ≤ 3 by first | exact Nat.le_refl 3 | exact Nat.le_succ_of_le (Nat.le_succ 1))⟩
            · rw [if_neg p2] at h
              cases h
              obtain ⟨τ5, d1, d2⟩ := c4 p2
              have f := d2.up.after A4
              have sh := f.1.sh hsh
              have bad := f.bad (by decide) (by decide)
              rw [d1, cV_ok, u_sumF sh bad, cV_ok, u_signF sh bad, cV_ok, u_notesF sh bad, cV_ok, xg_53 sh, xs_53 sh]
              exact ⟨_, rfl, f.dn _, (show 1 ≤ _ from Nat.succ_le_of_lt (Nat.succ_pos _)), (show _ ≤ 3 by first | exact Nat.le_refl 3 | exact Nat.le_succ_of_le (Nat.le_succ 1))⟩
      · rw [if_neg p1] at h
        cases h
        obtain ⟨τ3, b1, b2⟩ := c2 p1
        have f := b2.up.after A2
        have sh := f.1.sh hsh
        have bad := f.bad (by decide) (by decide)
        rw [b1, cV_ok, u_sumF sh bad, cV_ok, u_signF sh bad, cV_ok, u_sumF sh bad, cV_ok, u_signF sh bad, cV_ok, u_notesF sh bad, cV_ok, xg_53 sh, xs_53 sh]
        exact ⟨_, rfl, f.dn _, (show 1 ≤ _ from Nat.succ_le_of_lt (Nat.succ_pos _)), (show _ ≤ 3 by first | exact Nat.le_refl 3 | exact Nat.le_succ_of_le (Nat.le_succ 1))⟩
  rw [show d + 6 + 3 * e = (d + 5 + 3 * e) + 1 by omega, e_M_one _ 53 τ (by rw [k_53 hsh]), xg_53 hsh, if_pos e5]
  obtain ⟨τ1, b1, b2, b3, b4⟩ := u_blanks (d := d + 4 + 3 * e) hr
  rw [show d + 5 + 3 * e = d + 4 + 3 * e + 1 by omega, b1, cV_ok]
  obtain ⟨l1, l2⟩ := u_isW (d := d + 2 + 3 * e) b2 [108, 101, 97, 115, 116] 12 5 1 19 20 0 (by decide) (by decide)
  rw [show d + 2 + 3 * e + 3 = d + 4 + 3 * e + 1 by omega] at l1 l2
  by_cases w1 : isW t n s [108, 101, 97, 115, 116]
  · obtain ⟨τ2, c1, c2, c3, c4⟩ := l1 w1
    rw [c1, cI_ok, if_neg (by decide), show d + 4 + 3 * e + 1 = d + 5 + 3 * e by omega]
    exact big 0 τ2 (wN_hit w1) (isW_12 w1 (by decide)) c2 c4 (b3.trans c3)
  · obtain ⟨τ2, c1, c2, c3, c4⟩ := l2 w1
    rw [c1, cI_ok, if_pos rfl]
    obtain ⟨l3, l4⟩ := u_isW (d := d + 2 + 3 * e) c2 [109, 111, 115, 116] 13 15 19 20 0 0 (by decide) (by decide)
    rw [show d + 2 + 3 * e + 3 = d + 4 + 3 * e + 1 by omega] at l3 l4
    by_cases w2 : isW t n s [109, 111, 115, 116]
    · obtain ⟨τ3, f1, f2, f3, f4e⟩ := l3 w2
      rw [f1, cI_ok, if_neg (by decide), show d + 4 + 3 * e + 1 = d + 5 + 3 * e by omega]
      exact big 1 τ3 (by rw [show wds2 = [[108, 101, 97, 115, 116], [109, 111, 115, 116]] from rfl, wN_miss w1, wN_hit w2]) (isW_12 w2 (by decide)) f2 f4e ((b3.trans c3).trans f3)
    · obtain ⟨τ3, f1, f2, f3, f4e⟩ := l4 w2
      have z2 : wN t n s wds2 0 = none := by rw [show wds2 = [[108, 101, 97, 115, 116], [109, 111, 115, 116]] from rfl, wN_miss w1, wN_miss w2]; rfl
      have a := (b3.trans c3).trans f3
      have sh := f2.1
      have ne8 : mI τ3 53 8 = nI op := by rw [a.f (show ¬ (8 : Nat) = 4 by decide)]; exact e8
      have hxx := f2.2.1
      have by_ : ev (d + 4 + 3 * e + 1) 171 [.ref 53, .int (nI s)] τ3 = some (.inl (.int (byM t n s)), τ3) := by
        have := m_byteAt (d := d + 4 + 3 * e + 1) (g := mI τ3 53) sh hxx f2.2.2.2.1 (k := s) (by omega)
        rw [wA_id] at this
        exact this
      rw [f1, cI_ok, if_pos rfl, e_M_one_56, if_pos rfl, xg_53 sh, f4e, by_, cI_ok]
      by_cases q4 : s < n ∧ t s = 40
      · have k3 := tk_sg sg40 q4
        have z1 : wN t n s wds1 0 = none := by
          cases z : wN t n s wds1 0 with
          | none => rfl
          | some i => have := (wN_some _ _ _ z).1; omega
        rw [if_neg (by omega), z1, pls_none, z2, pls_none, if_pos q4] at h
        have lt := nx.2.2 q4.1
        rw [if_pos (show byM t n s = (40 : Int32) by show byM t n s = nI 40; rw [byM_eq hxx (by decide)]; exact q4)]
        obtain ⟨o1, o2⟩ := u_opens (d := d + 4 + 3 * e) f2 f4e ne8 (by omega)
        by_cases q6 : 6 ≤ op
        · rw [if_pos q6] at h
          cases h
          obtain ⟨υ, g1, g2⟩ := o2 (by omega)
          rw [g1, cI_ok, if_pos rfl]
          exact ⟨υ, rfl, g2.up.after a.f4up, (show 1 ≤ _ from Nat.succ_le_of_lt (Nat.succ_pos _)), (show _ ≤ 3 by first | exact Nat.le_refl 3 | exact Nat.le_succ_of_le (Nat.le_succ 1))⟩
        · rw [if_neg q6] at h
          obtain ⟨e', rfl⟩ : ∃ e', e = e' + 1 := ⟨e - 1, by omega⟩
          obtain ⟨τ4, g1, g2, g3, g4⟩ := o1 (by omega)
          have A4 : AgM lmS lmF τ τ4 := a.f4up.trans (g3.mono (fun _ => nS_lm) (fun _ q => Or.inr (Or.inr (Or.inr (Or.inl q)))))
          have L4 : LM τ4 out := (hl.go4 (by omega) a).agm g3 (by omega) (fun _ _ z => z) (by omega)
          have e44 : mI τ4 53 4 = nI s := by rw [g3.f (by omega)]; exact f4e
          have b5 : AgM nS0 f4 τ4 (wI τ4 53 4 (nI (s + 1))) := AgM.w53 (F := f4) (AgM.refl _ _ τ4) (show (4 : Nat) = 4 from rfl) _
          have r5 : RM (wI τ4 53 4 (nI (s + 1))) t n (nxt t n s) := by
            have := g2.w (g2.2.2.nx)
            rw [tkE_sign sg40 q4, ← w_up] at this
            exact this
          rw [g1, cI_ok, if_neg (by decide), xg_53 g2.1, e44, xs_53 g2.1, nI_1, show d + 4 + 3 * (e' + 1) + 1 = d + 8 + 3 * e' by omega]
          have A5 := A4.trans b5.f4up
          have L5 := L4.go4 (by omega) b5
          have h : pb (lpF t n k 0 (op + 1) (nxt t n s) out) (fun s2 o2 => ptk t n s2 41 fun s3 => some (.inr (s3, o2))) = some r := h
          cases hx : lpF t n k 0 (op + 1) (nxt t n s) out with
          | none => rw [hx] at h; cases h
          | some r1 =>
            rw [hx] at h
            obtain ⟨τ6, u1, u2⟩ := hS (op + 1) e' (nxt t n s) out _ r1 (by omega) hx r5 L5 (by omega) (by rw [b5.f (show ¬ (8 : Nat) = 4 by decide)]; exact g4)
            rw [u1, cV_ok, show (41 : Int32) = nI 41 from rfl]
            match r1, u2, h, hx with
            | .inl q, u2, h, _ =>
              obtain ⟨u3, u4, u5⟩ := u2
              cases h
              have f := u3.after A5
              have sh := f.1.sh hsh
              have bad := f.bad u4 u5
              rw [show d + 8 + 3 * e' = d + 7 + 3 * e' + 1 by omega, u_signF sh bad, cV_ok, xg_53 sh, xs_53 sh]
              exact ⟨_, rfl, f.dn _, u4, u5⟩
            | .inr q, u2, h, hx =>
              obtain ⟨u3, u4, u5, u6⟩ := u2
              have A6 := A5.trans u5
              have ln := lpF_len k 0 (op + 1) _ out q.1 q.2 nx.2.1 hx
              obtain ⟨c3, c4⟩ := u_sign (d := d + 6 + 3 * e') u3 sg41
              rw [show d + 6 + 3 * e' + 2 = d + 8 + 3 * e' by omega] at c3 c4
              have h : (if q.1 < n ∧ t q.1 = 41 then some (.inr (nxt t n q.1, q.2)) else some (.inl (1, q.1))) = some r := h
              by_cases p2 : q.1 < n ∧ t q.1 = 41
              · rw [if_pos p2] at h
                cases h
                obtain ⟨τ7, d1, d2, d3⟩ := c3 p2
                have L7 := u4.go4 (by omega) d3
                have A7 := A6.trans d3.f4up
                have sh := A7.sh hsh
                rw [d1, cV_ok, xg_53 sh, xs_53 sh]
                exact ⟨_, rfl, u_dn d2 L7 (by omega) A7 (by rw [d3.f (show ¬ (8 : Nat) = 4 by decide)]; exact u6) (by omega)⟩
              · rw [if_neg p2] at h
                cases h
                obtain ⟨τ7, d1, d2⟩ := c4 p2
                have f := d2.up.after A6
                have sh := f.1.sh hsh
                rw [d1, cV_ok, xg_53 sh, xs_53 sh]
                exact ⟨_, rfl, f.dn _, (show 1 ≤ _ from Nat.succ_le_of_lt (Nat.succ_pos _)), (show _ ≤ 3 by first | exact Nat.le_refl 3 | exact Nat.le_succ_of_le (Nat.le_succ 1))⟩
      · rw [if_neg (show ¬ byM t n s = (40 : Int32) from fun z => by have z : byM t n s = nI 40 := z; rw [byM_eq hxx (by decide)] at z; exact q4 z)]
        obtain ⟨τ4, g1, g2, g3⟩ := u_knownH (d := d + 3 * e) f2
        rw [show d + 3 * e + 5 = d + 4 + 3 * e + 1 by omega] at g1
        have a4 := a.trans g3
        have L4 := hl.go4 (by omega) a4
        have E4 : mI τ4 53 8 = nI op := by rw [a4.f (show ¬ (8 : Nat) = 4 by decide)]; exact e8
        rw [g1, cI_ok]
        cases z1 : wN t n s wds1 0 with
        | some i =>
          obtain ⟨k2, -, i3⟩ := wN_some _ _ _ z1
          have i3 : i < 10 := by simpa [wds1] using i3
          have lt := nx.2.2 (wN_lt z1)
          rw [if_neg (by omega), z1, pls_some] at h
          cases h
          rw [z1] at g2
          have g2 : RM τ4 t n (nxt t n s) := g2
          obtain ⟨τ5, a1, a2, a3, a5, a6⟩ := u_notes (d := d + 4 + 3 * e + 1) g2 L4 (c := 1000 + i) (x := 1) (y := nI i) (by omega) ⟨1000 + i, by omega, rfl, Or.inr (Or.inl ⟨by omega, by omega, rfl, by rw [Nat.add_sub_cancel_left]⟩)⟩
          rw [show oI32 (some i) = nI i from rfl, if_neg (nI_m1 (by omega)), a1, cV_ok, e_M_one_201]
          exact ⟨τ5, rfl, a2, a3, a4.f4up.trans a5, by rw [a6]; exact E4⟩
        | none =>
          rw [z1, pls_none, z2, pls_none, if_neg q4] at h
          rw [z1] at g2
          have g2 : RM τ4 t n s := g2
          rw [if_pos (show oI32 none = -1 from rfl)]
          obtain ⟨m1, m2⟩ := u_number (d := d + 3 + 3 * e) g2 (a := 0) (m := 1000) (x := 999) (by decide) (hi_s (m := 999) (by decide))
          rw [show d + 3 + 3 * e + 2 = d + 4 + 3 * e + 1 by omega, show nI 0 = (0 : Int32) from rfl] at m1 m2
          cases z : pN t n s 0 1000 with
          | inl x =>
            obtain ⟨τ5, a1, a2⟩ := m2 x z
            obtain ⟨x1, x3⟩ := pN_e z
            have er : r = .inl (x, s) := by
              by_cases q1 : tkK t n s = 1
              · rw [if_pos q1, z] at h; cases h; rfl
              · rw [if_neg q1] at h
                unfold pN at z
                rw [if_neg q1] at z
                cases z
                cases h
                rfl
            subst er
            have f := a2.up.after a4.f4up
            have sh := f.1.sh hsh
            have bad := f.bad x1 x3
            rw [a1, cI_ok, u_notesF sh bad, cV_ok, e_M_one_201]
            exact ⟨τ5, rfl, f, x1, x3⟩
          | inr V =>
            obtain ⟨τ5, a1, a2, a3⟩ := m1 V z
            have zz := z
            unfold pN at zz
            by_cases q1 : tkK t n s = 1
            · rw [if_pos q1, z] at h
              cases h
              rw [if_pos q1] at zz
              have hlt : s < n := by
                unfold tkK at q1
                split at q1
                · assumption
                · omega
              have lt := nx.2.2 hlt
              have hV : V < 1000 := by
                split at zz
                · rename_i y; cases zz; exact y.2
                · cases zz
              have L5 := L4.go4 (by omega) a3
              obtain ⟨τ6, y1, y2, y3, y4, y5⟩ := u_notes (d := d + 4 + 3 * e + 1) a2 L5 (c := V) (x := 0) (y := nI V) (by omega) ⟨V, by omega, rfl, Or.inl ⟨hV, rfl, rfl⟩⟩
              rw [a1, cI_ok, y1, cV_ok, e_M_one_201]
              exact ⟨τ6, rfl, y2, y3, (a4.f4up.trans a3.f4up).trans y4, by rw [y5, a3.f (show ¬ (8 : Nat) = 4 by decide)]; exact E4⟩
            · rw [if_neg q1] at zz
              cases zz
theorem m_lawAll (hn : n ≤ 150) : ∀ k, MU d t n k ∧ MPl d t n k ∧ MP d t n k ∧ MSl d t n k ∧ MSm d t n k
  | 0 => ⟨fun _ _ _ _ _ _ _ h => by simp [lpF] at h, fun _ _ _ _ _ _ _ _ h => by simp [lpF] at h, fun _ _ _ _ _ _ _ h => by simp [lpF] at h, fun _ _ _ _ _ _ _ _ h => by simp [lpF] at h, fun _ _ _ _ _ _ _ h => by simp [lpF] at h⟩
  | k + 1 => by
    obtain ⟨h1, h2, h3, h4, h5⟩ := m_lawAll hn k
    exact ⟨m_U hn h5, m_Pl hn h1 h2, m_P h1 h2, m_Sl hn h3 h4, m_Sm h3 h4⟩
end LawU
