/-! the LAW's codes: they always come, and they are in order -/
def rk (m : Nat) : Nat := if m = 0 then 3 else if m = 2 then 2 else 1
section LawPure
variable {t : Nat → Nat} {n : Nat}
theorem ptk_tot {s c : Nat} {f : Nat → Option PR} (h : s < n ∧ t s = c → ∃ r, f (nxt t n s) = some r) : ∃ r, ptk t n s c f = some r := by
  unfold ptk
  by_cases z : s < n ∧ t s = c
  · rw [if_pos z]; exact h z
  · rw [if_neg z]; exact ⟨_, rfl⟩
theorem pb_tot {x : Option PR} {f : Nat → List Nat → Option PR} (h : ∃ r, x = some r) (g : ∀ s o, x = some (.inr (s, o)) → ∃ r, f s o = some r) : ∃ r, pb x f = some r := by
  obtain ⟨r, e⟩ := h
  match r, e with
  | .inl q, e => rw [e]; exact ⟨_, rfl⟩
  | .inr q, e =>
    have := g q.1 q.2 e
    rw [e]
    exact this
theorem lpF_tot : ∀ k m op s out, s ≤ n → 5 * (n - s) + rk m ≤ k → ∃ r, lpF t n k m op s out = some r
  | 0, m, op, s, out, hs, hk => by
    have : 1 ≤ rk m := by unfold rk; split; omega; split; omega; omega
    omega
  | k + 1, m, op, s, out, hs, hk => by
    have nx := nxt_le (t := t) hs
    match m, hk with
    | 0, hk =>
      have hk : 5 * (n - s) + 3 ≤ k + 1 := hk
      obtain ⟨r, e⟩ := lpF_tot k 2 op s out hs (show 5 * (n - s) + 2 ≤ k by omega)
      show ∃ r, pb (lpF t n k 2 op s out) (fun s' o' => lpF t n k 1 op s' o') = some r
      rw [e]
      match r, e with
      | .inl q, e => exact ⟨_, rfl⟩
      | .inr q, e =>
        have ln := lpF_len k 2 op s out q.1 q.2 hs e
        exact lpF_tot k 1 op q.1 q.2 ln.2.1 (show 5 * (n - q.1) + 1 ≤ k by omega)
    | 2, hk =>
      have hk : 5 * (n - s) + 2 ≤ k + 1 := hk
      obtain ⟨r, e⟩ := lpF_tot k 4 op s out hs (show 5 * (n - s) + 1 ≤ k by omega)
      show ∃ r, pb (lpF t n k 4 op s out) (fun s' o' => lpF t n k 3 op s' o') = some r
      rw [e]
      match r, e with
      | .inl q, e => exact ⟨_, rfl⟩
      | .inr q, e =>
        have ln := lpF_len k 4 op s out q.1 q.2 hs e
        exact lpF_tot k 3 op q.1 q.2 ln.2.1 (show 5 * (n - q.1) + 1 ≤ k by omega)
    | 1, hk =>
      have hk : 5 * (n - s) + 1 ≤ k + 1 := hk
      show ∃ r, pls (sOp t n s) (some (.inr (s, out))) (fun c => pb (lpF t n k 2 op (nxt t n s) out) fun s' o' => lpF t n k 1 op s' (o' ++ [c])) = some r
      cases q : sOp t n s with
      | none => exact ⟨_, rfl⟩
      | some c =>
        have z := (sOp_some q).1
        have lt := nx.2.2 z
        obtain ⟨r, e⟩ := lpF_tot k 2 op (nxt t n s) out nx.2.1 (show 5 * (n - nxt t n s) + 2 ≤ k by omega)
        rw [pls_some, e]
        match r, e with
        | .inl q, e => exact ⟨_, rfl⟩
        | .inr q, e =>
          have ln := lpF_len k 2 op _ out q.1 q.2 nx.2.1 e
          exact lpF_tot k 1 op q.1 (q.2 ++ [c]) ln.2.1 (show 5 * (n - q.1) + 1 ≤ k by omega)
    | 3, hk =>
      have hk : 5 * (n - s) + 1 ≤ k + 1 := hk
      show ∃ r, pls (pOp t n s) (some (.inr (s, out))) (fun c => pb (lpF t n k 4 op (nxt t n s) out) fun s' o' => lpF t n k 3 op s' (o' ++ [c])) = some r
      cases q : pOp t n s with
      | none => exact ⟨_, rfl⟩
      | some c =>
        have z := (pOp_some q).1
        have lt := nx.2.2 z
        obtain ⟨r, e⟩ := lpF_tot k 4 op (nxt t n s) out nx.2.1 (show 5 * (n - nxt t n s) + 1 ≤ k by omega)
        rw [pls_some, e]
        match r, e with
        | .inl q, e => exact ⟨_, rfl⟩
        | .inr q, e =>
          have ln := lpF_len k 4 op _ out q.1 q.2 nx.2.1 e
          exact lpF_tot k 3 op q.1 (q.2 ++ [c]) ln.2.1 (show 5 * (n - q.1) + 1 ≤ k by omega)
    | m + 4, hk =>
      have hk : 5 * (n - s) + 1 ≤ k + 1 := by
        have : rk (m + 4) = 1 := by unfold rk; rw [if_neg (by omega), if_neg (by omega)]
        rw [this] at hk
        exact hk
      rw [lpF_4]
      unfold unitF
      by_cases q : tkK t n s = 1
      · rw [if_pos q]
        cases pN t n s 0 1000 with
        | inl e => exact ⟨_, rfl⟩
        | inr V => exact ⟨_, rfl⟩
      · rw [if_neg q]
        cases z1 : wN t n s wds1 0 with
        | some i => exact ⟨_, rfl⟩
        | none =>
          rw [pls_none]
          cases z2 : wN t n s wds2 0 with
          | some i =>
            have lt := nx.2.2 (wN_lt z2)
            rw [pls_some]
            by_cases q6 : 6 ≤ op
            · rw [if_pos q6]; exact ⟨_, rfl⟩
            · rw [if_neg q6]
              have n1 := nxt_le (t := t) nx.2.1
              refine ptk_tot (fun c1 => pb_tot (lpF_tot k 0 (op + 1) (nxt t n (nxt t n s)) out n1.2.1 (show 5 * (n - nxt t n (nxt t n s)) + 3 ≤ k by omega)) (fun s2 o2 e => ?_))
              have ln := lpF_len k 0 (op + 1) _ out s2 o2 n1.2.1 e
              have n2 := nxt_le (t := t) ln.2.1
              refine ptk_tot (fun c2 => pb_tot (lpF_tot k 0 (op + 1) (nxt t n s2) o2 n2.2.1 (show 5 * (n - nxt t n s2) + 3 ≤ k by omega)) (fun s4 o4 e2 => ptk_tot (fun c3 => ⟨_, rfl⟩)))
          | none =>
            rw [pls_none]
            by_cases q4 : s < n ∧ t s = 40
            · rw [if_pos q4]
              by_cases q6 : 6 ≤ op
              · rw [if_pos q6]; exact ⟨_, rfl⟩
              · rw [if_neg q6]
                have lt := nx.2.2 q4.1
                exact pb_tot (lpF_tot k 0 (op + 1) (nxt t n s) out nx.2.1 (show 5 * (n - nxt t n s) + 3 ≤ k by omega)) (fun s2 o2 e => ptk_tot (fun c2 => ⟨_, rfl⟩))
            · rw [if_neg q4]; exact ⟨_, rfl⟩
end LawPure
/-- the height behind the codes, and that they are in order -/
def ht : List Nat → Nat := fun out => out.foldl (fun h c => if c < 1010 then h + 1 else h - 1) 0
theorem ht_app (out : List Nat) (c : Nat) : ht (out ++ [c]) = if c < 1010 then ht out + 1 else ht out - 1 := by
  unfold ht
  rw [List.foldl_append]
  rfl
def CdOK (out : List Nat) : Prop := ∀ i, i < out.length → out.getD i 0 ≤ 1016 ∧ (1010 ≤ out.getD i 0 → 2 ≤ ht (out.take i))
theorem CdOK_nil : CdOK [] := fun i hi => absurd hi (Nat.not_lt_zero i)
theorem CdOK_app {out : List Nat} {c : Nat} (h : CdOK out) (h1 : c ≤ 1016) (h2 : 1010 ≤ c → 2 ≤ ht out) : CdOK (out ++ [c]) := by
  intro i hi
  rw [List.length_append] at hi
  have hi : i < out.length + 1 := hi
  by_cases z : i = out.length
  · subst z
    rw [getD_end, List.take_left]
    exact ⟨h1, h2⟩
  · rw [getD_app (by omega), List.take_append_of_le_length (by omega)]
    exact h i (by omega)
theorem CdOK_num {out : List Nat} {c : Nat} (h : CdOK out) (h1 : c < 1010) : CdOK (out ++ [c]) := CdOK_app h (by omega) (fun z => by omega)
theorem CdOK_op {out : List Nat} {c : Nat} (h : CdOK out) (_ : 1010 ≤ c) (h1 : c ≤ 1016) (h2 : 2 ≤ ht out) : CdOK (out ++ [c]) := CdOK_app h h1 (fun _ => h2)
section LawPure2
variable {t : Nat → Nat} {n : Nat}
theorem lpF_ok : ∀ k m op s out s' o', lpF t n k m op s out = some (.inr (s', o')) → CdOK out → (m = 1 ∨ m = 3 → 1 ≤ ht out) → CdOK o' ∧ ht o' = ht out + (if m = 1 ∨ m = 3 then 0 else 1)
  | 0, _, _, _, _, _, _, h, _, _ => by simp [lpF] at h
  | k + 1, m, op, s, out, s', o', h, ok, hh => by
    match m, h, hh with
    | 0, h, hh =>
      obtain ⟨s1, o1, e1, e2⟩ := pb_inr (show pb (lpF t n k 2 op s out) _ = _ from h)
      obtain ⟨a1, a2⟩ := lpF_ok k 2 op s out s1 o1 e1 ok (by omega)
      rw [if_neg (by omega)] at a2
      obtain ⟨b1, b2⟩ := lpF_ok k 1 op s1 o1 s' o' e2 a1 (fun _ => by omega)
      rw [if_pos (by omega)] at b2
      exact ⟨b1, by rw [if_neg (by omega)]; omega⟩
    | 2, h, hh =>
      obtain ⟨s1, o1, e1, e2⟩ := pb_inr (show pb (lpF t n k 4 op s out) _ = _ from h)
      obtain ⟨a1, a2⟩ := lpF_ok k 4 op s out s1 o1 e1 ok (by omega)
      rw [if_neg (by omega)] at a2
      obtain ⟨b1, b2⟩ := lpF_ok k 3 op s1 o1 s' o' e2 a1 (fun _ => by omega)
      rw [if_pos (by omega)] at b2
      exact ⟨b1, by rw [if_neg (by omega)]; omega⟩
    | 1, h, hh =>
      have h1 := hh (Or.inl rfl)
      have h : pls (sOp t n s) (some (.inr (s, out))) (fun c => pb (lpF t n k 2 op (nxt t n s) out) fun s' o' => lpF t n k 1 op s' (o' ++ [c])) = some (.inr (s', o')) := h
      rw [if_pos (by omega)]
      cases q : sOp t n s with
      | none => rw [q] at h; cases h; exact ⟨ok, rfl⟩
      | some c =>
        rw [q, pls_some] at h
        have z := sOp_some q
        obtain ⟨s1, o1, e1, e2⟩ := pb_inr h
        obtain ⟨a1, a2⟩ := lpF_ok k 2 op _ out s1 o1 e1 ok (by omega)
        rw [if_neg (by omega)] at a2
        have hc := ht_app o1 c
        rw [if_neg (by omega)] at hc
        obtain ⟨b1, b2⟩ := lpF_ok k 1 op s1 _ s' o' e2 (CdOK_op a1 (by omega) (by omega) (by omega)) (fun _ => by omega)
        rw [if_pos (by omega)] at b2
        exact ⟨b1, by omega⟩
    | 3, h, hh =>
      have h1 := hh (Or.inr rfl)
      have h : pls (pOp t n s) (some (.inr (s, out))) (fun c => pb (lpF t n k 4 op (nxt t n s) out) fun s' o' => lpF t n k 3 op s' (o' ++ [c])) = some (.inr (s', o')) := h
      rw [if_pos (by omega)]
      cases q : pOp t n s with
      | none => rw [q] at h; cases h; exact ⟨ok, rfl⟩
      | some c =>
        rw [q, pls_some] at h
        have z := pOp_some q
        obtain ⟨s1, o1, e1, e2⟩ := pb_inr h
        obtain ⟨a1, a2⟩ := lpF_ok k 4 op _ out s1 o1 e1 ok (by omega)
        rw [if_neg (by omega)] at a2
        have hc := ht_app o1 c
        rw [if_neg (by omega)] at hc
        obtain ⟨b1, b2⟩ := lpF_ok k 3 op s1 _ s' o' e2 (CdOK_op a1 (by omega) (by omega) (by omega)) (fun _ => by omega)
        rw [if_pos (by omega)] at b2
        exact ⟨b1, by omega⟩
    | m + 4, h, hh =>
      rw [if_neg (by omega)]
      rw [lpF_4] at h
      unfold unitF at h
      have num : ∀ c, c < 1010 → o' = out ++ [c] → CdOK o' ∧ ht o' = ht out + 1 := by
        intro c hc e
        subst e
        exact ⟨CdOK_num ok hc, by rw [ht_app, if_pos hc]⟩
      by_cases q : tkK t n s = 1
      · rw [if_pos q] at h
        cases z : pN t n s 0 1000 with
        | inl e => rw [z] at h; cases h
        | inr V =>
          rw [z] at h
          cases h
          refine num V ?_ rfl
          unfold pN at z
          rw [if_pos q] at z
          split at z
          · rename_i y; cases z; have := y.2; omega
          · cases z
      · rw [if_neg q] at h
        cases z1 : wN t n s wds1 0 with
        | some i =>
          rw [z1] at h
          cases h
          have i3 := (wN_some _ _ _ z1).2.2
          have i3 : i < 10 := by simpa [wds1] using i3
          exact num (1000 + i) (by omega) rfl
        | none =>
          rw [z1] at h
          cases z2 : wN t n s wds2 0 with
          | some i =>
            rw [z2] at h
            have i3 := (wN_some _ _ _ z2).2.2
            have i3 : i < 2 := by simpa [wds2] using i3
            by_cases q6 : 6 ≤ op
            · simp only [pls, if_pos q6] at h; cases h
            · simp only [pls, if_neg q6] at h
              obtain ⟨y1, h⟩ := ptk_inr h
              obtain ⟨s2, o2, e2, h⟩ := pb_inr h
              obtain ⟨a1, a2⟩ := lpF_ok k 0 (op + 1) _ out s2 o2 e2 ok (by omega)
              rw [if_neg (by omega)] at a2
              obtain ⟨y2, h⟩ := ptk_inr h
              obtain ⟨s4, o4, e4, h⟩ := pb_inr h
              obtain ⟨b1, b2⟩ := lpF_ok k 0 (op + 1) _ o2 s4 o4 e4 a1 (by omega)
              rw [if_neg (by omega)] at b2
              obtain ⟨y3, h⟩ := ptk_inr h
              cases h
              have hc := ht_app o4 (1015 + i)
              rw [if_neg (by omega)] at hc
              exact ⟨CdOK_op b1 (by omega) (by omega) (by omega), by omega⟩
          | none =>
            rw [z2] at h
            by_cases q4 : s < n ∧ t s = 40
            · by_cases q6 : 6 ≤ op
              · simp only [pls, if_pos q4, if_pos q6] at h; cases h
              · simp only [pls, if_pos q4, if_neg q6] at h
                obtain ⟨s2, o2, e2, h⟩ := pb_inr h
                obtain ⟨a1, a2⟩ := lpF_ok k 0 (op + 1) _ out s2 o2 e2 ok (by omega)
                rw [if_neg (by omega)] at a2
                obtain ⟨y2, h⟩ := ptk_inr h
                cases h
                exact ⟨a1, a2⟩
            · simp only [pls, if_neg q4] at h; cases h
end LawPure2
/-- the codes as a LAW -/
theorem ht_hgt (out : List Nat) (h : ∀ i, i < out.length → out.getD i 0 ≤ 1016) : ∀ i, i ≤ out.length → hgt (fun i => nI (out.getD i 0)) i = ht (out.take i)
  | 0, _ => rfl
  | i + 1, hi => by
    have ih := ht_hgt out h i (by omega)
    have e : out.take (i + 1) = out.take i ++ [out.getD i 0] := by
      rw [List.take_succ, List.getElem?_eq_getElem (by omega), List.getD_eq_getElem?_getD, List.getElem?_eq_getElem (by omega)]
      rfl
    rw [e, ht_app, ← ih]
    show (if nI (out.getD i 0) < 1010 then hgt (fun i => nI (out.getD i 0)) i + 1 else hgt (fun i => nI (out.getD i 0)) i - 1) = _
    have hb := h i (by omega)
    by_cases z : out.getD i 0 < 1010
    · rw [if_pos z, if_pos (show nI (out.getD i 0) < (1010 : Int32) from nI_lt (b := 1010) z (by decide))]
    · rw [if_neg z, if_neg (show ¬ nI (out.getD i 0) < (1010 : Int32) from nI_nlt (b := 1010) (by omega) (by omega))]
theorem lok_of {out : List Nat} (hl : out.length ≤ 150) (ok : CdOK out) (h1 : ht out = 1) : LOK (fun i => nI (out.getD i 0)) out.length := by
  have hb : ∀ i, i < out.length → out.getD i 0 ≤ 1016 := fun i hi => (ok i hi).1
  refine ⟨hl, fun i hi => ⟨out.getD i 0, hb i hi, rfl, fun z => ?_⟩, ?_⟩
  · rw [ht_hgt out hb i (by omega)]
    exact (ok i hi).2 z
  · rw [ht_hgt out hb _ (Nat.le_refl _), List.take_length]
    exact h1
