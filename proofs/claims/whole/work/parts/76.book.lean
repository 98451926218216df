/-! book: one line, all lines -/
def beenB : List (Nat × Nat) → Int32 → Int32
  | [], x => x
  | q :: r, x => beenB r (x ||| b1 q.1)
theorem been_app : ∀ (b : List (Nat × Nat)) (q : Nat × Nat) (x : Int32), beenB (b ++ [q]) x = beenB b x ||| b1 q.1
  | [], q, x => rfl
  | p :: r, q, x => been_app r q (x ||| b1 p.1)
theorem been_bt {j : Nat} (hj : j < 7) : ∀ (b : List (Nat × Nat)) (x : Int32), (∀ q, q ∈ b → q.1 < 7) → (bt (beenB b x) j = 1 ↔ bt x j = 1 ∨ ∃ q, q ∈ b ∧ q.1 = j)
  | [], x, _ => ⟨Or.inl, fun h => h.elim id (fun ⟨q, h1, _⟩ => (List.not_mem_nil h1).elim)⟩
  | p :: r, x, h => by
    show bt (beenB r (x ||| b1 p.1)) j = 1 ↔ _
    rw [been_bt hj r _ (fun q hq => h q (List.mem_cons_of_mem _ hq)), bt_or1, bt_one p.1 (h p List.mem_cons_self) j hj]
    refine ⟨fun z => ?_, fun z => ?_⟩
    · rcases z with (z | z) | ⟨q, z1, z2⟩
      · exact Or.inl z
      · by_cases e : j = p.1
        · exact Or.inr ⟨p, List.mem_cons_self, e.symm⟩
        · rw [if_neg e] at z; exact absurd z (by decide)
      · exact Or.inr ⟨q, List.mem_cons_of_mem _ z1, z2⟩
    · rcases z with z | ⟨q, z1, z2⟩
      · exact Or.inl (Or.inl z)
      · rcases List.mem_cons.mp z1 with e | e
        · exact Or.inl (Or.inr (by rw [← z2, e, if_pos rfl]))
        · exact Or.inr ⟨q, e, z2⟩
theorem bkv_mem : ∀ (b : List (Nat × Nat)) (j : Nat), bkv b j = -1 ∨ ∃ q, q ∈ b ∧ q.1 = j
  | [], _ => Or.inl rfl
  | p :: r, j => by
    unfold bkv
    by_cases e : p.1 = j
    · exact Or.inr ⟨p, List.mem_cons_self, e⟩
    · rw [if_neg e]
      rcases bkv_mem r j with h | ⟨q, h1, h2⟩
      · exact Or.inl h
      · exact Or.inr ⟨q, List.mem_cons_of_mem _ h1, h2⟩
theorem bkv_ne : ∀ (b : List (Nat × Nat)) (j : Nat), (∀ q, q ∈ b → q.2 ≤ 40) → (∃ q, q ∈ b ∧ q.1 = j) → bkv b j ≠ -1
  | [], _, _, ⟨q, h, _⟩ => (List.not_mem_nil h).elim
  | p :: r, j, hv, ⟨q, h1, h2⟩ => by
    unfold bkv
    by_cases e : p.1 = j
    · rw [if_pos e]; exact nI_m1 (by have := hv p List.mem_cons_self; omega)
    · rw [if_neg e]
      refine bkv_ne r j (fun x hx => hv x (List.mem_cons_of_mem _ hx)) ⟨q, ?_, h2⟩
      rcases List.mem_cons.mp h1 with z | z
      · exact absurd (z ▸ h2) e
      · exact z
theorem bkv_app : ∀ (b : List (Nat × Nat)) (q : Nat × Nat) (j : Nat), ¬ (∃ p, p ∈ b ∧ p.1 = q.1) → bkv (b ++ [q]) j = if j = q.1 then nI q.2 else bkv b j
  | [], q, j, _ => by
    show (if q.1 = j then nI q.2 else -1) = _
    by_cases e : j = q.1
    · rw [if_pos e, if_pos e.symm]
    · rw [if_neg e, if_neg (fun z => e z.symm)]; rfl
  | p :: r, q, j, h => by
    show (if p.1 = j then nI p.2 else bkv (r ++ [q]) j) = _
    have ih := bkv_app r q j (fun ⟨x, h1, h2⟩ => h ⟨x, List.mem_cons_of_mem _ h1, h2⟩)
    rw [ih]
    by_cases e : j = q.1
    · rw [if_pos e, if_pos e, if_neg (fun z => h ⟨p, List.mem_cons_self, z.trans e⟩)]
    · rw [if_neg e, if_neg e]; rfl
theorem tk_end {t : Nat → Nat} {n s : Nat} (hs : s ≤ n) : tkK t n s = 0 ↔ s = n := by
  unfold tkK
  by_cases z : s < n
  · rw [if_pos z]
    refine ⟨fun y => ?_, fun y => by omega⟩
    split at y
    · omega
    · split at y <;> omega
  · rw [if_neg z]
    exact ⟨fun _ => by omega, fun _ => rfl⟩
theorem pN_i {t : Nat → Nat} {n s a m V : Nat} (h : pN t n s a m = .inr V) : a ≤ V ∧ V < m ∧ tkK t n s = 1 := by
  unfold pN at h
  by_cases z : tkK t n s = 1
  · rw [if_pos z] at h
    by_cases y : a ≤ decV t s (tkE t n s) ∧ decV t s (tkE t n s) < m
    · rw [if_pos y] at h
      cases h
      exact ⟨y.1, y.2, z⟩
    · rw [if_neg y] at h
      cases h
  · rw [if_neg z] at h
    cases h
theorem tk_lt {t : Nat → Nat} {n s : Nat} (h : tkK t n s ≠ 0) : s < n := by
  unfold tkK at h
  by_cases z : s < n
  · exact z
  · rw [if_neg z] at h; exact absurd rfl h
/-- a book that may be -/
def BkOK (J : Nat) (b : List (Nat × Nat)) : Prop := (∀ q, q ∈ b → q.1 < J ∧ q.2 ≤ 40) ∧ (b.map (fun q => q.1)).Nodup
theorem nd_len : ∀ (J : Nat) (l : List Nat), l.Nodup → (∀ x, x ∈ l → x < J) → l.length ≤ J
  | 0, l, _, h => by
    cases l with
    | nil => exact Nat.le_refl _
    | cons x r => exact absurd (h x List.mem_cons_self) (Nat.not_lt_zero x)
  | J + 1, l, nd, h => by
    by_cases q : J ∈ l
    · have := nd_len J (l.erase J) (nd.erase J) (fun x hx => by
        have y := (nd.mem_erase_iff).mp hx
        have := h x y.2
        have := y.1
        omega)
      rw [List.length_erase_of_mem q] at this
      omega
    · have := nd_len J l nd (fun x hx => by
        have y := h x hx
        have : x ≠ J := fun e => q (e ▸ hx)
        omega)
      omega
theorem BkOK.len {J : Nat} {b : List (Nat × Nat)} (h : BkOK J b) : b.length ≤ J := by
  have := nd_len J (b.map (fun q => q.1)) h.2 (fun x hx => by
    obtain ⟨q, hq, e⟩ := List.mem_map.mp hx
    rw [← e]
    exact (h.1 q hq).1)
  rw [List.length_map] at this
  exact this
theorem BkOK.app {J j v : Nat} {b : List (Nat × Nat)} (h : BkOK J b) (hj : j < J) (hv : v ≤ 40) (n : ¬ ∃ q, q ∈ b ∧ q.1 = j) : BkOK J (b ++ [(j, v)]) := by
  refine ⟨fun q hq => ?_, ?_⟩
  · rcases List.mem_append.mp hq with z | z
    · exact h.1 q z
    · rw [List.mem_singleton.mp z]; exact ⟨hj, hv⟩
  · rw [List.map_append, List.nodup_append]
    refine ⟨h.2, List.nodup_cons.mpr ⟨List.not_mem_nil, List.nodup_nil⟩, fun x hx y hy e => n ?_⟩
    obtain ⟨q, hq, eq⟩ := List.mem_map.mp hx
    refine ⟨q, hq, ?_⟩
    show q.1 = j
    rw [eq, e]
    exact List.mem_singleton.mp hy
def bS (B : Nat) (a : Nat) : Prop := a = 1 ∨ a = B ∨ a = B + 1
def BkC (B : Nat) (σ : mm_M) (b : List (Nat × Nat)) : Prop := mI σ B 1 = nI b.length ∧ ∀ j, j < 6 → mI σ (B + 1) j = bkv b j
def rlS (a : Nat) : Prop := 444 ≤ a ∧ a ≤ 449
def BkM (τ : mm_M) (b : List (Nat × Nat)) : Prop := ∀ i, i < b.length → mI τ (444 + i) 0 = nI (b.getD i (0, 0)).1 ∧ mI τ (444 + i) 1 = nI (b.getD i (0, 0)).2
theorem BkM_o {τ υ : mm_M} {b : List (Nat × Nat)} (h : BkM τ b) (hl : b.length ≤ 6) (e : ∀ a, rlS a → mI υ a = mI τ a) : BkM υ b := fun i hi => by
  rw [e (444 + i) ⟨by omega, by omega⟩]; exact h i hi
section BookV
variable {σ τ σ' τ' υ φ : mm_M} {t : Nat → Nat} {d : Nat}
/-- what a line comes to -/
abbrev LnR : Type := (Nat × Nat) ⊕ (Nat × Nat × Nat)
def LnC (B : Nat) (t : Nat → Nat) (m : Nat) (b : List (Nat × Nat)) (σ υ : mm_M) (x : Int32) (r : LnR) : Prop := match r with
  | .inl (e, p) => x = 0 ∧ TF (bS B) σ υ e p
  | .inr (s', j, v) => x = 1 ∧ RS υ t m s' ∧ BkC B υ (b ++ [(j, v)]) ∧ TG (bS B) σ υ
theorem bk_line {m J s : Nat} {b : List (Nat × Nat)} (hs : s ≤ m) (hJ : J ≤ 6) (ok : BkOK J b) : ∃ r : LnR, (match r with
    | .inl (e, _) => 1 ≤ e ∧ e ≤ 3
    | .inr (s', j, v) => s < s' ∧ s' ≤ m ∧ BkOK J (b ++ [(j, v)])) ∧
    (∀ B σ d, isBk B → RS σ t m s → BkC B σ b → ∃ x υ, ev (d + 3) 89 [.ref B, .ref 1, .int (nI J)] σ = some (.inl (.int x), υ) ∧ LnC B t m b σ υ x r) ∧
    (∀ τ d x1 v4 v5 v6, RM τ t m s → mI τ 53 4 = nI s → s < m → BkM τ b → mI τ 57 1 = nI J → ∃ υ v4' v5' v6', (match r with
      | .inl (e, p) => rn (d + 4) 206 48 [.ref 53, .int x1, .int (nI b.length), .int (beenB b 0), v4, v5, v6] [] τ = rn (d + 4) 206 169 [.ref 53, .int x1, .int (nI b.length), .int (beenB b 0), v4', v5', v6'] [] υ ∧ MF rlS f456 τ υ e p
      | .inr (s', j, v) => rn (d + 4) 206 48 [.ref 53, .int x1, .int (nI b.length), .int (beenB b 0), v4, v5, v6] [] τ = rn (d + 4) 206 48 [.ref 53, .int x1, .int (nI (b.length + 1)), .int (beenB (b ++ [(j, v)]) 0), v4', v5', v6'] [] υ ∧ RM υ t m s' ∧ mI υ 53 4 = nI s' ∧ BkM υ (b ++ [(j, v)]) ∧ AgM rlS f4 τ υ)) := by
  have b6 := ok.len
  have mnJ : mnn (nI J) 6 = nI J := by
    have := min_nI (n := J) (M := 6) (by omega) (by decide)
    rw [Nat.min_eq_left hJ] at this
    exact this
  have nB : ∀ {B : Nat}, isBk B → ¬ bS B 53 := fun h q => by rcases h with rfl | rfl <;> (unfold bS at q; omega)
  -- behind a FAULT the reference runs on to the end
  have tail : ∀ (τ υ : mm_M) (d : Nat) (x1 y3 x4 x5 : Int32) (v6 : Value) (e p k : Nat), RM τ t m s → MF rlS f456 τ υ e p → 1 ≤ e → e ≤ 3 → ∃ φ v6', rn (d + 4) 206 110 [.ref 53, .int x1, .int (nI k), .int y3, .int x4, .int x5, v6] [] υ = rn (d + 4) 206 169 [.ref 53, .int x1, .int (nI k), .int y3, .int x4, .int x5, v6'] [] φ ∧ MF rlS f456 τ φ e p := by
    intro τ υ d x1 y3 x4 x5 v6 e p k hr mf e1 e3
    have sh := mf.1.sh hr.1
    have n5 : ¬ mI υ 53 5 = 0 := mf.bad e1 e3
    obtain ⟨i, i1, i2⟩ := mf.2.2.2
    have tx : TxM υ t m := ⟨hr.2.1.1, hr.2.1.2.1, fun k hk => by rw [mf.1.at (by decide) (by unfold rlS; omega)]; exact hr.2.1.2.2 k hk⟩
    obtain ⟨φ, v1, v2, v3⟩ := u_blanksF (d := d + 2) sh tx (by rw [mf.1.f (by unfold f456; omega)]; exact hr.2.2.2.1) i1 i2
    have s2 := v2.sh sh
    have n5' : ¬ mI φ 53 5 = 0 := by rw [v2.f (show ¬ (5 : Nat) = 4 by decide)]; exact n5
    refine ⟨φ, .int 0, ?_, ⟨mf.1.trans (v2.mono (fun _ q => q.elim) (fun _ q => Or.inl q)), by rw [v2.f (show ¬ (5 : Nat) = 4 by decide)]; exact mf.2.1, by rw [v2.f (show ¬ (6 : Nat) = 4 by decide)]; exact mf.2.2.1, v3⟩⟩
    rw [e_M_book_110, u_numberF sh n5, cI_ok, u_signF sh n5, cV_ok, xg_53 sh, if_neg n5, e_M_book_162, v1, cV_ok, e_M_book_48, xg_53 s2, if_neg n5']
  -- the number of the JOKE
  cases hj : pN t m s 0 J with
  | inl e =>
    obtain ⟨e1, e3⟩ := pN_e hj
    refine ⟨.inl (e, s), ⟨e1, e3⟩, fun B σ d hB hr bc => ?_, fun τ d x1 v4 v5 v6 hr e4 lt bm eJ => ?_⟩
    · obtain ⟨-, n2⟩ := t_takeNumber (d := d + 1) hr (a := 0) (by decide) (hi_m (m := J) (by omega))
      obtain ⟨υ, c1, c2⟩ := n2 e hj
      refine ⟨0, υ, ?_, rfl, c2.mono (fun a q => Or.inl q)⟩
      rw [e_Book_readLine (d + 2) B 1 (nI J) σ (by rw [k_bk0 hr.1 hB]), c_min, cI1_ok, mnJ, show ev (d + 2) 21 [.ref 1, .int 0, .int (nI J - 1)] σ = _ from c1, cI1_ok, if_pos rfl, nar1_0]
    · obtain ⟨-, n2⟩ := u_number (d := d + 1) hr (a := 0) (by decide) (hi_m (m := J) (by omega))
      obtain ⟨υ, c1, c2⟩ := n2 e hj
      have sh := c2.1.sh hr.1
      obtain ⟨φ, v6', k1, k2⟩ := tail τ υ d x1 (beenB b 0) (nI s) 0 v6 e s b.length hr (c2.mono (fun _ q => q.elim) (fun _ q => q)) e1 e3
      refine ⟨φ, .int (nI s), .int 0, v6', ?_, k2⟩
      rw [e_M_book_48, xg_53 hr.1, hr.2.2.2.2.1, if_pos (show (0 : Int32) = 0 from rfl), xg_53 hr.1, e4, xg_53 hr.1, hr.2.2.2.1, if_neg (nI_ge lt (by have := hr.2.1.1; omega)), xg_53 hr.1, e4, xr_53_12 hr.1, show aI τ 57 1 = aI τ 57 (nI 1) from rfl, xa_57 hr.1 (by decide), eJ, show ev (d + 3) 176 [.ref 53, .int 0, .int (nI J - 1)] τ = _ from c1, cI_ok, xg_53 sh, if_neg (c2.bad e1 e3)]
      exact k1
  | inr j =>
    obtain ⟨-, jJ, k1⟩ := pN_i hj
    have lt1 : s < m := tk_lt (t := t) (by rw [k1]; decide)
    have nx := nxt_le (t := t) hs
    by_cases dup : ∃ q, q ∈ b ∧ q.1 = j
    · refine ⟨.inl (2, s), ⟨by decide, by decide⟩, fun B σ d hB hr bc => ?_, fun τ d x1 v4 v5 v6 hr e4 lt bm eJ => ?_⟩
      · obtain ⟨n1, -⟩ := t_takeNumber (d := d + 1) hr (a := 0) (by decide) (hi_m (m := J) (by omega))
        obtain ⟨υ, c1, c2, c3, c4⟩ := n1 j hj
        have e1 : mI υ (B + 1) = mI σ (B + 1) := c3.1.at (by unfold at1; rcases hB with rfl | rfl <;> decide)
        obtain ⟨φ, f1, f2⟩ := t_fail (d := d + 2) c2 2 s
        refine ⟨0, φ, ?_, rfl, (c3.mono (fun a q => Or.inl q)).tf (f2.mono (fun a q => Or.inl q))⟩
        rw [e_Book_readLine (d + 2) B 1 (nI J) σ (by rw [k_bk0 hr.1 hB]), c_min, cI1_ok, mnJ, show ev (d + 2) 21 [.ref 1, .int 0, .int (nI J - 1)] σ = _ from c1, cI1_ok, if_neg (nI_m1 (by omega)), xr_bk0 c2.1 hB, xa_bk1 c2.1 hB (by omega), e1, bc.2 j (by omega), if_neg (bkv_ne b j (fun q hq => (ok.1 q hq).2) dup), xg_1 c2.1, c4, show (2 : Int32) = nI 2 from rfl, f1, cI1_ok, nar1_0]
      · obtain ⟨n1, -⟩ := u_number (d := d + 1) hr (a := 0) (by decide) (hi_m (m := J) (by omega))
        obtain ⟨υ, c1, c2, c3⟩ := n1 j hj
        obtain ⟨υ2, w1, w2⟩ := u_wrong (d := d + 3) c2 2 s
        have mf : MF rlS f456 τ υ2 2 s := ⟨(c3.mono (fun _ q => q.elim) (fun _ q => Or.inl q)).trans (w2.1.mono (fun _ q => q.elim) (fun _ q => q)), w2.2⟩
        obtain ⟨φ, v6', k1, k2⟩ := tail τ υ2 d x1 (beenB b 0) (nI s) (nI j) v6 2 s b.length hr mf (by decide) (by decide)
        have hb : bt (beenB b 0) j = 1 := (been_bt (by omega) b 0 (fun q hq => by have := (ok.1 q hq).1; omega)).mpr (Or.inr dup)
        refine ⟨φ, .int (nI s), .int (nI j), v6', ?_, k2⟩
        rw [e_M_book_48, xg_53 hr.1, hr.2.2.2.2.1, if_pos (show (0 : Int32) = 0 from rfl), xg_53 hr.1, e4, xg_53 hr.1, hr.2.2.2.1, if_neg (nI_ge lt (by have := hr.2.1.1; omega)), xg_53 hr.1, e4, xr_53_12 hr.1, show aI τ 57 1 = aI τ 57 (nI 1) from rfl, xa_57 hr.1 (by decide), eJ, show ev (d + 3) 176 [.ref 53, .int 0, .int (nI J - 1)] τ = _ from c1, cI_ok, xg_53 c2.1, c2.2.2.2.2.1, if_pos (show (0 : Int32) = 0 from rfl), m_has, cI1_ok, hb, if_neg (show ¬ (1 : Int32) = 0 by decide), show (2 : Int32) = nI 2 from rfl, w1, cV_ok]
        exact k1
    · -- the class and the reference up to the second number
      have nb : bt (beenB b 0) j = 0 := by
        rcases bt01 (beenB b 0) j with z | z
        · exact z
        · rcases (been_bt (by omega) b 0 (fun q hq => by have := (ok.1 q hq).1; omega)).mp z with y | y
          · rw [bt_0] at y; exact absurd y (by decide)
          · exact absurd y dup
      have nv : bkv b j = -1 := by
        rcases bkv_mem b j with z | z
        · exact z
        · exact absurd z dup
      have preM : ∀ (τ : mm_M) (d : Nat) (x1 : Int32) (v4 v5 v6 : Value), RM τ t m s → mI τ 53 4 = nI s → s < m → mI τ 57 1 = nI J → ∃ υ, rn (d + 4) 206 48 [.ref 53, .int x1, .int (nI b.length), .int (beenB b 0), v4, v5, v6] [] τ = rn (d + 4) 206 110 [.ref 53, .int x1, .int (nI b.length), .int (beenB b 0), .int (nI s), .int (nI j), v6] [] υ ∧ RM υ t m (nxt t m s) ∧ AgM nS0 f4 τ υ := by
        intro τ d x1 v4 v5 v6 hr e4 lt eJ
        obtain ⟨n1, -⟩ := u_number (d := d + 1) hr (a := 0) (by decide) (hi_m (m := J) (by omega))
        obtain ⟨υ, c1, c2, c3⟩ := n1 j hj
        refine ⟨υ, ?_, c2, c3⟩
        rw [e_M_book_48, xg_53 hr.1, hr.2.2.2.2.1, if_pos (show (0 : Int32) = 0 from rfl), xg_53 hr.1, e4, xg_53 hr.1, hr.2.2.2.1, if_neg (nI_ge lt (by have := hr.2.1.1; omega)), xg_53 hr.1, e4, xr_53_12 hr.1, show aI τ 57 1 = aI τ 57 (nI 1) from rfl, xa_57 hr.1 (by decide), eJ, show ev (d + 3) 176 [.ref 53, .int 0, .int (nI J - 1)] τ = _ from c1, cI_ok, xg_53 c2.1, c2.2.2.2.2.1, if_pos (show (0 : Int32) = 0 from rfl), m_has, cI1_ok, nb, if_pos (show (0 : Int32) = 0 from rfl)]
      cases hv : pN t m (nxt t m s) 0 41 with
      | inl e =>
        obtain ⟨e1, e3⟩ := pN_e hv
        refine ⟨.inl (e, nxt t m s), ⟨e1, e3⟩, fun B σ d hB hr bc => ?_, fun τ d x1 v4 v5 v6 hr e4 lt bm eJ => ?_⟩
        · obtain ⟨n1, -⟩ := t_takeNumber (d := d + 1) hr (a := 0) (by decide) (hi_m (m := J) (by omega))
          obtain ⟨υ, c1, c2, c3, c4⟩ := n1 j hj
          obtain ⟨-, n2⟩ := t_takeNumber (d := d + 1) c2 (a := 0) (by decide) (hi_s (m := 40) (by decide))
          obtain ⟨υ2, w1, w2⟩ := n2 e hv
          have e1' : mI υ (B + 1) = mI σ (B + 1) := c3.1.at (by unfold at1; rcases hB with rfl | rfl <;> decide)
          have s2 := w2.1.sh c2.1
          have sA : Sh (wI υ2 (B + 1) j (-1)) := s2
          have sB : Sh (wI (wI υ2 (B + 1) j (-1)) B 1 (mI (wI υ2 (B + 1) j (-1)) B 1 + 1)) := s2
          have ne1 : (1 : Nat) ≠ B + 1 ∧ (1 : Nat) ≠ B := by rcases hB with rfl | rfl <;> decide
          have tf : TF (bS B) σ υ2 e (nxt t m s) := (c3.mono (fun a q => Or.inl q)).tf (w2.mono (fun a q => Or.inl q))
          have ag : Ag (bS B) σ (wI (wI υ2 (B + 1) j (-1)) B 1 (mI (wI υ2 (B + 1) j (-1)) B 1 + 1)) := (tf.1.wI (Or.inr (Or.inr rfl)) _ _).wI (Or.inr (Or.inl rfl)) _ _
          have f1 : mI (wI (wI υ2 (B + 1) j (-1)) B 1 (mI (wI υ2 (B + 1) j (-1)) B 1 + 1)) 1 = mI υ2 1 := by rw [rI_o ne1.2, rI_o ne1.1]
          refine ⟨0, _, ?_, rfl, ⟨ag, by rw [f1]; exact tf.2.1, by rw [f1]; exact tf.2.2.1, by rw [f1]; exact tf.2.2.2⟩⟩
          rw [e_Book_readLine (d + 2) B 1 (nI J) σ (by rw [k_bk0 hr.1 hB]), c_min, cI1_ok, mnJ, show ev (d + 2) 21 [.ref 1, .int 0, .int (nI J - 1)] σ = _ from c1, cI1_ok, if_neg (nI_m1 (by omega)), xr_bk0 c2.1 hB, xa_bk1 c2.1 hB (by omega), e1', bc.2 j (by omega), if_pos nv, xr_bk0 c2.1 hB, show ev (d + 2) 21 [.ref 1, .int 0, .int 40] υ = _ from w1, cI1_ok, xt_bk1 s2 hB (by omega), xg_bk sA hB, xs_bk sA hB, xr_bk0 sB hB, xa_bk1 sB hB (by omega), rI_o (show B + 1 ≠ B by omega), show mI (wI υ2 (B + 1) j (-1)) (B + 1) j = -1 by (rw [rI_w, if_pos ⟨rfl, rfl⟩]), if_pos rfl, e_Book_readLine_87, e_Book_readLine_88, nar1_0]
        · obtain ⟨υ, p1, p2, p3⟩ := preM τ d x1 v4 v5 v6 hr e4 lt eJ
          obtain ⟨-, n2⟩ := u_number (d := d + 1) p2 (a := 0) (by decide) (hi_s (m := 40) (by decide))
          obtain ⟨υ2, w1, w2⟩ := n2 e hv
          have mf : MF rlS f456 τ υ2 e (nxt t m s) := ⟨(p3.mono (fun _ q => q.elim) (fun _ q => Or.inl q)).trans (w2.1.mono (fun _ q => q.elim) (fun _ q => q)), w2.2⟩
          have sh := mf.1.sh hr.1
          have n5 : ¬ mI υ2 53 5 = 0 := mf.bad e1 e3
          obtain ⟨i, i1, i2⟩ := mf.2.2.2
          have tx : TxM υ2 t m := ⟨hr.2.1.1, hr.2.1.2.1, fun k hk => by rw [mf.1.at (by decide) (by unfold rlS; omega)]; exact hr.2.1.2.2 k hk⟩
          obtain ⟨φ, v1, v2, v3⟩ := u_blanksF (d := d + 2) sh tx (by rw [mf.1.f (by unfold f456; omega)]; exact hr.2.2.2.1) i1 i2
          have s2 := v2.sh sh
          have n5' : ¬ mI φ 53 5 = 0 := by rw [v2.f (show ¬ (5 : Nat) = 4 by decide)]; exact n5
          refine ⟨φ, .int (nI s), .int (nI j), .int 0, ?_, ⟨mf.1.trans (v2.mono (fun _ q => q.elim) (fun _ q => Or.inl q)), by rw [v2.f (show ¬ (5 : Nat) = 4 by decide)]; exact mf.2.1, by rw [v2.f (show ¬ (6 : Nat) = 4 by decide)]; exact mf.2.2.1, v3⟩⟩
          rw [p1, e_M_book_110, show ev (d + 3) 176 [.ref 53, .int 0, .int 40] υ = _ from w1, cI_ok, u_signF sh n5, cV_ok, xg_53 sh, if_neg n5, e_M_book_162, v1, cV_ok, e_M_book_48, xg_53 s2, if_neg n5']
      | inr v =>
        obtain ⟨-, v41, k2⟩ := pN_i hv
        have lt2 : nxt t m s < m := tk_lt (t := t) (by rw [k2]; decide)
        have nx2 := nxt_le (t := t) nx.2.1
        have okb : BkOK J (b ++ [(j, v)]) := ok.app jJ (by omega) dup
        have okl := okb.len
        rw [List.length_append] at okl
        have okl : b.length + 1 ≤ J := okl
        have nx3 := nxt_le (t := t) nx2.2.1
        -- the class up to the sign
        have preC : ∀ (B : Nat) (σ : mm_M) (d : Nat), isBk B → RS σ t m s → BkC B σ b → ∃ υ, ev (d + 3) 89 [.ref B, .ref 1, .int (nI J)] σ = (cI1 (ev (d + 2) 20 [.ref 1, .int 59] υ) fun r16 σ15 => if r16 = 0 then rn (d + 3) 89 87 [.ref B, .ref 1, .int (nI J), .int (nI j)] [] σ15 else rn (d + 3) 89 88 [.ref B, .ref 1, .int (nI J), .int (nI j)] [.int 1] σ15) ∧ RS υ t m (nxt t m (nxt t m s)) ∧ BkC B υ (b ++ [(j, v)]) ∧ TG (bS B) σ υ := by
          intro B σ d hB hr bc
          obtain ⟨n1, -⟩ := t_takeNumber (d := d + 1) hr (a := 0) (by decide) (hi_m (m := J) (by omega))
          obtain ⟨υ, c1, c2, c3, c4⟩ := n1 j hj
          obtain ⟨n2, -⟩ := t_takeNumber (d := d + 1) c2 (a := 0) (by decide) (hi_s (m := 40) (by decide))
          obtain ⟨υ2, w1, w2, w3, -⟩ := n2 v hv
          have nB1 : B ≠ 1 ∧ B + 1 ≠ 1 ∧ B ≠ 2 ∧ B + 1 ≠ 2 ∧ B < 1000 := by rcases hB with rfl | rfl <;> decide
          have e1' : mI υ (B + 1) = mI σ (B + 1) := c3.1.at (fun q => nB1.2.1 q)
          have eB0 : mI υ2 B = mI σ B := (w3.1.at (fun q => nB1.1 q)).trans (c3.1.at (fun q => nB1.1 q))
          have eB1 : mI υ2 (B + 1) = mI σ (B + 1) := (w3.1.at (fun q => nB1.2.1 q)).trans e1'
          have s2 := w2.1
          have sA : Sh (wI υ2 (B + 1) j (nI v)) := s2
          have ag2 : Ag (fun a => a = B ∨ a = B + 1) υ2 (wI (wI υ2 (B + 1) j (nI v)) B 1 (mI σ B 1 + 1)) := Ag.wI (S := fun a => a = B ∨ a = B + 1) (Ag.wI (S := fun a => a = B ∨ a = B + 1) (Ag.refl _ υ2) (Or.inr rfl) _ _) (Or.inl rfl) _ _
          have f1 : mI (wI (wI υ2 (B + 1) j (nI v)) B 1 (mI σ B 1 + 1)) 1 = mI υ2 1 := ag2.at (by omega)
          have rs := w2.ag ag2 (by omega) (by omega) (fun x hx => by omega)
          have sB : Sh (wI (wI υ2 (B + 1) j (nI v)) B 1 (mI σ B 1 + 1)) := s2
          have t1 : TG (bS B) σ υ2 := (c3.mono (fun a q => Or.inl q)).trans (w3.mono (fun a q => Or.inl q))
          refine ⟨wI (wI υ2 (B + 1) j (nI v)) B 1 (mI σ B 1 + 1), ?_, rs, ⟨?_, fun i hi => ?_⟩, ⟨t1.1.trans (ag2.mono (fun a q => Or.inr q)), by rw [f1]; exact t1.2.1, by rw [f1]; exact t1.2.2.1, by rw [f1]; exact t1.2.2.2⟩⟩
          · rw [e_Book_readLine (d + 2) B 1 (nI J) σ (by rw [k_bk0 hr.1 hB]), c_min, cI1_ok, mnJ, show ev (d + 2) 21 [.ref 1, .int 0, .int (nI J - 1)] σ = _ from c1, cI1_ok, if_neg (nI_m1 (by omega)), xr_bk0 c2.1 hB, xa_bk1 c2.1 hB (by omega), e1', bc.2 j (by omega), if_pos nv, xr_bk0 c2.1 hB, show ev (d + 2) 21 [.ref 1, .int 0, .int 40] υ = _ from w1, cI1_ok, xt_bk1 s2 hB (by omega), xg_bk sA hB, xs_bk sA hB, rI_o (show B ≠ B + 1 by omega), eB0, xr_bk0 sB hB, xa_bk1 sB hB (by omega), rI_o (show B + 1 ≠ B by omega), show mI (wI υ2 (B + 1) j (nI v)) (B + 1) j = nI v by (rw [rI_w, if_pos ⟨rfl, rfl⟩]), if_neg (nI_m1 (by omega))]
          · rw [rI_w, if_pos ⟨rfl, rfl⟩, bc.1, nI_1, List.length_append]; rfl
          · rw [rI_o (show B + 1 ≠ B by omega), rI_w, bkv_app b (j, v) i dup, eB1]
            by_cases z : i = j
            · rw [if_pos ⟨rfl, z⟩, if_pos z]
            · rw [if_neg (fun y => z y.2), if_neg z]; exact bc.2 i hi
        by_cases sg : nxt t m (nxt t m s) < m ∧ t (nxt t m (nxt t m s)) = 59
        · have l3 := nx3.2.2 sg.1
          refine ⟨.inr (nxt t m (nxt t m (nxt t m s)), j, v), ⟨by omega, nx3.2.1, okb⟩, fun B σ d hB hr bc => ?_, fun τ d x1 v4 v5 v6 hr e4 lt bm eJ => ?_⟩
          · obtain ⟨υ, c1, c2, c3, c4⟩ := preC B σ d hB hr bc
            obtain ⟨q1, -⟩ := t_take (d := d + 1) c2 sg59
            obtain ⟨υ2, w1, w2, w3⟩ := q1 sg
            have nB1 : B ≠ 1 ∧ B + 1 ≠ 1 := by rcases hB with rfl | rfl <;> decide
            refine ⟨1, υ2, ?_, rfl, w2, ⟨by rw [w3.1.at (fun q => nB1.1 q)]; exact c3.1, fun i hi => by rw [w3.1.at (fun q => nB1.2 q)]; exact c3.2 i hi⟩, c4.trans (w3.mono (fun a q => Or.inl q))⟩
            rw [c1, show ev (d + 2) 20 [.ref 1, .int 59] υ = _ from w1, cI1_ok, if_neg (show ¬ (1 : Int32) = 0 by decide), e_Book_readLine_88, nar1_1]
          · obtain ⟨υ, p1, p2, p3⟩ := preM τ d x1 v4 v5 v6 hr e4 lt eJ
            obtain ⟨n2, -⟩ := u_number (d := d + 1) p2 (a := 0) (by decide) (hi_s (m := 40) (by decide))
            obtain ⟨υ2, w1, w2, w3⟩ := n2 v hv
            obtain ⟨q1, -⟩ := u_sign (d := d + 1) w2 sg59
            obtain ⟨υ3, y1, y2, y3⟩ := q1 sg
            have s3 := y2.1
            have ag : AgM rlS f4 υ3 (wI (wI υ3 (444 + b.length) 0 (nI j)) (444 + b.length) 1 (nI v)) := AgM.of (S := rlS) (Ag.wI (S := rlS) (Ag.wI (S := rlS) (Ag.refl _ υ3) ⟨by omega, by omega⟩ _ _) ⟨by omega, by omega⟩ _ _) (fun _ q => q) (by unfold rlS; omega)
            have ag0 : AgM rlS nS0 υ3 (wI (wI υ3 (444 + b.length) 0 (nI j)) (444 + b.length) 1 (nI v)) := AgM.of (S := rlS) (Ag.wI (S := rlS) (Ag.wI (S := rlS) (Ag.refl _ υ3) ⟨by omega, by omega⟩ _ _) ⟨by omega, by omega⟩ _ _) (fun _ q => q) (by unfold rlS; omega)
            have rm := y2.agm ag0 (by unfold rlS; omega) (fun q => q) (fun q => q) (fun q => q)
            have sA : Sh (wI υ3 (444 + b.length) 0 (nI j)) := s3
            obtain ⟨φ, z1, z2, z3, z4⟩ := u_blanks (d := d + 2) rm
            refine ⟨φ, .int (nI s), .int (nI j), .int (nI v), ?_, z2, z4, ?_, ?_⟩
            · rw [p1, e_M_book_110, show ev (d + 3) 176 [.ref 53, .int 0, .int 40] υ = _ from w1, cI_ok, show ev (d + 3) 182 [.ref 53, .int 59] υ2 = _ from y1, cV_ok, xg_53 s3, y2.2.2.2.2.1, if_pos (show (0 : Int32) = 0 from rfl), xr_53_24 s3, xR_443 s3 (by omega), show tI υ3 (444 + b.length) 0 = tI υ3 (444 + b.length) (nI 0) from rfl, xt_r443 s3 (by omega) (by decide), xr_53_24 sA, xR_443 sA (by omega), show tI (wI υ3 (444 + b.length) 0 (nI j)) (444 + b.length) 1 = tI (wI υ3 (444 + b.length) 0 (nI j)) (444 + b.length) (nI 1) from rfl, xt_r443 sA (by omega) (by decide), e_M_book_162, z1, cV_ok, nI_1, been_app]
              rfl
            · have bm3 : BkM υ3 b := BkM_o bm (by omega) (fun a ha => by
                unfold rlS at ha
                rw [y3.at (by omega) (fun q => q), w3.at (by omega) (fun q => q), p3.at (by omega) (fun q => q)])
              intro i hi
              rw [List.length_append] at hi
              have hi : i < b.length + 1 := hi
              rw [z3.at (by omega) (fun q => q)]
              by_cases e : i = b.length
              · subst e
                have g : (b ++ [(j, v)]).getD b.length (0, 0) = (j, v) := by
                  rw [List.getD_eq_getElem?_getD, List.getElem?_append_right (Nat.le_refl _), Nat.sub_self]; rfl
                rw [g]
                exact ⟨by rw [rI_w, if_neg (by omega), rI_w, if_pos ⟨rfl, rfl⟩], by rw [rI_w, if_pos ⟨rfl, rfl⟩]⟩
              · have g : (b ++ [(j, v)]).getD i (0, 0) = b.getD i (0, 0) := by
                  rw [List.getD_eq_getElem?_getD, List.getD_eq_getElem?_getD, List.getElem?_append_left (by omega)]
                rw [g, rI_o (by omega), rI_o (by omega)]
                exact bm3 i (by omega)
            · exact (((p3.mono (T := rlS) (G := f4) (fun _ q => q.elim) (fun _ q => q)).trans (w3.mono (fun _ q => q.elim) (fun _ q => q))).trans (y3.mono (fun _ q => q.elim) (fun _ q => q))).trans (ag.trans (z3.mono (fun _ q => q.elim) (fun _ q => q)))
        · refine ⟨.inl (1, nxt t m (nxt t m s)), ⟨by decide, by decide⟩, fun B σ d hB hr bc => ?_, fun τ d x1 v4 v5 v6 hr e4 lt bm eJ => ?_⟩
          · obtain ⟨υ, c1, c2, c3, c4⟩ := preC B σ d hB hr bc
            obtain ⟨-, q1⟩ := t_take (d := d + 1) c2 sg59
            obtain ⟨υ2, w1, w2⟩ := q1 sg
            refine ⟨0, υ2, ?_, rfl, c4.tf (w2.mono (fun a q => Or.inl q))⟩
            rw [c1, show ev (d + 2) 20 [.ref 1, .int 59] υ = _ from w1, cI1_ok, if_pos (show (0 : Int32) = 0 from rfl), e_Book_readLine_87, e_Book_readLine_88, nar1_0]
          · obtain ⟨υ, p1, p2, p3⟩ := preM τ d x1 v4 v5 v6 hr e4 lt eJ
            obtain ⟨n2, -⟩ := u_number (d := d + 1) p2 (a := 0) (by decide) (hi_s (m := 40) (by decide))
            obtain ⟨υ2, w1, w2, w3⟩ := n2 v hv
            obtain ⟨-, q1⟩ := u_sign (d := d + 1) w2 sg59
            obtain ⟨υ3, y1, y2⟩ := q1 sg
            have mf : MF rlS f456 τ υ3 1 (nxt t m (nxt t m s)) := ⟨((p3.mono (T := rlS) (G := f456) (fun _ q => q.elim) (fun _ q => Or.inl q)).trans (w3.mono (fun _ q => q.elim) (fun _ q => Or.inl q))).trans (y2.1.mono (fun _ q => q.elim) (fun _ q => q)), y2.2⟩
            have sh := mf.1.sh hr.1
            have n5 : ¬ mI υ3 53 5 = 0 := mf.bad (by decide) (by decide)
            obtain ⟨i, i1, i2⟩ := mf.2.2.2
            have tx : TxM υ3 t m := ⟨hr.2.1.1, hr.2.1.2.1, fun k hk => by rw [mf.1.at (by decide) (by unfold rlS; omega)]; exact hr.2.1.2.2 k hk⟩
            obtain ⟨φ, v1, v2, v3⟩ := u_blanksF (d := d + 2) sh tx (by rw [mf.1.f (by unfold f456; omega)]; exact hr.2.2.2.1) i1 i2
            have s2 := v2.sh sh
            have n5' : ¬ mI φ 53 5 = 0 := by rw [v2.f (show ¬ (5 : Nat) = 4 by decide)]; exact n5
            refine ⟨φ, .int (nI s), .int (nI j), .int (nI v), ?_, ⟨mf.1.trans (v2.mono (fun _ q => q.elim) (fun _ q => Or.inl q)), by rw [v2.f (show ¬ (5 : Nat) = 4 by decide)]; exact mf.2.1, by rw [v2.f (show ¬ (6 : Nat) = 4 by decide)]; exact mf.2.2.1, v3⟩⟩
            rw [p1, e_M_book_110, show ev (d + 3) 176 [.ref 53, .int 0, .int 40] υ = _ from w1, cI_ok, show ev (d + 3) 182 [.ref 53, .int 59] υ2 = _ from y1, cV_ok, xg_53 sh, if_neg n5, e_M_book_162, v1, cV_ok, e_M_book_48, xg_53 s2, if_neg n5']
end BookV
