/-! reading a LAW: the reference -/
def LM (τ : mm_M) (out : List Nat) : Prop := mI τ 53 20 = nI out.length ∧ ∀ i, i < out.length → MEn (nI (out.getD i 0)) (mI τ (276 + i) 0) (mI τ (276 + i) 1)
def lmS (a : Nat) : Prop := 276 ≤ a ∧ a ≤ 435
def lmF (i : Nat) : Prop := i = 4 ∨ i = 5 ∨ i = 6 ∨ i = 8 ∨ i = 20
theorem nS_lm {a : Nat} (h : nS0 a) : lmS a := h.elim
theorem f4_lm {a : Nat} (h : f4 a) : lmF a := Or.inl h
theorem f456_lm {a : Nat} (h : f456 a) : lmF a := by rcases h with h | h | h; exact Or.inl h; exact Or.inr (Or.inl h); exact Or.inr (Or.inr (Or.inl h))
theorem isW_uniq {t : Nat → Nat} {n s : Nat} {w v : List Nat} (h : isW t n s w) (g : isW t n s v) : w = v := by
  obtain ⟨-, h1, h2⟩ := h
  obtain ⟨-, g1, g2⟩ := g
  have el : w.length = v.length := by omega
  refine List.ext_getElem el (fun i hi hj => ?_)
  have a := h2 i hi
  have b := g2 i hj
  rw [a, List.getD_eq_getElem?_getD, List.getD_eq_getElem?_getD, List.getElem?_eq_getElem hi, List.getElem?_eq_getElem hj] at b
  exact b
theorem wN_none {t : Nat → Nat} {n s : Nat} : ∀ (ws : List (List Nat)) (k : Nat), (∀ w, w ∈ ws → ¬ isW t n s w) → wN t n s ws k = none
  | [], _, _ => rfl
  | w :: r, k, h => by
    show @ite _ (isW t n s w) (Classical.propDecidable _) (some k) (wN t n s r (k + 1)) = none
    rw [if_neg (h w List.mem_cons_self)]
    exact wN_none r (k + 1) (fun v hv => h v (List.mem_cons_of_mem _ hv))
theorem isW_12 {t : Nat → Nat} {n s : Nat} {v : List Nat} (h : isW t n s v) (hv : v ∈ wds2) : wN t n s wds1 0 = none :=
  wN_none wds1 0 (fun w hw q => (show ∀ v, v ∈ wds2 → ∀ w, w ∈ wds1 → w ≠ v by decide) v hv w hw (isW_uniq q h))
section LawM
variable {d : Nat} {t : Nat → Nat} {n : Nat}
theorem LM.agm {τ υ : mm_M} {out : List Nat} {S F : Nat → Prop} (h : LM τ out) (a : AgM S F τ υ) (hl : out.length ≤ 160) (hS : ∀ x, lmS x → ¬ S x) (hF : ¬ F 20) : LM υ out := by
  refine ⟨by rw [a.f hF]; exact h.1, fun i hi => ?_⟩
  rw [a.at (by omega) (hS (276 + i) ⟨by omega, by omega⟩)]
  exact h.2 i hi
theorem u_notesF {τ : mm_M} (h : Sh τ) (e5 : ¬ mI τ 53 5 = 0) (x y : Int32) : ev d 195 [.ref 53, .int x, .int y] τ = some (.inl uv, τ) := by
  rw [e_M_notes d 53 x y τ (by rw [k_53 h]), xg_53 h, if_neg e5]
theorem u_notes {τ : mm_M} {out : List Nat} {s c : Nat} {x y : Int32} (hr : RM τ t n s) (hl : LM τ out) (h160 : out.length < 160) (hc : MEn (nI c) x y) : ∃ υ, ev d 195 [.ref 53, .int x, .int y] τ = some (.inl uv, υ) ∧ RM υ t n s ∧ LM υ (out ++ [c]) ∧ AgM lmS lmF τ υ ∧ mI υ 53 8 = mI τ 53 8 := by
  have h := hr.1
  have e5 : mI τ 53 5 = 0 := hr.2.2.2.2.1
  rw [e_M_notes d 53 x y τ (by rw [k_53 h]), xg_53 h, if_pos e5]
  simp (disch := first | assumption | decide | (simp only [Sh_wI, Sh_wA, Sh_wL, Sh_mT, ldA_wI, lwA_wI, bkA_wI, ldA_wA, lwA_wA, bkA_wA]; assumption) | omega) only [xr_53_22, xg_53, xs_53, xR_275, xt_r275, tl_0, tl_1, hl.1]
  rw [rI_o (show 53 ≠ 276 + out.length by omega), hl.1]
  simp (disch := first | assumption | decide | (simp only [Sh_wI, Sh_wA, Sh_wL, Sh_mT, ldA_wI, lwA_wI, bkA_wI, ldA_wA, lwA_wA, bkA_wA]; assumption) | omega) only [xR_275, xt_r275, tl_1, xg_53, xs_53]
  rw [rI_o (show 53 ≠ 276 + out.length by omega), rI_o (show 53 ≠ 276 + out.length by omega), hl.1, nI_1]
  have a : AgM lmS (fun i => i = 20) τ (wI (wI (wI τ (276 + out.length) 0 x) (276 + out.length) 1 y) 53 20 (nI (out.length + 1))) := by
    refine AgM.w53 (F := fun i => i = 20) ?_ (show (20 : Nat) = 20 from rfl) _
    have b : Ag (fun a => a = 276 + out.length) τ (wI (wI τ (276 + out.length) 0 x) (276 + out.length) 1 y) := Ag.wI (S := fun a => a = 276 + out.length) (Ag.wI (S := fun a => a = 276 + out.length) (Ag.refl _ τ) rfl _ _) rfl _ _
    exact AgM.of b (fun q hq => ⟨by omega, by omega⟩) (by omega)
  refine ⟨_, rfl, hr.agm a (by unfold lmS; omega) (by omega) (by omega) (by omega), ⟨?_, fun i hi => ?_⟩, a.mono (fun _ q => q) (fun _ q => Or.inr (Or.inr (Or.inr (Or.inr q)))), a.f (by omega)⟩
  · rw [rI_w, if_pos ⟨rfl, rfl⟩, List.length_append]; rfl
  · rw [List.length_append] at hi
    have hi : i < out.length + 1 := hi
    rw [rI_o (show 276 + i ≠ 53 by omega)]
    by_cases e : i = out.length
    · subst e
      rw [getD_end, rI_w, if_neg (by omega), rI_w, if_pos ⟨rfl, rfl⟩, rI_w, if_pos ⟨rfl, rfl⟩]
      exact hc
    · rw [getD_app (by omega), rI_o (show 276 + i ≠ 276 + out.length by omega), rI_o (show 276 + i ≠ 276 + out.length by omega)]
      exact hl.2 i (by omega)
theorem u_opens {τ : mm_M} {s op : Nat} (hr : RM τ t n s) (e4 : mI τ 53 4 = nI s) (e8 : mI τ 53 8 = nI op) (ho : op ≤ 6) :
    (op < 6 → ∃ υ, ev (d + 1) 196 [.ref 53] τ = some (.inl (.int 1), υ) ∧ RM υ t n s ∧ AgM nS0 (fun i => i = 8) τ υ ∧ mI υ 53 8 = nI (op + 1)) ∧
    (¬ op < 6 → ∃ υ, ev (d + 1) 196 [.ref 53] τ = some (.inl (.int 0), υ) ∧ MF nS0 f456 τ υ 3 s) := by
  have h := hr.1
  have e5 : mI τ 53 5 = 0 := hr.2.2.2.2.1
  rw [e_M_opensOne d 53 τ (by rw [k_53 h]), xg_53 h, if_pos e5, xg_53 h, e8]
  refine ⟨fun q => ?_, fun q => ?_⟩
  · rw [if_neg (show ¬ nI op = (6 : Int32) from fun z => by have := (nI_eq (b := 6) (by omega) (by decide)).mp z; omega), e_M_opensOne_28, xg_53 h, if_pos e5, xg_53 h, e8, xs_53 h, nI_1, e_M_opensOne_45, xg_53 (σ := wI τ 53 8 (nI (op + 1))) h, show mI (wI τ 53 8 (nI (op + 1))) 53 5 = mI τ 53 5 by (rw [rI_w, if_neg (by omega)]), if_pos e5, e_M_opensOne_57, nar1_1]
    have a : AgM nS0 (fun i => i = 8) τ (wI τ 53 8 (nI (op + 1))) := AgM.w53 (F := fun i => i = 8) (AgM.refl _ _ τ) (show (8 : Nat) = 8 from rfl) _
    exact ⟨_, rfl, hr.agm a (fun z => z) (by omega) (by omega) (by omega), a, by rw [rI_w, if_pos ⟨rfl, rfl⟩]⟩
  · obtain ⟨υ, w1, w2⟩ := u_wrong (d := d) hr 3 s
    rw [if_pos (show nI op = (6 : Int32) by rw [show op = 6 by omega]; rfl), xg_53 h, e4, show (3 : Int32) = nI 3 from rfl, w1, cV_ok, e_M_opensOne_45, xg_53 (w2.1.sh h), w2.2.1, if_neg (by decide), e_M_opensOne_57, nar1_0]
    exact ⟨υ, rfl, w2⟩
/-- behind a FAULT nothing is done -/
theorem u_oneF {τ : mm_M} (h : Sh τ) (e5 : ¬ mI τ 53 5 = 0) : ev (d + 1) 200 [.ref 53] τ = some (.inl uv, τ) := by
  rw [e_M_one d 53 τ (by rw [k_53 h]), xg_53 h, if_neg e5]
theorem u_productF {τ : mm_M} (h : Sh τ) (e5 : ¬ mI τ 53 5 = 0) : ev (d + 2) 198 [.ref 53] τ = some (.inl uv, τ) := by
  rw [e_M_product (d + 1) 53 τ (by rw [k_53 h]), u_oneF h e5, cV_ok, e_M_product_4, xg_53 h, if_neg e5]
theorem u_sumF {τ : mm_M} (h : Sh τ) (e5 : ¬ mI τ 53 5 = 0) : ev (d + 3) 197 [.ref 53] τ = some (.inl uv, τ) := by
  rw [e_M_sum (d + 2) 53 τ (by rw [k_53 h]), u_productF h e5, cV_ok, e_M_sum_4, xg_53 h, if_neg e5]
/-- dimples -/
theorem u_seven {τ : mm_M} {s : Nat} (hr : RM τ t n s) [Decidable (isW t n s [100, 105, 109, 112, 108, 101, 115])] : ∃ υ, ev (d + 2) 186 [.ref 53, .int (nI (encN (fun j => [100, 105, 109, 112, 108, 101].getD j 0 - 96) 6)), .int 115] τ = some (.inl (.int (i01 (isW t n s [100, 105, 109, 112, 108, 101, 115]))), υ) ∧ RM υ t n (if isW t n s [100, 105, 109, 112, 108, 101, 115] then nxt t n s else s) ∧ AgM nS0 f4 τ υ := by
  have h := hr.1
  have hx := hr.2.1
  have hn := hx.1
  have hs := hr.2.2.1
  have e5 : mI τ 53 5 = 0 := hr.2.2.2.2.1
  obtain ⟨υ, b1, b2, b3, b4⟩ := u_blanks (d := d) hr
  obtain ⟨a1, a2, a3, a4⟩ := sp_all (P := isL) (t := t) (n := n) s hs
  have e3 : s + lnL t n s = sp isL t n s := by unfold lnL; omega
  have hsu := b2.1
  have hxu := b2.2.1
  have e2 : mI υ 53 2 = nI n := b2.2.2.2.1
  rw [e_M_isSeven (d + 1) 53 _ _ τ (by rw [k_53 h]), xg_53 h, if_pos e5, b1, cV_ok]
  have by_ : ∀ k, k < 2000 → ev (d + 1) 171 [.ref 53, .int (nI k)] υ = some (.inl (.int (byM t n k)), υ) := fun k hk => by
    have := m_byteAt (d := d + 1) (g := mI υ 53) hsu hxu e2 hk
    rw [wA_id] at this
    exact this
  -- the letters
  have key : ∀ k j, lnL t n s - j = k → j ≤ lnL t n s → rn (d + 2) 186 18 [.ref 53, .int (nI (encN (fun j => [100, 105, 109, 112, 108, 101].getD j 0 - 96) 6)), .int 115, .int (nI (encN (fun i => t (s + i) - 96) (min j 6))), .int (nI j), uv] [] υ = rn (d + 2) 186 18 [.ref 53, .int (nI (encN (fun j => [100, 105, 109, 112, 108, 101].getD j 0 - 96) 6)), .int 115, .int (nI (encN (fun i => t (s + i) - 96) (min (lnL t n s) 6))), .int (nI (lnL t n s)), uv] [] υ := by
    intro k
    induction k with
    | zero =>
      intro j hk hj
      rw [show j = lnL t n s by omega]
    | succ k ih =>
      intro j hk hj
      have hl := let_in hs (j := j) (t := t) (n := n) (by omega)
      have hjn : s + j < n := by omega
      rw [e_M_isSeven_18, xg_53 hsu, b4, nI_add, by_ _ (by omega), cI_ok, m_isSmall hxu, cI1_ok, if_neg (by rw [i01_0]; exact fun z => z ⟨hjn, a4 (s + j) (by omega) (by omega)⟩)]
      by_cases q : 6 ≤ j
      · rw [if_pos (show (6 : Int32) ≤ nI j from nI_le (a := 6) q (by omega)), e_M_isSeven_67, nI_1]
        have := ih (j + 1) (by omega) (by omega)
        rw [Nat.min_eq_right (show 6 ≤ j + 1 by omega)] at this
        rw [Nat.min_eq_right q]
        exact this
      · rw [if_neg (show ¬ (6 : Int32) ≤ nI j from nI_ge (b := 6) (by omega) (by omega)), xg_53 hsu, b4, nI_add, by_ _ (by omega), cI_ok, e_M_isSeven_67, nI_1]
        have hlt : encN (fun i => t (s + i) - 96) j < 27 ^ 6 := Nat.lt_of_lt_of_le (encN_lt _ (fun i hi => by have := let_in hs (t := t) (n := n) (j := i) (by omega); (try dsimp only); omega)) (Nat.pow_le_pow_right (by decide) (by omega))
        have ee : (((27 : Int32) * nI (encN (fun i => t (s + i) - 96) (min j 6)) + byM t n (s + j)) - 97) + 1 = nI (encN (fun i => t (s + i) - 96) (min (j + 1) 6)) := by
          unfold byM
          rw [if_pos hjn, Nat.min_eq_left (by omega), Nat.min_eq_left (by omega), show (27 : Int32) * nI (encN (fun i => t (s + i) - 96) j) = nI (27 * encN (fun i => t (s + i) - 96) j) from pk_mul 27 _, nI_add, show nI (27 * encN (fun i => t (s + i) - 96) j + t (s + j)) - (97 : Int32) = nI (27 * encN (fun i => t (s + i) - 96) j + t (s + j) - 97) from pk_sub (b := 97) (by omega), nI_1]
          show _ = nI (27 * encN (fun i => t (s + i) - 96) j + (t (s + j) - 96))
          congr 1
          omega
        rw [ee]
        exact ih (j + 1) (by omega) (by omega)
  have k0 := key _ 0 rfl (Nat.zero_le _)
  have k0 : rn (d + 2) 186 18 [.ref 53, .int (nI (encN (fun j => [100, 105, 109, 112, 108, 101].getD j 0 - 96) 6)), .int 115, .int 0, .int 0, uv] [] υ = _ := k0
  rw [show d + 1 + 1 = d + 2 from rfl, k0, e_M_isSeven_18, xg_53 hsu, b4, nI_add, by_ _ (by omega), cI_ok, m_isSmall hxu, cI1_ok, if_pos (by rw [i01_0, e3]; exact a3)]
  obtain ⟨t1, t2, t3⟩ := tk2 (t := t) hs
  have yes : isW t n s [100, 105, 109, 112, 108, 101, 115] → ∃ φ, rn (d + 2) 186 106 [.ref 53, .int (nI (encN (fun j => [100, 105, 109, 112, 108, 101].getD j 0 - 96) 6)), .int 115, .int (nI (encN (fun i => t (s + i) - 96) (min (lnL t n s) 6))), .int (nI (lnL t n s)), uv] [.int 1] υ = some (.inl (.int (i01 (isW t n s [100, 105, 109, 112, 108, 101, 115]))), φ) ∧ RM φ t n (if isW t n s [100, 105, 109, 112, 108, 101, 115] then nxt t n s else s) ∧ AgM nS0 f4 τ φ := by
    intro q
    obtain ⟨φ, q1, q2, q3⟩ := u_skipWord (d := d) b2 b4 q.1
    rw [e_M_isSeven_106, if_neg (by decide), q1, cV_ok, e_M_isSeven_117, nar1_1, i01_p q, if_pos q]
    exact ⟨φ, rfl, q2, b3.trans q3⟩
  have no : ¬ isW t n s [100, 105, 109, 112, 108, 101, 115] → ∃ φ, rn (d + 2) 186 105 [.ref 53, .int (nI (encN (fun j => [100, 105, 109, 112, 108, 101].getD j 0 - 96) 6)), .int 115, .int (nI (encN (fun i => t (s + i) - 96) (min (lnL t n s) 6))), .int (nI (lnL t n s)), uv] [] υ = some (.inl (.int (i01 (isW t n s [100, 105, 109, 112, 108, 101, 115]))), φ) ∧ RM φ t n (if isW t n s [100, 105, 109, 112, 108, 101, 115] then nxt t n s else s) ∧ AgM nS0 f4 τ φ := by
    intro q
    rw [e_M_isSeven_105, e_M_isSeven_106, if_pos rfl, e_M_isSeven_117, nar1_0, i01_n q, if_neg q]
    exact ⟨υ, rfl, b2, b3⟩
  by_cases q7 : lnL t n s = 7
  · have h2 : tkK t n s = 2 := t1.mpr (by omega)
    have hb : ∀ i, i < 7 → 97 ≤ t (s + i) ∧ t (s + i) ≤ 122 := fun i hi => let_in hs (t := t) (n := n) (by omega)
    have m6 : min (lnL t n s) 6 = 6 := by omega
    rw [if_pos (show nI (lnL t n s) = (7 : Int32) by rw [q7]; rfl)]
    have hlt : encN (fun i => t (s + i) - 96) 6 < 27 ^ 6 := encN_lt 6 (fun i hi => by have := hb i (by omega); (try dsimp only); omega)
    by_cases q6 : encN (fun i => t (s + i) - 96) 6 = encN (fun j => [100, 105, 109, 112, 108, 101].getD j 0 - 96) 6
    · rw [if_pos (show nI (encN (fun i => t (s + i) - 96) (min (lnL t n s) 6)) = nI (encN (fun j => [100, 105, 109, 112, 108, 101].getD j 0 - 96) 6) by rw [m6, q6]), xg_53 hsu, b4, ra_6, by_ _ (by omega), cI_ok]
      have hin := (encN_inj 6 6 (fun i hi => by have := hb i (by omega); (try dsimp only); omega) (by decide) q6).2
      have eb : byM t n (s + 6) = nI (t (s + 6)) := by unfold byM; rw [if_pos (by omega)]
      rw [eb]
      have hb6 := hb 6 (by omega)
      by_cases q1 : t (s + 6) = 115
      · rw [if_pos (show nI (t (s + 6)) = (115 : Int32) by rw [q1]; rfl)]
        refine yes ⟨h2, by rw [t2 h2, q7]; simp, fun j hj => ?_⟩
        have hj : j < 7 := hj
        rcases (show j = 6 ∨ j < 6 by omega) with rfl | hj6
        · exact q1
        · have := hin j hj6
          have := hb j hj
          rcases (show j = 0 ∨ j = 1 ∨ j = 2 ∨ j = 3 ∨ j = 4 ∨ j = 5 by omega) with rfl | rfl | rfl | rfl | rfl | rfl <;> simp at * <;> omega
      · rw [if_neg (show ¬ nI (t (s + 6)) = (115 : Int32) from fun z => q1 ((nI_eq (b := 115) (by omega) (by decide)).mp z))]
        exact no (fun z => q1 (z.2.2 6 (by decide)))
    · rw [if_neg (show ¬ nI (encN (fun i => t (s + i) - 96) (min (lnL t n s) 6)) = nI (encN (fun j => [100, 105, 109, 112, 108, 101].getD j 0 - 96) 6) from fun z => q6 (by rw [m6] at z; exact (nI_eq (by omega) (by decide)).mp z))]
      refine no (fun z => q6 (fo_as 6 (fun i hi x => ?_)))
      have := z.2.2 i (by show i < 7; omega)
      rcases (show i = 0 ∨ i = 1 ∨ i = 2 ∨ i = 3 ∨ i = 4 ∨ i = 5 by omega) with rfl | rfl | rfl | rfl | rfl | rfl <;> simp at * <;> omega
  · rw [if_neg (show ¬ nI (lnL t n s) = (7 : Int32) from fun z => q7 ((nI_eq (b := 7) (by omega) (by decide)).mp z))]
    refine no (fun z => q7 ?_)
    have z1 := z.2.1
    rw [t2 z.1] at z1
    have z1 : s + lnL t n s - s = 7 := z1
    omega
end LawM
