/-! reading a LAW: one function for both sides; the class -/
abbrev PR : Type := (Nat × Nat) ⊕ (Nat × List Nat)
def pb (x : Option PR) (f : Nat → List Nat → Option PR) : Option PR := match x with
  | some (.inr q) => f q.1 q.2
  | some (.inl q) => some (.inl q)
  | none => none
def ptk (t : Nat → Nat) (n s c : Nat) (f : Nat → Option PR) : Option PR := if s < n ∧ t s = c then f (nxt t n s) else some (.inl (1, s))
def sOp (t : Nat → Nat) (n s : Nat) : Option Nat := if s < n ∧ t s = 43 then some 1010 else if s < n ∧ t s = 45 then some 1011 else none
def pOp (t : Nat → Nat) (n s : Nat) : Option Nat := if s < n ∧ t s = 42 then some 1012 else if s < n ∧ t s = 47 then some 1013 else if s < n ∧ t s = 37 then some 1014 else none
def pls (o : Option Nat) (y : Option PR) (f : Nat → Option PR) : Option PR := match o with
  | none => y
  | some c => f c
/-- a unit, sums inside it by rec -/
noncomputable def unitF (t : Nat → Nat) (n : Nat) (rec : Nat → Nat → List Nat → Option PR) (op s : Nat) (out : List Nat) : Option PR := if tkK t n s = 1 then (match pN t n s 0 1000 with
      | .inr V => some (.inr (nxt t n s, out ++ [V]))
      | .inl e => some (.inl (e, s)))
    else pls (wN t n s wds1 0) (pls (wN t n s wds2 0) (if s < n ∧ t s = 40 then (if 6 ≤ op then some (.inl (3, s)) else pb (rec (op + 1) (nxt t n s) out) fun s2 o2 => ptk t n s2 41 fun s3 => some (.inr (s3, o2))) else some (.inl (1, s)))
        fun i => if 6 ≤ op then some (.inl (3, s)) else ptk t n (nxt t n s) 91 fun s1 => pb (rec (op + 1) s1 out) fun s2 o2 => ptk t n s2 44 fun s3 => pb (rec (op + 1) s3 o2) fun s4 o4 => ptk t n s4 93 fun s5 => some (.inr (s5, o4 ++ [1015 + i])))
      fun i => some (.inr (nxt t n s, out ++ [1000 + i]))
/-- modes: 0 a sum, 1 a sum's rest, 2 a product, 3 its rest, 4 a unit; the codes come behind out -/
noncomputable def lpF (t : Nat → Nat) (n : Nat) : Nat → Nat → Nat → Nat → List Nat → Option PR
  | 0, _, _, _, _ => none
  | k + 1, 0, op, s, out => pb (lpF t n k 2 op s out) fun s' o' => lpF t n k 1 op s' o'
  | k + 1, 1, op, s, out => pls (sOp t n s) (some (.inr (s, out))) fun c => pb (lpF t n k 2 op (nxt t n s) out) fun s' o' => lpF t n k 1 op s' (o' ++ [c])
  | k + 1, 2, op, s, out => pb (lpF t n k 4 op s out) fun s' o' => lpF t n k 3 op s' o'
  | k + 1, 3, op, s, out => pls (pOp t n s) (some (.inr (s, out))) fun c => pb (lpF t n k 4 op (nxt t n s) out) fun s' o' => lpF t n k 3 op s' (o' ++ [c])
  | k + 1, _, op, s, out => unitF t n (fun op s out => lpF t n k 0 op s out) op s out
theorem lpF_4 (t : Nat → Nat) (n k op s : Nat) (out : List Nat) (m : Nat) : lpF t n (k + 1) (m + 4) op s out = unitF t n (fun op s out => lpF t n k 0 op s out) op s out := rfl
theorem pb_inr {x : Option PR} {f : Nat → List Nat → Option PR} {q : Nat × List Nat} (h : pb x f = some (.inr q)) : ∃ s o, x = some (.inr (s, o)) ∧ f s o = some (.inr q) := by
  match x, h with
  | some (.inr (s, o)), h => exact ⟨s, o, rfl, h⟩
theorem ptk_inr {t : Nat → Nat} {n s c : Nat} {f : Nat → Option PR} {q : Nat × List Nat} (h : ptk t n s c f = some (.inr q)) : (s < n ∧ t s = c) ∧ f (nxt t n s) = some (.inr q) := by
  unfold ptk at h
  by_cases z : s < n ∧ t s = c
  · rw [if_pos z] at h; exact ⟨z, h⟩
  · rw [if_neg z] at h; cases h
theorem sOp_some {t : Nat → Nat} {n s c : Nat} (h : sOp t n s = some c) : s < n ∧ 1010 ≤ c ∧ c ≤ 1011 ∧ tkK t n s = 3 := by
  unfold sOp at h
  unfold tkK
  by_cases z : s < n ∧ t s = 43
  · rw [if_pos z] at h; cases h
    refine ⟨z.1, by omega, by omega, ?_⟩
    rw [if_pos z.1, z.2]; rfl
  · rw [if_neg z] at h
    by_cases y : s < n ∧ t s = 45
    · rw [if_pos y] at h; cases h
      refine ⟨y.1, by omega, by omega, ?_⟩
      rw [if_pos y.1, y.2]; rfl
    · rw [if_neg y] at h; cases h
theorem pOp_some {t : Nat → Nat} {n s c : Nat} (h : pOp t n s = some c) : s < n ∧ 1012 ≤ c ∧ c ≤ 1014 := by
  unfold pOp at h
  by_cases z : s < n ∧ t s = 42
  · rw [if_pos z] at h; cases h
    exact ⟨z.1, by omega, by omega⟩
  · rw [if_neg z] at h
    by_cases y : s < n ∧ t s = 47
    · rw [if_pos y] at h; cases h
      exact ⟨y.1, by omega, by omega⟩
    · rw [if_neg y] at h
      by_cases x : s < n ∧ t s = 37
      · rw [if_pos x] at h; cases h
        exact ⟨x.1, by omega, by omega⟩
      · rw [if_neg x] at h; cases h
theorem wN_lt {t : Nat → Nat} {n s i : Nat} {ws : List (List Nat)} (h : wN t n s ws 0 = some i) : s < n := by
  have := (wN_some ws 0 i h).1
  unfold tkK at this
  split at this
  · assumption
  · omega
/-- no more codes than bytes -/
theorem lpF_len {t : Nat → Nat} {n : Nat} : ∀ k m op s out s' o', s ≤ n → lpF t n k m op s out = some (.inr (s', o')) → s ≤ s' ∧ s' ≤ n ∧ o'.length + s ≤ out.length + s'
  | 0, _, _, _, _, _, _, _, h => by simp [lpF] at h
  | k + 1, m, op, s, out, s', o', hs, h => by
    have nx := nxt_le (t := t) hs
    match m, h with
    | 0, h =>
      obtain ⟨s1, o1, e1, e2⟩ := pb_inr (show pb (lpF t n k 2 op s out) _ = _ from h)
      have a := lpF_len k 2 op s out s1 o1 hs e1
      have b := lpF_len k 1 op s1 o1 s' o' a.2.1 e2
      omega
    | 2, h =>
      obtain ⟨s1, o1, e1, e2⟩ := pb_inr (show pb (lpF t n k 4 op s out) _ = _ from h)
      have a := lpF_len k 4 op s out s1 o1 hs e1
      have b := lpF_len k 3 op s1 o1 s' o' a.2.1 e2
      omega
    | 1, h =>
      have h : pls (sOp t n s) (some (.inr (s, out))) (fun c => pb (lpF t n k 2 op (nxt t n s) out) fun s' o' => lpF t n k 1 op s' (o' ++ [c])) = some (.inr (s', o')) := h
      cases q : sOp t n s with
      | none => rw [q] at h; cases h; omega
      | some c =>
        rw [q] at h
        have h : pb (lpF t n k 2 op (nxt t n s) out) (fun s' o' => lpF t n k 1 op s' (o' ++ [c])) = some (.inr (s', o')) := h
        have z := sOp_some q
        obtain ⟨s1, o1, e1, e2⟩ := pb_inr h
        have a := lpF_len k 2 op _ out s1 o1 nx.2.1 e1
        have b := lpF_len k 1 op s1 _ s' o' a.2.1 e2
        have := nx.2.2 z.1
        simp only [List.length_append, List.length_cons, List.length_nil] at b
        omega
    | 3, h =>
      have h : pls (pOp t n s) (some (.inr (s, out))) (fun c => pb (lpF t n k 4 op (nxt t n s) out) fun s' o' => lpF t n k 3 op s' (o' ++ [c])) = some (.inr (s', o')) := h
      cases q : pOp t n s with
      | none => rw [q] at h; cases h; omega
      | some c =>
        rw [q] at h
        have h : pb (lpF t n k 4 op (nxt t n s) out) (fun s' o' => lpF t n k 3 op s' (o' ++ [c])) = some (.inr (s', o')) := h
        have z := pOp_some q
        obtain ⟨s1, o1, e1, e2⟩ := pb_inr h
        have a := lpF_len k 4 op _ out s1 o1 nx.2.1 e1
        have b := lpF_len k 3 op s1 _ s' o' a.2.1 e2
        have := nx.2.2 z.1
        simp only [List.length_append, List.length_cons, List.length_nil] at b
        omega
    | m + 4, h =>
      rw [lpF_4] at h
      unfold unitF at h
      by_cases q : tkK t n s = 1
      · rw [if_pos q] at h
        have hlt : s < n := by
          unfold tkK at q
          split at q
          · assumption
          · omega
        have := nx.2.2 hlt
        cases z : pN t n s 0 1000 with
        | inl e => rw [z] at h; cases h
        | inr V =>
          rw [z] at h
          cases h
          simp only [List.length_append, List.length_cons, List.length_nil]
          omega
      · rw [if_neg q] at h
        cases z1 : wN t n s wds1 0 with
        | some i =>
          rw [z1] at h
          have := nx.2.2 (wN_lt z1)
          cases h
          simp only [List.length_append, List.length_cons, List.length_nil]
          omega
        | none =>
          rw [z1] at h
          cases z2 : wN t n s wds2 0 with
          | some i =>
            rw [z2] at h
            have := nx.2.2 (wN_lt z2)
            by_cases q6 : 6 ≤ op
            · simp only [pls, if_pos q6] at h; cases h
            · simp only [pls, if_neg q6] at h
              obtain ⟨y1, h⟩ := ptk_inr h
              have n1 := nxt_le (t := t) nx.2.1
              obtain ⟨s2, o2, e2, h⟩ := pb_inr h
              have a := lpF_len k 0 (op + 1) _ out s2 o2 n1.2.1 e2
              obtain ⟨y2, h⟩ := ptk_inr h
              have n2 := nxt_le (t := t) a.2.1
              obtain ⟨s4, o4, e4, h⟩ := pb_inr h
              have b := lpF_len k 0 (op + 1) _ o2 s4 o4 n2.2.1 e4
              obtain ⟨y3, h⟩ := ptk_inr h
              have n3 := nxt_le (t := t) b.2.1
              cases h
              simp only [List.length_append, List.length_cons, List.length_nil]
              omega
          | none =>
            rw [z2] at h
            by_cases q4 : s < n ∧ t s = 40
            · by_cases q6 : 6 ≤ op
              · simp only [pls, if_pos q4, if_pos q6] at h; cases h
              · simp only [pls, if_pos q4, if_neg q6] at h
                have := nx.2.2 q4.1
                obtain ⟨s2, o2, e2, h⟩ := pb_inr h
                have a := lpF_len k 0 (op + 1) _ out s2 o2 nx.2.1 e2
                obtain ⟨y2, h⟩ := ptk_inr h
                have n2 := nxt_le (t := t) a.2.1
                cases h
                omega
            · simp only [pls, if_neg q4] at h; cases h
/-- the codes so far, in the class's LAW at w -/
def LSq (w : Nat) (τ : mm_M) (out : List Nat) : Prop := mI τ w 2 = nI out.length ∧ ∀ i, i < out.length → mI τ (w + 1) i = nI (out.getD i 0)
def lwS (w a : Nat) : Prop := a = 1 ∨ a = w ∨ a = w + 1
theorem getD_app {out : List Nat} {c i : Nat} (h : i < out.length) : (out ++ [c]).getD i 0 = out.getD i 0 := by
  rw [List.getD_eq_getElem?_getD, List.getD_eq_getElem?_getD, List.getElem?_append_left h]
theorem getD_end (out : List Nat) (c : Nat) : (out ++ [c]).getD out.length 0 = c := by
  rw [List.getD_eq_getElem?_getD, List.getElem?_append_right (Nat.le_refl _), Nat.sub_self]
  rfl
section LawC
variable {d : Nat} {t : Nat → Nat} {n w : Nat}
theorem sg43 : isS 43 := by unfold isS; decide
theorem sg45 : isS 45 := by unfold isS; decide
theorem sg42 : isS 42 := by unfold isS; decide
theorem sg47 : isS 47 := by unfold isS; decide
theorem sg37 : isS 37 := by unfold isS; decide
theorem sg40 : isS 40 := by unfold isS; decide
theorem sg41 : isS 41 := by unfold isS; decide
theorem sg91 : isS 91 := by unfold isS; decide
theorem sg93 : isS 93 := by unfold isS; decide
theorem sg44 : isS 44 := by unfold isS; decide
theorem sg59 : isS 59 := by unfold isS; decide
theorem LSq.at1 {τ υ : mm_M} {out : List Nat} (hw : isLw w) (h : LSq w τ out) (a : Ag at1 τ υ) : LSq w υ out := by
  have hw' : w = 13 ∨ w = 46 := hw
  unfold LSq
  rw [a.at (show ¬ w = 1 by omega), a.at (show ¬ w + 1 = 1 by omega)]
  exact h
theorem c_add {τ : mm_M} {out : List Nat} {c s : Nat} (hw : isLw w) (hr : RS τ t n s) (hl : LSq w τ out) (h150 : out.length < 150) : ∃ υ, ev d 66 [.ref w, .int (nI c)] τ = some (.inl (.int 1), υ) ∧ RS υ t n s ∧ LSq w υ (out ++ [c]) ∧ TG (lwS w) τ υ := by
  have hw' : w = 13 ∨ w = 46 := hw
  have h := hr.1
  rw [e_Law_add d w (nI c) τ (by rw [k_lw0 h hw])]
  simp (disch := first | assumption | decide | (simp only [Sh_wI, Sh_wA, Sh_wL, Sh_mT, ldA_wI, lwA_wI, bkA_wI, ldA_wA, lwA_wA, bkA_wA]; assumption) | omega) only [xg_lw, xr_lw0, xt_lw1, xs_lw, hl.1]
  rw [if_pos (show nI out.length < (150 : Int32) from nI_lt (b := 150) h150 (by decide)), rI_o (show w ≠ w + 1 by omega), hl.1, nI_1, nar1_1]
  have a : Ag (lwS w) τ (wI (wI τ (w + 1) out.length (nI c)) w 2 (nI (out.length + 1))) := ((Ag.refl _ τ).wI (Or.inr (Or.inr rfl)) _ _).wI (Or.inr (Or.inl rfl)) _ _
  have e1 : mI (wI (wI τ (w + 1) out.length (nI c)) w 2 (nI (out.length + 1))) 1 = mI τ 1 := by rw [rI_o (by omega), rI_o (by omega)]
  have b : Ag (fun a => a = w ∨ a = w + 1) τ (wI (wI τ (w + 1) out.length (nI c)) w 2 (nI (out.length + 1))) := ((Ag.refl _ τ).wI (Or.inr rfl) _ _).wI (Or.inl rfl) _ _
  refine ⟨_, rfl, hr.ag b (by omega) (by omega) (fun x hx => by omega), ⟨?_, fun i hi => ?_⟩, a, by rw [e1], by rw [e1], by rw [e1]⟩
  · rw [rI_w, if_pos ⟨rfl, rfl⟩, List.length_append]; rfl
  · rw [List.length_append] at hi
    have hi : i < out.length + 1 := hi
    rw [rI_o (show w + 1 ≠ w by omega), rI_w]
    by_cases e : i = out.length
    · subst e; rw [if_pos ⟨rfl, rfl⟩, getD_end]
    · rw [if_neg (fun z => e z.2), getD_app (by omega)]; exact hl.2 i (by omega)
/-- how a reading ends -/
def CRes (t : Nat → Nat) (n w : Nat) (τ : mm_M) (b : Int32) (υ : mm_M) (r : PR) : Prop := match r with
  | .inr q => b = 1 ∧ RS υ t n q.1 ∧ LSq w υ q.2 ∧ TG (lwS w) τ υ
  | .inl q => b = 0 ∧ TF (lwS w) τ υ q.1 q.2
theorem CRes.after {τ υ φ : mm_M} {b : Int32} {r : PR} (h : TG (lwS w) τ υ) (g : CRes t n w υ b φ r) : CRes t n w τ b φ r := by
  match r, g with
  | .inr q, g => exact ⟨g.1, g.2.1, g.2.2.1, h.trans g.2.2.2⟩
  | .inl q, g => exact ⟨g.1, h.tf g.2⟩
def CU (d : Nat) (t : Nat → Nat) (n w k : Nat) : Prop := ∀ op e s out τ r, op + e = 6 → lpF t n k 4 op s out = some r → RS τ t n s → LSq w τ out → out.length ≤ s → ∃ b υ, ev (d + 5 + 3 * e) 65 [.ref w, .ref 1, .int (nI op)] τ = some (.inl (.int b), υ) ∧ CRes t n w τ b υ r
def CP (d : Nat) (t : Nat → Nat) (n w k : Nat) : Prop := ∀ op e s out τ r, op + e = 6 → lpF t n k 2 op s out = some r → RS τ t n s → LSq w τ out → out.length ≤ s → ∃ b υ, ev (d + 6 + 3 * e) 63 [.ref w, .ref 1, .int (nI op)] τ = some (.inl (.int b), υ) ∧ CRes t n w τ b υ r
def CSm (d : Nat) (t : Nat → Nat) (n w k : Nat) : Prop := ∀ op e s out τ r, op + e = 6 → lpF t n k 0 op s out = some r → RS τ t n s → LSq w τ out → out.length ≤ s → ∃ b υ, ev (d + 7 + 3 * e) 62 [.ref w, .ref 1, .int (nI op)] τ = some (.inl (.int b), υ) ∧ CRes t n w τ b υ r
def CPl (d : Nat) (t : Nat → Nat) (n w k : Nat) : Prop := ∀ op e s out τ r i v, op + e = 6 → lpF t n k 3 op s out = some r → RS τ t n s → LSq w τ out → out.length ≤ s → i ≤ s → ∃ b υ, rn (d + 6 + 3 * e) 63 10 [.ref w, .ref 1, .int (nI op), .int 1, .int (nI i), v] [] τ = some (.inl (.int b), υ) ∧ CRes t n w τ b υ r
def CSl (d : Nat) (t : Nat → Nat) (n w k : Nat) : Prop := ∀ op e s out τ r i v, op + e = 6 → lpF t n k 1 op s out = some r → RS τ t n s → LSq w τ out → out.length ≤ s → i ≤ s → ∃ b υ, rn (d + 7 + 3 * e) 62 10 [.ref w, .ref 1, .int (nI op), .int 1, .int (nI i), v] [] τ = some (.inl (.int b), υ) ∧ CRes t n w τ b υ r
theorem c_pcode {τ : mm_M} {s : Nat} (hr : RS τ t n s) : ev (d + 1) 64 [.ref 1] τ = some (.inl (.int (oI32 (pOp t n s))), τ) := by
  rw [e_Law_productCode]
  unfold pOp
  rw [show (42 : Int32) = nI 42 from rfl, show (47 : Int32) = nI 47 from rfl, show (37 : Int32) = nI 37 from rfl, t_isSign hr sg42, cI1_ok]
  by_cases q1 : s < n ∧ t s = 42
  · rw [i01_p q1, if_neg (by decide), if_pos q1, e_Law_productCode_46]; rfl
  · rw [i01_n q1, if_pos rfl, if_neg q1, t_isSign hr sg47, cI1_ok]
    by_cases q2 : s < n ∧ t s = 47
    · rw [i01_p q2, if_neg (by decide), if_pos q2, e_Law_productCode_46]; rfl
    · rw [i01_n q2, if_pos rfl, if_neg q2, t_isSign hr sg37, cI1_ok]
      by_cases q3 : s < n ∧ t s = 37
      · rw [i01_p q3, if_neg (by decide), if_pos q3, e_Law_productCode_46]; rfl
      · rw [i01_n q3, if_pos rfl, if_neg q3, e_Law_productCode_46]; rfl
theorem at1_lw {a : Nat} (h : at1 a) : lwS w a := Or.inl h
theorem nI_m1 {k : Nat} (h : k < 2147483648) : ¬ nI k = (-1 : Int32) := fun z => m1_ne h z.symm
/-- a product's rest -/
theorem c_Pl (hw : isLw w) (hn : n ≤ 150) {k : Nat} (hU : CU d t n w k) (hL : CPl d t n w k) : CPl d t n w (k + 1) := by
  intro op e s out τ r i v he h hr hl ho hi
  have hs := hr.2.2.2.1
  have nx := nxt_le (t := t) hs
  have hop : op ≤ 6 := by omega
  have h : pls (pOp t n s) (some (.inr (s, out))) (fun c => pb (lpF t n k 4 op (nxt t n s) out) fun s' o' => lpF t n k 3 op s' (o' ++ [c])) = some r := h
  rw [show d + 6 + 3 * e = (d + 5 + 3 * e) + 1 by omega, e_Law_readProduct_10]
  have stop : pOp t n s = none → ∃ b υ, rn (d + 5 + 3 * e + 1) 63 70 [.ref w, .ref 1, .int (nI op), .int 1, .int (nI i), v] [] τ = some (.inl (.int b), υ) ∧ CRes t n w τ b υ r := by
    intro q
    rw [q] at h
    cases h
    rw [e_Law_readProduct_70, nar1_1]
    exact ⟨1, τ, rfl, rfl, hr, hl, TG.refl _ τ⟩
  by_cases q1 : 150 ≤ i
  · rw [if_pos (show (150 : Int32) ≤ nI i from nI_le (a := 150) q1 (by omega))]
    apply stop
    unfold pOp
    rw [if_neg (by omega), if_neg (by omega), if_neg (by omega)]
  · rw [if_neg (show ¬ (150 : Int32) ≤ nI i from nI_ge (b := 150) (by omega) (by omega)), if_neg (show ¬ (1 : Int32) = 0 by decide), show d + 5 + 3 * e = (d + 4 + 3 * e) + 1 by omega, c_pcode hr, cI1_ok]
    cases q : pOp t n s with
    | none =>
      rw [if_pos (show oI32 none = -1 from rfl), show d + 4 + 3 * e + 1 = d + 5 + 3 * e by omega]
      exact stop q
    | some c =>
      obtain ⟨z1, z2, z3⟩ := pOp_some q
      rw [q] at h
      have h : pb (lpF t n k 4 op (nxt t n s) out) (fun s' o' => lpF t n k 3 op s' (o' ++ [c])) = some r := h
      rw [if_neg (show ¬ oI32 (some c) = -1 from nI_m1 (by omega)), c_pcode hr, cI1_ok, q, show oI32 (some c) = nI c from rfl]
      obtain ⟨τ1, n1, n2, n3⟩ := t_next (d := d + 4 + 3 * e + 1) hr
      rw [n1, cV1_ok]
      have lt := nx.2.2 z1
      cases hx : lpF t n k 4 op (nxt t n s) out with
      | none => rw [hx] at h; cases h
      | some r1 =>
        rw [hx] at h
        obtain ⟨b, υ, u1, u2⟩ := hU op e (nxt t n s) out τ1 r1 he hx n2 (hl.at1 hw n3.1) (by omega)
        rw [show d + 4 + 3 * e + 1 = d + 5 + 3 * e by omega, u1, cI_ok]
        match r1, u2, h, hx with
        | .inl q, u2, h, _ =>
          obtain ⟨rfl, u3⟩ := u2
          cases h
          rw [if_pos rfl, e_Law_readProduct_62, e_Law_readProduct_63, e_Law_readProduct_10]
          refine ⟨0, υ, ?_, rfl, (n3.mono (fun _ => at1_lw)).tf u3⟩
          by_cases y : 150 ≤ nI i + 1
          · rw [if_pos y, e_Law_readProduct_70, nar1_0]
          · rw [if_neg y, if_pos rfl, e_Law_readProduct_70, nar1_0]
        | .inr q, u2, h, hx =>
          obtain ⟨rfl, u3, u4, u5⟩ := u2
          have ln := lpF_len k 4 op _ out q.1 q.2 nx.2.1 hx
          obtain ⟨υ2, a1, a2, a3, a4⟩ := c_add (d := d + 5 + 3 * e) (c := c) hw u3 u4 (by omega)
          rw [if_neg (by decide), a1, cI_ok, if_neg (by decide), e_Law_readProduct_63, nI_1]
          obtain ⟨b, φ, v1, v2⟩ := hL op e q.1 (q.2 ++ [c]) υ2 r (i + 1) (.int (nI c)) he h a2 a3 (by rw [List.length_append]; show q.2.length + 1 ≤ q.1; omega) (by omega)
          rw [show d + 6 + 3 * e = d + 5 + 3 * e + 1 by omega] at v1
          exact ⟨b, φ, v1, v2.after (((n3.mono (fun _ => at1_lw)).trans u5).trans a4)⟩
theorem c_P (hw : isLw w) {k : Nat} (hU : CU d t n w k) (hL : CPl d t n w k) : CP d t n w (k + 1) := by
  intro op e s out τ r he h hr hl ho
  have hs := hr.2.2.2.1
  have h : pb (lpF t n k 4 op s out) (fun s' o' => lpF t n k 3 op s' o') = some r := h
  rw [show d + 6 + 3 * e = (d + 5 + 3 * e) + 1 by omega, e_Law_readProduct _ w 1 (nI op) τ (by rw [k_lw0 hr.1 hw])]
  cases hx : lpF t n k 4 op s out with
  | none => rw [hx] at h; cases h
  | some r1 =>
    rw [hx] at h
    obtain ⟨b, υ, u1, u2⟩ := hU op e s out τ r1 he hx hr hl ho
    rw [u1, cI_ok]
    match r1, u2, h, hx with
    | .inl q, u2, h, _ =>
      obtain ⟨rfl, u3⟩ := u2
      cases h
      rw [e_Law_readProduct_10, if_neg (by decide), if_pos rfl, e_Law_readProduct_70, nar1_0]
      exact ⟨0, υ, rfl, rfl, u3⟩
    | .inr q, u2, h, hx =>
      obtain ⟨rfl, u3, u4, u5⟩ := u2
      have ln := lpF_len k 4 op _ out q.1 q.2 hs hx
      obtain ⟨b, φ, v1, v2⟩ := hL op e q.1 q.2 υ r 0 uv he h u3 u4 (by omega) (Nat.zero_le _)
      rw [show d + 6 + 3 * e = d + 5 + 3 * e + 1 by omega] at v1
      exact ⟨b, φ, v1, v2.after u5⟩
/-- a sum's rest -/
theorem c_Sl (hw : isLw w) (hn : n ≤ 150) {k : Nat} (hU : CP d t n w k) (hL : CSl d t n w k) : CSl d t n w (k + 1) := by
  intro op e s out τ r i v he h hr hl ho hi
  have hs := hr.2.2.2.1
  have nx := nxt_le (t := t) hs
  have h : pls (sOp t n s) (some (.inr (s, out))) (fun c => pb (lpF t n k 2 op (nxt t n s) out) fun s' o' => lpF t n k 1 op s' (o' ++ [c])) = some r := h
  rw [show d + 7 + 3 * e = (d + 6 + 3 * e) + 1 by omega, e_Law_readSum_10]
  have stop : sOp t n s = none → ∃ b υ, rn (d + 6 + 3 * e + 1) 62 94 [.ref w, .ref 1, .int (nI op), .int 1, .int (nI i), v] [] τ = some (.inl (.int b), υ) ∧ CRes t n w τ b υ r := by
    intro q
    rw [q] at h
    cases h
    rw [e_Law_readSum_94, nar1_1]
    exact ⟨1, τ, rfl, rfl, hr, hl, TG.refl _ τ⟩
  by_cases q1 : 150 ≤ i
  · rw [if_pos (show (150 : Int32) ≤ nI i from nI_le (a := 150) q1 (by omega))]
    apply stop
    unfold sOp
    rw [if_neg (by omega), if_neg (by omega)]
  · have go : ∀ c, sOp t n s = some c → ∃ b υ, rn (d + 6 + 3 * e + 1) 62 58 [.ref w, .ref 1, .int (nI op), .int 1, .int (nI i), v] [.int (nI c)] τ = some (.inl (.int b), υ) ∧ CRes t n w τ b υ r := by
      intro c q
      obtain ⟨z1, z2, z3, -⟩ := sOp_some q
      rw [q] at h
      have h : pb (lpF t n k 2 op (nxt t n s) out) (fun s' o' => lpF t n k 1 op s' (o' ++ [c])) = some r := h
      obtain ⟨τ1, n1, n2, n3⟩ := t_next (d := d + 6 + 3 * e) hr
      rw [e_Law_readSum_58, n1, cV1_ok]
      have lt := nx.2.2 z1
      cases hx : lpF t n k 2 op (nxt t n s) out with
      | none => rw [hx] at h; cases h
      | some r1 =>
        rw [hx] at h
        obtain ⟨b, υ, u1, u2⟩ := hU op e (nxt t n s) out τ1 r1 he hx n2 (hl.at1 hw n3.1) (by omega)
        rw [u1, cI_ok]
        match r1, u2, h, hx with
        | .inl q, u2, h, _ =>
          obtain ⟨rfl, u3⟩ := u2
          cases h
          rw [if_pos rfl, e_Law_readSum_86, e_Law_readSum_87, e_Law_readSum_10]
          refine ⟨0, υ, ?_, rfl, (n3.mono (fun _ => at1_lw)).tf u3⟩
          by_cases y : 150 ≤ nI i + 1
          · rw [if_pos y, e_Law_readSum_94, nar1_0]
          · rw [if_neg y, if_pos rfl, e_Law_readSum_94, nar1_0]
        | .inr q, u2, h, hx =>
          obtain ⟨rfl, u3, u4, u5⟩ := u2
          have ln := lpF_len k 2 op _ out q.1 q.2 nx.2.1 hx
          obtain ⟨υ2, a1, a2, a3, a4⟩ := c_add (d := d + 6 + 3 * e) (c := c) hw u3 u4 (by omega)
          rw [if_neg (by decide), a1, cI_ok, if_neg (by decide), e_Law_readSum_87, nI_1]
          obtain ⟨b, φ, v1, v2⟩ := hL op e q.1 (q.2 ++ [c]) υ2 r (i + 1) (.int (nI c)) he h a2 a3 (by rw [List.length_append]; show q.2.length + 1 ≤ q.1; omega) (by omega)
          rw [show d + 7 + 3 * e = d + 6 + 3 * e + 1 by omega] at v1
          exact ⟨b, φ, v1, v2.after (((n3.mono (fun _ => at1_lw)).trans u5).trans a4)⟩
    rw [if_neg (show ¬ (150 : Int32) ≤ nI i from nI_ge (b := 150) (by omega) (by omega)), if_neg (show ¬ (1 : Int32) = 0 by decide), show (43 : Int32) = nI 43 from rfl, show (45 : Int32) = nI 45 from rfl, t_isSign hr sg43, cI1_ok]
    by_cases p1 : s < n ∧ t s = 43
    · rw [i01_p p1, if_neg (by decide), e_Law_readSum_40, show (43 : Int32) = nI 43 from rfl, t_isSign hr sg43, cI1_ok, i01_p p1, if_neg (by decide)]
      exact go 1010 (by unfold sOp; rw [if_pos p1])
    · rw [i01_n p1, if_pos rfl, t_isSign hr sg45, cI1_ok]
      by_cases p2 : s < n ∧ t s = 45
      · rw [i01_p p2, if_neg (by decide), e_Law_readSum_40, show (43 : Int32) = nI 43 from rfl, t_isSign hr sg43, cI1_ok, i01_n p1, if_pos rfl]
        exact go 1011 (by unfold sOp; rw [if_neg p1, if_pos p2])
      · rw [i01_n p2, if_pos rfl]
        exact stop (by unfold sOp; rw [if_neg p1, if_neg p2])
theorem c_Sm (hw : isLw w) {k : Nat} (hU : CP d t n w k) (hL : CSl d t n w k) : CSm d t n w (k + 1) := by
  intro op e s out τ r he h hr hl ho
  have hs := hr.2.2.2.1
  have h : pb (lpF t n k 2 op s out) (fun s' o' => lpF t n k 1 op s' o') = some r := h
  rw [show d + 7 + 3 * e = (d + 6 + 3 * e) + 1 by omega, e_Law_readSum _ w 1 (nI op) τ (by rw [k_lw0 hr.1 hw])]
  cases hx : lpF t n k 2 op s out with
  | none => rw [hx] at h; cases h
  | some r1 =>
    rw [hx] at h
    obtain ⟨b, υ, u1, u2⟩ := hU op e s out τ r1 he hx hr hl ho
    rw [u1, cI_ok]
    match r1, u2, h, hx with
    | .inl q, u2, h, _ =>
      obtain ⟨rfl, u3⟩ := u2
      cases h
      rw [e_Law_readSum_10, if_neg (by decide), if_pos rfl, e_Law_readSum_94, nar1_0]
      exact ⟨0, υ, rfl, rfl, u3⟩
    | .inr q, u2, h, hx =>
      obtain ⟨rfl, u3, u4, u5⟩ := u2
      have ln := lpF_len k 2 op _ out q.1 q.2 hs hx
      obtain ⟨b, φ, v1, v2⟩ := hL op e q.1 q.2 υ r 0 uv he h u3 u4 (by omega) (Nat.zero_le _)
      rw [show d + 7 + 3 * e = d + 6 + 3 * e + 1 by omega] at v1
      exact ⟨b, φ, v1, v2.after u5⟩
theorem c_U (hw : isLw w) (hn : n ≤ 150) {k : Nat} (hS : CSm d t n w k) : CU d t n w (k + 1) := by
  intro op e s out τ r he h hr hl ho
  have hs := hr.2.2.2.1
  have hsh := hr.1
  have nx := nxt_le (t := t) hs
  obtain ⟨kd, st⟩ := t_kind hr
  have h : unitF t n (fun op s out => lpF t n k 0 op s out) op s out = some r := h
  unfold unitF at h
  rw [show d + 5 + 3 * e = (d + 4 + 3 * e) + 1 by omega, e_Law_readUnit _ w 1 (nI op) τ (by rw [k_lw0 hsh hw]), xg_1 hsh, kd]
  by_cases q : tkK t n s = 1
  · rw [if_pos q] at h
    have hlt : s < n := by
      unfold tkK at q
      split at q
      · assumption
      · omega
    rw [if_pos (show nI (tkK t n s) = (1 : Int32) by rw [q]; rfl)]
    obtain ⟨r1, r2⟩ := t_takeNumber (d := d + 3 + 3 * e) hr (a := 0) (m := 1000) (x := 999) (by decide) (hi_s (m := 999) (by decide))
    rw [show (0 : Int32) = nI 0 from rfl, show d + 4 + 3 * e = d + 3 + 3 * e + 1 by omega]
    cases z : pN t n s 0 1000 with
    | inl x =>
      rw [z] at h
      cases h
      obtain ⟨υ, g1, g2⟩ := r2 x z
      rw [g1, cI1_ok, if_pos rfl, e_Law_readUnit_34, e_Law_readUnit_35, nar1_0]
      exact ⟨0, υ, rfl, rfl, g2.mono (fun _ => at1_lw)⟩
    | inr V =>
      rw [z] at h
      cases h
      obtain ⟨υ, g1, g2, g3, -⟩ := r1 V z
      have hV : V < 1000 := by
        unfold pN at z
        rw [if_pos q] at z
        split at z
        · rename_i y; cases z; exact y.2
        · cases z
      obtain ⟨υ2, a1, a2, a3, a4⟩ := c_add (d := d + 3 + 3 * e + 1) (c := V) hw g2 (hl.at1 hw g3.1) (by omega)
      rw [g1, cI1_ok, if_neg (nI_m1 (by omega)), a1, cI_ok, if_neg (by decide), e_Law_readUnit_35, nar1_1]
      exact ⟨1, υ2, rfl, rfl, a2, a3, (g3.mono (fun _ => at1_lw)).trans a4⟩
  · rw [if_neg q] at h
    rw [if_neg (show ¬ nI (tkK t n s) = (1 : Int32) from fun z => q ((nI_eq (b := 1) (by have := tkK_le (t := t) (n := n) (s := s); omega) (by decide)).mp z))]
    have w1 := t_wordOf (d := d + 3 * e) hr (i := 1) (by decide) str1
    have w2 := t_wordOf (d := d + 3 * e) hr (i := 2) (by decide) str2
    rw [show d + 3 * e + 4 = d + 4 + 3 * e by omega] at w1 w2
    rw [show (1000003 : Nat) = 1000002 + 1 from rfl, show (1000004 : Nat) = 1000002 + 2 from rfl, w1, cI1_ok, wN_ok]
    cases z1 : wN t n s wds1 0 with
    | some i =>
      rw [z1] at h
      cases h
      obtain ⟨-, -, i3⟩ := wN_some _ _ _ z1
      have i3 : i < 10 := by simpa [wds1] using i3
      have lt := wN_lt z1
      obtain ⟨υ, g1, g2, g3⟩ := t_next (d := d + 4 + 3 * e) hr
      obtain ⟨υ2, a1, a2, a3, a4⟩ := c_add (d := d + 4 + 3 * e) (c := 1000 + i) hw g2 (hl.at1 hw g3.1) (by omega)
      rw [show oI32 (some i) = nI i from rfl, if_neg (nI_m1 (by omega)), g1, cV1_ok, la_1000, a1, cI_ok, nar1_1]
      exact ⟨1, υ2, rfl, rfl, a2, a3, (g3.mono (fun _ => at1_lw)).trans a4⟩
    | none =>
      rw [z1] at h
      rw [if_pos (show oI32 none = -1 from rfl), w2, cI1_ok, wN_ok]
      have h : pls (wN t n s wds2 0) (if s < n ∧ t s = 40 then (if 6 ≤ op then some (.inl (3, s)) else pb (lpF t n k 0 (op + 1) (nxt t n s) out) fun s2 o2 => ptk t n s2 41 fun s3 => some (.inr (s3, o2))) else some (.inl (1, s)))
        (fun i => if 6 ≤ op then some (.inl (3, s)) else ptk t n (nxt t n s) 91 fun s1 => pb (lpF t n k 0 (op + 1) s1 out) fun s2 o2 => ptk t n s2 44 fun s3 => pb (lpF t n k 0 (op + 1) s3 o2) fun s4 o4 => ptk t n s4 93 fun s5 => some (.inr (s5, o4 ++ [1015 + i]))) = some r := h
      have full : ∀ (x4 : Int32), 6 ≤ op → r = .inl (3, s) → ∃ b υ, rn (d + 4 + 3 * e + 1) 65 95 [.ref w, .ref 1, .int (nI op), .int (oI32 none), .int x4] [] τ = some (.inl (.int b), υ) ∧ CRes t n w τ b υ r := by
        intro x4 q6 er
        subst er
        obtain ⟨υ, g1, g2⟩ := t_fail (d := d + 4 + 3 * e) hr 3 s
        rw [e_Law_readUnit_95, if_neg (show ¬ nI op < (6 : Int32) from nI_nlt (b := 6) (by omega) (by omega)), xg_1 hsh, st, show (3 : Int32) = nI 3 from rfl, g1, cI1_ok, nar1_0]
        exact ⟨0, υ, rfl, rfl, g2.mono (fun _ => at1_lw)⟩
      cases z2 : wN t n s wds2 0 with
      | some i =>
        rw [z2] at h
        obtain ⟨-, -, i3⟩ := wN_some _ _ _ z2
        have i3 : i < 2 := by simpa [wds2] using i3
        have lt := nx.2.2 (wN_lt z2)
        rw [show oI32 (some i) = nI i from rfl, if_neg (nI_m1 (by omega))]
        by_cases q6 : 6 ≤ op
        · simp only [pls, if_pos q6] at h
          cases h
          exact full _ q6 rfl
        · simp only [pls, if_neg q6] at h
          obtain ⟨e', rfl⟩ : ∃ e', e = e' + 1 := ⟨e - 1, by omega⟩
          obtain ⟨τ1, g1, g2, g3⟩ := t_next (d := d + 4 + 3 * (e' + 1)) hr
          rw [e_Law_readUnit_95, if_pos (show nI op < (6 : Int32) from nI_lt (b := 6) (by omega) (by decide)), g1, cV1_ok, if_neg (nI_m1 (by omega)), show (91 : Int32) = nI 91 from rfl, show (44 : Int32) = nI 44 from rfl, show (93 : Int32) = nI 93 from rfl]
          have g3' := g3.mono (T := lwS w) (fun _ => at1_lw)
          have l1 := hl.at1 hw g3.1
          obtain ⟨k1, k2⟩ := t_take (d := d + 3 + 3 * (e' + 1)) g2 sg91
          rw [show d + 3 + 3 * (e' + 1) + 1 = d + 4 + 3 * (e' + 1) by omega] at k1 k2
          have h : (if nxt t n s < n ∧ t (nxt t n s) = 91 then pb (lpF t n k 0 (op + 1) (nxt t n (nxt t n s)) out) (fun s2 o2 => ptk t n s2 44 fun s3 => pb (lpF t n k 0 (op + 1) s3 o2) fun s4 o4 => ptk t n s4 93 fun s5 => some (.inr (s5, o4 ++ [1015 + i]))) else some (.inl (1, nxt t n s))) = some r := h
          by_cases c1 : nxt t n s < n ∧ t (nxt t n s) = 91
          · rw [if_pos c1] at h
            obtain ⟨τ2, b1, b2, b3⟩ := k1 c1
            have b3' := b3.mono (T := lwS w) (fun _ => at1_lw)
            have nx2 := nxt_le (t := t) nx.2.1
            rw [b1, cI1_ok, if_neg (by decide), ra_1]
            cases hx : lpF t n k 0 (op + 1) (nxt t n (nxt t n s)) out with
            | none => rw [hx] at h; cases h
            | some r1 =>
              rw [hx] at h
              obtain ⟨b, υ, u1, u2⟩ := hS (op + 1) e' (nxt t n (nxt t n s)) out τ2 r1 (by omega) hx b2 (l1.at1 hw b3.1) (by omega)
              rw [show d + 4 + 3 * (e' + 1) = d + 7 + 3 * e' by omega, u1, cI_ok]
              match r1, u2, h, hx with
              | .inl q, u2, h, _ =>
                obtain ⟨rfl, u3⟩ := u2
                cases h
                rw [if_pos rfl, e_Law_readUnit_213, e_Law_readUnit_214, nar1_0]
                exact ⟨0, υ, rfl, rfl, (g3'.trans b3').tf u3⟩
              | .inr q, u2, h, hx =>
                obtain ⟨rfl, u3, u4, u5⟩ := u2
                have ln := lpF_len k 0 (op + 1) _ out q.1 q.2 nx2.2.1 hx
                have nx3 := nxt_le (t := t) ln.2.1
                rw [if_neg (by decide)]
                obtain ⟨k3, k4⟩ := t_take (d := d + 6 + 3 * e') u3 sg44
                rw [show d + 6 + 3 * e' + 1 = d + 7 + 3 * e' by omega] at k3 k4
                have h : (if q.1 < n ∧ t q.1 = 44 then pb (lpF t n k 0 (op + 1) (nxt t n q.1) q.2) fun s4 o4 => ptk t n s4 93 fun s5 => some (.inr (s5, o4 ++ [1015 + i])) else some (.inl (1, q.1))) = some r := h
                by_cases c2 : q.1 < n ∧ t q.1 = 44
                · rw [if_pos c2] at h
                  obtain ⟨τ3, d1, d2, d3⟩ := k3 c2
                  have d3' := d3.mono (T := lwS w) (fun _ => at1_lw)
                  rw [d1, cI1_ok, if_neg (by decide)]
                  cases hy : lpF t n k 0 (op + 1) (nxt t n q.1) q.2 with
                  | none => rw [hy] at h; cases h
                  | some r2 =>
                    rw [hy] at h
                    obtain ⟨b, υ2, v1, v2⟩ := hS (op + 1) e' (nxt t n q.1) q.2 τ3 r2 (by omega) hy d2 (u4.at1 hw d3.1) (by omega)
                    rw [v1, cI_ok]
                    match r2, v2, h, hy with
                    | .inl p, v2, h, _ =>
                      obtain ⟨rfl, v3⟩ := v2
                      cases h
                      rw [if_pos rfl, e_Law_readUnit_213, e_Law_readUnit_214, nar1_0]
                      exact ⟨0, υ2, rfl, rfl, (((g3'.trans b3').trans u5).trans d3').tf v3⟩
                    | .inr p, v2, h, hy =>
                      obtain ⟨rfl, v3, v4, v5⟩ := v2
                      have ln2 := lpF_len k 0 (op + 1) _ q.2 p.1 p.2 nx3.2.1 hy
                      have nx4 := nxt_le (t := t) ln2.2.1
                      rw [if_neg (by decide)]
                      obtain ⟨k5, k6⟩ := t_take (d := d + 6 + 3 * e') v3 sg93
                      rw [show d + 6 + 3 * e' + 1 = d + 7 + 3 * e' by omega] at k5 k6
                      have h : (if p.1 < n ∧ t p.1 = 93 then some (.inr (nxt t n p.1, p.2 ++ [1015 + i])) else some (.inl (1, p.1))) = some r := h
                      have all := (((g3'.trans b3').trans u5).trans d3').trans v5
                      by_cases c3 : p.1 < n ∧ t p.1 = 93
                      · rw [if_pos c3] at h
                        cases h
                        obtain ⟨τ4, f1, f2, f3⟩ := k5 c3
                        have lt2 := nx2.2.2 c1.1
                        have lt3 := nx3.2.2 c2.1
                        obtain ⟨υ3, a1, a2, a3, a4⟩ := c_add (d := d + 7 + 3 * e') (c := 1015 + i) hw f2 (v4.at1 hw f3.1) (by omega)
                        rw [f1, cI1_ok, if_neg (by decide), show (1015 : Int32) + nI i = nI (1015 + i) from nI_add 1015 i, a1, cI_ok, if_neg (by decide), e_Law_readUnit_214, nar1_1]
                        exact ⟨1, υ3, rfl, rfl, a2, a3, (all.trans (f3.mono (fun _ => at1_lw))).trans a4⟩
                      · rw [if_neg c3] at h
                        cases h
                        obtain ⟨τ4, f1, f2⟩ := k6 c3
                        rw [f1, cI1_ok, if_pos rfl, e_Law_readUnit_213, e_Law_readUnit_214, nar1_0]
                        exact ⟨0, τ4, rfl, rfl, all.tf (f2.mono (fun _ => at1_lw))⟩
                · rw [if_neg c2] at h
                  cases h
                  obtain ⟨τ3, d1, d2⟩ := k4 c2
                  rw [d1, cI1_ok, if_pos rfl, e_Law_readUnit_213, e_Law_readUnit_214, nar1_0]
                  exact ⟨0, τ3, rfl, rfl, ((g3'.trans b3').trans u5).tf (d2.mono (fun _ => at1_lw))⟩
          · rw [if_neg c1] at h
            cases h
            obtain ⟨τ2, b1, b2⟩ := k2 c1
            rw [b1, cI1_ok, if_pos rfl, e_Law_readUnit_213, e_Law_readUnit_214, nar1_0]
            exact ⟨0, τ2, rfl, rfl, g3'.tf (b2.mono (fun _ => at1_lw))⟩
      | none =>
        rw [z2] at h
        rw [if_pos (show oI32 none = -1 from rfl), show (40 : Int32) = nI 40 from rfl, t_isSign hr sg40, cI1_ok]
        by_cases q4 : s < n ∧ t s = 40
        · rw [i01_p q4, if_neg (by decide)]
          by_cases q6 : 6 ≤ op
          · simp only [pls, if_pos q4, if_pos q6] at h
            cases h
            exact full _ q6 rfl
          · simp only [pls, if_pos q4, if_neg q6] at h
            have lt := nx.2.2 q4.1
            obtain ⟨e', rfl⟩ : ∃ e', e = e' + 1 := ⟨e - 1, by omega⟩
            obtain ⟨τ1, g1, g2, g3⟩ := t_next (d := d + 4 + 3 * (e' + 1)) hr
            rw [e_Law_readUnit_95, if_pos (show nI op < (6 : Int32) from nI_lt (b := 6) (by omega) (by decide)), g1, cV1_ok, if_pos (show oI32 none = -1 from rfl), ra_1, show (41 : Int32) = nI 41 from rfl]
            have g3' := g3.mono (T := lwS w) (fun _ => at1_lw)
            cases hx : lpF t n k 0 (op + 1) (nxt t n s) out with
            | none => rw [hx] at h; cases h
            | some r1 =>
              rw [hx] at h
              obtain ⟨b, υ, u1, u2⟩ := hS (op + 1) e' (nxt t n s) out τ1 r1 (by omega) hx g2 (hl.at1 hw g3.1) (by omega)
              rw [show d + 4 + 3 * (e' + 1) = d + 7 + 3 * e' by omega, u1, cI_ok]
              match r1, u2, h, hx with
              | .inl q, u2, h, _ =>
                obtain ⟨rfl, u3⟩ := u2
                cases h
                rw [if_pos rfl, e_Law_readUnit_145, e_Law_readUnit_146, nar1_0]
                exact ⟨0, υ, rfl, rfl, g3'.tf u3⟩
              | .inr q, u2, h, hx =>
                obtain ⟨rfl, u3, u4, u5⟩ := u2
                rw [if_neg (by decide)]
                obtain ⟨k3, k4⟩ := t_take (d := d + 6 + 3 * e') u3 sg41
                rw [show d + 6 + 3 * e' + 1 = d + 7 + 3 * e' by omega] at k3 k4
                have h : (if q.1 < n ∧ t q.1 = 41 then some (.inr (nxt t n q.1, q.2)) else some (.inl (1, q.1))) = some r := h
                by_cases c2 : q.1 < n ∧ t q.1 = 41
                · rw [if_pos c2] at h
                  cases h
                  obtain ⟨τ3, d1, d2, d3⟩ := k3 c2
                  rw [d1, cI1_ok, if_neg (by decide), e_Law_readUnit_146, nar1_1]
                  exact ⟨1, τ3, rfl, rfl, d2, u4.at1 hw d3.1, (g3'.trans u5).trans (d3.mono (fun _ => at1_lw))⟩
                · rw [if_neg c2] at h
                  cases h
                  obtain ⟨τ3, d1, d2⟩ := k4 c2
                  rw [d1, cI1_ok, if_pos rfl, e_Law_readUnit_145, e_Law_readUnit_146, nar1_0]
                  exact ⟨0, τ3, rfl, rfl, (g3'.trans u5).tf (d2.mono (fun _ => at1_lw))⟩
        · rw [i01_n q4, if_pos rfl]
          simp only [pls, if_neg q4] at h
          cases h
          obtain ⟨υ, g1, g2⟩ := t_fail (d := d + 4 + 3 * e) hr 1 s
          rw [xg_1 hsh, st, show (1 : Int32) = nI 1 from rfl, g1, cI1_ok, nar1_0]
          exact ⟨0, υ, rfl, rfl, g2.mono (fun _ => at1_lw)⟩
theorem c_lawAll (hw : isLw w) (hn : n ≤ 150) : ∀ k, CU d t n w k ∧ CPl d t n w k ∧ CP d t n w k ∧ CSl d t n w k ∧ CSm d t n w k
  | 0 => ⟨fun _ _ _ _ _ _ _ h => by simp [lpF] at h, fun _ _ _ _ _ _ _ _ _ h => by simp [lpF] at h, fun _ _ _ _ _ _ _ h => by simp [lpF] at h, fun _ _ _ _ _ _ _ _ _ h => by simp [lpF] at h, fun _ _ _ _ _ _ _ h => by simp [lpF] at h⟩
  | k + 1 => by
    obtain ⟨h1, h2, h3, h4, h5⟩ := c_lawAll hw hn k
    exact ⟨c_U hw hn h5, c_Pl hw hn h1 h2, c_P hw h1 h2, c_Sl hw hn h3 h4, c_Sm hw h3 h4⟩
end LawC
