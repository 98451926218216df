/-! the readers, over any memory -/
theorem cV_ok (τ : mm_M) (k : mm_M → Option mm_R) : cV (some (.inl uv, τ)) k = k τ := rfl
theorem cV1_ok (τ : mm_M) (k : mm_M → Option mm_R) : cV1 (some (.inl uv, τ)) k = k τ := rfl
theorem cI_ok (v : Int32) (τ : mm_M) (k : Int32 → mm_M → Option mm_R) : cI (some (.inl (.int v), τ)) k = k v τ := rfl
theorem cI1_ok (v : Int32) (τ : mm_M) (k : Int32 → mm_M → Option mm_R) : cI1 (some (.inl (.int v), τ)) k = k v τ := rfl
theorem i01_p {p : Prop} [Decidable p] (h : p) : i01 p = 1 := if_pos h
theorem i01_n {p : Prop} [Decidable p] (h : ¬ p) : i01 p = 0 := if_neg h
/-- the class reads: it stands at s -/
def RS (τ : mm_M) (t : Nat → Nat) (n s : Nat) : Prop := Sh τ ∧ Stl τ ∧ TxC τ t n ∧ TKf (mI τ 1) t n s
/-- it went on, at the places S -/
def TG (S : Nat → Prop) (τ υ : mm_M) : Prop := Ag S τ υ ∧ mI υ 1 1 = mI τ 1 1 ∧ mI υ 1 8 = mI τ 1 8 ∧ mI υ 1 9 = mI τ 1 9
/-- it found a FAULT e at p -/
def TF (S : Nat → Prop) (τ υ : mm_M) (e p : Nat) : Prop := Ag S τ υ ∧ mI υ 1 1 = mI τ 1 1 ∧ mI υ 1 8 = nI e ∧ mI υ 1 9 = nI p
def at1 (a : Nat) : Prop := a = 1
section GenC
variable {τ υ φ : mm_M} {d : Nat} {t : Nat → Nat} {n s : Nat} {S T : Nat → Prop}
theorem TG.refl (S : Nat → Prop) (τ : mm_M) : TG S τ τ := ⟨Ag.refl S τ, rfl, rfl, rfl⟩
theorem TG.trans (h : TG S τ υ) (g : TG S υ φ) : TG S τ φ := ⟨h.1.trans g.1, g.2.1.trans h.2.1, g.2.2.1.trans h.2.2.1, g.2.2.2.trans h.2.2.2⟩
theorem TG.tf {e p : Nat} (h : TG S τ υ) (g : TF S υ φ e p) : TF S τ φ e p := ⟨h.1.trans g.1, g.2.1.trans h.2.1, g.2.2⟩
theorem TG.mono (h : TG S τ υ) (i : ∀ a, S a → T a) : TG T τ υ := ⟨h.1.mono i, h.2⟩
theorem TF.mono {e p : Nat} (h : TF S τ υ e p) (i : ∀ a, S a → T a) : TF T τ υ e p := ⟨h.1.mono i, h.2⟩
theorem RS.ag (h : RS τ t n s) (a : Ag S τ υ) (h1 : ¬ S 1) (h2 : ¬ S 2) (h3 : ∀ x, 1000001 ≤ x → ¬ S x) : RS υ t n s := by
  obtain ⟨r1, r2, r3, r4⟩ := h
  refine ⟨a.sh r1, fun x p q => by rw [a.at (h3 x p)]; exact r2 x p q, ⟨r3.1, r3.2.1, fun k hk => by rw [a.at h2]; exact r3.2.2 k hk⟩, by rw [a.at h1]; exact r4⟩
/-- one row of the TAPE's numbers for another -/
theorem RS.w1 (h : RS τ t n s) {f : Nat → Int32} {s' : Nat} (hk : TKf f t n s') : RS (wA τ 1 f) t n s' :=
  ⟨h.1, fun x p q => by rw [rA_o (by omega)]; exact h.2.1 x p q, ⟨h.2.2.1.1, h.2.2.1.2.1, fun k hk => by rw [rA_o (by decide)]; exact h.2.2.1.2.2 k hk⟩, by rw [rA_a]; exact hk⟩
theorem TG_w1 {f : Nat → Int32} (h : ∀ x, x = 1 ∨ x = 8 ∨ x = 9 → f x = mI τ 1 x) : TG at1 τ (wA τ 1 f) := ⟨(Ag.refl at1 τ).wA rfl f, by rw [rA_a]; exact h 1 (by omega), by rw [rA_a]; exact h 8 (by omega), by rw [rA_a]; exact h 9 (by omega)⟩
theorem TF_w1 {e p : Nat} : TF at1 τ (wA τ 1 (up (up (mI τ 1) 8 (nI e)) 9 (nI p))) e p := ⟨(Ag.refl at1 τ).wA rfl _, by rw [rA_a, up_n (by decide), up_n (by decide)], by rw [rA_a, up_n (by decide), up_e], by rw [rA_a, up_e]⟩
theorem t_next (h : RS τ t n s) : ∃ υ, ev d 17 [.ref 1] τ = some (.inl uv, υ) ∧ RS υ t n (nxt t n s) ∧ TG at1 τ υ := by
  obtain ⟨f', r1, r2, r3⟩ := c_next' (d := d) h.1 h.2.2.1 h.2.2.2
  rw [wA_id] at r1
  exact ⟨_, r1, h.w1 r2, TG_w1 (fun x hx => r3 x (by omega) (by omega) (by omega) (by omega))⟩
theorem t_isSign (h : RS τ t n s) {c : Nat} (hc : isS c) : ev d 18 [.ref 1, .int (nI c)] τ = some (.inl (.int (i01 (s < n ∧ t s = c))), τ) := by
  have := c_isSign (d := d) h.1 h.2.2.1 h.2.2.2 hc
  rw [wA_id] at this
  exact this
theorem t_fail (h : RS τ t n s) (e p : Nat) : ∃ υ, ev d 23 [.ref 1, .int (nI e), .int (nI p)] τ = some (.inl (.int 0), υ) ∧ TF at1 τ υ e p := by
  have := c_fail (d := d) (f := mI τ 1) h.1 (nI e) (nI p)
  rw [wA_id] at this
  exact ⟨_, this, TF_w1⟩
theorem t_take (h : RS τ t n s) {c : Nat} (hc : isS c) : ((s < n ∧ t s = c) → ∃ υ, ev (d + 1) 20 [.ref 1, .int (nI c)] τ = some (.inl (.int 1), υ) ∧ RS υ t n (nxt t n s) ∧ TG at1 τ υ) ∧
    (¬ (s < n ∧ t s = c) → ∃ υ, ev (d + 1) 20 [.ref 1, .int (nI c)] τ = some (.inl (.int 0), υ) ∧ TF at1 τ υ 1 s) := by
  obtain ⟨f', r1, r2, r3⟩ := c_take (d := d) h.1 h.2.2.1 h.2.2.2 hc
  rw [wA_id] at r1
  refine ⟨fun q => ?_, fun q => ?_⟩
  · obtain ⟨r4, r5⟩ := r2 q
    rw [i01_p q] at r1
    exact ⟨_, r1, h.w1 r4, TG_w1 (fun x hx => r5 x (by omega) (by omega) (by omega) (by omega))⟩
  · rw [i01_n q, r3 q] at r1
    exact ⟨_, r1, TF_w1⟩
theorem t_atEnd (h : RS τ t n s) : (s = n → ev (d + 1) 19 [.ref 1] τ = some (.inl (.int 1), τ)) ∧ (s ≠ n → ∃ υ, ev (d + 1) 19 [.ref 1] τ = some (.inl (.int 0), υ) ∧ TF at1 τ υ 1 s) := by
  obtain ⟨f', r1, r2, r3⟩ := c_atEnd (d := d) h.1 h.2.2.2
  rw [wA_id] at r1
  refine ⟨fun q => ?_, fun q => ?_⟩
  · rw [i01_p q, r2 q, wA_id] at r1
    exact r1
  · rw [i01_n q, r3 q] at r1
    exact ⟨_, r1, TF_w1⟩
theorem t_takeNumber (h : RS τ t n s) {a m : Nat} {x : Int32} (ha : a ≤ 1) (hm : isHi x m) :
    (∀ V, pN t n s a m = .inr V → ∃ υ, ev (d + 1) 21 [.ref 1, .int (nI a), .int x] τ = some (.inl (.int (nI V)), υ) ∧ RS υ t n (nxt t n s) ∧ TG at1 τ υ ∧ mI υ 1 7 = nI s) ∧
    (∀ e, pN t n s a m = .inl e → ∃ υ, ev (d + 1) 21 [.ref 1, .int (nI a), .int x] τ = some (.inl (.int (-1)), υ) ∧ TF at1 τ υ e s) := by
  obtain ⟨r1, r2⟩ := c_takeNumber (d := d) h.1 h.2.2.1 h.2.2.2 ha hm
  rw [wA_id] at r1 r2
  refine ⟨fun V q => ?_, fun e q => ⟨_, r2 e q, TF_w1⟩⟩
  obtain ⟨f', q1, q2, q3, q4⟩ := r1 V q
  exact ⟨_, q1, h.w1 q2, TG_w1 (fun x hx => q4 x (by omega) (by omega) (by omega) (by omega) (by omega)), by rw [rA_a]; exact q3⟩
theorem t_wordOf (h : RS τ t n s) {i : Nat} (hi : i < 4) {ws : List (List Nat)} (hw : strAt i 0 ws) : ev (d + 4) 22 [.ref 1, .ref (1000002 + i)] τ = some (.inl (.int (wOf t n s ws)), τ) := by
  have := c_wordOf (d := d) h.1 h.2.1 h.2.2.1 h.2.2.2 hi hw
  rw [wA_id] at this
  exact this
theorem t_kind (h : RS τ t n s) : mI τ 1 4 = nI (tkK t n s) ∧ mI τ 1 5 = nI s := ⟨h.2.2.2.2.2.2.2.1, h.2.2.2.2.2.2.2.2.1⟩
end GenC
/-! the reference's reader, over any memory -/
def RM (τ : mm_M) (t : Nat → Nat) (n s : Nat) : Prop := Sh τ ∧ TxM τ t n ∧ MKf (mI τ 53) t n s
def nS0 (_ : Nat) : Prop := False
def f4 (i : Nat) : Prop := i = 4
def f456 (i : Nat) : Prop := i = 4 ∨ i = 5 ∨ i = 6
/-- it found a FAULT e at p -/
def MF (S F : Nat → Prop) (τ υ : mm_M) (e p : Nat) : Prop := AgM S F τ υ ∧ mI υ 53 5 = nI e ∧ mI υ 53 6 = nI p ∧ ∃ i, i ≤ 600 ∧ mI υ 53 4 = nI i
section GenM
variable {τ υ φ : mm_M} {d : Nat} {t : Nat → Nat} {n s : Nat} {S T F G : Nat → Prop}
theorem RM.agm (h : RM τ t n s) (a : AgM S F τ υ) (h1 : ¬ S 54) (h2 : ¬ F 2) (h4 : ¬ F 4) (h5 : ¬ F 5) : RM υ t n s := by
  obtain ⟨r1, r2, r3, r4, r5, i, r6, r7, r8⟩ := h
  exact ⟨a.sh r1, ⟨r2.1, r2.2.1, fun k hk => by rw [a.at (by decide) h1]; exact r2.2.2 k hk⟩, r3, by rw [a.f h2]; exact r4, by rw [a.f h5]; exact r5, i, r6, by rw [a.f h4]; exact r7, r8⟩
theorem RM.w (h : RM τ t n s) {g : Nat → Int32} {s' : Nat} (hk : MKf g t n s') : RM (wA τ 53 g) t n s' :=
  ⟨h.1, ⟨h.2.1.1, h.2.1.2.1, fun k hk => by rw [rA_o (by decide)]; exact h.2.1.2.2 k hk⟩, by rw [rA_a]; exact hk⟩
theorem AgM_w {g : Nat → Int32} (h : ∀ x, ¬ F x → g x = mI τ 53 x) : AgM S F τ (wA τ 53 g) := ⟨rfl, rfl, rfl, rfl, rfl, rfl, fun a n _ => rA_o n, fun i m => by rw [rA_a]; exact h i m⟩
theorem MF.mono {e p : Nat} (h : MF S F τ υ e p) (i : ∀ a, S a → T a) (j : ∀ a, F a → G a) : MF T G τ υ e p := ⟨h.1.mono i j, h.2⟩
theorem MF.after {e p : Nat} (h : AgM S F τ υ) (g : MF S F υ φ e p) : MF S F τ φ e p := ⟨h.trans g.1, g.2⟩
theorem nx_F {x : Nat} (h : ¬ f4 x) : x ≠ 4 := h
theorem u_blanks (h : RM τ t n s) : ∃ υ, ev (d + 1) 172 [.ref 53] τ = some (.inl uv, υ) ∧ RM υ t n s ∧ AgM nS0 f4 τ υ ∧ mI υ 53 4 = nI s := by
  have := m_blanksK (d := d) h.1 h.2.1 h.2.2
  rw [wA_id] at this
  exact ⟨_, this, h.w h.2.2.to, AgM_w (fun x hx => up_n hx), by rw [rA_a, up_e]⟩
theorem u_number (h : RM τ t n s) {a m : Nat} {x : Int32} (ha : a ≤ 1) (hm : isHi x m) :
    (∀ V, pN t n s a m = .inr V → ∃ υ, ev (d + 2) 176 [.ref 53, .int (nI a), .int x] τ = some (.inl (.int (nI V)), υ) ∧ RM υ t n (nxt t n s) ∧ AgM nS0 f4 τ υ) ∧
    (∀ e, pN t n s a m = .inl e → ∃ υ, ev (d + 2) 176 [.ref 53, .int (nI a), .int x] τ = some (.inl (.int 0), υ) ∧ MF nS0 f456 τ υ e s) := by
  obtain ⟨r1, r2⟩ := m_number (d := d) h.1 h.2.1 h.2.2 ha hm
  rw [wA_id] at r1 r2
  refine ⟨fun V q => ?_, fun e q => ?_⟩
  · obtain ⟨q1, q2⟩ := r1 V q
    exact ⟨_, q1, h.w q2, AgM_w (fun x hx => up_n hx)⟩
  · obtain ⟨g', q1, q2, q3, q5, q4⟩ := r2 e q
    exact ⟨_, q1, AgM_w (fun x hx => q4 x (fun z => hx (Or.inl z)) (fun z => hx (Or.inr (Or.inl z))) (fun z => hx (Or.inr (Or.inr z)))), by rw [rA_a]; exact q2, by rw [rA_a]; exact q3, by rw [rA_a]; exact q5⟩
theorem u_numberF (h : Sh τ) (e5 : ¬ mI τ 53 5 = 0) (x y : Int32) : ev (d + 1) 176 [.ref 53, .int x, .int y] τ = some (.inl (.int 0), τ) := by
  have := m_numberF (d := d) (g := mI τ 53) h e5 x y
  rw [wA_id] at this
  exact this
theorem u_sign (h : RM τ t n s) {c : Nat} (hc : isS c) : ((s < n ∧ t s = c) → ∃ υ, ev (d + 2) 182 [.ref 53, .int (nI c)] τ = some (.inl uv, υ) ∧ RM υ t n (nxt t n s) ∧ AgM nS0 f4 τ υ) ∧
    (¬ (s < n ∧ t s = c) → ∃ υ, ev (d + 2) 182 [.ref 53, .int (nI c)] τ = some (.inl uv, υ) ∧ MF nS0 f456 τ υ 1 s) := by
  obtain ⟨r1, r2⟩ := m_sign (d := d) h.1 h.2.1 h.2.2 hc
  rw [wA_id] at r1 r2
  refine ⟨fun q => ⟨_, r1 q, h.w h.2.2.nx, AgM_w (fun x hx => up_n hx)⟩, fun q => ⟨_, r2 q, AgM_w (fun x hx => ?_), by rw [rA_a, up_n (by decide), up_e]; rfl, by rw [rA_a, up_e], s, Nat.le_trans h.2.2.1 h.2.1.1, by rw [rA_a, up_n (by decide), up_n (by decide), up_e]⟩⟩
  rw [up_n (fun z => hx (Or.inr (Or.inr z))), up_n (fun z => hx (Or.inr (Or.inl z))), up_n (fun z => hx (Or.inl z))]
theorem u_signF (h : Sh τ) (e5 : ¬ mI τ 53 5 = 0) (x : Int32) : ev (d + 1) 182 [.ref 53, .int x] τ = some (.inl uv, τ) := by
  have := m_signF (d := d) (g := mI τ 53) h e5 x
  rw [wA_id] at this
  exact this
theorem u_takesSign (h : RM τ t n s) {c : Nat} (hc : isS c) : ∃ υ, ev (d + 2) 183 [.ref 53, .int (nI c)] τ = some (.inl (.int (i01 (s < n ∧ t s = c))), υ) ∧ RM υ t n (if s < n ∧ t s = c then nxt t n s else s) ∧ AgM nS0 f4 τ υ := by
  have := m_takesSign (d := d) h.1 h.2.1 h.2.2 hc
  rw [wA_id] at this
  refine ⟨_, this, ?_, AgM_w (fun x hx => up_n hx)⟩
  by_cases q : s < n ∧ t s = c
  · rw [if_pos q, if_pos q]; exact h.w h.2.2.nx
  · rw [if_neg q, if_neg q]; exact h.w h.2.2.to
theorem u_isWord (h : RM τ t n s) {w : List Nat} (h1 : 0 < w.length) (h6 : w.length ≤ 6) (hw : ∀ j, j < w.length → 97 ≤ w.getD j 0 ∧ w.getD j 0 ≤ 122) {a b c x y z : Int32} (e : sixF a b c x y z = nI (encN (fun j => w.getD j 0 - 96) w.length)) [Decidable (isW t n s w)] :
    ∃ υ, ev (d + 3) 179 [.ref 53, .int a, .int b, .int c, .int x, .int y, .int z] τ = some (.inl (.int (i01 (isW t n s w))), υ) ∧ RM υ t n s ∧ AgM nS0 f4 τ υ ∧ mI υ 53 4 = nI s := by
  have := m_isWord (d := d) h.1 h.2.1 h.2.2 h1 h6 hw e
  rw [wA_id] at this
  exact ⟨_, this, h.w h.2.2.to, AgM_w (fun x hx => up_n hx), by rw [rA_a, up_e]⟩
theorem u_skipWord (h : RM τ t n s) (e4 : mI τ 53 4 = nI s) (h2 : tkK t n s = 2) : ∃ υ, ev (d + 1) 180 [.ref 53] τ = some (.inl uv, υ) ∧ RM υ t n (nxt t n s) ∧ AgM nS0 f4 τ υ := by
  obtain ⟨r1, r2⟩ := m_skipK (d := d) h.1 h.2.1 h.2.2 h2
  rw [up_self e4, wA_id] at r1
  exact ⟨_, r1, h.w r2, AgM_w (fun x hx => up_n hx)⟩
theorem u_takes (h : RM τ t n s) {w : List Nat} (h1 : 0 < w.length) (h6 : w.length ≤ 6) (hw : ∀ j, j < w.length → 97 ≤ w.getD j 0 ∧ w.getD j 0 ≤ 122) {a b c x y z : Int32} (e : sixF a b c x y z = nI (encN (fun j => w.getD j 0 - 96) w.length)) [Decidable (isW t n s w)] :
    ∃ υ, ev (d + 4) 181 [.ref 53, .int a, .int b, .int c, .int x, .int y, .int z] τ = some (.inl (.int (i01 (isW t n s w))), υ) ∧ RM υ t n (if isW t n s w then nxt t n s else s) ∧ AgM nS0 f4 τ υ := by
  obtain ⟨υ, r1, r2, r3, r4⟩ := u_isWord (d := d) h h1 h6 hw e
  rw [e_M_takes (d + 3) 53 a b c x y z τ (by rw [k_53 h.1]), r1, cI_ok]
  by_cases q : isW t n s w
  · rw [i01_p q, if_neg (by decide), if_pos q]
    obtain ⟨φ, q1, q2, q3⟩ := u_skipWord (d := d + 2) r2 r4 q.1
    rw [q1, cV_ok, e_M_takes_24, nar1_1]
    exact ⟨φ, rfl, q2, r3.trans q3⟩
  · rw [i01_n q, if_pos rfl, if_neg q, e_M_takes_24, nar1_0]
    exact ⟨υ, rfl, r2, r3⟩
theorem u_wrong (h : RM τ t n s) (e p : Nat) : ∃ υ, ev d 173 [.ref 53, .int (nI e), .int (nI p)] τ = some (.inl uv, υ) ∧ MF nS0 f456 τ υ e p := by
  have := m_wrong (d := d) (g := mI τ 53) h.1 h.2.2.2.2.1 (nI e) (nI p)
  rw [wA_id] at this
  obtain ⟨i, i1, i2, -⟩ := h.2.2.2.2.2
  refine ⟨_, this, AgM_w (fun x hx => ?_), by rw [rA_a, up_n (by decide), up_e], by rw [rA_a, up_e], i, Nat.le_trans i1 h.2.1.1, by rw [rA_a, up_n (by decide), up_n (by decide)]; exact i2⟩
  rw [up_n (fun z => hx (Or.inr (Or.inr z))), up_n (fun z => hx (Or.inr (Or.inl z)))]
end GenM
/-- which of these words stands at s -/
noncomputable def wN (t : Nat → Nat) (n s : Nat) : List (List Nat) → Nat → Option Nat
  | [], _ => none
  | w :: r, k => @ite _ (isW t n s w) (Classical.propDecidable _) (some k) (wN t n s r (k + 1))
def oI32 (o : Option Nat) : Int32 := match o with
  | none => -1
  | some k => nI k
theorem wN_ok (t : Nat → Nat) (n s : Nat) (ws : List (List Nat)) : wOf t n s ws = oI32 (wN t n s ws 0) := by
  unfold wOf
  by_cases q : tkK t n s = 2
  · rw [if_pos q]
    have key : ∀ (ws : List (List Nat)) (k : Nat), wIx t s (tkE t n s) ws k = oI32 (wN t n s ws k) := by
      intro ws
      induction ws with
      | nil => intro k; rfl
      | cons w r ih =>
        intro k
        show @ite _ (tokEq t s (tkE t n s) w) (dtok t s (tkE t n s) w) (nI k) (wIx t s (tkE t n s) r (k + 1)) = oI32 (@ite _ (isW t n s w) (Classical.propDecidable _) (some k) (wN t n s r (k + 1)))
        by_cases z : tokEq t s (tkE t n s) w
        · rw [if_pos z, if_pos ⟨q, z⟩]; rfl
        · rw [if_neg z, if_neg (fun y => z y.2)]; exact ih (k + 1)
    exact key ws 0
  · rw [if_neg q]
    have key : ∀ (ws : List (List Nat)) (k : Nat), wN t n s ws k = none := by
      intro ws
      induction ws with
      | nil => intro k; rfl
      | cons w r ih =>
        intro k
        show @ite _ (isW t n s w) (Classical.propDecidable _) (some k) (wN t n s r (k + 1)) = none
        rw [if_neg (fun y => q y.1)]
        exact ih (k + 1)
    rw [key]
    rfl
theorem wN_some {t : Nat → Nat} {n s : Nat} : ∀ (ws : List (List Nat)) (k i : Nat), wN t n s ws k = some i → tkK t n s = 2 ∧ k ≤ i ∧ i < k + ws.length
  | [], _, _, h => by cases h
  | w :: r, k, i, h => by
    have h : @ite _ (isW t n s w) (Classical.propDecidable _) (some k) (wN t n s r (k + 1)) = some i := h
    by_cases q : isW t n s w
    · rw [if_pos q] at h
      cases h
      exact ⟨q.1, Nat.le_refl _, by simp⟩
    · rw [if_neg q] at h
      have := wN_some r (k + 1) i h
      refine ⟨this.1, by omega, ?_⟩
      simp only [List.length_cons]
      omega
