/-! feed -/
section FeedV
variable {σ τ σ' τ' υ φ : mm_M} {t : Nat → Nat} {n : Nat} {l : Ln} {many : Nat} {cs : Nat → Int32} {w K : Nat} {b : List (Nat × Nat)} {d : Nat}
def byI (x : Int32) (r : Nat) : Int32 := x >>> (nI (24 - 8 * r) &&& 31)
def byN (x : Int32) (r : Nat) : Nat := (byI x r &&& 255).toNatClampNeg
theorem by_m (x : Int32) (r : Nat) : byI x r &&& 255 = nI (byN x r) ∧ byN x r < 256 := by
  obtain ⟨j, hj, e⟩ := pk_andE (byI x r) (m := 255) 8 (by decide)
  have : byN x r = j := by
    unfold byN
    rw [e]
    exact nI_clamp (by omega)
  rw [this]
  exact ⟨e, by omega⟩
theorem by_c (x : Int32) (r : Nat) : vp_nar .byte (Int8.toInt32 (Int32.toInt8 (byI x r))) = sb (byN x r) := by
  have h := (by_m x r).1
  have e : Int32.toInt8 (byI x r) = Int32.toInt8 (nI (byN x r)) := by
    rw [← h, Int32.toInt8_and, show Int32.toInt8 255 = -1 by decide, Int8.and_neg_one]
  rw [e]
  have h2 := (by_m x r).2
  exact (show ∀ c, c < 256 → vp_nar .byte (Int8.toInt32 (Int32.toInt8 (nI c))) = sb c by decide +kernel) _ h2
/-- the bytes of five numbers -/
def bys (X : Nat → Int32) (i : Nat) : Nat := byN (X (i / 4)) (i % 4)
def fC (σ : mm_M) (X : Nat → Int32) (n m : Nat) : Nat → Int32 := fun k => if n ≤ k ∧ k < n + m then sb (bys X (k - n)) else mI σ 2 k
def fM (σ : mm_M) (X : Nat → Int32) (n m : Nat) : Nat → Int32 := fun k => if n ≤ k ∧ k < n + m then nI (bys X (k - n)) else mI σ 54 k
def Tc (σ : mm_M) (X : Nat → Int32) (n m : Nat) : mm_M := wI (wA σ 2 (fC σ X n m)) 1 1 (nI (n + m))
def Tm (σ : mm_M) (X : Nat → Int32) (n m : Nat) : mm_M := wI (wA σ 54 (fM σ X n m)) 53 1 (nI (n + m))
theorem fC_s (σ : mm_M) (X : Nat → Int32) (n m : Nat) : up (fC σ X n m) (n + m) (sb (bys X m)) = fC σ X n (m + 1) := by
  funext k
  unfold up fC
  by_cases z : k = n + m
  · subst z
    rw [if_pos rfl, if_pos ⟨by omega, by omega⟩, Nat.add_sub_cancel_left]
  · rw [if_neg z]
    by_cases y : n ≤ k ∧ k < n + m
    · rw [if_pos y, if_pos ⟨y.1, by omega⟩]
    · rw [if_neg y, if_neg (by omega)]
theorem fM_s (σ : mm_M) (X : Nat → Int32) (n m : Nat) : up (fM σ X n m) (n + m) (nI (bys X m)) = fM σ X n (m + 1) := by
  funext k
  unfold up fM
  by_cases z : k = n + m
  · subst z
    rw [if_pos rfl, if_pos ⟨by omega, by omega⟩, Nat.add_sub_cancel_left]
  · rw [if_neg z]
    by_cases y : n ≤ k ∧ k < n + m
    · rw [if_pos y, if_pos ⟨y.1, by omega⟩]
    · rw [if_neg y, if_neg (by omega)]
/-- two cells written over one another -/
theorem two_w {a c i : Nat} (hac : a ≠ c) (f g : Nat → Int32) (u v : Int32) {v' : Int32} (s : Nat) (h : up f s u = g) : wI (wI (wI (wA σ a f) c i v) a s u) c i v' = wI (wA σ a g) c i v' := by
  subst h
  have : ∀ x y, (if x = c ∧ y = i then v' else if x = a ∧ y = s then u else if x = c ∧ y = i then v else if x = a then f y else σ.1 x y) = (if x = c ∧ y = i then v' else if x = a then up f s u y else σ.1 x y) := by
    intro x y
    by_cases q : x = c ∧ y = i
    · rw [if_pos q, if_pos q]
    · rw [if_neg q, if_neg q, if_neg q]
      by_cases p : x = a
      · rw [if_pos p, if_pos p]
        unfold up
        by_cases z : y = s
        · rw [if_pos ⟨p, z⟩, if_pos z]
        · rw [if_neg (fun k => z k.2), if_neg z]
      · rw [if_neg (fun k => p k.1), if_neg p, if_neg p]
  have e : (fun x y => if x = c ∧ y = i then v' else if x = a ∧ y = s then u else if x = c ∧ y = i then v else if x = a then f y else σ.1 x y) = (fun x y => if x = c ∧ y = i then v' else if x = a then up f s u y else σ.1 x y) := funext fun x => funext fun y => this x y
  show ((fun x y => if x = c ∧ y = i then v' else if x = a ∧ y = s then u else if x = c ∧ y = i then v else if x = a then f y else σ.1 x y), σ.2) = ((fun x y => if x = c ∧ y = i then v' else if x = a then up f s u y else σ.1 x y), σ.2)
  rw [e]
theorem Tc_s (σ : mm_M) (X : Nat → Int32) (n m : Nat) : wI (wI (Tc σ X n m) 2 (n + m) (sb (bys X m))) 1 1 (nI (n + (m + 1))) = Tc σ X n (m + 1) := two_w (by decide) _ _ _ _ _ (fC_s σ X n m)
theorem Tm_s (σ : mm_M) (X : Nat → Int32) (n m : Nat) : wI (wI (Tm σ X n m) 54 (n + m) (nI (bys X m))) 53 1 (nI (n + (m + 1))) = Tm σ X n (m + 1) := two_w (by decide) _ _ _ _ _ (fM_s σ X n m)
theorem tB2 (h : Sh σ) {p : Nat} (hp : p < 600) (v : Int32) (k : mm_M → Option mm_R) : tB σ 2 (nI p) v k = k (wI σ 2 p (vp_nar .byte v)) := by
  unfold tB
  rw [k_2 h, if_pos ⟨rfl, in_nI hp (by decide)⟩, ix_nI (by omega)]
theorem c_put1 (h : Sh σ) {X : Nat → Int32} {n m q r : Nat} (hm : m = 4 * q + r) (hr : r < 4) (hn : n + m < 600) : rn d 14 3 [.ref 1, .int (X q), .int (nI (24 - 8 * r))] [] (Tc σ X n m) = rn d 14 3 [.ref 1, .int (X q), .int (nI (24 - 8 * r) + (-8))] [] (Tc σ X n (m + 1)) := by
  have s0 : Sh (Tc σ X n m) := h
  have e1 : mI (Tc σ X n m) 1 1 = nI (n + m) := by unfold Tc; rw [rI_w, if_pos ⟨rfl, rfl⟩]
  have s1 : Sh (wI (Tc σ X n m) 2 (n + m) (sb (bys X m))) := h
  have eb : vp_nar .byte (Int8.toInt32 (Int32.toInt8 (X q >>> (nI (24 - 8 * r) &&& 31)))) = sb (bys X m) := by
    have := by_c (X q) r
    unfold byI at this
    rw [this]
    unfold bys
    rw [show m / 4 = q by omega, show m % 4 = r by omega]
  rw [e_Tape_put_3, if_neg (nI_pos (by omega)), xg_1 s0, e1, if_neg (show ¬ (600 : Int32) ≤ nI (n + m) from nI_ge (b := 600) (by omega) (by omega)), xr_1_0 s0, xg_1 s0, e1, tB2 s0 hn, eb, xg_1 s1, rI_o (show 1 ≠ 2 by decide), e1, xs_1 s1, nI_1, Nat.add_assoc, Tc_s]
theorem c_put (h : Sh σ) {X : Nat → Int32} {n q : Nat} (hn : n + 4 * q + 4 ≤ 600) : ev d 14 [.ref 1, .int (X q)] (Tc σ X n (4 * q)) = some (.inl uv, Tc σ X n (4 * (q + 1))) := by
  have s0 : Sh (Tc σ X n (4 * q)) := h
  have p0 := c_put1 (d := d) h (X := X) (n := n) (m := 4 * q) (q := q) (r := 0) (by omega) (by decide) (by omega)
  have p1 := c_put1 (d := d) h (X := X) (n := n) (m := 4 * q + 1) (q := q) (r := 1) (by omega) (by decide) (by omega)
  have p2 := c_put1 (d := d) h (X := X) (n := n) (m := 4 * q + 2) (q := q) (r := 2) (by omega) (by decide) (by omega)
  have p3 := c_put1 (d := d) h (X := X) (n := n) (m := 4 * q + 3) (q := q) (r := 3) (by omega) (by decide) (by omega)
  rw [e_Tape_put d 1 (X q) _ (by rw [k_1 s0])]
  refine p0.trans (p1.trans (p2.trans (p3.trans ?_)))
  rw [e_Tape_put_3, if_pos (show nI (24 - 8 * 3) + (-8) < (0 : Int32) by decide), e_Tape_put_46]
  rfl
theorem shf : ∀ i, i < 20 → (24 : Int32) - (8 : Int32) * (nI i - nI i / 4 * 4) = nI (24 - 8 * (i % 4)) := by decide
theorem m_feed (h : Sh σ) {x1 x2 x3 x4 x5 : Int32} {X : Nat → Int32} (e1 : X 0 = x1) (e2 : X 1 = x2) (e3 : X 2 = x3) (e4 : X 3 = x4) (e5 : X 4 = x5) {n : Nat} (hn : n + 20 ≤ 600) : ∀ k m v, 20 - m = k → m ≤ 20 → rn d 170 23 [.ref 53, .int x1, .int x2, .int x3, .int x4, .int x5, .int (nI m), v] [] (Tm σ X n m) = some (.inl (.int (nI (n + 20))), Tm σ X n 20)
  | 0, m, v, hk, hm => by
    have : m = 20 := by omega
    subst this
    have s0 : Sh (Tm σ X n 20) := h
    rw [e_M_feed_23, if_pos (show (20 : Int32) ≤ nI 20 by decide), xg_53 s0]
    unfold Tm
    rw [w53e, nar0]
  | k + 1, m, v, hk, hm => by
    have s0 : Sh (Tm σ X n m) := h
    have s1 : Sh (wI (Tm σ X n m) 54 (n + m) (nI (bys X m))) := h
    have f1 : mI (Tm σ X n m) 53 1 = nI (n + m) := by unfold Tm; rw [w53e]
    have go : ∀ y, y = X (m / 4) → rn d 170 76 [.ref 53, .int x1, .int x2, .int x3, .int x4, .int x5, .int (nI m), v] [.int y] (Tm σ X n m) = some (.inl (.int (nI (n + 20))), Tm σ X n 20) := by
      intro y hy
      have eb : (y >>> (nI (24 - 8 * (m % 4)) &&& 31)) &&& (255 : Int32) = nI (bys X m) := by
        have := (by_m (X (m / 4)) (m % 4)).1
        unfold byI at this
        rw [hy, this]
        rfl
      rw [e_M_feed_76, xr_53_9 s0, xg_53 s0, f1, if_neg (show ¬ (4 : Nat) = 0 by decide), shf m (by omega), eb, xt_54 s0 (by omega), xg_53 s1, rI_o (show 53 ≠ 54 by decide), f1, xs_53 s1, show nI (n + m) + (1 : Int32) = nI (n + (m + 1)) from nI_1 (n + m), Tm_s, nI_1]
      exact m_feed h e1 e2 e3 e4 e5 hn k (m + 1) _ (by omega) (by omega)
    rw [e_M_feed_23, if_neg (show ¬ (20 : Int32) ≤ nI m from nI_ge (b := 20) (by omega) (by omega))]
    by_cases q1 : 4 ≤ m
    · rw [if_pos (show (4 : Int32) ≤ nI m from nI_le (a := 4) q1 (by omega))]
      by_cases q2 : 8 ≤ m
      · rw [if_pos (show (8 : Int32) ≤ nI m from nI_le (a := 8) q2 (by omega))]
        by_cases q3 : 12 ≤ m
        · rw [if_pos (show (12 : Int32) ≤ nI m from nI_le (a := 12) q3 (by omega))]
          by_cases q4 : 16 ≤ m
          · rw [if_pos (show (16 : Int32) ≤ nI m from nI_le (a := 16) q4 (by omega))]
            exact go x5 (by rw [show m / 4 = 4 by omega, e5])
          · rw [if_neg (show ¬ (16 : Int32) ≤ nI m from nI_ge (b := 16) (by omega) (by omega))]
            exact go x4 (by rw [show m / 4 = 3 by omega, e4])
        · rw [if_neg (show ¬ (12 : Int32) ≤ nI m from nI_ge (b := 12) (by omega) (by omega))]
          exact go x3 (by rw [show m / 4 = 2 by omega, e3])
      · rw [if_neg (show ¬ (8 : Int32) ≤ nI m from nI_ge (b := 8) (by omega) (by omega))]
        exact go x2 (by rw [show m / 4 = 1 by omega, e2])
    · rw [if_neg (show ¬ (4 : Int32) ≤ nI m from nI_ge (b := 4) (by omega) (by omega))]
      exact go x1 (by rw [show m / 4 = 0 by omega, e1])
theorem Tc_0 {X : Nat → Int32} {n : Nat} (e : mI σ 1 1 = nI n) : Tc σ X n 0 = σ := by
  have : fC σ X n 0 = mI σ 2 := by
    funext k
    unfold fC
    rw [if_neg (by omega)]
  unfold Tc
  rw [this, wA_id]
  exact wI_same e
theorem Tm_0 {X : Nat → Int32} {n : Nat} (e : mI σ 53 1 = nI n) : Tm σ X n 0 = σ := by
  have : fM σ X n 0 = mI σ 54 := by
    funext k
    unfold fM
    rw [if_neg (by omega)]
  unfold Tm
  rw [this, wA_id]
  exact wI_same e
theorem op_feed (x1 x2 x3 x4 x5 : Int32) : OpN (d + 31) 115 [.ref 0, .int x1, .int x2, .int x3, .int x4, .int x5] (d + 31) 170 [.ref 53, .int x1, .int x2, .int x3, .int x4, .int x5] := by
  intro σ hI
  obtain ⟨t, n, l, many, cs, w, K, b, h⟩ := hI
  have hw := h.1
  obtain ⟨⟨sh, stl⟩, ⟨tc, tm, n1, n2, pl⟩, ⟨ok, cx, mx⟩, ⟨row, rz⟩, ih, im, ib⟩ := hw
  have hn := tc.1
  have g2 := h.th
  rw [e_W_feed (d + 30) 0 x1 x2 x3 x4 x5 σ (by rw [k_0 sh]), xr_0_0 sh, e_Tape_hasRoom (d + 30) 1 20 σ (by rw [k_1 sh]), xg_1 sh, n1, show nI n + (20 : Int32) = nI (n + 20) from nI_add n 20]
  by_cases q : n + 20 ≤ 600
  · obtain ⟨X, e1, e2, e3, e4, e5⟩ : ∃ X : Nat → Int32, X 0 = x1 ∧ X 1 = x2 ∧ X 2 = x3 ∧ X 3 = x4 ∧ X 4 = x5 := ⟨fun i => if i = 0 then x1 else if i = 1 then x2 else if i = 2 then x3 else if i = 3 then x4 else x5, rfl, rfl, rfl, rfl, rfl⟩
    have u0 := c_put (d := d + 30) sh (X := X) (n := n) (q := 0) (by omega)
    have u1 := c_put (d := d + 30) sh (X := X) (n := n) (q := 1) (by omega)
    have u2 := c_put (d := d + 30) sh (X := X) (n := n) (q := 2) (by omega)
    have u3 := c_put (d := d + 30) sh (X := X) (n := n) (q := 3) (by omega)
    have u4 := c_put (d := d + 30) sh (X := X) (n := n) (q := 4) (by omega)
    rw [e1, show Tc σ X n (4 * 0) = σ from Tc_0 n1] at u0
    rw [e2] at u1
    rw [e3] at u2
    rw [e4] at u3
    rw [e5] at u4
    have t1 : Sh (Tc σ X n (4 * (0 + 1))) := sh
    have t2 : Sh (Tc σ X n (4 * (1 + 1))) := sh
    have t3 : Sh (Tc σ X n (4 * (2 + 1))) := sh
    have t4 : Sh (Tc σ X n (4 * (3 + 1))) := sh
    have t5 : Sh (Tc σ X n (4 * (4 + 1))) := sh
    have v1 : mI (Tc σ X n (4 * (4 + 1))) 1 1 = nI (n + 20) := by unfold Tc; rw [rI_w, if_pos ⟨rfl, rfl⟩]
    rw [if_neg (show ¬ (600 : Int32) < nI (n + 20) from nI_nlt (a := 600) (by omega) (by omega)), e_Tape_hasRoom_17, nar1_1, cI1_ok, if_neg (show ¬ (1 : Int32) = 0 by decide), xr_0_0 sh, u0, cV1_ok, xr_0_0 t1, show ev (d + 30) 14 [.ref 1, .int x2] (Tc σ X n (4 * (0 + 1))) = _ from u1, cV1_ok, xr_0_0 t2, show ev (d + 30) 14 [.ref 1, .int x3] (Tc σ X n (4 * (1 + 1))) = _ from u2, cV1_ok, xr_0_0 t3, show ev (d + 30) 14 [.ref 1, .int x4] (Tc σ X n (4 * (2 + 1))) = _ from u3, cV1_ok, xr_0_0 t4, show ev (d + 30) 14 [.ref 1, .int x5] (Tc σ X n (4 * (3 + 1))) = _ from u4, cV1_ok, xr_0_0 t5, xg_1 t5, v1, nar0]
    have a1 : Ag (fun x => x = 1 ∨ x = 2) σ (Tc σ X n (4 * (4 + 1))) := Ag.wI (Ag.wA (Ag.refl _ σ) (Or.inr rfl) _) (Or.inl rfl) _ _
    have y2 : mI (Tc σ X n (4 * (4 + 1))) 2 = fC σ X n 20 := by unfold Tc; rw [rI_o (by decide), rA_a]
    have y9 : mI (Tc σ X n (4 * (4 + 1))) 1 9 = mI σ 1 9 := by unfold Tc; rw [rI_w, if_neg (by omega), rA_o (by decide)]
    generalize hυ : Tc σ X n (4 * (4 + 1)) = υ at *
    have e53 : mI υ 53 = mI σ 53 := a1.at (show ¬ ((53 : Nat) = 1 ∨ (53 : Nat) = 2) by omega)
    have e54 : mI υ 54 = mI σ 54 := a1.at (show ¬ ((54 : Nat) = 1 ∨ (54 : Nat) = 2) by omega)
    have s1 : Sh (wI υ 53 0 0) := t5
    have f1 : mI (wI υ 53 0 0) 53 1 = nI n := by rw [w53n _ (by decide), e53, n2]
    have ref : ev (d + 31) 170 [.ref 53, .int x1, .int x2, .int x3, .int x4, .int x5] υ = some (.inl (.int (nI (n + 20))), Tm (wI υ 53 0 0) X n 20) := by
      have := m_feed (d := d + 31) s1 e1 e2 e3 e4 e5 q _ 0 uv rfl (by decide)
      rw [Tm_0 f1] at this
      rw [e_M_feed (d + 31) 53 x1 x2 x3 x4 x5 υ (by rw [k_53 t5]), xs_53 t5, xg_53 s1, f1, show nI n + (20 : Int32) = nI (n + 20) from nI_add n 20, if_pos (show nI (n + 20) ≤ (600 : Int32) from nI_le (b := 600) q (by decide))]
      exact this
    have a2 : AgM (fun x => x = 1 ∨ x = 2 ∨ x = 54) (fun i => i = 0 ∨ i = 1) σ υ := AgM.of a1 (fun x q => by omega) (by omega)
    have a3 : AgM (fun x => x = 1 ∨ x = 2 ∨ x = 54) (fun i => i = 0 ∨ i = 1) υ (Tm (wI υ 53 0 0) X n 20) := AgM.w53 (AgM.wA (AgM.w53 (AgM.refl _ _ υ) (Or.inl rfl) _) (Or.inr (Or.inr rfl)) (by decide) _) (Or.inr rfl) _
    have a := a2.trans a3
    have z1 : mI (Tm (wI υ 53 0 0) X n 20) 1 = mI υ 1 := by unfold Tm; rw [rI_o (by decide), rA_o (by decide), rI_o (by decide)]
    have z2 : mI (Tm (wI υ 53 0 0) X n 20) 2 = fC σ X n 20 := by unfold Tm; rw [rI_o (by decide), rA_o (by decide), rI_o (by decide), y2]
    have z54 : mI (Tm (wI υ 53 0 0) X n 20) 54 = fM (wI υ 53 0 0) X n 20 := by unfold Tm; rw [rI_o (by decide), rA_a]
    have z531 : mI (Tm (wI υ 53 0 0) X n 20) 53 1 = nI (n + 20) := w53e _ _ _
    have hb : bkA σ = 49 ∨ bkA σ = 51 := sh.bk
    generalize hφ : Tm (wI υ 53 0 0) X n 20 = φ at *
    have c1 : Cst σ υ := (Cst.refl σ).ag a2 (fun x q => by omega)
    have tl : ∀ k, (if n ≤ k ∧ k < n + 20 then bys X (k - n) else t k) < 256 := by
      intro k
      split
      · exact (by_m _ _).2
      · exact tc.2.1 k
    refine ⟨nI (n + 20), υ, φ, rfl, c1, ref, c1.ag a3 (fun x q => by omega), fun k => if n ≤ k ∧ k < n + 20 then bys X (k - n) else t k, n + 20, l, many, cs, w, K, b, ⟨⟨a.sh sh, Stl_o stl (fun x hx => a.at (by omega) (by omega))⟩, ⟨⟨q, tl, fun k hk => ?_⟩, ⟨q, tl, fun k hk => ?_⟩, by rw [z1, v1], z531, by rw [a.f (by omega), z1, y9, pl]⟩, ⟨ok, cx.agm a (fun x hx => by unfold fxC at hx; omega), mx.agm ok a (fun x hx hn => by unfold fxM at hx; omega) (by omega)⟩, ⟨by rw [a.at (a := 22) (by decide) (by omega), a.at (a := 533) (by decide) (by omega)]; exact row, by rw [a.at (a := 533) (by decide) (by omega)]; exact rz⟩,
      IH_o ih (by rw [a.at (a := 25) (by decide) (by omega)]) (a.at (by decide) (by omega)) (a.f (by omega)) (fun i hi => a.at (by omega) (by omega)), IM_o im (by rw [a.at (a := 25) (by decide) (by omega)]) (a.at (by decide) (by omega)) (a.at (by decide) (by omega)) (a.f (by omega)) (fun i hi => a.at (by omega) (by omega)),
      IB_o ib a.bkA' (by rw [a.at (by omega) (by omega)]) (a.at (by omega) (by omega)) (a.f (by omega)) (fun i hi => a.at (by omega) (by omega))⟩, ?_⟩
    · rw [z2]
      show fC σ X n 20 k = sb (if n ≤ k ∧ k < n + 20 then bys X (k - n) else t k)
      unfold fC
      by_cases y : n ≤ k ∧ k < n + 20
      · rw [if_pos y, if_pos y]
      · rw [if_neg y, if_neg y]; exact tc.2.2 k hk
    · rw [z54]
      show fM (wI υ 53 0 0) X n 20 k = nI (if n ≤ k ∧ k < n + 20 then bys X (k - n) else t k)
      unfold fM
      by_cases y : n ≤ k ∧ k < n + 20
      · rw [if_pos y, if_pos y]
      · rw [if_neg y, if_neg y, rI_o (by decide), e54]; exact tm.2.2 k hk
    · unfold IC
      rw [a.at (a := 0) (by decide) (by omega), a.at (a := 55) (by decide) (by omega), a.f (i := 35) (by omega)]
      exact h.2
  · rw [if_pos (show (600 : Int32) < nI (n + 20) from nI_lt (a := 600) (by omega) (by omega)), e_Tape_hasRoom_17, nar1_0, cI1_ok, if_pos (show (0 : Int32) = 0 from rfl), nar0]
    refine ⟨-1, σ, wI σ 53 0 0, rfl, Cst.refl σ, ?_, (Cst.refl σ).ag (AgM.th σ) (fun x q => by have := q.2.2.2; omega), t, n, l, many, cs, w, K, b, g2⟩
    rw [e_M_feed (d + 31) 53 x1 x2 x3 x4 x5 σ (by rw [k_53 sh]), xs_53 sh, xg_53 g2.1.sh, w53n σ (show (1 : Nat) ≠ 0 by decide), n2, show nI n + (20 : Int32) = nI (n + 20) from nI_add n 20, if_neg (show ¬ nI (n + 20) ≤ (600 : Int32) from nI_ge (a := 600) (by omega) (by omega)), nar0]
end FeedV
