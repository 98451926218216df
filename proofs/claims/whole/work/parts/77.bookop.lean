/-! book, done -/
section BookO
variable {σ τ σ' τ' υ φ : mm_M} {t : Nat → Nat} {n : Nat} {l : Ln} {many : Nat} {cs : Nat → Int32} {w w' K K' : Nat} {b b' : List (Nat × Nat)} {d : Nat}
def BkR (B : Nat) (σ υ : mm_M) (x : Int32) (r : (Nat × Nat) ⊕ List (Nat × Nat)) : Prop := match r with
  | .inl (e, p) => x = 0 ∧ TF (bS B) σ υ e p
  | .inr b' => x = 1 ∧ BkC B υ b' ∧ TG (bS B) σ υ
def BmR (τ υ : mm_M) (x2 : Int32) (r : (Nat × Nat) ⊕ List (Nat × Nat)) : Prop := match r with
  | .inl (e, p) => MF rlS f456 τ υ e p
  | .inr b' => x2 = nI b'.length ∧ mI υ 53 5 = 0 ∧ BkM υ b' ∧ AgM rlS f4 τ υ
def BzR (υ : mm_M) (x2 : Int32) (r : (Nat × Nat) ⊕ List (Nat × Nat)) : Prop := match r with
  | .inl (e, p) => mI υ 53 5 = nI e ∧ mI υ 53 6 = nI p
  | .inr b' => x2 = nI b'.length ∧ mI υ 53 5 = 0 ∧ BkM υ b'
theorem bk_all {m J : Nat} (hm : m ≤ 60) (hJ : J ≤ 6) : ∀ g s b, m - s = g → s ≤ m → BkOK J b → ∃ r : (Nat × Nat) ⊕ List (Nat × Nat), (match r with
    | .inl (e, _) => 1 ≤ e ∧ e ≤ 3
    | .inr b' => BkOK J b') ∧
    (∀ B σ d k, isBk B → RS σ t m s → BkC B σ b → k ≤ s → ∃ x υ, rn (d + 4) 88 6 [.ref B, .ref 1, .int (nI J), .int (nI k)] [] σ = some (.inl (.int x), υ) ∧ BkR B σ υ x r) ∧
    (∀ τ d x1 v4 v5 v6, RM τ t m s → mI τ 53 4 = nI s → BkM τ b → mI τ 57 1 = nI J → ∃ υ x2 x3 v4' v5' v6', rn (d + 4) 206 48 [.ref 53, .int x1, .int (nI b.length), .int (beenB b 0), v4, v5, v6] [] τ = rn (d + 4) 206 169 [.ref 53, .int x1, .int x2, .int x3, v4', v5', v6'] [] υ ∧ BmR τ υ x2 r) := by
  intro g
  induction g using Nat.strongRecOn with
  | _ g ih =>
    intro s b hg hs ok
    by_cases z : s = m
    · subst z
      refine ⟨.inr b, ok, fun B σ d k hB hr bc hk => ?_, fun τ d x1 v4 v5 v6 hr e4 bm eJ => ?_⟩
      · refine ⟨1, σ, ?_, rfl, bc, TG.refl _ _⟩
        rw [e_Book_read_6]
        by_cases y : (60 : Int32) ≤ nI k
        · rw [if_pos y, e_Book_read_36, nar1_1]
        · rw [if_neg y, xg_1 hr.1, (t_kind hr).1, (tk_end (Nat.le_refl _)).mpr rfl, if_pos (show nI 0 = (0 : Int32) from rfl), e_Book_read_36, nar1_1]
      · refine ⟨τ, nI b.length, beenB b 0, v4, v5, v6, ?_, rfl, hr.2.2.2.2.1, bm, AgM.refl _ _ _⟩
        rw [e_M_book_48, xg_53 hr.1, hr.2.2.2.2.1, if_pos (show (0 : Int32) = 0 from rfl), xg_53 hr.1, e4, xg_53 hr.1, hr.2.2.2.1, if_pos (nI_le (Nat.le_refl _) (by have := hr.2.1.1; omega))]
    · have lt : s < m := by omega
      have nk : ¬ nI (tkK t m s) = (0 : Int32) := fun y => by
        have := (nI_eq (a := tkK t m s) (b := 0) (by have := tkK_le (t := t) (n := m) (s := s); omega) (by decide)).mp y
        exact z ((tk_end hs).mp this)
      obtain ⟨r1, f1, c1, m1⟩ := bk_line (t := t) hs hJ ok
      match r1, f1, c1, m1 with
      | .inl (e, p), f1, c1, m1 =>
        refine ⟨.inl (e, p), f1, fun B σ d k hB hr bc hk => ?_, fun τ d x1 v4 v5 v6 hr e4 bm eJ => ?_⟩
        · obtain ⟨x, υ, q1, q2, q3⟩ := c1 B σ d hB hr bc
          refine ⟨0, υ, ?_, rfl, q3⟩
          rw [e_Book_read_6, if_neg (show ¬ (60 : Int32) ≤ nI k from nI_ge (b := 60) (by omega) (by omega)), xg_1 hr.1, (t_kind hr).1, if_neg nk, q1, cI_ok, q2, if_pos (show (0 : Int32) = 0 from rfl), nar1_0]
        · obtain ⟨υ, v4', v5', v6', q1, q2⟩ := m1 τ d x1 v4 v5 v6 hr e4 lt bm eJ
          exact ⟨υ, _, _, v4', v5', v6', q1, q2⟩
      | .inr (s', j, v), f1, c1, m1 =>
        obtain ⟨g1, g2, g3⟩ := f1
        obtain ⟨r, k1, k2, k3⟩ := ih (m - s') (by omega) s' (b ++ [(j, v)]) rfl g2 g3
        refine ⟨r, k1, fun B σ d k hB hr bc hk => ?_, fun τ d x1 v4 v5 v6 hr e4 bm eJ => ?_⟩
        · obtain ⟨x, υ, q1, q2, q3, q4, q5⟩ := c1 B σ d hB hr bc
          obtain ⟨x', φ, p1, p2⟩ := k2 B υ d (k + 1) hB q3 q4 (by omega)
          refine ⟨x', φ, ?_, ?_⟩
          · rw [e_Book_read_6, if_neg (show ¬ (60 : Int32) ≤ nI k from nI_ge (b := 60) (by omega) (by omega)), xg_1 hr.1, (t_kind hr).1, if_neg nk, q1, cI_ok, q2, if_neg (show ¬ (1 : Int32) = 0 by decide), nI_1]
            exact p1
          · match r, p2 with
            | .inl (e, p), p2 => exact ⟨p2.1, q5.tf p2.2⟩
            | .inr b', p2 => exact ⟨p2.1, p2.2.1, q5.trans p2.2.2⟩
        · obtain ⟨υ, v4', v5', v6', q1, q2, q3, q4, q5⟩ := m1 τ d x1 v4 v5 v6 hr e4 lt bm eJ
          obtain ⟨φ, x2, x3, w4, w5, w6, p1, p2⟩ := k3 υ d x1 v4' v5' v6' q2 q3 q4 (by rw [q5.at (by decide) (by unfold rlS; omega)]; exact eJ)
          rw [List.length_append] at p1
          refine ⟨φ, x2, x3, w4, w5, w6, by rw [q1]; exact p1, ?_⟩
          match r, p2 with
          | .inl (e, p), p2 => exact ⟨(q5.mono (fun _ q => q) (fun _ q => Or.inl q)).trans p2.1, p2.2⟩
          | .inr b', p2 => exact ⟨p2.1, p2.2.1, p2.2.2.1, q5.trans p2.2.2.2⟩
/-- what a text must leave as it was -/
def kpX (x : Nat) : Prop := x = 2 ∨ fxC x ∨ x = 54 ∨ x = 57 ∨ (67 ≤ x ∧ x ≤ 73) ∨ (82 ≤ x ∧ x ≤ 87) ∨ (102 ≤ x ∧ x ≤ 113) ∨ (115 ≤ x ∧ x ≤ 274) ∨ 1000001 ≤ x
theorem Iw_mk (h : Iw σ t n l many cs w K b) (sh : Sh φ) (el : ldA φ = ldA σ) (ew : lwA φ = lwA σ) (hx : ∀ x, kpX x → mI φ x = mI σ x) (h19 : mI φ 53 19 = mI σ 53 19) (e1 : mI φ 1 1 = 0) (e53 : mI φ 53 1 = 0) (e3 : mI φ 53 3 = mI φ 1 9)
    (id : ID φ (nP l)) (ih : IH φ (nP l) w') (im : IM φ (nP l) K') (ib : IB φ l b') : Iw φ t 0 l many cs w' K' b' := by
  obtain ⟨⟨h1, h2⟩, ⟨tc, tm, -, -, -⟩, ⟨ok, cx, mx⟩, -, -, -, -⟩ := h
  have lws : lwA σ = 13 ∨ lwA σ = 46 := h1.lw
  have lds : ldA σ = 5 ∨ ldA σ = 38 := h1.ld
  refine ⟨⟨sh, Stl_o h2 (fun x q => hx x (by unfold kpX; omega))⟩, ⟨⟨by omega, tc.2.1, fun k hk => by rw [hx 2 (by unfold kpX; omega)]; exact tc.2.2 k hk⟩, ⟨by omega, tm.2.1, fun k hk => by rw [hx 54 (by unfold kpX; omega)]; exact tm.2.2 k hk⟩, e1, e53, e3⟩, ⟨ok, ⟨sh, ?_, ?_⟩, ⟨sh, ?_, ?_⟩⟩, id, ih, im, ib⟩
  · rw [el]
    exact CLn_o cx.2.1 (fun k hk => hx _ (by unfold kpX fxC; omega))
  · exact CLw_o cx.2.2 ew (hx _ (by unfold kpX fxC; omega)) (hx _ (by unfold kpX fxC; omega))
  · exact MLn_o ok.1 mx.2.1 (fun x q hn => hx x (by unfold fxM at q; unfold kpX; omega))
  · exact MLw_o ok.2 mx.2.2 h19 (fun x p q => hx x (by unfold kpX; omega))
def bswp (υ : mm_M) : mm_M := wR (wR υ 0 11 (100 - bkA υ)) 0 12 (bkA υ)
theorem rr_bk : rr 0 11 = none ∧ rr 0 12 = none := by decide +kernel
theorem bswp_r (υ : mm_M) {a i : Nat} (h1 : ¬ (a = 0 ∧ i = 11)) (h2 : ¬ (a = 0 ∧ i = 12)) : mR (bswp υ) a i = mR υ a i := by
  show (if a = 0 ∧ i = 12 then some (bkA υ) else if a = 0 ∧ i = 11 then some (100 - bkA υ) else mR υ a i) = _
  rw [if_neg h2, if_neg h1]
theorem bswp_sh {υ : mm_M} (h : Sh υ) : Sh (bswp υ) := by
  obtain ⟨h1, h2, ⟨h3, h4, h5, h6, h7, h8⟩, h9, h10, h11, h12, h13⟩ := h
  have hw : bkA υ = 49 ∨ bkA υ = 51 := h12
  have ebk : bkA (bswp υ) = 100 - bkA υ := rfl
  refine ⟨h1, fun a i v e => ?_, ⟨?_, ?_, ?_, ?_, ?_, ?_⟩, h9, h10, h11, ?_, fun a p q => ⟨(h13 a p q).1, ?_⟩⟩
  · rw [bswp_r υ (fun z => by rw [z.1, z.2, rr_bk.1] at e; cases e) (fun z => by rw [z.1, z.2, rr_bk.2] at e; cases e)]
    exact h2 a i v e
  · rw [bswp_r υ (by omega) (by omega)]; exact h3
  · rw [bswp_r υ (by omega) (by omega)]; exact h4
  · rw [bswp_r υ (by omega) (by omega)]; exact h5
  · rw [bswp_r υ (by omega) (by omega)]; exact h6
  · rfl
  · show some (bkA υ) = some (100 - (100 - bkA υ))
    congr 1
    omega
  · rw [ebk]
    show 100 - bkA υ = 49 ∨ 100 - bkA υ = 51
    omega
  · funext i
    rw [bswp_r υ (by omega) (by omega), (h13 a p q).2]
theorem sR_0 {σ : mm_M} (h : mK σ 0 = (100, 0)) (i v : Nat) (k : mm_M → Option mm_R) : sR σ 0 0 i v k = k (wR σ 0 i v) := by
  unfold sR
  rw [if_pos (by rw [h])]
theorem getD_mem {b : List (Nat × Nat)} {i : Nat} (h : i < b.length) : b.getD i (0, 0) ∈ b := by
  rw [List.getD_eq_getElem?_getD, List.getElem?_eq_getElem h]
  exact List.getElem_mem h
theorem op_book (x : Int32) : OpW (d + 31) 279 [.ref 0, .int x, .ref 560] (d + 31) 206 [.ref 53, .int x] := by
  intro σ hI
  obtain ⟨t, n, l, many, cs, w, K, b, h⟩ := hI
  have wr := fun σ => e_L_book (d + 30) 0 x 560 σ
  have hw := h.1
  obtain ⟨⟨sh, stl⟩, ⟨tc, tm, n1, n2, pl⟩, ⟨ok, cx, mx⟩, idd, ih, im, ib⟩ := hw
  have hn := tc.1
  obtain ⟨g1, g2⟩ := c_needR (d := d + 29) sh x (m := min n 60) (by omega)
  have mn : mnn (nI n) 60 = nI (min n 60) := min_nI (M := 60) (by omega) (by decide)
  have start : ev (d + 30) 119 [.ref 0, .int x] σ = _ := e_W_book (d + 29) 0 x σ (by rw [k_0 sh])
  rw [xr_0_0 sh, xg_1 sh, n1, c_min, cI1_ok, mn] at start
  have J6 := ok.1.2.1
  by_cases q : inN x (min n 60 + 1)
  · have qq := q
    obtain ⟨m, hm, rfl⟩ := q
    have m1 : m ≤ n := by omega
    have m2 : m ≤ 60 := by omega
    obtain ⟨υ1, o1, o2, o3, o4, o5, o6⟩ := t_open (d := d + 28) sh stl tc m1
    have sh1 := o2.1
    have hbs : bkA σ = 49 ∨ bkA σ = 51 := sh.bk
    have lds : ldA σ = 5 ∨ ldA σ = 38 := sh.ld
    have bk1 : bkA υ1 = bkA σ := o3.bk
    have ld1 : ldA υ1 = ldA σ := o3.ld
    have hB : isBk (100 - bkA σ) := by
      show 100 - bkA σ = 49 ∨ 100 - bkA σ = 51
      omega
    have e8 : mI υ1 (ldA υ1) 8 = nI (nJ l) := by rw [ld1, o3.at (by unfold at1; omega)]; exact cx.2.1.1.2.1
    obtain ⟨r, rf, rc, rm⟩ := bk_all (t := t) m2 J6 _ (sp isB t m 0) [] rfl o2.2.2.2.1 ⟨fun q hq => (List.not_mem_nil hq).elim, List.nodup_nil⟩
    -- the class
    have cl : ev (d + 28) 87 [.ref (100 - bkA σ)] υ1 = some (.inl uv, wI (wA υ1 (100 - bkA σ + 1) (fun j => if j < 6 then -1 else mI υ1 (100 - bkA σ + 1) j)) (100 - bkA σ) 1 0) := by
      have s1 : Sh (wA υ1 (100 - bkA σ + 1) (fun j => if j < 6 then -1 else mI υ1 (100 - bkA σ + 1) j)) := sh1
      rw [e_Book_clear (d + 27) (100 - bkA σ) υ1 (by rw [k_bk0 sh1 hB]), xr_bk0 sh1 hB, c_fill (k_bk1 sh1 hB) (by decide), cV1_ok, xs_bk s1 hB]
    generalize hu : wI (wA υ1 (100 - bkA σ + 1) (fun j => if j < 6 then -1 else mI υ1 (100 - bkA σ + 1) j)) (100 - bkA σ) 1 0 = υ2 at cl
    have a2 : Ag (bS (100 - bkA σ)) υ1 υ2 := by
      rw [← hu]
      exact ((Ag.refl _ υ1).wA (Or.inr (Or.inr rfl)) _).wI (Or.inr (Or.inl rfl)) _ _
    have a2' : Ag (fun a => a = 100 - bkA σ ∨ a = 100 - bkA σ + 1) υ1 υ2 := by
      rw [← hu]
      exact ((Ag.refl (fun a => a = 100 - bkA σ ∨ a = 100 - bkA σ + 1) υ1).wA (Or.inr rfl) _).wI (Or.inl rfl) _ _
    have rs2 := o2.ag a2' (by omega) (by omega) (fun x hx => by omega)
    have bc2 : BkC (100 - bkA σ) υ2 [] := by
      rw [← hu]
      refine ⟨by rw [rI_w, if_pos ⟨rfl, rfl⟩]; rfl, fun j hj => ?_⟩
      rw [rI_o (by omega), rA_a]
      exact if_pos hj
    obtain ⟨bb, υ3, c1, c2⟩ := rc (100 - bkA σ) υ2 (d + 25) 0 hB rs2 bc2 (Nat.zero_le _)
    have y1 : mI υ2 1 = mI υ1 1 := a2'.at (by omega)
    rw [g1 qq, cI_ok, xr_0_0 sh, show ev (d + 29) 16 [.ref 1, .int (nI m)] σ = _ from o1, cV1_ok, xr_0_12 sh1, bk1, xr_0_0 sh1, xr_0_1 sh1, xr_3_1 sh1, xg_ld sh1 sh1.ld, e8, e_Book_read (d + 28) (100 - bkA σ) 1 (nI (nJ l)) υ1 (by rw [k_bk0 sh1 hB]), cl, cV_ok, show rn (d + 28 + 1) 88 6 [.ref (100 - bkA σ), .ref 1, .int (nI (nJ l)), .int 0] [] υ2 = _ from c1, cI1_ok] at start
    have A12 : Ag (bS (100 - bkA σ)) σ υ2 := (o3.mono (fun _ q => Or.inl q)).trans a2
    have n53 : ¬ bS (100 - bkA σ) 53 := by unfold bS; omega
    have n54 : ¬ bS (100 - bkA σ) 54 := by unfold bS; omega
    -- the reference, over a memory τ that is σ's
    have ref : ∀ τ, Sh τ → TxM τ t n → mI τ 53 1 = nI n → mI τ 57 1 = nI (nJ l) → ∃ υ x2 x3 v4 v5 v6, ev (d + 31) 206 [.ref 53, .int (nI m)] τ = rn (d + 31) 206 169 [.ref 53, .int (nI m), .int x2, .int x3, v4, v5, v6] [] υ ∧ mI υ 53 1 = 0 ∧ mI υ 53 0 = 0 ∧ AgM rlS (fun i => i = 0 ∨ stF i) τ υ ∧ BzR υ x2 r := by
      intro τ s0 tx0 e1 eJ
      have s1 : Sh (wI τ 53 0 0) := s0
      have x1 : TxM (wI τ 53 0 0) t n := ⟨tx0.1, tx0.2.1, fun k hk => by rw [rI_o (by decide)]; exact tx0.2.2 k hk⟩
      obtain ⟨τ2, a1, a2, a3, a4, a5, a6, a7⟩ := u_start (d := d + 28) s1 x1 m1
      obtain ⟨υ, x2, x3, w4, w5, w6, p1, p2⟩ := rm τ2 (d + 27) (nI m) uv uv uv a2 a7 (fun i hi => absurd hi (Nat.not_lt_zero i)) (by rw [a3.at (by decide) (fun q => q), rI_o (by decide)]; exact eJ)
      have A0 : AgM rlS (fun i => i = 0 ∨ stF i) τ (wI τ 53 0 0) := AgM.w53 (F := fun i => i = 0 ∨ stF i) (AgM.refl _ _ τ) (Or.inl rfl) _
      have A1 : AgM rlS (fun i => i = 0 ∨ stF i) τ τ2 := A0.trans (a3.mono (fun _ q => q.elim) (fun _ q => Or.inr q))
      have t0 : mI τ2 53 0 = 0 := by rw [a3.f (by unfold stF; omega), w53e]
      have ag : AgM rlS f456 τ2 υ := by
        match r, p2 with
        | .inl (e, p), p2 => exact p2.1
        | .inr b', p2 => exact p2.2.2.2.mono (fun _ q => q) (fun _ q => Or.inl q)
      refine ⟨υ, x2, x3, w4, w5, w6, ?_, by rw [ag.f (by unfold f456; omega)]; exact a4, by rw [ag.f (by unfold f456; omega)]; exact t0, A1.trans (ag.mono (fun _ q => q) (fun i q => Or.inr (by unfold f456 at q; unfold stF; omega))), ?_⟩
      · rw [e_M_book (d + 30) 53 (nI m) τ (by rw [k_53 s0]), xs_53 s0, xg_53 s1, w53n τ (show (1 : Nat) ≠ 0 by decide), e1, m_inN (m := n) (by omega) (nI m), cI1_ok, @i01_p _ (Classical.propDecidable _) (show inN (nI m) (n + 1) from ⟨m, by omega, rfl⟩), if_neg (show ¬ (1 : Int32) = 0 by decide), if_pos (show nI m ≤ (60 : Int32) from nI_le (b := 60) m2 (by decide)), e_M_book_29, m_bad0 s1 (th0 τ), cI_ok, if_pos (show (0 : Int32) = 0 from rfl), show ev (d + 30) 184 [.ref 53, .int (nI m)] (wI τ 53 0 0) = _ from a1, cV_ok]
        exact p1
      · match r, p2 with
        | .inl (e, p), p2 => exact ⟨p2.2.1, p2.2.2.1⟩
        | .inr b', p2 => exact ⟨p2.1, p2.2.1, p2.2.2.1⟩
    clear rc rm c1
    match r, rf, c2, ref with
    | .inl (e, p), rf, c2, ref =>
      obtain ⟨rfl, tf⟩ := c2
      have A2 : Ag (bS (100 - bkA σ)) σ υ3 := A12.trans tf.1
      have sh2 := A2.sh sh
      rw [if_pos (show (0 : Int32) = 0 from rfl), xr_0_0 sh2, xg_1 sh2, tf.2.2.1, nar0] at start
      obtain ⟨υ4, x2, x3, v4, v5, v6, r1, r2, r3, r4, r5, r6⟩ := ref (wL υ3 560 0 (Int32.toInt64 (nI e - 10))) sh2 ⟨tm.1, tm.2.1, fun k hk => by
        show mI υ3 54 k = _
        rw [A2.at n54]; exact tm.2.2 k hk⟩ (by
        show mI υ3 53 1 = _
        rw [A2.at n53]; exact n2) (by
        show mI υ3 57 1 = _
        rw [A2.at (by unfold bS; omega)]; exact mx.2.1.1.2.1)
      have sh3 : Sh υ4 := r4.sh sh2
      have sh4 : Sh (wI υ4 53 3 (nI p)) := sh3
      have rf' : ev (d + 31) 206 [.ref 53, .int (nI m)] (wL υ3 560 0 (Int32.toInt64 (nI e - 10))) = some (.inl (.int (nI e - 10)), wI υ4 53 3 (nI p)) := by
        rw [r1, e_M_book_169, xg_53 sh3, r5, if_neg (mf5 rf.1 rf.2), e_M_ends (d + 30) 53 υ4 (by rw [k_53 sh3]), xg_53 sh3, r6, xs_53 sh3, xg_53 sh4, w53n _ (show (5 : Nat) ≠ 3 by decide), r5, nar0, cI_ok, nar0]
      have A4 : AgM (fun x => bS (100 - bkA σ) x ∨ rlS x) (fun i => i = 0 ∨ stF i ∨ i = 3) (wL υ3 560 0 (Int32.toInt64 (nI e - 10))) (wI υ4 53 3 (nI p)) := AgM.w53 (F := fun i => i = 0 ∨ stF i ∨ i = 3) (r4.mono (fun _ q => Or.inr q) (fun _ q => q.elim Or.inl (fun z => Or.inr (Or.inl z)))) (Or.inr (Or.inr rfl)) _
      have A3 : AgM (fun x => bS (100 - bkA σ) x ∨ rlS x) (fun i => i = 0 ∨ stF i ∨ i = 3) (wL σ 560 0 (Int32.toInt64 (nI e - 10))) (wL υ3 560 0 (Int32.toInt64 (nI e - 10))) := AgM.of (A2.wL' _ _ _) (fun x q => Or.inl q) n53
      have A := A3.trans A4
      have at_ : ∀ a, a ≠ 53 → ¬ (bS (100 - bkA σ) a ∨ rlS a) → mI (wI υ4 53 3 (nI p)) a = mI σ a := fun a h1 h2 => A.at h1 h2
      have f_ : ∀ i, ¬ (i = 0 ∨ stF i ∨ i = 3) → mI (wI υ4 53 3 (nI p)) 53 i = mI σ 53 i := fun i h1 => A.f h1
      have z0 : mI (wI υ4 53 3 (nI p)) 53 0 = 0 := by rw [w53n _ (show (0 : Nat) ≠ 3 by decide)]; exact r3
      have z1 : mI (wI υ4 53 3 (nI p)) 53 1 = 0 := by rw [w53n _ (show (1 : Nat) ≠ 3 by decide)]; exact r2
      have z3 : mI (wI υ4 53 3 (nI p)) 53 3 = nI p := w53e _ _ _
      have yy : mI (wI υ4 53 3 (nI p)) 1 = mI υ3 1 := by
        rw [rI_o (by decide), r4.at (by decide) (by unfold rlS; omega)]; rfl
      generalize hφ : wI υ4 53 3 (nI p) = φ at *
      have su : Cst σ υ3 := (Cst.refl σ).ag (AgM.of (F := nS0) A2 (fun _ q => q) n53) (fun x q => by unfold bS at q; omega)
      have kp : ∀ y, fpI y → y ≠ 1 → ¬ bS (100 - bkA σ) y → mI φ y = mI σ y := fun y hy h1 h2 => at_ y (fun z => by rw [z] at hy; unfold fpI fxC at hy; omega) (fun z => z.elim h2 (fun q => by unfold rlS at q; unfold fpI fxC at hy; omega))
      refine opw_k wr start su sh2 rf' z0 A4.2.2.1 (Cst.ag (τ := wL υ3 560 0 (Int32.toInt64 (nI e - 10))) su A4 (fun x q => by unfold bS rlS at q; omega)) ⟨t, 0, l, many, cs, w, K, b, Iw_mk h.1 (A.sh sh) A.ldA' A.lwA' (fun y hy => at_ y (fun z => by rw [z] at hy; unfold kpX fxC at hy; omega) (by unfold kpX fxC at hy; unfold bS rlS; omega)) (f_ 19 (by unfold stF; omega)) (by rw [yy, tf.2.1, y1]; exact o4) z1 (by rw [z3, yy, tf.2.2.2]) ?_ ?_ ?_ ?_, ?_⟩
      · unfold ID
        rw [at_ 22 (by decide) (by unfold bS rlS; omega), at_ 533 (by decide) (by unfold bS rlS; omega)]
        exact idd
      · exact IH_o ih (by rw [at_ 25 (by decide) (by unfold bS rlS; omega)]) (at_ 26 (by decide) (by unfold bS rlS; omega)) (f_ 34 (by unfold stF; omega)) (fun i hi => at_ _ (by omega) (by unfold bS rlS; omega))
      · exact IM_o im (by rw [at_ 25 (by decide) (by unfold bS rlS; omega)]) (at_ 27 (by decide) (by unfold bS rlS; omega)) (at_ 28 (by decide) (by unfold bS rlS; omega)) (f_ 36 (by unfold stF; omega)) (fun i hi => at_ _ (by omega) (by unfold bS rlS; omega))
      · exact IB_o ib A.bkA' (by rw [at_ _ (by omega) (by unfold bS rlS; omega)]) (at_ _ (by omega) (by unfold bS rlS; omega)) (f_ 33 (by unfold stF; omega)) (fun i hi => at_ _ (by omega) (by unfold bS rlS; omega))
      · unfold IC
        rw [at_ 0 (by decide) (by unfold bS rlS; omega), at_ 55 (by decide) (by unfold bS rlS; omega), f_ 35 (by unfold stF; omega)]
        exact h.2
    | .inr b', rf, c2, ref =>
      obtain ⟨rfl, bc, tg⟩ := c2
      have A2 : Ag (bS (100 - bkA σ)) σ υ3 := A12.trans tg.1
      have sh2 := A2.sh sh
      have bk2 : bkA υ3 = bkA σ := A2.bk
      have shs : Sh (bswp υ3) := bswp_sh sh2
      have bks : bkA (bswp υ3) = 100 - bkA σ := by show 100 - bkA υ3 = _; rw [bk2]
      have l6 := BkOK.len rf
      rw [if_neg (show ¬ (1 : Int32) = 0 by decide), xr_0_11 sh2, xr_0_12 sh2, sR_0 (k_0 sh2), sR_0 (σ := wR υ3 0 11 (100 - bkA υ3)) (show mK υ3 0 = (100, 0) from k_0 sh2), show (wR (wR υ3 0 11 (100 - bkA υ3)) 0 12 (bkA υ3)) = bswp υ3 from rfl, xr_0_11 shs, xg_bk shs shs.bk, bks, show mI (bswp υ3) (100 - bkA σ) 1 = nI b'.length from bc.1, nar0] at start
      obtain ⟨υ4, x2, x3, v4, v5, v6, r1, r2, r3, r4, r5, r6, r7⟩ := ref (wL (bswp υ3) 560 0 (Int32.toInt64 (nI b'.length))) shs ⟨tm.1, tm.2.1, fun k hk => by
        show mI υ3 54 k = _
        rw [A2.at n54]; exact tm.2.2 k hk⟩ (by
        show mI υ3 53 1 = _
        rw [A2.at n53]; exact n2) (by
        show mI υ3 57 1 = _
        rw [A2.at (by unfold bS; omega)]; exact mx.2.1.1.2.1)
      have sh3 : Sh υ4 := r4.sh shs
      have sh4 : Sh (wI υ4 53 3 (-1)) := sh3
      have sh5 : Sh (wI (wI υ4 53 3 (-1)) 53 33 (nI b'.length)) := sh3
      obtain ⟨φ, l1, l2, l3⟩ := m_lays (d := d + 30) (σ := wI (wI υ4 53 3 (-1)) 53 33 (nI b'.length)) (a := 443) (c := 436) (A := 6) (by decide)
        (fun σ' hk hr q hq k => aR_k (by rw [hk]; exact k_443 sh5) hq (by decide) (by rw [hr]; exact r_g443 sh5 hq) k)
        (fun σ' hk hr q hq k => aR_k (by rw [hk]; exact k_436 sh5) hq (by decide) (by rw [hr]; exact r_g436 sh5 hq) k)
        (fun q hq => k_r443 sh5 hq) (fun q hq => k_r436 sh5 hq) (fun p q hp hq => by omega) (m := b'.length) (by omega)
      have rf' : ev (d + 31) 206 [.ref 53, .int (nI m)] (wL (bswp υ3) 560 0 (Int32.toInt64 (nI b'.length))) = some (.inl (.int (nI b'.length)), φ) := by
        rw [r1, e_M_book_169, xg_53 sh3, r6, if_pos (show (0 : Int32) = 0 from rfl), xs_53 sh3, xs_53 sh4, r5, xr_53_24 sh5, xr_53_23 sh5, l1, cV1_ok, nar0]
      have A4 : AgM (fun x => rlS x ∨ (437 ≤ x ∧ x ≤ 442)) (fun i => i = 0 ∨ stF i ∨ i = 3 ∨ i = 33) (wL (bswp υ3) 560 0 (Int32.toInt64 (nI b'.length))) φ :=
        (AgM.w53 (F := fun i => i = 0 ∨ stF i ∨ i = 3 ∨ i = 33) (AgM.w53 (F := fun i => i = 0 ∨ stF i ∨ i = 3 ∨ i = 33) (r4.mono (fun _ q => Or.inl q) (fun _ q => q.elim Or.inl (fun z => Or.inr (Or.inl z)))) (Or.inr (Or.inr (Or.inl rfl))) _) (Or.inr (Or.inr (Or.inr rfl))) _).trans (AgM.of l2 (fun x q => Or.inr ⟨by omega, by omega⟩) (by omega))
      have y53 : mI φ 53 = mI (wI (wI υ4 53 3 (-1)) 53 33 (nI b'.length)) 53 := l2.at (by omega)
      have at2 : ∀ a, a ≠ 53 → ¬ (rlS a ∨ (437 ≤ a ∧ a ≤ 442)) → mI φ a = mI υ3 a := fun a h1 h2 => A4.at h1 h2
      have at_ : ∀ a, a ≠ 53 → ¬ (rlS a ∨ (437 ≤ a ∧ a ≤ 442)) → ¬ bS (100 - bkA σ) a → mI φ a = mI σ a := fun a h1 h2 h3 => (at2 a h1 h2).trans (A2.at h3)
      have f_ : ∀ i, ¬ (i = 0 ∨ stF i ∨ i = 3 ∨ i = 33) → mI φ 53 i = mI σ 53 i := fun i h1 => (A4.f h1).trans (show mI υ3 53 i = mI σ 53 i by rw [A2.at n53])
      have z0 : mI φ 53 0 = 0 := by rw [y53, w53n _ (show (0 : Nat) ≠ 33 by decide), w53n _ (show (0 : Nat) ≠ 3 by decide)]; exact r3
      have z1 : mI φ 53 1 = 0 := by rw [y53, w53n _ (show (1 : Nat) ≠ 33 by decide), w53n _ (show (1 : Nat) ≠ 3 by decide)]; exact r2
      have z3 : mI φ 53 3 = -1 := by rw [y53, w53n _ (show (3 : Nat) ≠ 33 by decide), w53e]
      have z33 : mI φ 53 33 = nI b'.length := by rw [y53, w53e]
      have shf : Sh φ := A4.sh shs
      have ldf : ldA φ = ldA σ := (A4.ldA').trans (show ldA υ3 = ldA σ from A2.ld)
      have lwf : lwA φ = lwA σ := (A4.lwA').trans (show lwA υ3 = lwA σ from A2.lw)
      have bkf : bkA φ = 100 - bkA σ := (A4.bkA').trans bks
      have yy : mI φ 1 = mI υ3 1 := at2 1 (by decide) (by unfold rlS; omega)
      have su : Cst σ υ3 := (Cst.refl σ).ag (AgM.of (F := nS0) A2 (fun _ q => q) n53) (fun x q => by unfold bS at q; omega)
      refine opw_k wr start su shs rf' z0 A4.2.2.1 (Cst.ag (τ := wL (bswp υ3) 560 0 (Int32.toInt64 (nI b'.length))) su A4 (fun x q => by unfold rlS at q; omega)) ⟨t, 0, l, many, cs, w, K, b', Iw_mk h.1 shf ldf lwf (fun y hy => at_ y (fun z => by rw [z] at hy; unfold kpX fxC at hy; omega) (by unfold kpX fxC at hy; unfold rlS; omega) (by unfold kpX fxC at hy; unfold bS; omega)) (f_ 19 (by unfold stF; omega)) (by rw [yy, tg.2.1, y1]; exact o4) z1 (by rw [z3, yy, tg.2.2.2, y1]; exact o6.symm) ?_ ?_ ?_ ?_, ?_⟩
      · unfold ID
        rw [at_ 22 (by decide) (by unfold rlS; omega) (by unfold bS; omega), at_ 533 (by decide) (by unfold rlS; omega) (by unfold bS; omega)]
        exact idd
      · exact IH_o ih (by rw [at_ 25 (by decide) (by unfold rlS; omega) (by unfold bS; omega)]) (at_ 26 (by decide) (by unfold rlS; omega) (by unfold bS; omega)) (f_ 34 (by unfold stF; omega)) (fun i hi => at_ _ (by omega) (by unfold rlS; omega) (by unfold bS; omega))
      · exact IM_o im (by rw [at_ 25 (by decide) (by unfold rlS; omega) (by unfold bS; omega)]) (at_ 27 (by decide) (by unfold rlS; omega) (by unfold bS; omega)) (at_ 28 (by decide) (by unfold rlS; omega) (by unfold bS; omega)) (f_ 36 (by unfold stF; omega)) (fun i hi => at_ _ (by omega) (by unfold rlS; omega) (by unfold bS; omega))
      · refine ⟨by omega, ?_, z33, rf.2, fun i hi => ?_, fun j hj => ?_⟩
        · rw [bkf, at2 _ (by omega) (by unfold rlS; omega)]; exact bc.1
        · obtain ⟨k0, k1⟩ := l3 i hi
          have k0 : mI φ (437 + i) 0 = mI (wI (wI υ4 53 3 (-1)) 53 33 (nI b'.length)) (444 + i) 0 := k0
          have k1 : mI φ (437 + i) 1 = mI (wI (wI υ4 53 3 (-1)) 53 33 (nI b'.length)) (444 + i) 1 := k1
          have mb := rf.1 _ (getD_mem hi)
          rw [k0, k1, rI_o (show 444 + i ≠ 53 by omega), rI_o (show 444 + i ≠ 53 by omega)]
          exact ⟨mb.1, mb.2, (r7 i hi).1, (r7 i hi).2⟩
        · rw [bkf, at2 _ (by omega) (by unfold rlS; omega)]; exact bc.2 j hj
      · unfold IC
        rw [at_ 0 (by decide) (by unfold rlS; omega) (by unfold bS; omega), at_ 55 (by decide) (by unfold rlS; omega) (by unfold bS; omega), f_ 35 (by unfold stF; omega)]
        exact h.2
  · rw [g2 q] at start
    refine opw_e wr h (e := 2) (c := 1) (Or.inr rfl) rfl (by decide) (Ag.refl _ _) (σ' := σ) start (fun τ g' => ?_)
    have g3 := g'.th
    have e1 : mI (wI τ 53 0 0) 53 1 = nI n := by rw [w53n _ (show (1 : Nat) ≠ 0 by decide)]; exact g'.2.1.2.2.2.1
    have bad : rn (d + 31) 206 29 [.ref 53, .int x, uv, uv, uv, uv, uv] [.int 1, .ref 53] (wI τ 53 0 0) = some (.inl (.int 0), exM τ 1 2) := by
      rw [e_M_book_29, m_bx1 g'.sh (by decide), cI_ok, if_neg (show ¬ (1 : Int32) = 0 by decide), nar0]
    rw [e_M_book (d + 30) 53 x τ (by rw [k_53 g'.sh]), xs_53 g'.sh, xg_53 g3.sh, e1, m_inN (m := n) (by omega) x, cI1_ok]
    by_cases z : inN x (n + 1)
    · rw [@i01_p _ (Classical.propDecidable _) z, if_neg (show ¬ (1 : Int32) = 0 by decide)]
      obtain ⟨k, hk, rfl⟩ := z
      rw [if_neg (show ¬ nI k ≤ (60 : Int32) from nI_ge (a := 60) (by
        by_cases y : k ≤ 60
        · exact absurd ⟨k, by omega, rfl⟩ q
        · omega) (by omega)), e_M_book_24]
      exact bad
    · rw [@i01_n _ (Classical.propDecidable _) z, if_pos (show (0 : Int32) = 0 from rfl), e_M_book_24]
      exact bad
end BookO
