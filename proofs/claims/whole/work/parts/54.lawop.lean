/-! law -/
def swp (υ : mm_M) : mm_M := wR (wR υ 3 2 (59 - lwA υ)) 0 10 (lwA υ)
theorem rr_none : rr 3 2 = none ∧ rr 0 10 = none := by decide +kernel
theorem swp_lw (υ : mm_M) : lwA (swp υ) = 59 - lwA υ := rfl
theorem swp_ld (υ : mm_M) : ldA (swp υ) = ldA υ := rfl
theorem swp_bk (υ : mm_M) : bkA (swp υ) = bkA υ := rfl
theorem swp_r (υ : mm_M) {a i : Nat} (h1 : ¬ (a = 3 ∧ i = 2)) (h2 : ¬ (a = 0 ∧ i = 10)) : mR (swp υ) a i = mR υ a i := by
  show (if a = 0 ∧ i = 10 then some (lwA υ) else if a = 3 ∧ i = 2 then some (59 - lwA υ) else mR υ a i) = _
  rw [if_neg h2, if_neg h1]
theorem swp_sh {υ : mm_M} (h : Sh υ) : Sh (swp υ) := by
  obtain ⟨h1, h2, ⟨h3, h4, h5, h6, h7, h8⟩, h9, h10, h11, h12, h13⟩ := h
  have hw : lwA υ = 13 ∨ lwA υ = 46 := h11
  refine ⟨h1, fun a i v e => ?_, ⟨?_, ?_, ?_, ?_, ?_, ?_⟩, h9, h10, ?_, h12, fun a p q => ⟨(h13 a p q).1, ?_⟩⟩
  · rw [swp_r υ (fun z => by rw [z.1, z.2, rr_none.1] at e; cases e) (fun z => by rw [z.1, z.2, rr_none.2] at e; cases e)]
    exact h2 a i v e
  · rw [swp_r υ (by omega) (by omega), swp_ld]; exact h3
  · rfl
  · rw [swp_r υ (by omega) (by omega), swp_ld]; exact h5
  · show some (lwA υ) = some (59 - (59 - lwA υ))
    congr 1
    omega
  · rw [swp_r υ (by omega) (by omega), swp_bk]; exact h7
  · rw [swp_r υ (by omega) (by omega), swp_bk]; exact h8
  · rw [swp_lw]
    show 59 - lwA υ = 13 ∨ 59 - lwA υ = 46
    omega
  · funext i
    rw [swp_r υ (by omega) (by omega), (h13 a p q).2]
theorem sR_3_2 {σ : mm_M} (h : Sh σ) (v : Nat) (k : mm_M → Option mm_R) : sR σ 2 3 2 v k = k (wR σ 3 2 v) := by
  unfold sR
  rw [if_pos (by rw [k_3 h])]
theorem sR_0_10 {σ : mm_M} (h : mK σ 0 = (100, 0)) (v : Nat) (k : mm_M → Option mm_R) : sR σ 0 0 10 v k = k (wR σ 0 10 v) := by
  unfold sR
  rw [if_pos (by rw [h])]
section LawOp
variable {σ τ σ' τ' υ φ : mm_M} {t : Nat → Nat} {n : Nat} {l : Ln} {many : Nat} {cs : Nat → Int32} {w K : Nat} {b : List (Nat × Nat)} {d : Nat}
def lwF (i : Nat) : Prop := i = 0 ∨ i = 1 ∨ i = 2 ∨ i = 4 ∨ i = 5 ∨ i = 6 ∨ i = 7 ∨ i = 8 ∨ i = 20
theorem m_lawPre {m : Nat} (sh : Sh τ) (hx : TxM τ t n) (e1 : mI τ 53 1 = nI n) (hm : m ≤ n) (h150 : m ≤ 150) : ∃ υ, ev (d + 31) 201 [.ref 53, .int (nI m)] τ = rn (d + 31) 201 85 [.ref 53, .int (nI m)] [] υ ∧ mI υ 53 1 = 0 ∧ mI υ 53 0 = 0 ∧ AgM lmS lwF τ υ ∧ (∀ q, lawF t m = .inr q → mI υ 53 5 = 0 ∧ LM υ q.2) ∧ (∀ q, lawF t m = .inl q → mI υ 53 5 = nI q.1 ∧ mI υ 53 6 = nI q.2 ∧ 1 ≤ q.1 ∧ q.1 ≤ 3) := by
  have hn := hx.1
  have s1 : Sh (wI τ 53 0 0) := sh
  have x1 : TxM (wI τ 53 0 0) t n := ⟨hx.1, hx.2.1, fun k hk => by rw [rI_o (by decide)]; exact hx.2.2 k hk⟩
  obtain ⟨τ2, a1, a2, a3, a4, a5, a6, a7⟩ := u_start (d := d + 28) s1 x1 hm
  obtain ⟨υ, b1, b2, b3⟩ := m_lawRead (d := d + 4) (x := nI m) a2 h150 a6
  have A0 : AgM lmS lwF τ (wI τ 53 0 0) := AgM.w53 (AgM.refl _ _ τ) (Or.inl rfl) _
  have A1 : AgM lmS lwF τ τ2 := A0.trans (a3.mono (fun _ => nS_lm) (fun i q => by unfold stF at q; unfold lwF; omega))
  have lmlw : ∀ i, lmF i → lwF i := fun i q => by unfold lmF at q; unfold lwF; omega
  have key : ev (d + 31) 201 [.ref 53, .int (nI m)] τ = rn (d + 31) 201 85 [.ref 53, .int (nI m)] [] υ := by
    rw [e_M_law (d + 30) 53 (nI m) τ (by rw [k_53 sh]), xs_53 sh, xg_53 s1, w53n τ (show (1 : Nat) ≠ 0 by decide), e1, m_inN (m := n) (by omega) (nI m), cI1_ok, @i01_p _ (Classical.propDecidable _) (show inN (nI m) (n + 1) from ⟨m, by omega, rfl⟩), if_neg (show ¬ (1 : Int32) = 0 by decide), if_pos (show nI m ≤ (150 : Int32) from nI_le (b := 150) h150 (by decide)), e_M_law_30, m_bad0 s1 (th0 τ), cI_ok, if_pos (show (0 : Int32) = 0 from rfl), show ev (d + 30) 184 [.ref 53, .int (nI m)] (wI τ 53 0 0) = _ from a1, cV_ok]
    exact b1
  have t0 : mI τ2 53 0 = 0 := by rw [a3.f (by unfold stF; omega), w53e]
  have ag : AgM lmS lmF τ2 υ := by
    cases z : lawF t m with
    | inl q => exact (b3 q z).1.1
    | inr q => exact (b2 q z).2.2.2
  exact ⟨υ, key, by rw [ag.f (by unfold lmF; omega)]; exact a4, by rw [ag.f (by unfold lmF; omega)]; exact t0, A1.trans (ag.mono (fun _ q => q) lmlw), fun q z => ⟨(b2 q z).2.1, (b2 q z).2.2.1⟩, fun q z => ⟨(b3 q z).1.2.1, (b3 q z).1.2.2.1, (b3 q z).2⟩⟩
theorem min_nI {n M : Nat} (hn : n < 2147483648) (hM : M < 2147483648) : mnn (nI n) (nI M) = nI (min n M) := by
  unfold mnn
  by_cases z : M < n
  · rw [if_pos (nI_lt z hn), Nat.min_eq_right (by omega)]
  · rw [if_neg (nI_nlt (by omega) hM), Nat.min_eq_left (by omega)]
theorem Ag.wL' {S : Nat → Prop} (h : Ag S σ τ) (a i : Nat) (v : Int64) : Ag S (wL σ a i v) (wL τ a i v) :=
  ⟨h.1, h.2.1, by
    show (fun c j => if c = a ∧ j = i then v else mL τ c j) = (fun c j => if c = a ∧ j = i then v else mL σ c j)
    rw [h.2.2.1], h.2.2.2.1, h.2.2.2.2.1, h.2.2.2.2.2.1, h.2.2.2.2.2.2⟩
theorem MLn_o2 (ok : LnOK l) (hm : MLn σ l) (e : ∀ x, x = 57 ∨ (67 ≤ x ∧ x ≤ 113) → mI τ x = mI σ x) : MLn τ l := by
  have h1 := ok.1
  have h2 := ok.2.1
  have h3 := ok.2.2.1
  obtain ⟨m1, m2, m3, m4⟩ := hm
  refine ⟨by rw [e 57 (by omega)]; exact m1, fun p hp => ?_, fun p hp => ?_, fun p hp => ?_⟩
  · rw [e (67 + p) (by omega)]; exact m2 p hp
  · rw [e (82 + p) (by omega)]; exact m3 p hp
  · rw [e (102 + p) (by omega)]; exact m4 p hp
theorem lawF_inr {m : Nat} {p : Nat × List Nat} (h : lawF t m = .inr p) : lpF t m (5 * m + 3) 0 0 (sp isB t m 0) [] = some (.inr p) := by
  unfold lawF at h
  split at h
  · rename_i q e
    split at h
    · cases h; exact e
    · cases h
  · cases h
  · cases h
theorem op_law (x : Int32) : OpW (d + 31) 277 [.ref 0, .int x, .ref 560] (d + 31) 201 [.ref 53, .int x] := by
  intro σ hI
  obtain ⟨t, n, l, many, cs, w, K, b, h⟩ := hI
  have wr := fun σ => e_L_law3 (d + 30) 0 x 560 σ
  have hw := h.1
  obtain ⟨⟨sh, stl⟩, ⟨tc, tm, n1, n2, pl⟩, ⟨ok, cx, mx⟩, ⟨row, rz⟩, ih, im, ib⟩ := hw
  have hn := tc.1
  obtain ⟨g1, g2⟩ := c_needR (d := d + 29) sh x (m := min n 150) (by omega)
  have mn : mnn (nI n) 150 = nI (min n 150) := min_nI (M := 150) (by omega) (by decide)
  have start : ev (d + 30) 117 [.ref 0, .int x] σ = _ := e_W_law (d + 29) 0 x σ (by rw [k_0 sh])
  rw [xr_0_0 sh, xg_1 sh, n1, c_min, cI1_ok, mn] at start
  by_cases q : inN x (min n 150 + 1)
  · have qq := q
    obtain ⟨m, hm, rfl⟩ := q
    have m1 : m ≤ n := by omega
    have m2 : m ≤ 150 := by omega
    obtain ⟨υ1, o1, o2, o3, o4, o5, o6⟩ := t_open (d := d + 28) sh stl tc m1
    have sh1 := o2.1
    have lws : lwA σ = 13 ∨ lwA σ = 46 := sh.lw
    have lds : ldA σ = 5 ∨ ldA σ = 38 := sh.ld
    have hb : bkA σ = 49 ∨ bkA σ = 51 := sh.bk
    have lw1 : lwA υ1 = lwA σ := o3.lw
    have lw' : isLw (59 - lwA σ) := by
      show 59 - lwA σ = 13 ∨ 59 - lwA σ = 46
      omega
    obtain ⟨bb, υ2, c1, c2, c3⟩ := c_lawRead (d := d + 3) lw' o2 m2
    rw [g1 qq, cI_ok, xr_0_0 sh, show ev (d + 29) 16 [.ref 1, .int (nI m)] σ = _ from o1, cV1_ok, xr_0_10 sh1, lw1, xr_0_0 sh1, show ev (d + 29) 61 [.ref (59 - lwA σ), .ref 1] υ1 = _ from c1, cI1_ok] at start
    cases z : lawF t m with
    | inl p =>
      obtain ⟨rfl, tf⟩ := c3 p z
      have A2 : Ag (lwS (59 - lwA σ)) σ υ2 := (o3.mono (fun _ => at1_lw)).trans tf.1
      have sh2 := A2.sh sh
      have n53 : ¬ lwS (59 - lwA σ) 53 := by unfold lwS; omega
      have n54 : ¬ lwS (59 - lwA σ) 54 := by unfold lwS; omega
      rw [if_pos (show (0 : Int32) = 0 from rfl), xr_0_0 sh2, xg_1 sh2, tf.2.2.1, nar0] at start
      have tm2 : TxM (wL υ2 560 0 (Int32.toInt64 (nI p.1 - 10))) t n := ⟨tm.1, tm.2.1, fun k hk => by
        show mI υ2 54 k = _
        rw [A2.at n54]; exact tm.2.2 k hk⟩
      obtain ⟨υ3, r1, r2, r3, r4, r5, r6⟩ := m_lawPre (d := d) (τ := wL υ2 560 0 (Int32.toInt64 (nI p.1 - 10))) sh2 tm2 (by
        show mI υ2 53 1 = _
        rw [A2.at n53]; exact n2) m1 m2
      obtain ⟨e5, e6, e7, e8⟩ := r6 p z
      have sh3 : Sh υ3 := r4.sh sh2
      have sh4 : Sh (wI υ3 53 3 (nI p.2)) := sh3
      have ref : ev (d + 31) 201 [.ref 53, .int (nI m)] (wL υ2 560 0 (Int32.toInt64 (nI p.1 - 10))) = some (.inl (.int (nI p.1 - 10)), wI υ3 53 3 (nI p.2)) := by
        rw [r1, e_M_law_85, xg_53 sh3, e5, if_neg (mf5 e7 e8), e_M_ends (d + 30) 53 υ3 (by rw [k_53 sh3]), xg_53 sh3, e6, xs_53 sh3, xg_53 sh4, w53n _ (show (5 : Nat) ≠ 3 by decide), e5, nar0, cI_ok, nar0]
      have A3 : AgM (fun x => lwS (59 - lwA σ) x ∨ lmS x) (fun i => lwF i ∨ i = 3) (wL σ 560 0 (Int32.toInt64 (nI p.1 - 10))) (wL υ2 560 0 (Int32.toInt64 (nI p.1 - 10))) := AgM.of (A2.wL' _ _ _) (fun x q => Or.inl q) n53
      have A4 : AgM (fun x => lwS (59 - lwA σ) x ∨ lmS x) (fun i => lwF i ∨ i = 3) (wL υ2 560 0 (Int32.toInt64 (nI p.1 - 10))) (wI υ3 53 3 (nI p.2)) := AgM.w53 (F := fun i => lwF i ∨ i = 3) (r4.mono (fun _ q => Or.inr q) (fun _ q => Or.inl q)) (Or.inr rfl) _
      have A := A3.trans A4
      have y1 : mI (wI υ3 53 3 (nI p.2)) 1 = mI υ2 1 := by
        rw [rI_o (by decide), r4.at (by decide) (by unfold lmS; omega)]; rfl
      have at_ : ∀ a, a ≠ 53 → ¬ (lwS (59 - lwA σ) a ∨ lmS a) → mI (wI υ3 53 3 (nI p.2)) a = mI σ a := fun a h1 h2 => A.at h1 h2
      have f_ : ∀ i, ¬ (lwF i ∨ i = 3) → mI (wI υ3 53 3 (nI p.2)) 53 i = mI σ 53 i := fun i h1 => A.f h1
      have z0 : mI (wI υ3 53 3 (nI p.2)) 53 0 = 0 := by rw [w53n _ (show (0 : Nat) ≠ 3 by decide)]; exact r3
      have z1 : mI (wI υ3 53 3 (nI p.2)) 53 1 = 0 := by rw [w53n _ (show (1 : Nat) ≠ 3 by decide)]; exact r2
      have z3 : mI (wI υ3 53 3 (nI p.2)) 53 3 = nI p.2 := w53e _ _ _
      generalize hφ : wI υ3 53 3 (nI p.2) = φ at *
      have su : Cst σ υ2 := (Cst.refl σ).ag (AgM.of (F := nS0) A2 (fun _ q => q) n53) (fun x q => by unfold lwS at q; omega)
      refine opw_k wr start su sh2 ref z0 A4.2.2.1 (Cst.ag (τ := wL υ2 560 0 (Int32.toInt64 (nI p.1 - 10))) su A4 (fun x q => by unfold lwS lmS at q; omega)) ⟨t, 0, l, many, cs, w, K, b, ⟨⟨A.sh sh, Stl_o stl (fun x hx => at_ x (by omega) (by unfold lwS lmS; omega))⟩, ⟨⟨by omega, tc.2.1, fun k hk => by rw [at_ 2 (by decide) (by unfold lwS lmS; omega)]; exact tc.2.2 k hk⟩, ⟨by omega, tm.2.1, fun k hk => by rw [at_ 54 (by decide) (by unfold lwS lmS; omega)]; exact tm.2.2 k hk⟩, by rw [y1, tf.2.1]; exact o4, z1, by rw [z3, y1, tf.2.2.2]⟩,
        ⟨ok, ⟨A.sh sh, ?_, ?_⟩, ⟨A.sh sh, MLn_o ok.1 mx.2.1 (fun x hx hn => at_ x hn (by unfold fxM at hx; unfold lwS lmS; omega)), MLw_o ok.2 mx.2.2 (f_ 19 (by unfold lwF; omega)) (fun x h1 h2 => at_ x (by omega) (by unfold lwS lmS; omega))⟩⟩, ⟨by rw [at_ 22 (by decide) (by unfold lwS lmS; omega), at_ 533 (by decide) (by unfold lwS lmS; omega)]; exact row, by rw [at_ 533 (by decide) (by unfold lwS lmS; omega)]; exact rz⟩,
        IH_o ih (by rw [at_ 25 (by decide) (by unfold lwS lmS; omega)]) (at_ 26 (by decide) (by unfold lwS lmS; omega)) (f_ 34 (by unfold lwF; omega)) (fun i hi => at_ _ (by omega) (by unfold lwS lmS; omega)), IM_o im (by rw [at_ 25 (by decide) (by unfold lwS lmS; omega)]) (at_ 27 (by decide) (by unfold lwS lmS; omega)) (at_ 28 (by decide) (by unfold lwS lmS; omega)) (f_ 36 (by unfold lwF; omega)) (fun i hi => at_ _ (by omega) (by unfold lwS lmS; omega)),
        IB_o ib A.bkA' (by rw [at_ _ (by omega) (by unfold lwS lmS; omega)]) (at_ _ (by omega) (by unfold lwS lmS; omega)) (f_ 33 (by unfold lwF; omega)) (fun i hi => at_ _ (by omega) (by unfold lwS lmS; omega))⟩, ?_⟩
      · rw [show ldA φ = ldA σ from A.ldA']
        exact CLn_o cx.2.1 (fun k hk => at_ _ (by omega) (by unfold lwS lmS; omega))
      · exact CLw_o cx.2.2 A.lwA' (at_ _ (by omega) (by unfold lwS lmS; omega)) (at_ _ (by omega) (by unfold lwS lmS; omega))
      · unfold IC
        rw [at_ 0 (by decide) (by unfold lwS lmS; omega), at_ 55 (by decide) (by unfold lwS lmS; omega), f_ 35 (by unfold lwF; omega)]
        exact h.2
    | inr p =>
      obtain ⟨rfl, -, lsq, tg⟩ := c2 p z
      have A2 : Ag (lwS (59 - lwA σ)) σ υ2 := (o3.mono (fun _ => at1_lw)).trans tg.1
      have sh2 := A2.sh sh
      have lw2 : lwA υ2 = lwA σ := A2.lw
      have n53 : ¬ lwS (59 - lwA σ) 53 := by unfold lwS; omega
      have n54 : ¬ lwS (59 - lwA σ) 54 := by unfold lwS; omega
      rw [if_neg (show ¬ (1 : Int32) = 0 by decide), xr_0_1 sh2, xr_3_2 sh2, xr_0_1 sh2, xr_0_10 sh2, sR_3_2 sh2, sR_0_10 (σ := wR υ2 3 2 (59 - lwA υ2)) (show mK υ2 0 = (100, 0) from k_0 sh2), nar0] at start
      have start : ev (d + 30) 117 [.ref 0, .int (nI m)] σ = some (.inl (.int 1), swp υ2) := start
      have shs : Sh (swp υ2) := swp_sh sh2
      -- the codes
      have er := lawF_inr z
      have hs0 := (sp_all (P := isB) (t := t) (n := m) 0 (Nat.zero_le _)).2.1
      have ln := lpF_len _ 0 0 _ [] p.1 p.2 hs0 er
      have l150 : p.2.length ≤ 150 := by have := ln.2.2; simp only [List.length_nil] at this; omega
      obtain ⟨cok, hgt1⟩ := lpF_ok _ 0 0 _ [] p.1 p.2 er CdOK_nil (by omega)
      have hgt1 : ht p.2 = 1 := hgt1
      have lok := lok_of l150 cok hgt1
      have lne : ¬ p.2.length = 0 := fun y => by
        rw [List.length_eq_zero_iff.mp y] at hgt1
        exact absurd hgt1 (by decide)
      -- the reference
      have tm2 : TxM (wL (swp υ2) 560 0 (Int32.toInt64 1)) t n := ⟨tm.1, tm.2.1, fun k hk => by
        show mI υ2 54 k = _
        rw [A2.at n54]; exact tm.2.2 k hk⟩
      obtain ⟨υ3, r1, r2, r3, r4, r5, r6⟩ := m_lawPre (d := d) (τ := wL (swp υ2) 560 0 (Int32.toInt64 1)) shs tm2 (by
        show mI υ2 53 1 = _
        rw [A2.at n53]; exact n2) m1 m2
      obtain ⟨e5, lm1, lm2⟩ := r5 p z
      have sh3 : Sh υ3 := r4.sh shs
      have sh4 : Sh (wI υ3 53 3 (-1)) := sh3
      have sh5 : Sh (wI (wI υ3 53 3 (-1)) 53 19 (nI p.2.length)) := sh3
      obtain ⟨φ, l1, l2, l3⟩ := m_lays (d := d + 30) (σ := wI (wI υ3 53 3 (-1)) 53 19 (nI p.2.length)) (a := 275) (c := 114) (A := 160) (by decide)
        (fun σ' hk hr q hq k => aR_k (by rw [hk]; exact k_275 sh5) hq (by decide) (by rw [hr]; exact r_g275 sh5 hq) k)
        (fun σ' hk hr q hq k => aR_k (by rw [hk]; exact k_114 sh5) hq (by decide) (by rw [hr]; exact r_g114 sh5 hq) k)
        (fun q hq => k_r275 sh5 hq) (fun q hq => k_r114 sh5 hq) (fun p q hp hq => by omega) (m := p.2.length) (by omega)
      have ref : ev (d + 31) 201 [.ref 53, .int (nI m)] (wL (swp υ2) 560 0 (Int32.toInt64 1)) = some (.inl (.int 1), φ) := by
        rw [r1, e_M_law_85, xg_53 sh3, e5, if_pos (show (0 : Int32) = 0 from rfl), xs_53 sh3, xg_53 sh4, w53n _ (show (20 : Nat) ≠ 3 by decide), lm1, xs_53 sh4, xr_53_22 sh5, xr_53_21 sh5, xg_53 sh5, w53e, l1, cV1_ok, nar0]
      have A4 : AgM (fun x => lmS x ∨ (115 ≤ x ∧ x ≤ 274)) (fun i => lwF i ∨ i = 3 ∨ i = 19) (wL (swp υ2) 560 0 (Int32.toInt64 1)) φ :=
        (AgM.w53 (F := fun i => lwF i ∨ i = 3 ∨ i = 19) (AgM.w53 (F := fun i => lwF i ∨ i = 3 ∨ i = 19) (r4.mono (fun _ q => Or.inl q) (fun _ q => Or.inl q)) (Or.inr (Or.inl rfl)) _) (Or.inr (Or.inr rfl)) _).trans (AgM.of l2 (fun x q => Or.inr ⟨by omega, by omega⟩) (by omega))
      have y53 : mI φ 53 = mI (wI (wI υ3 53 3 (-1)) 53 19 (nI p.2.length)) 53 := l2.at (by omega)
      have at2 : ∀ a, a ≠ 53 → ¬ (lmS a ∨ (115 ≤ a ∧ a ≤ 274)) → mI φ a = mI υ2 a := fun a h1 h2 => A4.at h1 h2
      have at_ : ∀ a, a ≠ 53 → ¬ (lmS a ∨ (115 ≤ a ∧ a ≤ 274)) → ¬ lwS (59 - lwA σ) a → mI φ a = mI σ a := fun a h1 h2 h3 => (at2 a h1 h2).trans (A2.at h3)
      have f_ : ∀ i, ¬ (lwF i ∨ i = 3 ∨ i = 19) → mI φ 53 i = mI σ 53 i := fun i h1 => (A4.f h1).trans (show mI υ2 53 i = mI σ 53 i by rw [A2.at n53])
      have z0 : mI φ 53 0 = 0 := by rw [y53, w53n _ (show (0 : Nat) ≠ 19 by decide), w53n _ (show (0 : Nat) ≠ 3 by decide)]; exact r3
      have z1 : mI φ 53 1 = 0 := by rw [y53, w53n _ (show (1 : Nat) ≠ 19 by decide), w53n _ (show (1 : Nat) ≠ 3 by decide)]; exact r2
      have z3 : mI φ 53 3 = -1 := by rw [y53, w53n _ (show (3 : Nat) ≠ 19 by decide), w53e]
      have z19 : mI φ 53 19 = nI p.2.length := by rw [y53, w53e]
      have shf : Sh φ := A4.sh shs
      have ldf : ldA φ = ldA σ := (A4.ldA').trans (show ldA υ2 = ldA σ from A2.ld)
      have lwf : lwA φ = 59 - lwA σ := (A4.lwA').trans (show 59 - lwA υ2 = 59 - lwA σ by rw [lw2])
      have bkf : bkA φ = bkA σ := (A4.bkA').trans (show bkA υ2 = bkA σ from A2.bk)
      have y1 : mI φ 1 = mI υ2 1 := at2 1 (by decide) (by unfold lmS; omega)
      have su : Cst σ υ2 := (Cst.refl σ).ag (AgM.of (F := nS0) A2 (fun _ q => q) n53) (fun x q => by unfold lwS at q; omega)
      refine opw_k wr start su shs ref z0 A4.2.2.1 (Cst.ag (τ := wL (swp υ2) 560 0 (Int32.toInt64 1)) su A4 (fun x q => by unfold lmS at q; omega)) ⟨t, 0, l, p.2.length, fun i => nI (p.2.getD i 0), w, K, b, ⟨⟨shf, Stl_o stl (fun x hx => at_ x (by omega) (by unfold lmS; omega) (by unfold lwS; omega))⟩, ⟨⟨by omega, tc.2.1, fun k hk => by rw [at_ 2 (by decide) (by unfold lmS; omega) (by unfold lwS; omega)]; exact tc.2.2 k hk⟩, ⟨by omega, tm.2.1, fun k hk => by rw [at_ 54 (by decide) (by unfold lmS; omega) n54]; exact tm.2.2 k hk⟩, by rw [y1, tg.2.1]; exact o4, z1, by rw [z3, y1, tg.2.2.2, o6]⟩,
        ⟨⟨ok.1, Or.inr lok⟩, ⟨shf, ?_, ?_, ?_⟩, ⟨shf, MLn_o2 ok.1 mx.2.1 (fun x hx => at_ x (by omega) (by unfold lmS; omega) (by unfold lwS; omega)), z19, fun i hi => ?_⟩⟩, ⟨by rw [at_ 22 (by decide) (by unfold lmS; omega) (by unfold lwS; omega), at_ 533 (by decide) (by unfold lmS; omega) (by unfold lwS; omega)]; exact row, by rw [at_ 533 (by decide) (by unfold lmS; omega) (by unfold lwS; omega)]; exact rz⟩,
        IH_o ih (by rw [at_ 25 (by decide) (by unfold lmS; omega) (by unfold lwS; omega)]) (at_ 26 (by decide) (by unfold lmS; omega) (by unfold lwS; omega)) (f_ 34 (by unfold lwF; omega)) (fun i hi => at_ _ (by omega) (by unfold lmS; omega) (by unfold lwS; omega)), IM_o im (by rw [at_ 25 (by decide) (by unfold lmS; omega) (by unfold lwS; omega)]) (at_ 27 (by decide) (by unfold lmS; omega) (by unfold lwS; omega)) (at_ 28 (by decide) (by unfold lmS; omega) (by unfold lwS; omega)) (f_ 36 (by unfold lwF; omega)) (fun i hi => at_ _ (by omega) (by unfold lmS; omega) (by unfold lwS; omega)),
        IB_o ib bkf (by rw [at_ _ (by omega) (by unfold lmS; omega) (by unfold lwS; omega)]) (at_ _ (by omega) (by unfold lmS; omega) (by unfold lwS; omega)) (f_ 33 (by unfold lwF; omega)) (fun i hi => at_ _ (by omega) (by unfold lmS; omega) (by unfold lwS; omega))⟩, ?_⟩
      · rw [ldf]
        exact CLn_o cx.2.1 (fun k hk => at_ _ (by omega) (by unfold lmS; omega) (by unfold lwS; omega))
      · rw [lwf, at2 _ (by omega) (by unfold lmS; omega), if_neg lne]
        exact lsq.1
      · intro i hi
        rw [if_neg lne] at hi
        rw [lwf, at2 _ (by omega) (by unfold lmS; omega), if_neg lne]
        exact lsq.2 i hi
      · obtain ⟨k0, k1⟩ := l3 i hi
        have k0 : mI φ (115 + i) 0 = mI (wI (wI υ3 53 3 (-1)) 53 19 (nI p.2.length)) (276 + i) 0 := k0
        have k1 : mI φ (115 + i) 1 = mI (wI (wI υ3 53 3 (-1)) 53 19 (nI p.2.length)) (276 + i) 1 := k1
        rw [k0, k1, rI_o (show 276 + i ≠ 53 by omega), rI_o (show 276 + i ≠ 53 by omega)]
        exact lm2 i hi
      · unfold IC
        rw [at_ 0 (by decide) (by unfold lmS; omega) (by unfold lwS; omega), at_ 55 (by decide) (by unfold lmS; omega) (by unfold lwS; omega), f_ 35 (by unfold lwF; omega)]
        exact h.2
  · rw [g2 q] at start
    refine opw_e wr h (e := 2) (c := 1) (Or.inr rfl) rfl (by decide) (Ag.refl _ _) (σ' := σ) start (fun τ g' => ?_)
    have g3 := g'.th
    have e1 : mI (wI τ 53 0 0) 53 1 = nI n := by rw [w53n _ (show (1 : Nat) ≠ 0 by decide)]; exact g'.2.1.2.2.2.1
    have bad : rn (d + 31) 201 30 [.ref 53, .int x] [.int 1, .ref 53] (wI τ 53 0 0) = some (.inl (.int 0), exM τ 1 2) := by
      rw [e_M_law_30, m_bx1 g'.sh (by decide), cI_ok, if_neg (show ¬ (1 : Int32) = 0 by decide), nar0]
    rw [e_M_law (d + 30) 53 x τ (by rw [k_53 g'.sh]), xs_53 g'.sh, xg_53 g3.sh, e1, m_inN (m := n) (by omega) x, cI1_ok]
    by_cases z : inN x (n + 1)
    · rw [@i01_p _ (Classical.propDecidable _) z, if_neg (show ¬ (1 : Int32) = 0 by decide)]
      obtain ⟨k, hk, rfl⟩ := z
      rw [if_neg (show ¬ nI k ≤ (150 : Int32) from nI_ge (a := 150) (by
        by_cases y : k ≤ 150
        · exact absurd ⟨k, by omega, rfl⟩ q
        · omega) (by omega)), e_M_law_25]
      exact bad
    · rw [@i01_n _ (Classical.propDecidable _) z, if_pos (show (0 : Int32) = 0 from rfl), e_M_law_25]
      exact bad
end LawOp
