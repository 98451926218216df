/-! fields, arrays, new cells -/
def lyp : List (List Nat) := [[534, 536, 538, 540, 542, 544, 546, 548, 550, 552, 554, 556, 558, 560, 562, 564], [213, 215, 217, 219, 221, 223, 225, 227, 229, 231], [348, 350, 352], [286, 288, 290, 292, 294, 296, 298, 300, 302, 304, 306, 308], [330, 332, 334], [371, 373, 375, 377, 379, 381, 383, 385], [396], [412, 414, 416, 418, 420], [434, 436, 438, 440], [459, 461, 463, 465, 467, 469], [482, 484], [508, 510], [1474, 1476, 1478, 1480, 1482, 1484, 1486, 1488, 1490, 1492, 1494, 1496, 1498, 1500, 1502, 1504, 1506, 1508, 1510, 1512, 1514, 1516, 1518, 1520, 1522, 1524, 1526, 1528, 1530, 1532, 1534, 1536, 1538, 1540, 1542, 1544, 1546, 1548, 1550, 1552, 1554, 1556, 1558, 1560, 1562, 1564]]
theorem lyp_ok : ∀ ci, ci < 13 → ∀ k, k < nfl ci → lw_tbl[(lyp.getD ci []).getD k 0]? = some (u_lay (mclD ci).1 (mclD ci).2.1 k) := by decide +kernel
theorem lyp_good : ∀ ci, ci < 13 → ∀ k, k < nfl ci → goodWord (u_lay (mclD ci).1 (mclD ci).2.1 k) = true := by decide +kernel
theorem mcl_own : ∀ ci, ci < 13 → ∀ k, k < nfl ci → ((mclD ci).2.1 k).1 = (mclD ci).1 := by decide +kernel
theorem mcl_in (ci : Nat) (hc : ci < 13) : ∀ w ∈ u_ws (mclD ci).1 (mclD ci).2.1 (mclD ci).2.2, w ∈ lwG := by
  intro w hw
  obtain ⟨k, hk, rfl⟩ := List.mem_map.mp hw
  rw [List.mem_range, mcl_nfl ci hc] at hk
  exact lwG_of _ (lyp_ok ci hc k hk) (lyp_good ci hc k hk)
theorem has5_mem {l : List (Nat × Nat × Nat × Nat × Nat)} {a b c d : Nat} (h : has5 l a b c d = true) : ∃ q, (a, b, c, d, q) ∈ l := by
  obtain ⟨⟨q1, q2, q3, q4, q5⟩, hq, h⟩ := List.any_eq_true.mp h
  simp only [Bool.and_eq_true] at h
  obtain ⟨⟨⟨h1, h2⟩, h3⟩, h4⟩ := h
  rw [Nat.eq_of_beq_eq_true h1, Nat.eq_of_beq_eq_true h2, Nat.eq_of_beq_eq_true h3, Nat.eq_of_beq_eq_true h4] at hq
  exact ⟨q5, hq⟩
theorem has4_mem {l : List (Nat × Nat × Nat × Nat)} {a b c : Nat} (h : has4 l a b c = true) : ∃ q, (a, b, c, q) ∈ l := by
  obtain ⟨⟨q1, q2, q3, q4⟩, hq, h⟩ := List.any_eq_true.mp h
  simp only [Bool.and_eq_true] at h
  obtain ⟨⟨h1, h2⟩, h3⟩ := h
  rw [Nat.eq_of_beq_eq_true h1, Nat.eq_of_beq_eq_true h2, Nat.eq_of_beq_eq_true h3] at hq
  exact ⟨q4, hq⟩
theorem has3_mem {l : List (Nat × Nat × Nat)} {a b : Nat} (h : has3 l a b = true) : ∃ q, (a, b, q) ∈ l := by
  obtain ⟨⟨q1, q2, q3⟩, hq, h⟩ := List.any_eq_true.mp h
  simp only [Bool.and_eq_true] at h
  rw [Nat.eq_of_beq_eq_true h.1, Nat.eq_of_beq_eq_true h.2] at hq
  exact ⟨q3, hq⟩
theorem kf_use {o j y x : Nat} (h : has5 kf o j y x = true) : y < 13 ∧ x < nfl y ∧ Cond.fieldLink (onm o) j (mclD y).1 ((mclD y).2.1 x).2.1 ((mclD y).2.1 x).2.2.1 ∈ lwG := by
  obtain ⟨q, hq⟩ := has5_mem h
  have := List.all_eq_true.mp kf_ok _ hq
  simp only [Bool.and_eq_true, decide_eq_true_eq] at this
  exact ⟨this.1.2, this.2, lwG_of _ this.1.1 rfl⟩
theorem kn_use {o j y x : Nat} (h : has5 kn o j y x = true) : y < 13 ∧ x < nfl y ∧ Cond.fieldLinkNest (onm o) j (mclD y).1 ((mclD y).2.1 x).2.1 ((mclD y).2.1 x).2.2.1 "DimpleWells" ∈ nwl := by
  obtain ⟨q, hq⟩ := has5_mem h
  have := List.all_eq_true.mp kn_ok _ hq
  simp only [Bool.and_eq_true, decide_eq_true_eq] at this
  exact ⟨this.1.2, this.2, List.mem_filter.mpr ⟨List.mem_of_getElem? this.1.1, rfl⟩⟩
theorem stc_nw {sad : Nat → Nat} {fv : Value} {L : Nat} {xs : Nat → Int32} {b0 : Nat} {U : State} {H : Heap} (h : Stc sad fv L xs b0 U H) {w : Cond} (hw : w ∈ nwl) : va_Nw w U := h.2.2.2.2.2.2.2.2.2.1 w hw
theorem nw_tab {w : Cond} (h : w ∈ nwl) : w.onTables = true := by
  have := (List.mem_filter.mp h).2
  cases w <;> first | rfl | cases this
section SndC
variable {l : Launch} {p : Program} {e : Env} {R : Room} {s : State} {M : MethodId} {args : Array Value} {below : List Frame} {meth : Method} {c : Code} {Q : State → Prop} {D : va_G} {cA : Nat → ClassId} {b0 : Nat} {sad : Nat → Nat} {fv : Value} {L : Nat} {xs : Nat → Int32} {m t0 u0 : Nat} {σf : mm_M}
theorem s_getI {pc nx x y z w a j : Nat} {v : Int32} {ls t : List Value} {σ : mm_M} (F : CallFix p M c (yb m) (mx m) s args lwG (onm (yo m))) (hK : va_K D mcl (mtys cA) s) (hSt : Stc sad fv L xs b0 s s.heap) (hw : WF L xs σ) (hc : chk m (pc, .getfield j, nx, v, x, y, 0, w) = true) (hk : (mK σ a).1 = 100 + y) (k : WK p l e R s M args below meth c Q D cA b0 sad fv m t0 u0 σf nx ls (.int (mI σ a x) :: t) σ) : WK p l e R s M args below meth c Q D cA b0 sad fv m t0 u0 σf pc ls (.ref a :: t) σ := by
  obtain ⟨hd, rfl⟩ := dec1 hc rfl 2 rfl
  have hl := lnk_of hc
  simp only [chkL] at hl
  cases hy : Nat.beq y 13 with
  | true =>
    have hy := Nat.eq_of_beq_eq_true hy
    subst hy
    simp only [Nat.beq_refl, Bool.and_eq_true] at hl
    obtain ⟨q, hq⟩ := has4_mem hl.1
    have hx := List.all_eq_true.mp ks_ok _ hq
    simp only [Bool.and_eq_true, decide_eq_true_eq] at hx
    obtain ⟨i, hi, rfl, -, e2⟩ := wf_s113 hw hk
    have hx1 : x = 1 := by
      have := hl.2
      cases x with
      | zero => cases this
      | succ x => omega
    subst hx1
    refine WK_step k fun H locs lsR hS hL kk => ?_
    rw [e2] at kk
    have := (hSt.2.2.1.1 i hi).2.1
    have lnk := F.2.2.2.2 _ (lwG_of _ hx.1 rfl)
    show W p l e R s M args below meth c H locs (tt σ - t0) (mS σ - u0) Q (F0 M pc lsR (.ref (mad b0 sad (1000002 + i)) :: t.map (tr (mad b0 sad) fv)))
    rw [show mad b0 sad (1000002 + i) = sad (1000002 + i) from by unfold mad; rw [if_neg (by omega)]]
    exact vk_getf F.1 F.2.1 this hS F.2.2.2.1 lnk (fun _ h => h) hd (kk lsR hL)
  | false =>
    rw [hy] at hl
    simp only [Bool.and_eq_true, Bool.or_eq_true] at hl
    have hr : isR y x = false := by
      cases h : isR y x with
      | false => rfl
      | true => rw [h] at hl; cases hl.2
    refine ⟨k.1, k.2.1, fun H locs lsR hP hS hL => ?_⟩
    have kk := k.2.2 H locs lsR hP hS hL
    rcases hl.1 with hl | hl
    · obtain ⟨h13, hxn, hm⟩ := kf_use hl
      have ha : a < mN σ := wf_dyn hw (Or.inr (by omega))
      exact va_get F.1 F.2.1 F.2.2.2.2 (mcl_in y h13) F.2.2.2.1 hK hP a (by rw [wo_get ha, ent_obj hk]) (mcl_at h13) x (by rw [mcl_nfl y h13]; exact hxn) (F.2.2.2.2 _ hm) (by rw [mcl_own y h13 x hxn]; exact fun _ h => h) (by rw [fvals_get hxn, hr]; rfl) hd kk
    · obtain ⟨h13, hxn, hm⟩ := kn_use hl
      have ha : a < mN σ := wf_dyn hw (Or.inr (by omega))
      exact va_getN F.1 F.2.1 F.2.2.2.2 (mcl_in y h13) F.2.2.2.1 hK hP a (by rw [wo_get ha, ent_obj hk]) (mcl_at h13) x (by rw [mcl_nfl y h13]; exact hxn) (va_Nw.use rfl (stc_nw hSt hm)) (by rw [mcl_own y h13 x hxn]; exact fun _ h => h) (by rw [fvals_get hxn, hr]; rfl) hd kk
theorem s_getR {pc nx x y z w a j r : Nat} {v : Int32} {ls t : List Value} {σ : mm_M} (F : CallFix p M c (yb m) (mx m) s args lwG (onm (yo m))) (hK : va_K D mcl (mtys cA) s) (hSt : Stc sad fv L xs b0 s s.heap) (hw : WF L xs σ) (hc : chk m (pc, .getfield j, nx, v, x, y, z + 1, w) = true) (hk : (mK σ a).1 = 100 + y) (hr0 : mR σ a x = some r) (k : WK p l e R s M args below meth c Q D cA b0 sad fv m t0 u0 σf nx ls (.ref r :: t) σ) : WK p l e R s M args below meth c Q D cA b0 sad fv m t0 u0 σf pc ls (.ref a :: t) σ := by
  obtain ⟨hd, rfl⟩ := dec1 hc rfl 2 rfl
  have hl := lnk_of hc
  simp only [chkL] at hl
  cases hy : Nat.beq y 13 with
  | true =>
    have hy := Nat.eq_of_beq_eq_true hy
    subst hy
    simp only [Nat.beq_refl, Bool.and_eq_true] at hl
    obtain ⟨q, hq⟩ := has4_mem hl.1
    have hx := List.all_eq_true.mp ks_ok _ hq
    simp only [Bool.and_eq_true, decide_eq_true_eq] at hx
    obtain ⟨i, hi, rfl, e1, -⟩ := wf_s113 hw hk
    have hx1 : x = 0 := by
      have := hl.2
      cases x with
      | zero => rfl
      | succ x => cases (Nat.eq_of_beq_eq_true this : z + 1 = 0)
    subst hx1
    rw [e1] at hr0
    cases hr0
    refine WK_step k fun H locs lsR hS hL kk => ?_
    have := (hSt.2.2.1.1 i hi).2.2.1
    have lnk := F.2.2.2.2 _ (lwG_of _ hx.1 rfl)
    have kk : W p l e R s M args below meth c H locs (tt σ - t0) (mS σ - u0) Q (F0 M (pc + (2 + 1)) lsR (.ref (mad b0 sad (1000006 + i)) :: t.map (tr (mad b0 sad) fv))) := kk lsR hL
    show W p l e R s M args below meth c H locs (tt σ - t0) (mS σ - u0) Q (F0 M pc lsR (.ref (mad b0 sad (1000002 + i)) :: t.map (tr (mad b0 sad) fv)))
    rw [show mad b0 sad (1000002 + i) = sad (1000002 + i) from by unfold mad; rw [if_neg (by omega)]]
    rw [show mad b0 sad (1000006 + i) = sad (1000006 + i) from by unfold mad; rw [if_neg (by omega)]] at kk
    exact vk_getf F.1 F.2.1 this hS F.2.2.2.1 lnk (fun _ h => h) hd kk
  | false =>
    rw [hy] at hl
    simp only [Bool.and_eq_true, Bool.or_eq_true] at hl
    have hr : isR y x = true := by
      cases h : isR y x with
      | true => rfl
      | false => rw [h] at hl; cases (Nat.eq_of_beq_eq_true hl.2 : z + 1 = 0)
    refine ⟨k.1, k.2.1, fun H locs lsR hP hS hL => ?_⟩
    have kk := k.2.2 H locs lsR hP hS hL
    rcases hl.1 with hl | hl
    · obtain ⟨h13, hxn, hm⟩ := kf_use hl
      have ha : a < mN σ := wf_dyn hw (Or.inr (by omega))
      exact va_get F.1 F.2.1 F.2.2.2.2 (mcl_in y h13) F.2.2.2.1 hK hP a (by rw [wo_get ha, ent_obj hk]) (mcl_at h13) x (by rw [mcl_nfl y h13]; exact hxn) (F.2.2.2.2 _ hm) (by rw [mcl_own y h13 x hxn]; exact fun _ h => h) (by rw [fvals_get hxn, hr, hr0]; rfl) hd kk
    · obtain ⟨h13, hxn, hm⟩ := kn_use hl
      have ha : a < mN σ := wf_dyn hw (Or.inr (by omega))
      exact va_getN F.1 F.2.1 F.2.2.2.2 (mcl_in y h13) F.2.2.2.1 hK hP a (by rw [wo_get ha, ent_obj hk]) (mcl_at h13) x (by rw [mcl_nfl y h13]; exact hxn) (va_Nw.use rfl (stc_nw hSt hm)) (by rw [mcl_own y h13 x hxn]; exact fun _ h => h) (by rw [fvals_get hxn, hr, hr0]; rfl) hd kk
/-- a field is written: any value that fits it -/
theorem s_put {pc nx x y z w a j : Nat} {v : Int32} {u : Value} {ls t : List Value} {σ τ : mm_M} (F : CallFix p M c (yb m) (mx m) s args lwG (onm (yo m))) (hK : va_K D mcl (mtys cA) s) (hSt : Stc sad fv L xs b0 s s.heap) (hw : WF L xs σ) (hnm : yk m = 1 → meth.name = "<init>") (hc : chk m (pc, .putfield j, nx, v, x, y, z, w) = true) (hk : (mK σ a).1 = 100 + y)
    (hn : y < 13 → x < nfl y → narrow ((mty.getD y tW0) x) (tr (mad b0 sad) fv u) = tr (mad b0 sad) fv u ∧ fits ((mty.getD y tW0) x) (tr (mad b0 sad) fv u) = true) (he : (wo cA (mad b0 sad) σ).set a (mad b0 sad a, .inr (y, (fvals (mad b0 sad) y (mI σ a) (mR σ a)).set x (tr (mad b0 sad) fv u))) = wo cA (mad b0 sad) τ) (ht : tt τ = tt σ) (hs : mS τ = mS σ) (k : WK p l e R s M args below meth c Q D cA b0 sad fv m t0 u0 σf nx ls t τ) : WK p l e R s M args below meth c Q D cA b0 sad fv m t0 u0 σf pc ls (u :: .ref a :: t) σ := by
  obtain ⟨hd, rfl⟩ := dec1 hc rfl 2 rfl
  have hl := lnk_of hc
  simp only [chkL, Bool.and_eq_true] at hl
  refine ⟨by rw [← ht]; exact k.1, by rw [← hs]; exact k.2.1, fun H locs lsR hP hS hL => ?_⟩
  have kk : ∀ (H1 : Heap) (locs1 : List Loc), va_P D mcl ((wo cA (mad b0 sad) σ).set a (mad b0 sad a, .inr (y, (fvals (mad b0 sad) y (mI σ a) (mR σ a)).set x (tr (mad b0 sad) fv u)))) H1 → va_D (mA0 b0) ((wo cA (mad b0 sad) σ).set a (mad b0 sad a, .inr (y, (fvals (mad b0 sad) y (mI σ a) (mR σ a)).set x (tr (mad b0 sad) fv u)))) → va_S (mA0 b0) s.heap H1 locs1 → W p l e R s M args below meth c H1 locs1 (tt σ - t0) (mS σ - u0) Q (F0 M (pc + 3) lsR (t.map (tr (mad b0 sad) fv))) := by
    intro H1 locs1 h1 _ h2
    rw [he] at h1
    rw [← ht, ← hs]
    exact k.2.2 H1 locs1 lsR h1 h2 hL
  have hD := wo_D (cA := cA) (b0 := b0) (sad := sad) hw.1
  cases hf : ((mclD y).2.1 x).2.2.2 with
  | true =>
    rw [hf] at hl
    simp only [Bool.and_eq_true] at hl
    obtain ⟨⟨⟨l1, l2⟩, l3⟩, -⟩ := hl
    obtain ⟨h13, hxn, hm⟩ := kf_use l1
    have ha : a < mN σ := wf_dyn hw (Or.inr (by omega))
    have hxl : x < (mclD y).2.2 := by rw [mcl_nfl y h13]; exact hxn
    have hyo := Nat.eq_of_beq_eq_true l3
    have hon : ((mclD y).2.1 x).1 = onm (yo m) := by
      rw [mcl_own y h13 x hxn, hyo]
      have : ∀ ci, ci < 13 → (mclD ci).1 = onm ci := by decide +kernel
      exact this y h13
    exact va_putF F.1 F.2.1 F.2.2.2.2 (mcl_in y h13) (mty.getD y tW0) (mcl_types y h13) (mcl_names y h13) F.2.2.2.1 hK hP hD hS a (by rw [wo_get ha, ent_obj hk]) (mcl_at h13) x hxl (F.2.2.2.2 _ hm) (by rw [mcl_own y h13 x hxn]; exact fun _ h => h) hf (hnm (Nat.eq_of_beq_eq_true l2)) hon (mcl_types y h13 x hxl) (hn h13 hxn).1 (hn h13 hxn).2 (by rw [fvals_len]; exact hxn) hd kk
  | false =>
    rw [hf] at hl
    simp only [Bool.or_eq_true] at hl
    rcases hl.1 with hl | hl
    · obtain ⟨h13, hxn, hm⟩ := kf_use hl
      have ha : a < mN σ := wf_dyn hw (Or.inr (by omega))
      have hxl : x < (mclD y).2.2 := by rw [mcl_nfl y h13]; exact hxn
      exact va_put F.1 F.2.1 F.2.2.2.2 (mcl_in y h13) (mty.getD y tW0) (mcl_types y h13) (mcl_names y h13) F.2.2.2.1 hK hP hD hS a (by rw [wo_get ha, ent_obj hk]) (mcl_at h13) x hxl (F.2.2.2.2 _ hm) (by rw [mcl_own y h13 x hxn]; exact fun _ h => h) hf (mcl_types y h13 x hxl) (hn h13 hxn).1 (hn h13 hxn).2 (by rw [fvals_len]; exact hxn) hd kk
    · obtain ⟨h13, hxn, hm⟩ := kn_use hl
      have ha : a < mN σ := wf_dyn hw (Or.inr (by omega))
      have hxl : x < (mclD y).2.2 := by rw [mcl_nfl y h13]; exact hxn
      exact va_putN F.1 F.2.1 F.2.2.2.2 (mcl_in y h13) (mty.getD y tW0) (mcl_types y h13) (mcl_names y h13) F.2.2.2.1 hK hP hD hS a (by rw [wo_get ha, ent_obj hk]) (mcl_at h13) x hxl (va_Nw.use rfl (stc_nw hSt hm)) (by rw [mcl_own y h13 x hxn]; exact fun _ h => h) hf (mcl_types y h13 x hxl) (hn h13 hxn).1 (hn h13 hxn).2 (by rw [fvals_len]; exact hxn) hd kk
theorem s_putI {pc nx x y w a j : Nat} {v b : Int32} {ls t : List Value} {σ : mm_M} (F : CallFix p M c (yb m) (mx m) s args lwG (onm (yo m))) (hK : va_K D mcl (mtys cA) s) (hSt : Stc sad fv L xs b0 s s.heap) (hw : WF L xs σ) (hnm : yk m = 1 → meth.name = "<init>") (hc : chk m (pc, .putfield j, nx, v, x, y, 0, w) = true) (hk : (mK σ a).1 = 100 + y) (k : WK p l e R s M args below meth c Q D cA b0 sad fv m t0 u0 σf nx ls t (wI σ a x b)) : WK p l e R s M args below meth c Q D cA b0 sad fv m t0 u0 σf pc ls (.int b :: .ref a :: t) σ := by
  have hr : isR y x = false := by
    have hl := lnk_of hc
    simp only [chkL, Bool.and_eq_true] at hl
    cases h : isR y x with
    | false => rfl
    | true => rw [h] at hl; cases hl.2
  refine s_put (u := .int b) (τ := wI σ a x b) F hK hSt hw hnm hc hk (fun h13 hxn => ?_) (wo_fI hk hr) rfl rfl k
  rcases mcl_isR y h13 x hxn with ⟨-, h⟩ | ⟨h, -⟩
  · rw [h]; exact ⟨rfl, rfl⟩
  · rw [h] at hr; cases hr
theorem s_putR {pc nx x y z w a j b : Nat} {v : Int32} {ls t : List Value} {σ : mm_M} (F : CallFix p M c (yb m) (mx m) s args lwG (onm (yo m))) (hK : va_K D mcl (mtys cA) s) (hSt : Stc sad fv L xs b0 s s.heap) (hw : WF L xs σ) (hnm : yk m = 1 → meth.name = "<init>") (hc : chk m (pc, .putfield j, nx, v, x, y, z + 1, w) = true) (hk : (mK σ a).1 = 100 + y) (k : WK p l e R s M args below meth c Q D cA b0 sad fv m t0 u0 σf nx ls t (wR σ a x b)) : WK p l e R s M args below meth c Q D cA b0 sad fv m t0 u0 σf pc ls (.ref b :: .ref a :: t) σ := by
  have hr : isR y x = true := by
    have hl := lnk_of hc
    simp only [chkL, Bool.and_eq_true] at hl
    cases h : isR y x with
    | true => rfl
    | false => rw [h] at hl; cases (Nat.eq_of_beq_eq_true hl.2 : z + 1 = 0)
  refine s_put (u := .ref b) (τ := wR σ a x b) F hK hSt hw hnm hc hk (fun h13 hxn => ?_) (wo_fR hk hr) rfl rfl k
  rcases mcl_isR y h13 x hxn with ⟨h, -⟩ | ⟨-, ⟨n, h⟩ | ⟨n, h⟩⟩
  · rw [h] at hr; cases hr
  · rw [h]; exact ⟨rfl, rfl⟩
  · rw [h]; exact ⟨rfl, rfl⟩
theorem vin {i : Int32} {n : Nat} (h : ¬ i < 0 ∧ i.toNatClampNeg < n) : vp_in i n := fun q => q.elim h.1 (fun q => by omega)
theorem mad_s {k : Nat} (h : 1000000 ≤ k) : mad b0 sad k = sad k := by unfold mad; rw [if_neg (by omega)]
theorem s_iald {pc nx x y z w a : Nat} {v i : Int32} {ls t : List Value} {σ : mm_M} (F : CallFix p M c (yb m) (mx m) s args lwG (onm (yo m))) (hK : va_K D mcl (mtys cA) s) (hSt : Stc sad fv L xs b0 s s.heap) (hw : WF L xs σ) (hc : chk m (pc, .iaload, nx, v, x, y, z, w) = true) (hk : (mK σ a).1 = 1 ∨ (mK σ a).1 = 21) (hi : ¬ i < 0 ∧ i.toNatClampNeg < (mK σ a).2) (k : WK p l e R s M args below meth c Q D cA b0 sad fv m t0 u0 σf nx ls (.int (mI σ a (ix i)) :: t) σ) : WK p l e R s M args below meth c Q D cA b0 sad fv m t0 u0 σf pc ls (.int i :: .ref a :: t) σ := by
  obtain ⟨hd, rfl⟩ := dec1 hc rfl 0 rfl
  refine ⟨k.1, k.2.1, fun H locs lsR hP hS hL => ?_⟩
  have kk := k.2.2 H locs lsR hP hS hL
  rcases hk with hk | hk
  · have ha : a < mN σ := wf_dyn hw (Or.inl (by omega))
    exact va_iald F.1 F.2.1 hK hP a 0 (by rw [wo_get ha, ent_ints hk (Or.inl rfl)]) rfl (vin hi) hd kk
  · show W p l e R s M args below meth c H locs (tt σ - t0) (mS σ - u0) Q (F0 M pc lsR (.int i :: .ref (mad b0 sad a) :: t.map (tr (mad b0 sad) fv)))
    rcases wf_s21 hw hk with ⟨rfl, e1, e2⟩ | ⟨rfl, e1, e2⟩
    · rw [e1] at hi
      have kk : W p l e R s M args below meth c H locs (tt σ - t0) (mS σ - u0) Q (F0 M (pc + (0 + 1)) lsR (.int (mI σ 1000000 (ix i)) :: t.map (tr (mad b0 sad) fv))) := kk
      rw [e2] at kk
      rw [mad_s (Nat.le_refl _)]
      obtain ⟨hX, hlt⟩ := hSt.1
      have hl : sad 1000000 < s.heap.size := by obtain ⟨_, q, _⟩ := hX; exact (Array.getElem?_eq_some_iff.mp q).1
      exact va_sld F.1 F.2.1 hX hl (by show ¬ b0 ≤ _; omega) hS (vin hi) hd kk
    · rw [e1] at hi
      have kk : W p l e R s M args below meth c H locs (tt σ - t0) (mS σ - u0) Q (F0 M (pc + (0 + 1)) lsR (.int (mI σ 1000001 (ix i)) :: t.map (tr (mad b0 sad) fv))) := kk
      rw [e2] at kk
      rw [mad_s (by omega)]
      obtain ⟨⟨N9, f9, hX, hN9, hM9, hf9⟩, hlt⟩ := hSt.2.1
      have hl : sad 1000001 < s.heap.size := by obtain ⟨_, q, _⟩ := hX; exact (Array.getElem?_eq_some_iff.mp q).1
      rw [← hf9 (ix i) hi.2] at kk
      exact va_sld F.1 F.2.1 hX hl (by show ¬ b0 ≤ _; omega) hS (vin ⟨hi.1, Nat.lt_of_lt_of_le hi.2 hN9⟩) hd kk
theorem s_bald {pc nx x y z w a : Nat} {v i : Int32} {ls t : List Value} {σ : mm_M} (F : CallFix p M c (yb m) (mx m) s args lwG (onm (yo m))) (hK : va_K D mcl (mtys cA) s) (hSt : Stc sad fv L xs b0 s s.heap) (hw : WF L xs σ) (hc : chk m (pc, .baload, nx, v, x, y, z, w) = true) (hk : (mK σ a).1 = 3 ∨ (mK σ a).1 = 4 ∨ (mK σ a).1 = 23) (hi : ¬ i < 0 ∧ i.toNatClampNeg < (mK σ a).2) (k : WK p l e R s M args below meth c Q D cA b0 sad fv m t0 u0 σf nx ls (.int (mI σ a (ix i)) :: t) σ) : WK p l e R s M args below meth c Q D cA b0 sad fv m t0 u0 σf pc ls (.int i :: .ref a :: t) σ := by
  obtain ⟨hd, rfl⟩ := dec1 hc rfl 0 rfl
  refine ⟨k.1, k.2.1, fun H locs lsR hP hS hL => ?_⟩
  have kk := k.2.2 H locs lsR hP hS hL
  rcases hk with hk | hk | hk
  · have ha : a < mN σ := wf_dyn hw (Or.inl (by omega))
    exact va_bald F.1 F.2.1 hK hP a 2 (by rw [wo_get ha, ent_ints hk (Or.inr (Or.inl rfl))]) rfl (vin hi) hd kk
  · have ha : a < mN σ := wf_dyn hw (Or.inl (by omega))
    exact va_zald F.1 F.2.1 hK hP a 3 (by rw [wo_get ha, ent_ints hk (Or.inr (Or.inr rfl))]) rfl (vin hi) hd kk
  · show W p l e R s M args below meth c H locs (tt σ - t0) (mS σ - u0) Q (F0 M pc lsR (.int i :: .ref (mad b0 sad a) :: t.map (tr (mad b0 sad) fv)))
    obtain ⟨j, hj, rfl, e1, e2⟩ := wf_s23 hw hk
    rw [e1] at hi
    rw [mad_s (by omega)]
    exact va_tb F.1 F.2.1 (hSt.2.2.1.1 j hj).2.2.2 hS (vin hi) (by rw [← e2]; rfl) hd kk
theorem s_lald {pc nx x y z w a : Nat} {v i : Int32} {ls t : List Value} {σ : mm_M} (F : CallFix p M c (yb m) (mx m) s args lwG (onm (yo m))) (hK : va_K D mcl (mtys cA) s) (hw : WF L xs σ) (hc : chk m (pc, .laload, nx, v, x, y, z, w) = true) (hk : (mK σ a).1 = 2) (hi : ¬ i < 0 ∧ i.toNatClampNeg < (mK σ a).2) (k : WK p l e R s M args below meth c Q D cA b0 sad fv m t0 u0 σf nx ls (.long (mL σ a (ix i)) :: t) σ) : WK p l e R s M args below meth c Q D cA b0 sad fv m t0 u0 σf pc ls (.int i :: .ref a :: t) σ := by
  obtain ⟨hd, rfl⟩ := dec1 hc rfl 0 rfl
  refine ⟨k.1, k.2.1, fun H locs lsR hP hS hL => ?_⟩
  have kk := k.2.2 H locs lsR hP hS hL
  have ha : a < mN σ := wf_dyn hw (Or.inl (by omega))
  exact va_lald F.1 F.2.1 hK hP a 1 (by rw [wo_get ha, ent_longs hk]) rfl (vin hi) hd kk
theorem s_aald {pc nx x y z w a r : Nat} {v i : Int32} {ls t : List Value} {σ : mm_M} (F : CallFix p M c (yb m) (mx m) s args lwG (onm (yo m))) (hK : va_K D mcl (mtys cA) s) (hw : WF L xs σ) (hc : chk m (pc, .aaload, nx, v, x, y, z, w) = true) (hk : (mK σ a).1 = 5) (hi : ¬ i < 0 ∧ i.toNatClampNeg < (mK σ a).2) (hr : mR σ a (ix i) = some r) (k : WK p l e R s M args below meth c Q D cA b0 sad fv m t0 u0 σf nx ls (.ref r :: t) σ) : WK p l e R s M args below meth c Q D cA b0 sad fv m t0 u0 σf pc ls (.int i :: .ref a :: t) σ := by
  obtain ⟨hd, rfl⟩ := dec1 hc rfl 0 rfl
  refine ⟨k.1, k.2.1, fun H locs lsR hP hS hL => ?_⟩
  have kk := k.2.2 H locs lsR hP hS hL
  have ha : a < mN σ := wf_dyn hw (Or.inl (by omega))
  have hcell : H[mad b0 sad a]? = some (arrV (cA 5) (mK σ a).2 (fun j => va_rf ((mR σ a j).map (mad b0 sad)))) := by
    have := hP a _ (wo_get ha)
    rw [ent_grid hk] at this
    exact this
  refine W.aald F.1 F.2.1 (v := .ref (mad b0 sad r)) (ty := .array .int) hcell ((hK.2 4 _ rfl).1 _ _) rfl (fun q => by cases q) (by rw [arrV_size]; exact vin hi) ?_ rfl rfl hd kk
  have hr' : mR σ a i.toNatClampNeg = some r := hr
  rw [arrV_read _ _ hi.2, hr']
  rfl
theorem s_iast {pc nx x y z w a : Nat} {v i b : Int32} {ls t : List Value} {σ : mm_M} (F : CallFix p M c (yb m) (mx m) s args lwG (onm (yo m))) (hK : va_K D mcl (mtys cA) s) (hw : WF L xs σ) (hc : chk m (pc, .iastore, nx, v, x, y, z, w) = true) (hk : (mK σ a).1 = 1) (hi : ¬ i < 0 ∧ i.toNatClampNeg < (mK σ a).2) (k : WK p l e R s M args below meth c Q D cA b0 sad fv m t0 u0 σf nx ls t (wI σ a (ix i) b)) : WK p l e R s M args below meth c Q D cA b0 sad fv m t0 u0 σf pc ls (.int b :: .int i :: .ref a :: t) σ := by
  obtain ⟨hd, rfl⟩ := dec1 hc rfl 0 rfl
  refine ⟨k.1, k.2.1, fun H locs lsR hP hS hL => ?_⟩
  have ha : a < mN σ := wf_dyn hw (Or.inl (by omega))
  exact va_iast F.1 F.2.1 hK hP (wo_D hw.1) hS a 0 (by rw [wo_get ha, ent_ints hk (Or.inl rfl)]) rfl (vin hi) hd (fun H1 locs1 h1 _ h2 => k.2.2 H1 locs1 lsR (by rw [← wo_wI hk (Or.inl rfl)]; exact h1) h2 hL)
theorem s_bast3 {pc nx x y z w a : Nat} {v i b : Int32} {ls t : List Value} {σ : mm_M} (F : CallFix p M c (yb m) (mx m) s args lwG (onm (yo m))) (hK : va_K D mcl (mtys cA) s) (hw : WF L xs σ) (hc : chk m (pc, .bastore, nx, v, x, y, z, w) = true) (hk : (mK σ a).1 = 3) (hi : ¬ i < 0 ∧ i.toNatClampNeg < (mK σ a).2) (k : WK p l e R s M args below meth c Q D cA b0 sad fv m t0 u0 σf nx ls t (wI σ a (ix i) (vp_nar .byte b))) : WK p l e R s M args below meth c Q D cA b0 sad fv m t0 u0 σf pc ls (.int b :: .int i :: .ref a :: t) σ := by
  obtain ⟨hd, rfl⟩ := dec1 hc rfl 0 rfl
  refine ⟨k.1, k.2.1, fun H locs lsR hP hS hL => ?_⟩
  have ha : a < mN σ := wf_dyn hw (Or.inl (by omega))
  exact va_bast F.1 F.2.1 hK hP (wo_D hw.1) hS a 2 (by rw [wo_get ha, ent_ints hk (Or.inr (Or.inl rfl))]) rfl (vin hi) hd (fun H1 locs1 h1 _ h2 => k.2.2 H1 locs1 lsR (by rw [← wo_wI hk (Or.inr (Or.inl rfl))]; exact h1) h2 hL)
theorem s_bast4 {pc nx x y z w a : Nat} {v i b : Int32} {ls t : List Value} {σ : mm_M} (F : CallFix p M c (yb m) (mx m) s args lwG (onm (yo m))) (hK : va_K D mcl (mtys cA) s) (hw : WF L xs σ) (hc : chk m (pc, .bastore, nx, v, x, y, z, w) = true) (hk : (mK σ a).1 = 4) (hi : ¬ i < 0 ∧ i.toNatClampNeg < (mK σ a).2) (k : WK p l e R s M args below meth c Q D cA b0 sad fv m t0 u0 σf nx ls t (wI σ a (ix i) (vp_nar .boolean b))) : WK p l e R s M args below meth c Q D cA b0 sad fv m t0 u0 σf pc ls (.int b :: .int i :: .ref a :: t) σ := by
  obtain ⟨hd, rfl⟩ := dec1 hc rfl 0 rfl
  refine ⟨k.1, k.2.1, fun H locs lsR hP hS hL => ?_⟩
  have ha : a < mN σ := wf_dyn hw (Or.inl (by omega))
  exact va_zast F.1 F.2.1 hK hP (wo_D hw.1) hS a 3 (by rw [wo_get ha, ent_ints hk (Or.inr (Or.inr rfl))]) rfl (vin hi) hd (fun H1 locs1 h1 _ h2 => k.2.2 H1 locs1 lsR (by rw [← wo_wI hk (Or.inr (Or.inr rfl))]; exact h1) h2 hL)
theorem s_last {pc nx x y z w a : Nat} {v i : Int32} {b : Int64} {ls t : List Value} {σ : mm_M} (F : CallFix p M c (yb m) (mx m) s args lwG (onm (yo m))) (hK : va_K D mcl (mtys cA) s) (hw : WF L xs σ) (hc : chk m (pc, .lastore, nx, v, x, y, z, w) = true) (hk : (mK σ a).1 = 2) (hi : ¬ i < 0 ∧ i.toNatClampNeg < (mK σ a).2) (k : WK p l e R s M args below meth c Q D cA b0 sad fv m t0 u0 σf nx ls t (wL σ a (ix i) b)) : WK p l e R s M args below meth c Q D cA b0 sad fv m t0 u0 σf pc ls (.long b :: .int i :: .ref a :: t) σ := by
  obtain ⟨hd, rfl⟩ := dec1 hc rfl 0 rfl
  refine ⟨k.1, k.2.1, fun H locs lsR hP hS hL => ?_⟩
  have ha : a < mN σ := wf_dyn hw (Or.inl (by omega))
  exact va_last F.1 F.2.1 hK hP (wo_D hw.1) hS a 1 (by rw [wo_get ha, ent_longs hk]) rfl (vin hi) hd (fun H1 locs1 h1 _ h2 => k.2.2 H1 locs1 lsR (by rw [← wo_wL hk]; exact h1) h2 hL)
theorem s_alen {pc nx x y z w a : Nat} {v : Int32} {ls t : List Value} {σ : mm_M} (F : CallFix p M c (yb m) (mx m) s args lwG (onm (yo m))) (hK : va_K D mcl (mtys cA) s) (hSt : Stc sad fv L xs b0 s s.heap) (hw : WF L xs σ) (hc : chk m (pc, .arraylength, nx, v, x, y, z, w) = true) (hk : 0 < (mK σ a).1 ∧ (mK σ a).1 < 100) (k : WK p l e R s M args below meth c Q D cA b0 sad fv m t0 u0 σf nx ls (.int (Int32.ofNat (mK σ a).2) :: t) σ) : WK p l e R s M args below meth c Q D cA b0 sad fv m t0 u0 σf pc ls (.ref a :: t) σ := by
  obtain ⟨hd, rfl⟩ := dec1 hc rfl 0 rfl
  refine ⟨k.1, k.2.1, fun H locs lsR hP hS hL => ?_⟩
  have kk := k.2.2 H locs lsR hP hS hL
  by_cases ha : a < mN σ
  · have h5 : (mK σ a).1 ≤ 5 := by have := hw.2.2.2 a ha; omega
    have hg := wo_get (cA := cA) (ad := mad b0 sad) ha
    rcases (show (mK σ a).1 = 1 ∨ (mK σ a).1 = 2 ∨ (mK σ a).1 = 3 ∨ (mK σ a).1 = 4 ∨ (mK σ a).1 = 5 by omega) with h | h | h | h | h
    · rw [ent_ints h (Or.inl rfl)] at hg; exact va_alen F.1 F.2.1 hK hP a 0 hg rfl rfl hd kk
    · rw [ent_longs h] at hg; exact va_alen F.1 F.2.1 hK hP a 1 hg rfl rfl hd kk
    · rw [ent_ints h (Or.inr (Or.inl rfl))] at hg; exact va_alen F.1 F.2.1 hK hP a 2 hg rfl rfl hd kk
    · rw [ent_ints h (Or.inr (Or.inr rfl))] at hg; exact va_alen F.1 F.2.1 hK hP a 3 hg rfl rfl hd kk
    · rw [ent_grid h] at hg; exact va_alen F.1 F.2.1 hK hP a 4 hg rfl rfl hd kk
  · have h23 : (mK σ a).1 = 21 ∨ (mK σ a).1 = 23 := by
      rcases Nat.lt_or_ge a 1000000 with q | q
      · rw [hw.2.2.1 a (by omega) q] at hk; simp at hk
      · rw [(hw.2.1 a q).2.2] at hk ⊢
        unfold k0 at hk ⊢
        split
        · left; rfl
        · split
          · left; rfl
          · split
            · rename_i h1 h2 h3; rw [if_neg h1, if_neg h2, if_pos h3] at hk; simp at hk
            · split
              · right; rfl
              · rename_i h1 h2 h3 h4; rw [if_neg h1, if_neg h2, if_neg h3, if_neg h4] at hk; simp at hk
    show W p l e R s M args below meth c H locs (tt σ - t0) (mS σ - u0) Q (F0 M pc lsR (.ref (mad b0 sad a) :: t.map (tr (mad b0 sad) fv)))
    rcases h23 with h | h
    · rcases wf_s21 hw h with ⟨rfl, e1, e2⟩ | ⟨rfl, e1, e2⟩
      · rw [e1] at kk
        rw [mad_s (Nat.le_refl _)]
        obtain ⟨hX, hlt⟩ := hSt.1
        have hl : sad 1000000 < s.heap.size := by obtain ⟨_, q, _⟩ := hX; exact (Array.getElem?_eq_some_iff.mp q).1
        exact va_slen F.1 F.2.1 hX hl (by show ¬ b0 ≤ _; omega) hS hd kk
      · rw [e1] at kk
        rw [mad_s (by omega)]
        obtain ⟨⟨N9, f9, hX, hN9, hM9, hf9⟩, hlt⟩ := hSt.2.1
        have hl : sad 1000001 < s.heap.size := by obtain ⟨_, q, _⟩ := hX; exact (Array.getElem?_eq_some_iff.mp q).1
        rw [← hM9] at kk
        exact va_slen F.1 F.2.1 hX hl (by show ¬ b0 ≤ _; omega) hS hd kk
    · obtain ⟨j, hj, rfl, e1, e2⟩ := wf_s23 hw h
      rw [e1] at kk
      rw [mad_s (by omega)]
      exact va_tlen F.1 F.2.1 (hSt.2.2.1.1 j hj).2.2.2 hS rfl hd kk
end SndC
