/-! new cells, constants, copies -/
theorem w_acnat : Cond.native arraycopyName ∈ lwG := lwG_of 326 (by decide +kernel) rfl
theorem w_acst : Cond.static arraycopyName ∈ lwG := lwG_of 325 (by decide +kernel) rfl
theorem w_sys : Cond.initialized "java/lang/System" ∈ lwG := lwG_of 156 (by decide +kernel) rfl
theorem w_arrI : Cond.arrayClass .int ∈ lwG := lwG_of 311 (by decide +kernel) rfl
theorem w_arrJ : Cond.arrayClass .long ∈ lwG := lwG_of 1567 (by decide +kernel) rfl
theorem w_arrB : Cond.arrayClass .byte ∈ lwG := lwG_of 234 (by decide +kernel) rfl
theorem w_arrZ : Cond.arrayClass .boolean ∈ lwG := lwG_of 472 (by decide +kernel) rfl
theorem w_oiin : Cond.instanceMethod objectInit ∈ lwG := lwG_of 183 (by decide +kernel) rfl
theorem w_oicode : Cond.code objectInit ⟨#[0xb1]⟩ 1 none ∈ lwG := lwG_of 184 (by decide +kernel) rfl
theorem w_cl26 : Cond.classLink "DimpleWellsModel" 26 "[[I" ∈ lwG := lwG_of 1415 (by decide +kernel) rfl
theorem w_gs38 : Cond.fieldLink "java/lang/String" 38 "java/lang/String" "COMPACT_STRINGS" "Z" ∈ lwG := lwG_of 869 (by decide +kernel) rfl
theorem w_gs1053 : Cond.fieldLink "java/lang/String" 1053 "jdk/internal/util/Preconditions" "SIOOBE_FORMATTER" "Ljava/util/function/BiFunction;" ∈ lwG := lwG_of 885 (by decide +kernel) rfl
theorem w_gstd : Cond.fieldLink "DimpleWells$Law" 21 "DimpleWells$Law" "STANDARD" "[I" ∈ lwG := lwG_of 322 (by decide +kernel) rfl
def lip : List Nat := [178, 186, 236, 242, 313, 356, 389, 400, 424, 444, 474, 492, 1410]
def lnp : List Nat := [151, 152, 153, 154, 155, 157, 158, 159, 160, 161, 162, 163, 165]
theorem lip_ok : ∀ ci, ci < 13 → lw_tbl[lip.getD ci 0]? = some (.instantiable (mclD ci).1 (mclD ci).2.2) := by decide +kernel
theorem lnp_ok : ∀ ci, ci < 13 → lw_tbl[lnp.getD ci 0]? = some (.initialized (mclD ci).1) := by decide +kernel
/-- longs are among the locals where one is stored -/
def ckl : List (List mm_E) → Nat → Bool
  | [], _ => true
  | l :: t, k => l.all (fun e => match e.2.1 with
    | .lstore _ => !ynl k
    | _ => true) && ckl t (k + 1)
theorem ckl_all : ckl mcodes 0 = true := by decide +kernel
theorem ckl_at : ∀ (L : List (List mm_E)) (k i : Nat) (l : List mm_E), ckl L k = true → L[i]? = some l → l.all (fun e => match e.2.1 with
    | .lstore _ => !ynl (k + i)
    | _ => true) = true
  | [], _, _, _, _, h => by simp at h
  | a :: t, k, 0, l, h1, h2 => by
    simp at h2; subst h2
    exact (Bool.and_eq_true_iff.mp h1).1
  | a :: t, k, i + 1, l, h1, h2 => by
    rw [show k + (i + 1) = (k + 1) + i by omega]
    exact ckl_at t (k + 1) i l (Bool.and_eq_true_iff.mp h1).2 (by simpa using h2)
theorem ckl_of {m pc j : Nat} {nx : Nat} {v : Int32} {x y z w : Nat} (h : mfind pc (mcode m) = some (pc, .lstore j, nx, v, x, y, z, w)) : ynl m = false := by
  obtain ⟨h1, h2⟩ := mfind_mem _ _ _ h
  have hl : m < mcodes.length := by
    rcases Nat.lt_or_ge m mcodes.length with q | q
    · exact q
    · unfold mcode at h1
      rw [List.getD_eq_getElem?_getD, List.getElem?_eq_none q] at h1
      cases h1
  have hg : mcodes[m]? = some (mcode m) := by
    unfold mcode
    rw [List.getD_eq_getElem?_getD, List.getElem?_eq_getElem hl]; rfl
  have := ckl_at mcodes 0 m _ ckl_all hg
  rw [Nat.zero_add] at this
  have := List.all_eq_true.mp this _ h1
  simpa using this
theorem va_tabs' {A : Array Value} {U : State} (h : mm_AO U) : (Cond.arrayOver (.array .int)).before A U = true := h
section SndD
variable {l : Launch} {p : Program} {e : Env} {R : Room} {s : State} {M : MethodId} {args : Array Value} {below : List Frame} {meth : Method} {c : Code} {Q : State → Prop} {D : va_G} {cA : Nat → ClassId} {b0 : Nat} {sad : Nat → Nat} {fv : Value} {L : Nat} {xs : Nat → Int32} {m t0 u0 : Nat} {σf : mm_M}
theorem s_lstore {pc nx x y z w j : Nat} {v : Int32} {a : Int64} {ls t : List Value} {σ : mm_M} (F : CallFix p M c (yb m) (mx m) s args lwG (onm (yo m))) (hc : chk m (pc, .lstore j, nx, v, x, y, z, w) = true) (hnl : ynl m = false) (k : WK p l e R s M args below meth c Q D cA b0 sad fv m t0 u0 σf nx (sto2 ls j a) t σ) : WK p l e R s M args below meth c Q D cA b0 sad fv m t0 u0 σf pc ls (.long a :: t) σ := by
  obtain ⟨ri, len, h1, h2, h3, h4⟩ := dec_of hc
  have hl : j + 1 < mx m := by simpa only [chkL, Nat.blt_eq] using lnk_of hc
  subst h3
  rcases nrm_lstore h2 with rfl | ⟨f, rfl, hf⟩
  · rcases h4 with h4 | rfl
    · cases h4
    · exact WK_step k fun H locs lsR hS hL kk => lv_lstore F.1 F.2.1 h1 (lr_has hL) hl rfl (fun ls' h => kk ls' (lr_store2 hL hl hnl h))
  · rcases h4 with h4 | rfl
    · cases h4
    · exact WK_step k fun H locs lsR hS hL kk => lv_lstore_n F.1 F.2.1 h1 hf (lr_has hL) hl rfl (fun ls' h => kk ls' (lr_store2 hL hl hnl h))
theorem s_ldcI {pc nx x y w j : Nat} {v : Int32} {ls t : List Value} {σ : mm_M} (F : CallFix p M c (yb m) (mx m) s args lwG (onm (yo m))) (hc : chk m (pc, .ldc j, nx, v, x, y, 0, w) = true) (k : WK p l e R s M args below meth c Q D cA b0 sad fv m t0 u0 σf nx ls (.int v :: t) σ) : WK p l e R s M args below meth c Q D cA b0 sad fv m t0 u0 σf pc ls t σ := by
  obtain ⟨ri, len, h1, h2, h3, h4⟩ := dec_of hc
  have hl := lnk_of hc
  simp only [chkL] at hl
  obtain ⟨q, hq, hq2⟩ := List.any_eq_true.mp hl
  simp only [Bool.and_eq_true, decide_eq_true_eq] at hq2
  have e1 := Nat.eq_of_beq_eq_true hq2.1.1
  have e2 := Nat.eq_of_beq_eq_true hq2.1.2
  have hm := List.all_eq_true.mp kk_ok _ hq
  simp only [decide_eq_true_eq] at hm
  rw [e1, e2, hq2.2] at hm
  have hw := F.2.2.2.2 _ (lwG_of _ hm rfl)
  subst h3
  rcases nrm_ldc h2 with rfl | rfl
  · rcases h4 with h4 | rfl
    · cases h4
    · exact WK_step k fun H locs lsR hS hL kk => lv_ldc F.1 F.2.1 F.2.2.2.1 hw h1 (kk lsR hL)
  · rcases h4 with h4 | rfl
    · cases h4
    · exact WK_step k fun H locs lsR hS hL kk => lv_ldcw F.1 F.2.1 F.2.2.2.1 hw h1 (kk lsR hL)
theorem s_ldcS {pc nx x y z w j : Nat} {v : Int32} {ls t : List Value} {σ : mm_M} (F : CallFix p M c (yb m) (mx m) s args lwG (onm (yo m))) (hSt : Stc sad fv L xs b0 s s.heap) (hc : chk m (pc, .ldc j, nx, v, x, y, z + 1, w) = true) (k : WK p l e R s M args below meth c Q D cA b0 sad fv m t0 u0 σf nx ls (.ref x :: t) σ) : WK p l e R s M args below meth c Q D cA b0 sad fv m t0 u0 σf pc ls t σ := by
  obtain ⟨ri, len, h1, h2, h3, h4⟩ := dec_of hc
  have hl := lnk_of hc
  simp only [chkL] at hl
  obtain ⟨q, hq, hq2⟩ := List.any_eq_true.mp hl
  simp only [Bool.and_eq_true] at hq2
  have e1 := Nat.eq_of_beq_eq_true hq2.1.1
  have e2 := Nat.eq_of_beq_eq_true hq2.1.2
  have e3 := Nat.eq_of_beq_eq_true hq2.2
  have hb : ∀ q ∈ kt, 1000000 ≤ q.2.2.1 := by decide +kernel
  have hx : 1000000 ≤ x := by rw [← e3]; exact hb q hq
  have hR := hSt.2.2.2.2.2.2.2.2.1 q hq
  rw [e1, e2, e3] at hR
  subst h3
  rcases nrm_ldc h2 with rfl | rfl
  · rcases h4 with h4 | rfl
    · cases h4
    · refine WK_step k fun H locs lsR hS hL kk => ?_
      intro T hT X
      have kk : W p l e R s M args below meth c H locs (tt σ - t0) (mS σ - u0) Q (F0 M (pc + 2) lsR (.ref (mad b0 sad x) :: t.map (tr (mad b0 sad) fv))) := kk lsR hL
      rw [mad_s hx] at kk
      obtain ⟨t2, a1, b1⟩ := kk T hT X
      exact ⟨t2, X.ldcString F.1 (own := onm (yo m)) (text := q.2.2.2.1) (index := j) (a := sad x) F.2.2.2.1 hR.1 hR.2 (g := F0 M pc lsR (t.map (tr (mad b0 sad) fv))) rfl (by rw [F.2.1]; exact h1) t2 a1, b1⟩
  · rcases h4 with h4 | rfl
    · cases h4
    · refine WK_step k fun H locs lsR hS hL kk => ?_
      intro T hT X
      have kk : W p l e R s M args below meth c H locs (tt σ - t0) (mS σ - u0) Q (F0 M (pc + 3) lsR (.ref (mad b0 sad x) :: t.map (tr (mad b0 sad) fv))) := kk lsR hL
      rw [mad_s hx] at kk
      obtain ⟨t2, a1, b1⟩ := kk T hT X
      exact ⟨t2, X.ldcStringW F.1 (own := onm (yo m)) (text := q.2.2.2.1) (index := j) (a := sad x) F.2.2.2.1 hR.1 hR.2 (g := F0 M pc lsR (t.map (tr (mad b0 sad) fv))) rfl (by rw [F.2.1]; exact h1) t2 a1, b1⟩
theorem s_ldc2 {pc nx x y z w j : Nat} {v : Int32} {ls t : List Value} {σ : mm_M} (F : CallFix p M c (yb m) (mx m) s args lwG (onm (yo m))) (hc : chk m (pc, .ldc2_w j, nx, v, x, y, z, w) = true) (k : WK p l e R s M args below meth c Q D cA b0 sad fv m t0 u0 σf nx ls (.long (Int64.ofNat x) :: t) σ) : WK p l e R s M args below meth c Q D cA b0 sad fv m t0 u0 σf pc ls t σ := by
  obtain ⟨hd, rfl⟩ := dec1 hc rfl 2 rfl
  have hl := lnk_of hc
  simp only [chkL] at hl
  obtain ⟨q, hq⟩ := has4_mem hl
  have hm := List.all_eq_true.mp kl_ok _ hq
  simp only [decide_eq_true_eq] at hm
  exact WK_step k fun H locs lsR hS hL kk => lv_ldc2 F.1 F.2.1 F.2.2.2.1 (F.2.2.2.2 _ (lwG_of _ hm rfl)) hd (kk lsR hL)
theorem s_gs0 {pc nx x y w j : Nat} {v : Int32} {ls t : List Value} {σ : mm_M} (F : CallFix p M c (yb m) (mx m) s args lwG (onm (yo m))) (hSt : Stc sad fv L xs b0 s s.heap) (hc : chk m (pc, .getstatic j, nx, v, x, y, 0, w) = true) (k : WK p l e R s M args below meth c Q D cA b0 sad fv m t0 u0 σf nx ls (.int v :: t) σ) : WK p l e R s M args below meth c Q D cA b0 sad fv m t0 u0 σf pc ls t σ := by
  obtain ⟨hd, rfl⟩ := dec1 hc rfl 2 rfl
  have hl := lnk_of hc
  simp only [chkL, Bool.and_eq_true, decide_eq_true_eq] at hl
  have e1 := Nat.eq_of_beq_eq_true hl.1.1
  have e2 := Nat.eq_of_beq_eq_true hl.1.2
  rw [hl.2] at k
  subst e2
  refine WK_step k fun H locs lsR hS hL kk => ?_
  have ho := F.2.2.2.1
  rw [e1] at ho
  exact va_gets F.1 F.2.1 hSt.2.2.2.2.1 hS ho (F.2.2.2.2 _ w_gs38) (fun _ h => h) hd (kk lsR hL)
theorem s_gs1 {pc nx x y w j : Nat} {v : Int32} {ls t : List Value} {σ : mm_M} (F : CallFix p M c (yb m) (mx m) s args lwG (onm (yo m))) (hSt : Stc sad fv L xs b0 s s.heap) (hc : chk m (pc, .getstatic j, nx, v, x, y, 1, w) = true) (k : WK p l e R s M args below meth c Q D cA b0 sad fv m t0 u0 σf nx ls (.ref x :: t) σ) : WK p l e R s M args below meth c Q D cA b0 sad fv m t0 u0 σf pc ls t σ := by
  obtain ⟨hd, rfl⟩ := dec1 hc rfl 2 rfl
  have hl := lnk_of hc
  simp only [chkL, Bool.and_eq_true] at hl
  have e1 := Nat.eq_of_beq_eq_true hl.1.1
  have e2 := Nat.eq_of_beq_eq_true hl.1.2
  have e3 := Nat.eq_of_beq_eq_true hl.2
  subst e2; subst e3
  refine WK_step k fun H locs lsR hS hL kk => ?_
  have ho := F.2.2.2.1
  rw [e1] at ho
  have kk : W p l e R s M args below meth c H locs (tt σ - t0) (mS σ - u0) Q (F0 M (pc + 3) lsR (.ref (mad b0 sad 1000001) :: t.map (tr (mad b0 sad) fv))) := kk lsR hL
  rw [mad_s (by omega)] at kk
  exact va_gets F.1 F.2.1 hSt.2.2.2.1 hS ho (F.2.2.2.2 _ w_gstd) (fun _ h => h) hd kk
theorem s_gs2 {pc nx x y z w j : Nat} {v : Int32} {ls t : List Value} {σ : mm_M} (F : CallFix p M c (yb m) (mx m) s args lwG (onm (yo m))) (hSt : Stc sad fv L xs b0 s s.heap) (hc : chk m (pc, .getstatic j, nx, v, x, y, z + 2, w) = true) (k : WK p l e R s M args below meth c Q D cA b0 sad fv m t0 u0 σf nx ls (uv :: t) σ) : WK p l e R s M args below meth c Q D cA b0 sad fv m t0 u0 σf pc ls t σ := by
  obtain ⟨hd, rfl⟩ := dec1 hc rfl 2 rfl
  have hl := lnk_of hc
  simp only [chkL, Bool.and_eq_true] at hl
  have e1 := Nat.eq_of_beq_eq_true hl.1
  have e2 := Nat.eq_of_beq_eq_true hl.2
  subst e2
  refine WK_step k fun H locs lsR hS hL kk => ?_
  have ho := F.2.2.2.1
  rw [e1] at ho
  exact va_gets F.1 F.2.1 hSt.2.2.2.2.2.1 hS ho (F.2.2.2.2 _ w_gs1053) (fun _ h => h) hd (kk lsR hL)
theorem s_oinit {pc nx x y w j a : Nat} {v : Int32} {ls t : List Value} {σ : mm_M} (F : CallFix p M c (yb m) (mx m) s args lwG (onm (yo m))) (hf : 8 ≤ R.frames) (hrl : 200 ≤ R.locals) (hst : t.length ≤ 20) (hc : chk m (pc, .invokespecial j, nx, v, x, y, 2, w) = true) (k : WK p l e R s M args below meth c Q D cA b0 sad fv m t0 u0 σf nx ls t σ) : WK p l e R s M args below meth c Q D cA b0 sad fv m t0 u0 σf pc ls (.ref a :: t) σ := by
  obtain ⟨hd, rfl⟩ := dec1 hc rfl 2 rfl
  have hl := lnk_of hc
  simp only [chkL] at hl
  obtain ⟨q, hq⟩ := has3_mem hl
  have hm := List.all_eq_true.mp ko_ok _ hq
  simp only [decide_eq_true_eq] at hm
  refine WK_step k fun H locs lsR hS hL kk => ?_
  have hsum : ((t.map (tr (mad b0 sad) fv)).map fun v => v.category).sum ≤ 2 * t.length := by
    clear kk k hst
    induction t with
    | nil => simp
    | cons u t ih =>
      have : ((tr (mad b0 sad) fv) u).category ≤ 2 := by rcases lv_cat ((tr (mad b0 sad) fv) u) with h | h <;> omega
      simp only [List.map_cons, List.sum_cons, List.length_cons]
      omega
  exact W.objInit F.1 F.2.1 F.2.2.2.1 (F.2.2.2.2 _ (lwG_of _ hm rfl)) (F.2.2.2.2 _ w_oiin) (F.2.2.2.2 _ w_oicode) rfl (by rw [F.2.2.1]; exact hL.2.1) rfl hd (by omega) (by show 2 * 0 + _ + 12 ≤ _; omega) (kk lsR hL)
/-- the heap is as large as the memory says -/
theorem hp_size {σ : mm_M} {T : State} {H : Heap} {locs : List Loc} {cells slots : Nat} (hz1 : b0 ≤ s.heap.size) (hz2 : s.heap.size ≤ b0 + t0) (hw : WF L xs σ) (hX : mX σ = 0) (ht : t0 ≤ tt σ) (X : Stand p l e R s M args below meth c T locs cells slots) (hc : cells = tt σ - t0) (hT : T.heap = H) (hP : va_P D mcl (wo cA (mad b0 sad) σ) H) (hS : va_S (mA0 b0) s.heap H locs) : H.size = b0 + mN σ := by
  have h1 := X.heapSize
  rw [hT, hc] at h1
  have h2 := hS.1
  have e : tt σ = mN σ := by unfold tt; omega
  rcases Nat.eq_zero_or_pos (mN σ) with q | q
  · omega
  · have h3 := (hP (mN σ - 1) _ (wo_get (by omega))).lt
    have h4 : mad b0 sad (mN σ - 1) = b0 + (mN σ - 1) := by unfold mad; rw [if_pos (by have := hw.1; omega)]
    have h3 : mad b0 sad (mN σ - 1) < H.size := h3
    omega
theorem s_new {pc nx x y w j : Nat} {v : Int32} {ls t : List Value} {σ : mm_M} (F : CallFix p M c (yb m) (mx m) s args lwG (onm (yo m))) (hK : va_K D mcl (mtys cA) s) (hz1 : b0 ≤ s.heap.size) (hz2 : s.heap.size ≤ b0 + t0) (hRc : tt σf - t0 ≤ R.cells) (hRs : mS σf - u0 ≤ R.slots) (hw : WF L xs σ) (ht : t0 ≤ tt σ) (hu : u0 ≤ mS σ) (hc : chk m (pc, .new j, nx, v, x, y, 0, w) = true) (hX : mX σ = 0 ∧ mN σ < 1000000) (k : WK p l e R s M args below meth c Q D cA b0 sad fv m t0 u0 σf nx ls (.ref (mN σ) :: t) (mA σ (100 + x, 0) y)) : WK p l e R s M args below meth c Q D cA b0 sad fv m t0 u0 σf pc ls t σ := by
  obtain ⟨hd, rfl⟩ := dec1 hc rfl 2 rfl
  have hl := lnk_of hc
  simp only [chkL, Bool.and_eq_true] at hl
  obtain ⟨q, hq⟩ := has4_mem hl.1
  have hm := List.all_eq_true.mp kc_ok _ hq
  simp only [Bool.and_eq_true, decide_eq_true_eq] at hm
  have h13 := hm.2
  have hy := Nat.eq_of_beq_eq_true hl.2
  have et : tt (mA σ (100 + x, 0) y) = tt σ + 1 := by show mN σ + 1 + mX σ = mN σ + mX σ + 1; omega
  have es : mS (mA σ (100 + x, 0) y) = mS σ + y := rfl
  have k1 := k.1
  have k2 := k.2.1
  refine ⟨by omega, by omega, fun H locs lsR hP hS hL => ?_⟩
  intro T hT XX
  have hsz := hp_size hz1 hz2 hw hX.1 ht XX rfl hT hP hS
  have hKn := hK.1 x _ (mcl_at h13)
  have key : W p l e R s M args below meth c H locs (tt σ - t0) (mS σ - u0) Q (F0 M pc lsR (t.map (tr (mad b0 sad) fv))) := by
    refine W.newcK (n := y) F.1 F.2.1 F.2.2.2.1 (F.2.2.2.2 _ (lwG_of _ hm.1 rfl)) (F.2.2.2.2 _ (by rw [hy, ← mcl_nfl x h13]; exact lwG_of _ (lip_ok x h13) rfl)) (F.2.2.2.2 _ (lwG_of _ (lnp_ok x h13) rfl)) rfl hd (by omega) (by omega) hKn.2.1 rfl fun H1 kC hkC e1 z1 o1 => ?_
    have hk : ∀ (k : Nat) (q : Nat × va_E), (wo cA (mad b0 sad) σ)[k]? = some q → H1[q.1]? = H[q.1]? := fun k q hx => o1 q.1 ((hP k q hx).lt)
    have hP1 : va_P D mcl (wo cA (mad b0 sad) (mA σ (100 + x, 0) y)) H1 := by
      rw [wo_new]
      refine (hP.kept hk).app (fun k q hx => ?_)
      have hz : k < 1 := (List.getElem?_eq_some_iff.mp hx).1
      rw [show k = 0 by omega] at hx
      cases hx
      have e0 : entOf cA (mad b0 sad) (100 + x, 0) (fun _ => 0) (fun _ => 0) (fun _ => none) = .inr (x, fvals (mad b0 sad) x (fun _ => 0) (fun _ => none)) := by
        unfold entOf
        dsimp only
        rw [if_neg (by omega), if_neg (by omega), if_neg (by omega), show 100 + x - 100 = x by omega]
      rw [e0]
      have e3 : mad b0 sad (mN σ) = H.size := by rw [hsz]; unfold mad; rw [if_pos hX.2]
      rw [e3]
      refine ⟨_, mcl_at h13, (u_born (mty.getD x tW0) F.2.2.2.2 (mcl_in x h13) hKn hkC e1 (mcl_types x h13)).to (fun j hj => ?_)⟩
      rw [mcl_nfl x h13] at hj
      show defaultValue _ = vp_V (fvals (mad b0 sad) x (fun _ => 0) (fun _ => none)) j
      show defaultValue _ = ((fvals (mad b0 sad) x (fun _ => 0) (fun _ => none))[j]?).getD .null
      rw [fvals_get hj]
      rcases mcl_isR x h13 j hj with ⟨h, h2⟩ | ⟨h, ⟨n, h2⟩ | ⟨n, h2⟩⟩
      · rw [h, h2]; rfl
      · rw [h, h2]; rfl
      · rw [h, h2]; rfl
    have hS1 : va_S (mA0 b0) s.heap H1 locs := ⟨Nat.le_trans hS.1 (by omega), fun q h1 h2 => (o1 q (Nat.lt_of_lt_of_le h1 hS.1)).trans (hS.2.1 q h1 h2), hS.2.2⟩
    have kk := k.2.2 H1 locs lsR hP1 hS1 hL
    rw [et, es, show tt σ + 1 - t0 = tt σ - t0 + 1 by omega, show mS σ + y - u0 = mS σ - u0 + y by omega] at kk
    have e3 : mad b0 sad (mN σ) = H.size := by rw [hsz]; unfold mad; rw [if_pos hX.2]
    have kk : W p l e R s M args below meth c H1 locs (tt σ - t0 + 1) (mS σ - u0 + y) Q (F0 M (pc + 3) lsR (.ref (mad b0 sad (mN σ)) :: t.map (tr (mad b0 sad) fv))) := kk
    rw [e3] at kk
    exact kk
  exact key T hT XX
theorem s_newa {pc nx x y z w : Nat} {v n : Int32} {at_ : ArrayType} {ls t : List Value} {σ : mm_M} (F : CallFix p M c (yb m) (mx m) s args lwG (onm (yo m))) (hK : va_K D mcl (mtys cA) s) (hz1 : b0 ≤ s.heap.size) (hz2 : s.heap.size ≤ b0 + t0) (hRc : tt σf - t0 ≤ R.cells) (hRs : mS σf - u0 ≤ R.slots) (hw : WF L xs σ) (ht : t0 ≤ tt σ) (hu : u0 ≤ mS σ) (hc : chk m (pc, .newarray at_, nx, v, x, y, z, w) = true) (hX : mX σ = 0 ∧ mN σ < 1000000 ∧ ¬ n < 0 ∧ n.toNatClampNeg ≤ 60000000) (k : WK p l e R s M args below meth c Q D cA b0 sad fv m t0 u0 σf nx ls (.ref (mN σ) :: t) (mA σ (x, ix n) (ix n))) : WK p l e R s M args below meth c Q D cA b0 sad fv m t0 u0 σf pc ls (.int n :: t) σ := by
  obtain ⟨hd, rfl⟩ := dec1 hc rfl 1 rfl
  have hl := lnk_of hc
  have et : tt (mA σ (x, ix n) (ix n)) = tt σ + 1 := by show mN σ + 1 + mX σ = mN σ + mX σ + 1; omega
  have es : mS (mA σ (x, ix n) (ix n)) = mS σ + ix n := rfl
  have k1 := k.1
  have k2 := k.2.1
  refine ⟨by omega, by omega, fun H locs lsR hP hS hL => ?_⟩
  intro T hT XX
  have hsz := hp_size hz1 hz2 hw hX.1 ht XX rfl hT hP hS
  have e3 : mad b0 sad (mN σ) = H.size := by rw [hsz]; unfold mad; rw [if_pos hX.2.1]
  have gen : ∀ (ty : FieldType) (i : Nat), newarray.typeOf at_ = ty → (mtys cA)[i]? = some (cA x, ty) → Cond.arrayClass ty ∈ lwG → componentBytes ty ≤ 8 → (∀ cB : ClassId, va_RA s cB ty = (s.vm.findClass ("[" ++ ty.toString) = some cB)) → vp_cell (cA x) (ix n, (match ty with
      | .long => Sum.inr (Sum.inl (fun _ => (0 : Int64)))
      | _ => Sum.inl (fun _ => (0 : Int32)))) = arrV (cA x) (ix n) (fun _ => defaultValue ty) → entOf cA (mad b0 sad) (x, ix n) (fun _ => 0) (fun _ => 0) (fun _ => none) = .inl (cA x, ix n, (match ty with
      | .long => Sum.inr (Sum.inl (fun _ => (0 : Int64)))
      | _ => Sum.inl (fun _ => (0 : Int32)))) → W p l e R s M args below meth c H locs (tt σ - t0) (mS σ - u0) Q (F0 M pc lsR (.int n :: t.map (tr (mad b0 sad) fv))) := by
    intro ty i hty hti hwd hcb hra hcell hent
    subst hty
    refine va_newaK F.1 F.2.1 (F.2.2.2.2 _ hwd) rfl hd rfl hX.2.2.1 rfl (by have := hX.2.2.2; calc n.toNatClampNeg * componentBytes _ ≤ 60000000 * 8 := Nat.mul_le_mul this hcb
                                                                                              _ ≤ 536870912 := by omega) (by omega) (by have e : n.toNatClampNeg = ix n := rfl; omega) rfl fun H1 cB e1 z1 o1 hAr hNm => ?_
    have hcB : cB = cA x := by
      have h2 := (hK.2 i _ hti).2
      rw [hra] at h2
      exact Option.some.inj (hNm.symm.trans h2)
    subst hcB
    have hk : ∀ (k : Nat) (q : Nat × va_E), (wo cA (mad b0 sad) σ)[k]? = some q → H1[q.1]? = H[q.1]? := fun k q hx => o1 q.1 ((hP k q hx).lt)
    have hP1 : va_P D mcl (wo cA (mad b0 sad) (mA σ (x, ix n) (ix n))) H1 := by
      rw [wo_new, hent]
      refine (hP.kept hk).app (fun k q hx => ?_)
      have hz : k < 1 := (List.getElem?_eq_some_iff.mp hx).1
      rw [show k = 0 by omega] at hx
      cases hx
      rw [e3]
      show H1[H.size]? = some (vp_cell _ _)
      rw [hcell]
      exact e1
    have hS1 : va_S (mA0 b0) s.heap H1 locs := ⟨Nat.le_trans hS.1 (by omega), fun q h1 h2 => (o1 q (Nat.lt_of_lt_of_le h1 hS.1)).trans (hS.2.1 q h1 h2), hS.2.2⟩
    have kk := k.2.2 H1 locs lsR hP1 hS1 hL
    rw [et, es, show tt σ + 1 - t0 = tt σ - t0 + 1 by omega, show mS σ + ix n - u0 = mS σ - u0 + ix n by omega] at kk
    have kk : W p l e R s M args below meth c H1 locs (tt σ - t0 + 1) (mS σ - u0 + ix n) Q (F0 M (pc + 2) lsR (.ref (mad b0 sad (mN σ)) :: t.map (tr (mad b0 sad) fv))) := kk
    rw [e3] at kk
    exact kk
  have key : W p l e R s M args below meth c H locs (tt σ - t0) (mS σ - u0) Q (F0 M pc lsR (.int n :: t.map (tr (mad b0 sad) fv))) := by
    cases at_ with
    | int =>
      have hx : x = 1 := Nat.eq_of_beq_eq_true (by simpa only [chkL] using hl)
      subst hx
      exact gen .int 0 rfl rfl w_arrI (by decide) (fun _ => rfl) rfl rfl
    | long =>
      have hx : x = 2 := Nat.eq_of_beq_eq_true (by simpa only [chkL] using hl)
      subst hx
      exact gen .long 1 rfl rfl w_arrJ (by decide) (fun _ => rfl) rfl rfl
    | byte =>
      have hx : x = 3 := Nat.eq_of_beq_eq_true (by simpa only [chkL] using hl)
      subst hx
      exact gen .byte 2 rfl rfl w_arrB (by decide) (fun _ => rfl) rfl rfl
    | boolean =>
      have hx : x = 4 := Nat.eq_of_beq_eq_true (by simpa only [chkL] using hl)
      subst hx
      exact gen .boolean 3 rfl rfl w_arrZ (by decide) (fun _ => rfl) rfl rfl
    | _ => simp only [chkL] at hl; cases hl
  exact key T hT XX
theorem s_grid {pc nx x y z w j dm : Nat} {v n q : Int32} {ls t : List Value} {σ : mm_M} (F : CallFix p M c (yb m) (mx m) s args lwG (onm (yo m))) (hK : va_K D mcl (mtys cA) s) (hSt : Stc sad fv L xs b0 s s.heap) (hz1 : b0 ≤ s.heap.size) (hz2 : s.heap.size ≤ b0 + t0) (hRc : tt σf - t0 ≤ R.cells) (hRs : mS σf - u0 ≤ R.slots) (hw : WF L xs σ) (ht : t0 ≤ tt σ) (hu : u0 ≤ mS σ) (hc : chk m (pc, .multianewarray j dm, nx, v, x, y, z, w) = true) (hX : mX σ = 0 ∧ mN σ + 1 + ix n ≤ 1000000 ∧ ¬ n < 0 ∧ ¬ q < 0 ∧ q.toNatClampNeg ≤ 60000000) (k : WK p l e R s M args below meth c Q D cA b0 sad fv m t0 u0 σf nx ls (.ref (mN σ) :: t) (mG σ (ix n) (ix q))) : WK p l e R s M args below meth c Q D cA b0 sad fv m t0 u0 σf pc ls (.int q :: .int n :: t) σ := by
  obtain ⟨hd, rfl⟩ := dec1 hc rfl 3 rfl
  have hl := lnk_of hc
  simp only [chkL, Bool.and_eq_true] at hl
  have e1 := Nat.eq_of_beq_eq_true hl.1.1
  have e2 := Nat.eq_of_beq_eq_true hl.1.2
  have e3 := Nat.eq_of_beq_eq_true hl.2
  subst e2; subst e3
  have et : tt (mG σ (ix n) (ix q)) = tt σ + 1 + ix n := by show mN σ + 1 + ix n + mX σ = mN σ + mX σ + 1 + ix n; omega
  have es : mS (mG σ (ix n) (ix q)) = mS σ + ix n + ix n * ix q := rfl
  have k1 := k.1
  have k2 := k.2.1
  refine ⟨by omega, by omega, fun H locs lsR hP hS hL => ?_⟩
  intro T hT XX
  have hsz := hp_size hz1 hz2 hw hX.1 ht XX rfl hT hP hS
  have ho := F.2.2.2.1
  rw [e1] at ho
  have hnn : n.toNatClampNeg = ix n := rfl
  have hqq : q.toNatClampNeg = ix q := rfl
  obtain ⟨vm₁, cB, comp, -, fA, fC, hO, -, X', step⟩ := XX.multianewarray2F (ty := .int) F.1 ho (F.2.2.2.2 _ w_cl26) (va_tabs' hSt.2.2.2.2.2.2.2.2.2.2.1) (F.2.2.2.2 _ w_arrI) (g := F0 M pc lsR (.int q :: .int n :: t.map (tr (mad b0 sad) fv))) rfl (by rw [F.2.1]; exact hd) rfl hX.2.2.1 hX.2.2.2.1 (by omega) (by show q.toNatClampNeg * 4 ≤ _; omega) (by omega) rfl rfl (by omega) (by rw [hnn, hqq]; omega)
  have hc1 : comp = cA 1 := by
    have h2 : s.vm.findClass ("[" ++ FieldType.int.toString) = some (cA 1) := (hK.2 0 _ rfl).2
    exact Option.some.inj (fC.symm.trans h2)
  have hc5 : cB = cA 5 := by
    have h2 : s.vm.findClass ("[" ++ (FieldType.array .int).toString) = some (cA 5) := (hK.2 4 _ rfl).2
    exact Option.some.inj (fA.symm.trans h2)
  subst hc1; subst hc5
  rw [hnn, hqq] at X' step
  generalize hF : Jvm.Free.Multi.fill (T.setVm vm₁) (cA 5) (cA 1) (ix n) (ix q) (defaultValue .int) (ix n) = G9 at X' step
  have hTh : (T.setVm vm₁).heap = H := hT
  obtain ⟨f1, f2, -, -⟩ := Jvm.Free.Multi.fill_facts (T.setVm vm₁) (cA 5) (cA 1) (ix n) (ix q) (defaultValue .int) (ix n)
  rw [hF, hTh] at f1 f2
  have hold : ∀ a : Nat, a < H.size → G9.heap[a]? = H[a]? := fun a ha => by
    have := Jvm.Free.Multi.fill_old (T.setVm vm₁) (cA 5) (cA 1) (ix n) (ix q) (defaultValue .int) (a := a) (by rw [hTh]; exact ha) (ix n)
    rw [hF, hTh] at this
    exact this
  have hin : Jvm.Free.Multi.innerC (cA 1) (ix q) (defaultValue .int) = vp_cell (cA 1) (ix q, .inl (fun _ => 0)) := by
    show ({ cls := cA 1, slots := Array.replicate (ix q) (.int 0), vm := .none } : Cell) = arrV (cA 1) (ix q) (fun _ => .int 0)
    rw [arrV_new]
  have hrow : ∀ j : Nat, j < ix n → G9.heap[H.size + 1 + j]? = some (vp_cell (cA 1) (ix q, .inl (fun _ => 0))) := fun j hj => by
    have := Jvm.Free.Multi.fill_inner (T.setVm vm₁) (cA 5) (cA 1) (ix n) (ix q) (defaultValue .int) (ix n) j hj
    rw [hF, hTh, hin] at this
    exact this
  have hmd : ∀ j : Nat, j < ix n → mad b0 sad (mN σ + 1 + j) = H.size + 1 + j := fun j hj => by
    rw [hsz]; unfold mad; rw [if_pos (by omega)]; omega
  have e3 : mad b0 sad (mN σ) = H.size := by rw [hsz]; unfold mad; rw [if_pos (by omega)]
  have hout : Jvm.Free.Multi.outerC (cA 5) (ix n) H.size (ix n) = vp_cell (cA 5) (ix n, .inr (.inr (.inr (.inr (fun j => (if j < ix n then some (mN σ + 1 + j) else none).map (mad b0 sad)))))) := by
    rw [vr_outer, vp_cell_q]
    refine congrArg (arrV (cA 5) (ix n)) (funext fun j => ?_)
    by_cases hj : j < ix n
    · rw [if_pos hj, if_pos hj, Option.map_some, hmd j hj]
    · rw [if_neg hj, if_neg hj]; rfl
  rw [hout] at f2
  have hP1 : va_P D mcl (wo cA (mad b0 sad) (mG σ (ix n) (ix q))) G9.heap := by
    rw [wo_grid]
    refine (hP.kept (fun k9 a ha => hold a.1 ((hP k9 a ha).lt))).app (fun k9 a ha => ?_)
    cases k9 with
    | zero =>
      cases ha
      rw [e3]
      exact f2
    | succ k9 =>
      rw [List.getElem?_cons_succ] at ha
      obtain ⟨j, hj, rfl⟩ := List.mem_map.mp (List.mem_of_getElem? ha)
      rw [List.mem_range] at hj
      rw [hmd j hj]
      exact hrow j hj
  have hS1 : va_S (mA0 b0) s.heap G9.heap locs := ⟨Nat.le_trans hS.1 (by omega), fun a h1 h2 => (hold a (Nat.lt_of_lt_of_le h1 hS.1)).trans (hS.2.1 a h1 h2), hS.2.2⟩
  have kk := k.2.2 G9.heap locs lsR hP1 hS1 hL
  rw [et, es, show tt σ + 1 + ix n - t0 = tt σ - t0 + 1 + ix n by omega, show mS σ + ix n + ix n * ix q - u0 = mS σ - u0 + ix n + ix n * ix q by omega] at kk
  have kk : W p l e R s M args below meth c G9.heap locs (tt σ - t0 + 1 + ix n) (mS σ - u0 + ix n + ix n * ix q) Q (F0 M (pc + 4) lsR (.ref (mad b0 sad (mN σ)) :: t.map (tr (mad b0 sad) fv))) := kk
  rw [e3] at kk
  obtain ⟨t2, a1, b1⟩ := kk G9 rfl X'
  refine ⟨t2, ?_, b1⟩
  have hTs : T.heap.size = H.size := by rw [hT]
  first | exact step t2 a1 | (rw [← hTs] at a1; exact step t2 a1)
theorem s_cpy {pc nx x y w j a b : Nat} {v sp dp n : Int32} {ls t : List Value} {σ : mm_M} (F : CallFix p M c (yb m) (mx m) s args lwG (onm (yo m))) (hK : va_K D mcl (mtys cA) s) (hSt : Stc sad fv L xs b0 s s.heap) (hf : 8 ≤ R.frames) (hrl : 200 ≤ R.locals) (hst : t.length ≤ 20) (hw : WF L xs σ) (hc : chk m (pc, .invokestatic j, nx, v, x, y, 3, w) = true)
    (hq : ((mK σ a).1 = 1 ∨ (mK σ a).1 = 21) ∧ (mK σ b).1 = 1 ∧ a ≠ b ∧ (¬ sp < 0 ∧ ¬ dp < 0 ∧ ¬ n < 0) ∧ ix sp + ix n ≤ (mK σ a).2 ∧ ix dp + ix n ≤ (mK σ b).2) (k : WK p l e R s M args below meth c Q D cA b0 sad fv m t0 u0 σf nx ls t (wA σ b (va_cpy (mI σ a) (mI σ b) (ix sp) (ix dp) (ix n)))) : WK p l e R s M args below meth c Q D cA b0 sad fv m t0 u0 σf pc ls (.int n :: .int dp :: .ref b :: .int sp :: .ref a :: t) σ := by
  obtain ⟨hd, rfl⟩ := dec1 hc rfl 2 rfl
  have hl := lnk_of hc
  simp only [chkL] at hl
  obtain ⟨q, hqm⟩ := has3_mem hl
  have hm := List.all_eq_true.mp ka_ok _ hqm
  simp only [decide_eq_true_eq] at hm
  obtain ⟨h1, h2, h3, ⟨h4, h5, h6⟩, h7, h8⟩ := hq
  have hsum : ((t.map (tr (mad b0 sad) fv)).map fun v => v.category).sum ≤ 2 * t.length := by
    clear k hst
    induction t with
    | nil => simp
    | cons u t ih =>
      have : ((tr (mad b0 sad) fv) u).category ≤ 2 := by rcases lv_cat ((tr (mad b0 sad) fv) u) with h | h <;> omega
      simp only [List.map_cons, List.sum_cons, List.length_cons]
      omega
  have hnf : nativeFrameWords "java/lang/System" "arraycopy" 5 + 11 ≤ 100 := by decide +kernel
  have hbn : b < mN σ := wf_dyn hw (Or.inl (by omega))
  refine ⟨k.1, k.2.1, fun H locs lsR hP hS hL => ?_⟩
  have gb : (wo cA (mad b0 sad) σ)[b]? = some (mad b0 sad b, .inl (cA 1, (mK σ b).2, .inl (mI σ b))) := by rw [wo_get hbn, ent_ints h2 (Or.inl rfl)]
  rcases h1 with h1 | h1
  · have han : a < mN σ := wf_dyn hw (Or.inl (by omega))
    exact va_copyi F.1 F.2.1 (by rw [F.2.2.1, hL.2.1]) F.2.2.2.1 (F.2.2.2.2 _ (lwG_of _ hm rfl)) (F.2.2.2.2 _ w_acnat) (F.2.2.2.2 _ w_acst) (F.2.2.2.2 _ w_sys) hK hP (wo_D hw.1) hS a b 0 0 (by rw [wo_get han, ent_ints h1 (Or.inl rfl)]) gb rfl rfl rfl h4 h5 h6 h7 h8 (fun _ _ => rfl) (by omega) (by omega) hd
      (fun H1 locs1 g1 _ g2 => k.2.2 H1 locs1 lsR (by rw [← wo_wA h2]; exact g1) g2 hL)
  · show W p l e R s M args below meth c H locs (tt σ - t0) (mS σ - u0) Q (F0 M pc lsR (.int n :: .int dp :: .ref (mad b0 sad b) :: .int sp :: .ref (mad b0 sad a) :: t.map (tr (mad b0 sad) fv)))
    rcases wf_s21 hw h1 with ⟨rfl, e1, e2⟩ | ⟨rfl, e1, e2⟩
    · rw [e1] at h7
      rw [mad_s (Nat.le_refl _)]
      obtain ⟨hX, hlt⟩ := hSt.1
      have hl : sad 1000000 < s.heap.size := by obtain ⟨_, q, _⟩ := hX; exact (Array.getElem?_eq_some_iff.mp q).1
      exact va_copyx F.1 F.2.1 (by rw [F.2.2.1, hL.2.1]) F.2.2.2.1 (F.2.2.2.2 _ (lwG_of _ hm rfl)) (F.2.2.2.2 _ w_acnat) (F.2.2.2.2 _ w_acst) (F.2.2.2.2 _ w_sys) hK hP (wo_D hw.1) hS hX hl (by show ¬ b0 ≤ _; omega) b 0 gb rfl h4 h5 h6 h7 h8 (by omega) (by omega) hd
        (fun H1 locs1 g1 _ g2 => k.2.2 H1 locs1 lsR (by rw [← wo_wA h2, e2]; exact g1) g2 hL)
    · rw [e1] at h7
      rw [mad_s (k := 1000001) (by omega)]
      obtain ⟨⟨N9, f9, hX, hN9, hM9, hf9⟩, hlt⟩ := hSt.2.1
      have hl : sad 1000001 < s.heap.size := by obtain ⟨_, q, _⟩ := hX; exact (Array.getElem?_eq_some_iff.mp q).1
      exact va_copyx F.1 F.2.1 (by rw [F.2.2.1, hL.2.1]) F.2.2.2.1 (F.2.2.2.2 _ (lwG_of _ hm rfl)) (F.2.2.2.2 _ w_acnat) (F.2.2.2.2 _ w_acst) (F.2.2.2.2 _ w_sys) hK hP (wo_D hw.1) hS hX hl (by show ¬ b0 ≤ _; omega) b 0 gb rfl h4 h5 h6 (Nat.le_trans h7 hN9) h8 (by omega) (by omega) hd
        (fun H1 locs1 g1 _ g2 => k.2.2 H1 locs1 lsR (by rw [← wo_wA h2, e2, ← cpy_as hf9 h7]; exact g1) g2 hL)
end SndD
