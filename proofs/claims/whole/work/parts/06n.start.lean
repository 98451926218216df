/-! the law's start: what the Statement gives, and the claim out of the small machine's run of the law -/
theorem fits_int {v : Value} (h : fits (.int : FieldType) v = true) : ∃ x, v = .int x := by
  cases v <;> first | exact ⟨_, rfl⟩ | (simp [fits] at h)
theorem ints_all {s : State} {t : Nat} {cell : Cell} (hf : heapFits s = true) (hc : s.heap[t]? = some cell) (ho : s.isArrayOf cell .int) : ∃ f : Nat → Int32, ∀ j : Nat, j < cell.slots.size → cell.slots[j]? = some (.int (f j)) := by
  have key : ∀ j : Nat, ∃ x : Int32, j < cell.slots.size → cell.slots[j]? = some (.int x) := by
    intro j
    by_cases hj : j < cell.slots.size
    · obtain ⟨ha, hce⟩ := Array.getElem?_eq_some_iff.mp hc
      have h1 := (Array.all_eq_true_iff_forall_mem.mp hf) _ (Array.getElem_mem ha)
      rw [hce] at h1
      have h2 := (List.all_eq_true.mp h1) j (List.mem_range.mpr hj)
      have hg : cell.slots[j]? = some cell.slots[j] := Array.getElem?_eq_getElem hj
      rw [hg] at h2
      obtain ⟨hst, k, hk, comp, hkind⟩ := ho
      have h3 : fits (.int : FieldType) cell.slots[j] = true := by
        cases hvm : cell.vm <;> first | exact absurd hvm (hst _) | simpa [State.fitsSlot, State.slotType?, hk, hkind, hvm] using h2
      obtain ⟨x, hx⟩ := fits_int h3
      exact ⟨x, fun _ => by rw [hg, hx]⟩
    · exact ⟨0, fun h => absurd h hj⟩
  exact ⟨fun j => Classical.choose (key j), fun j hj => Classical.choose_spec (key j) hj⟩
abbrev gv1 : Cond := Jvm.Cond.and given_1 narrow_1
abbrev stT : Term := .static "DimpleWells$Law" "STANDARD" "[I"
theorem sm_std : ∀ j, j < 11 → Cond.eq (.elem stT (.int (Int32.ofNat j))) (.int (stdI j)) ∈ flatC gv1 := by decide +kernel
theorem sm_sta : Cond.arrayOf stT .int ∈ flatC gv1 := by decide +kernel
theorem sm_stl : Cond.eq (.length stT) (.int (Int32.ofNat 11)) ∈ flatC gv1 := by decide +kernel
theorem std_X {s : State} {args : Array Value} (hf : heapFits s = true) (hs : ∀ c ∈ flatC gv1, c.before args s = true) (A : Nat → Prop) (hA : ∀ a : Nat, a < s.heap.size → ¬ A a) : ∃ t : Nat, stT.eval args s none [] s = some (.ref t) ∧ t < s.heap.size ∧
    ∃ (N : Nat) (f : Nat → Int32), va_X t N f s s.heap ∧ 11 ≤ N ∧ Int32.ofNat N = Int32.ofNat 11 ∧ ∀ j, j < 11 → f j = stdI j := by
  obtain ⟨t, ht, cell, h1, h2, h3, h4, h5, h6, h7⟩ := va_Tof (tm := stT) (ty := .int) (N := 11) (f := fun j => .int (stdI j)) (A := A) (by decide) (hs _ sm_sta) (va_eqt (hs _ sm_stl)) (fun j hj => va_eqt (hs _ (sm_std j hj))) hA
  obtain ⟨f, hfj⟩ := ints_all hf h1 h2
  refine ⟨t, ht, (Array.getElem?_eq_some_iff.mp h1).1, cell.slots.size, f, ⟨cell, h1, h2, h3, rfl, hfj⟩, h4, h5, fun j hj => ?_⟩
  have e1 := h6 j hj
  rw [hfj j (by omega)] at e1
  exact Value.int.inj (Option.some.inj e1)
def strT (i : Nat) : Term := match i with
  | 0 => .string "DimpleWells$Land" 64
  | 1 => .string "DimpleWells$Law" 72
  | 2 => .string "DimpleWells$Law" 78
  | _ => .string "DimpleWells$Steps" 48
theorem sm_ex : ∀ i, i < 4 → Cond.exactly (strT i) "java/lang/String" ∈ flatC gv1 := by decide +kernel
theorem sm_co : ∀ i, i < 4 → Cond.eq (.field (strT i) "java/lang/String" "coder" "B") (.int 0) ∈ flatC gv1 := by decide +kernel
theorem sm_ar : ∀ i, i < 4 → Cond.arrayOf (.field (strT i) "java/lang/String" "value" "[B") .byte ∈ flatC gv1 := by decide +kernel
theorem sm_le : ∀ i, i < 4 → Cond.eq (.length (.field (strT i) "java/lang/String" "value" "[B")) (.int (Int32.ofNat (strL.getD i 0))) ∈ flatC gv1 := by decide +kernel
set_option maxRecDepth 100000 in
theorem sm_el : ∀ i, i < 4 → ∀ j, j < strL.getD i 0 → Cond.eq (.elem (.field (strT i) "java/lang/String" "value" "[B") (.int (Int32.ofNat j))) (.int ((strB.getD i []).getD j 0)) ∈ flatC gv1 := by decide +kernel
theorem sm_ne : ∀ i, i < 4 → ∀ j, j < 4 → i ≠ j → Cond.not (Cond.eq (strT i) (strT j)) ∈ flatC gv1 ∨ Cond.not (Cond.eq (strT j) (strT i)) ∈ flatC gv1 := by decide +kernel
def msgI (i : Nat) : Nat := match i with
  | 0 => 264
  | 1 => 364
  | 2 => 391
  | 3 => 393
  | _ => 395
theorem sm_ms : ∀ i, i < 5 → Cond.exactly (.string "DimpleWells" (msgI i)) "java/lang/String" ∈ flatC gv1 := by decide +kernel
theorem msg_at {s : State} {args : Array Value} (hs : ∀ c ∈ flatC gv1, c.before args s = true) : ∃ f : Nat → Nat, ∀ i, i < 5 → (Term.string "DimpleWells" (msgI i)).eval args s none [] s = some (.ref (f i)) := by
  have key : ∀ i : Nat, ∃ a : Nat, i < 5 → (Term.string "DimpleWells" (msgI i)).eval args s none [] s = some (.ref a) := by
    intro i
    by_cases hi : i < 5
    · obtain ⟨a, c, cA, kA, q1, -⟩ := Cond.exactly_spec (args := args) (first := s) (o := none) (s := s) (idx := []) (hs _ (sm_ms i hi))
      exact ⟨a, fun _ => q1⟩
    · exact ⟨0, fun h => absurd h hi⟩
  exact ⟨fun j => Classical.choose (key j), fun j hj => Classical.choose_spec (key j) hj⟩
theorem arr_known {s : State} {args : Array Value} {ty : FieldType} (h : (Cond.arrayClass ty).before args s = true) (hra : ∀ cB : ClassId, va_RA s cB ty = (s.vm.findClass ("[" ++ ty.toString) = some cB)) : ∃ cA : ClassId, ArrOfT s cA ty ∧ va_RA s cA ty := by
  obtain ⟨cA, kA, comp, h1, h2, h3⟩ := Cond.arrayClass_spec (args := args) (first := s) (o := none) (s := s) (idx := []) h
  exact ⟨cA, fun N z => ⟨(fun k h => by cases h), kA, h2, comp, h3⟩, by rw [hra]; exact h1⟩
theorem arr_grid {s : State} (h : mm_AO s) : ∃ cA : ClassId, ArrOfT s cA (.array .int) ∧ va_RA s cA (.array .int) := by
  unfold mm_AO at h
  simp only [Cond.before, Cond.holds, Cond.value, beq_iff_eq] at h
  cases hc : s.vm.findClass (FieldType.array .int).toString with
  | none => simp [hc] at h
  | some comp =>
    simp only [hc, Option.bind_some, Option.bind_eq_some_iff, Option.map_eq_some_iff] at h
    obtain ⟨c, -, k, hk, hb⟩ := h
    cases hkind : k.kind with
    | array component ty =>
      rw [hkind] at hb
      simp at hb
      exact ⟨c, fun N z => ⟨(fun k h => by cases h), k, hk, component, by rw [hkind, hb.1]⟩, hb.2⟩
    | _ => rw [hkind] at hb; simp at hb
theorem nw_on {w : Cond} (h : nwk w = true) : w.onTables = true := by
  cases w <;> first | rfl | (cases h)
theorem w_over : Cond.arrayOver (.array .int) ∈ lw_tbl := by decide +kernel
theorem w_Nc : Cond.not (.castable "java/lang/IllegalArgumentException" "java/util/NoSuchElementException") ∈ flatC gv1 := by decide +kernel
theorem w_st1 : Cond.laysStatic "DimpleWells$Law" "STANDARD" "[I" ∈ lw_tbl ∧ Cond.initialized "DimpleWells$Law" ∈ lw_tbl := by decide +kernel
theorem w_st2 : Cond.laysStatic "java/lang/String" "COMPACT_STRINGS" "Z" ∈ lw_tbl ∧ Cond.initialized "java/lang/String" ∈ lw_tbl := by decide +kernel
theorem w_st3 : Cond.laysStatic "jdk/internal/util/Preconditions" "SIOOBE_FORMATTER" "Ljava/util/function/BiFunction;" ∈ lw_tbl ∧ Cond.initialized "jdk/internal/util/Preconditions" ∈ lw_tbl := by decide +kernel
theorem w_st4 : Cond.laysStatic Bundle.tN "UNASSIGNED_STACK" Bundle.steD ∈ lw_tbl ∧ Cond.laysStatic Bundle.tN "SUPPRESSED_SENTINEL" Bundle.listD ∈ lw_tbl ∧ Cond.initialized Bundle.tN ∈ lw_tbl := by decide +kernel
theorem w_gc : Cond.eq (.static "java/lang/String" "COMPACT_STRINGS" "Z") (.int 1) ∈ flatC gv1 ∧ Cond.isRef (.static "jdk/internal/util/Preconditions" "SIOOBE_FORMATTER" "Ljava/util/function/BiFunction;") ∈ flatC gv1 ∧ Cond.isRef (.static Bundle.tN "UNASSIGNED_STACK" Bundle.steD) ∈ flatC gv1 ∧ Cond.isRef (.static Bundle.tN "SUPPRESSED_SENTINEL" Bundle.listD) ∈ flatC gv1 := by decide +kernel
/-- where the still things lie -/
def sadF (b t : Nat) (kf vf mf : Nat → Nat) (k : Nat) : Nat := if k = 1000000 then b else if k = 1000001 then t else if k < 1000006 then kf (k - 1000002) else if k < 1000010 then vf (k - 1000006) else mf (k - 1000091)
theorem stc_start {s : State} {b L : Nat} {xs : Nat → Int32} (hf : heapFits s = true) (hts : ∀ w ∈ lw_tbl, w.before #[Value.ref b] s = true) (hX : va_X b L xs s s.heap) (hbl : b < s.heap.size) (hgv : gv1.before #[Value.ref b] s = true) :
    ∃ (sad : Nat → Nat) (fv : Value), sad 1000000 = b ∧ fv.category = 1 ∧ Stc sad fv L xs s.heap.size s s.heap := by
  have hs := flat_of_before _ hgv
  have hA : ∀ a : Nat, a < s.heap.size → ¬ mA0 s.heap.size a := fun a h q => Nat.lt_irrefl _ (Nat.lt_of_lt_of_le h q)
  obtain ⟨t, ht, htl, hstd⟩ := std_X hf hs (mA0 s.heap.size) hA
  obtain ⟨kf, vf, hS, hSe⟩ := vk_Sof (N := 4) (tm := strT) (len := strL) (byt := strB) (A := mA0 s.heap.size) (by decide) (fun i hi => hs _ (sm_ex i hi)) (fun i hi => hs _ (sm_co i hi)) (fun i hi => hs _ (sm_ar i hi)) (fun i hi => hs _ (sm_le i hi)) (fun i hi j hj => hs _ (sm_el i hi j hj))
    (fun i j hi hj hij => (sm_ne i hi j hj hij).imp (hs _) (hs _)) hA
  obtain ⟨mf, hmf⟩ := msg_at hs
  obtain ⟨fv, hfe, hfr⟩ := Cond.isRef_spec (args := #[Value.ref b]) (first := s) (o := none) (s := s) (idx := []) (hs _ w_gc.2.1)
  have hfc : fv.category = 1 := by cases fv <;> first | rfl | (cases hfr)
  have e0 : sadF b t kf vf mf 1000000 = b := rfl
  have e1 : sadF b t kf vf mf 1000001 = t := rfl
  have e2 : ∀ i, i < 4 → sadF b t kf vf mf (1000002 + i) = kf i := fun i hi => by
    unfold sadF
    rw [if_neg (by omega), if_neg (by omega), if_pos (by omega), Nat.add_sub_cancel_left]
  have e3 : ∀ i, i < 4 → sadF b t kf vf mf (1000006 + i) = vf i := fun i hi => by
    unfold sadF
    rw [if_neg (by omega), if_neg (by omega), if_neg (by omega), if_pos (by omega), Nat.add_sub_cancel_left]
  have e4 : ∀ i, i < 5 → sadF b t kf vf mf (1000091 + i) = mf i := fun i hi => by
    unfold sadF
    rw [if_neg (by omega), if_neg (by omega), if_neg (by omega), if_neg (by omega), Nat.add_sub_cancel_left]
  refine ⟨sadF b t kf vf mf, fv, e0, hfc, ⟨by rw [e0]; exact hX, by rw [e0]; exact hbl⟩, ⟨by rw [e1]; exact hstd, by rw [e1]; exact htl⟩, ⟨fun i hi => ?_, fun i j hi hj h => ?_⟩, va_Zof (hts _ w_st1.1) (hts _ w_st1.2) (by rw [e1]; exact ht) hA,
    va_Zof (hts _ w_st2.1) (hts _ w_st2.2) (va_eqt (hs _ w_gc.1)) hA, va_Zof (hts _ w_st3.1) (hts _ w_st3.2) hfe hA, vx_Zqof (hts _ w_st4.1) (hts _ w_st4.2.2) (hs _ w_gc.2.2.1) hA, vx_Zqof (hts _ w_st4.2.1) (hts _ w_st4.2.2) (hs _ w_gc.2.2.2) hA, ?_, fun w hw => va_Nw.of (nw_on (List.mem_filter.mp hw).2) (hts w (List.mem_filter.mp hw).1), hts _ w_over, va_Nc.of (hs _ w_Nc)⟩
  · have h9 := hS.1 i hi
    rw [← e2 i hi, ← e3 i hi] at h9
    exact h9
  · have h : sadF b t kf vf mf (1000002 + i) = sadF b t kf vf mf (1000002 + j) := h
    rw [e2 i hi, e2 j hj] at h
    exact hS.2 i j hi hj h
  · intro q hq
    have hw := List.all_eq_true.mp kt_ok q hq
    have hw := hts _ (List.mem_of_getElem? (of_decide_eq_true hw))
    refine vk_R.of hw ?_
    clear hw
    simp only [kt, List.mem_cons, List.not_mem_nil, or_false] at hq
    rcases hq with rfl | rfl | rfl | rfl | rfl | rfl | rfl | rfl | rfl
    · exact (hmf 0 (by omega)).trans (by rw [← e4 0 (by omega)])
    · exact (hmf 1 (by omega)).trans (by rw [← e4 1 (by omega)])
    · exact (hmf 2 (by omega)).trans (by rw [← e4 2 (by omega)])
    · exact (hmf 3 (by omega)).trans (by rw [← e4 3 (by omega)])
    · exact (hmf 4 (by omega)).trans (by rw [← e4 4 (by omega)])
    · exact (hSe 0 (by omega)).trans (by rw [← e2 0 (by omega)])
    · exact (hSe 1 (by omega)).trans (by rw [← e2 1 (by omega)])
    · exact (hSe 2 (by omega)).trans (by rw [← e2 2 (by omega)])
    · exact (hSe 3 (by omega)).trans (by rw [← e2 3 (by omega)])
theorem known_start {s : State} {args : Array Value} (hts : ∀ w ∈ lw_tbl, w.before args s = true) : ∃ (D : va_G) (cA : Nat → ClassId), va_K D mcl (mtys cA) s := by
  have htg : ∀ w ∈ lwG, w.before args s = true := fun w h => hts w (lwG_good h).1
  obtain ⟨c1, a1⟩ := arr_known (htg _ w_arrI) (fun _ => rfl)
  obtain ⟨c2, a2⟩ := arr_known (htg _ w_arrJ) (fun _ => rfl)
  obtain ⟨c3, a3⟩ := arr_known (htg _ w_arrB) (fun _ => rfl)
  obtain ⟨c4, a4⟩ := arr_known (htg _ w_arrZ) (fun _ => rfl)
  obtain ⟨c5, a5⟩ := arr_grid (hts _ w_over)
  have h0 : ∀ ci : Nat, ∃ q : ClassId × (Nat → Nat), ci < 13 → u_Kn s (mclD ci).1 (mclD ci).2.1 (mclD ci).2.2 q.1 q.2 := by
    intro ci
    by_cases hc : ci < 13
    · obtain ⟨cC, iS, h⟩ := u_known htg (mcl_in ci hc) (hts _ (List.mem_of_getElem? (lip_ok ci hc)))
      exact ⟨(cC, iS), fun _ => h⟩
    · exact ⟨(c1, fun _ => 0), fun h => absurd h hc⟩
  refine ⟨(fun ci => (Classical.choose (h0 ci)).1, fun ci => (Classical.choose (h0 ci)).2), fun k => if k = 1 then c1 else if k = 2 then c2 else if k = 3 then c3 else if k = 4 then c4 else c5, fun ci q hq => ?_, fun k q hk => ?_⟩
  · have hl := mcl_len ci q hq
    have e := mclD_of hq
    subst e
    exact Classical.choose_spec (h0 ci) hl
  · match k, hk with
    | 0, hk => cases hk; exact a1
    | 1, hk => cases hk; exact a2
    | 2, hk => cases hk; exact a3
    | 3, hk => cases hk; exact a4
    | 4, hk => cases hk; exact a5
    | k + 5, hk => simp [mtys] at hk
theorem wf_0 (L : Nat) (xs : Nat → Int32) : WF L xs (mm_0 L xs) := by
  refine ⟨Nat.zero_le _, fun a _ => ⟨rfl, rfl, rfl⟩, fun a _ h => ?_, fun a h => absurd h (Nat.not_lt_zero a)⟩
  show k0 L a = (0, 0)
  unfold k0
  rw [if_neg (by omega), if_neg (by omega), if_neg (by omega), if_neg (by omega)]
/-- the small machine's run of the law: what is left to show -/
def LawTrue : Prop := ∀ (L : Nat) (xs : Nat → Int32), L ≤ 5632 → ∃ σ : mm_M, ev 40 306 [.ref 1000000] (mm_0 L xs) = some (.inl (.int 1), σ) ∧ tt σ ≤ 601024 ∧ mS σ ≤ 7293034
def R_law : String := "DimpleWellsLaw"
def lw_P (b : Addr) (xs : List Int32) (args : Array Value) (s : State) : Prop := args = #[.ref b] ∧ s.IntsAt b xs ∧ xs.length ≤ 5632 ∧ gv1.before args s = true ∧ heapFits s = true
def lw_Q (_ : Array Value) (s : State) (o : Outcome) (t : State) : Prop := o = .returned (some (.int 1)) ∧ Framed s o t [] 601024 7293034
def lw_Z (below : List Frame) (a : Array Value) (s : State) : State → Prop := fun t => ∃ o, t.status = .running ∧ Ended t below o ∧ lw_Q a s o t
def lw_At (p : Program) (s : State) (m : MethodId) (meth : Method) (c : Code) (b L : Nat) (xs : Nat → Int32) : Prop :=
  p.tables.exec = Jvm.exec ∧ c.code = code ∧ meth.sig.returnType = ret ∧ c.maxLocals = 8 ∧ s.vm.findClass R_law = some m.cls ∧ (∀ w ∈ lw_tbl, w.before #[Value.ref b] s = true) ∧ va_X b L xs s s.heap ∧ b < s.heap.size ∧ meth.locks = false ∧ gv1.before #[Value.ref b] s = true ∧ heapFits s = true ∧ c.exceptionTable.toList = []
theorem whole_start {p : Program} {e : Env} {s : State} {m : MethodId} {below : List Frame} {meth : Method} {c : Code} (l : Launch) (hl : l.stackTraces = false) (hR : LawTrue) {b L : Nat} {xs : Nat → Int32} (hL : L ≤ 5632) (C0 : lw_At p s m meth c b L xs) : W p l e room_1 s m #[Value.ref b] below meth c s.heap [] 0 0 (lw_Z below #[Value.ref b] s) (entryFrame m ([Value.ref b] : List Value).toArray 8) := by
  obtain ⟨hx, hb, hr, hml, hown, hts, hX, hbl, hlocks, hgv, hfit, hxt⟩ := C0
  obtain ⟨sad, fv, hs0, hfv, hSt⟩ := stc_start hfit hts hX hbl hgv
  obtain ⟨D, cA, hK⟩ := known_start hts
  obtain ⟨σf, hev, hc, hsl⟩ := hR L xs hL
  obtain ⟨-, hrn⟩ := mm_G_some hev
  obtain ⟨n, hn⟩ := ((cn_rn _ _ _ _ _ _).2 _).mp hrn
  have F : CallFix p m c (yb 306) (mx 306) s #[Value.ref b] lwG (onm (yo 306)) := ⟨hx, hb, hml, hown, fun w hw => hts w (lwG_good hw).1⟩
  have key := snd_tail (l := l) (e := e) (meth := meth) (R := room_1) (below := below) (t0 := 0) (u0 := 0) (σf := σf) (r := .inl (.int 1)) (d := 40) (b0 := s.heap.size) (L := L) (xs := xs) (by omega) hl F hK hSt (Nat.le_refl _) (Nat.le_refl _) hfv (by show tt σf - 0 ≤ 601024; omega) (by show mS σf - 0 ≤ 7293034; omega) (by decide) (by decide) hlocks hr hxt (fun h => by cases h)
    (fun n d1 x as σ r1 τ _ hx hy hw hr h => ctr_all hl hfv d1 n x as σ r1 τ hx hy hw hr h) n 0 (ment 306 [.ref 1000000]) [] (mm_0 L xs) (wf_0 L xs) (Nat.zero_le _) (Nat.zero_le _) hn
  have e9 : ([.ref 1000000] : List Value).map (tr (mad s.heap.size sad) fv) = [.ref b] := by
    show [Value.ref (mad s.heap.size sad 1000000)] = _
    unfold mad
    rw [if_neg (by omega), hs0]
  have hLR := lr_entry (ad := mad s.heap.size sad) (nL := 8) (nl := ynl 306) (as := [.ref 1000000]) hfv (fun v hv => by cases List.mem_singleton.mp hv; rfl) (by decide)
  rw [e9] at hLR
  have hE := key.2.2 s.heap [] _ (fun k q h => by cases h) ⟨Nat.le_refl _, fun _ _ _ => rfl, fun _ h => nomatch h⟩ hLR
  rw [lg_entry_eq]
  intro T hT X
  obtain ⟨t, s1, o, b1, b2, b3⟩ := hE T hT X
  refine ⟨t, s1, o, b1, b2, ?_⟩
  rcases b3 with ⟨⟨ho, -, -⟩, L9, hF9, hL9⟩ | ⟨q, _, E, ce, L9, hx9, _⟩
  · refine ⟨ho, ⟨_, ho⟩, hF9.2.1, ?_⟩
    exact (State.sameButNew.drop_fresh (L := []) (J := L9) hF9.2.2 hL9).mono (by omega) (by omega)
  · exact hx9.elim
set_option maxHeartbeats 4000000 in
theorem lw_walk (l : Launch) (hl : l.stackTraces = false) (hR : LawTrue) (b : Addr) (xs : List Int32) : MetFree l x (headSpec (Jvm.Cond.code x code maxLocals ret :: tables_1) room_1) (lw_P b xs) (fun _ _ _ _ _ => True) lw_Q := by
  refine MetFree.of_bodyS (code := code) (maxLocals := maxLocals) (ret := ret) (by decide) ?_ ?_
  · intro args s m h hn
    obtain ⟨meth, c, h1, h2, h3, h4, h5, h6, -, -⟩ := Cond.code_spec hn (atoms_spec (ws := Jvm.Cond.code x code maxLocals ret :: tables_1) h _ List.mem_cons_self)
    exact ⟨meth, c, h1, h2, h3, h4, h5, h6⟩
  · intro p e s m args below meth c s₁ B hml0 hP _
    obtain ⟨rfl, hx, hbd, hgv, hfit⟩ := hP
    obtain ⟨scr, harrAt, hlist, hof, hsmall⟩ := hx
    obtain ⟨hcb, hkn, -, -⟩ := State.arrayAt?_spec harrAt
    have hown : s.vm.findClass R_law = some m.cls := findClass_of_methodNamed B.named
    have hts0 : ∀ c ∈ (Jvm.Cond.code x code maxLocals ret :: tables_1), c.before #[Value.ref b] s = true := atoms_spec (ws := Jvm.Cond.code x code maxLocals ret :: tables_1) B.pre
    have hts : ∀ w ∈ lw_tbl, w.before #[Value.ref b] s = true := k2_hts_sels lw_privs (fun w hw => hts0 w (List.mem_cons_of_mem _ hw)) lw_privs_ok
    have hml : c.maxLocals = 8 := B.maxLocals_eq (hts0 _ List.mem_cons_self)
    have X₀ : Stand p l e room_1 s m #[Value.ref b] below meth c s₁ [] 0 0 := Stand.of_body B
    have hxt : c.exceptionTable.toList = [] := by
      obtain ⟨meth9, c9, h1, h2, -, -, -, -, h7, -⟩ := Cond.code_spec B.named (hts0 _ List.mem_cons_self)
      cases Option.some.inj (h1.symm.trans B.method)
      cases Option.some.inj (h2.symm.trans X₀.code)
      rw [Array.isEmpty_iff.mp h7]
    have hh0 : s₁.heap = s.heap := by rw [B.state]; rfl
    have hsz : scr.slots.size = xs.length := by rw [← Array.length_toList, hlist, List.length_map]
    have hval : ∀ j : Nat, j < xs.length → scr.slots[j]? = some (.int (xs.getD j 0)) := fun j hj => by
      rw [← Array.getElem?_toList, hlist]
      simp [hj]
    have hbl : b < s.heap.size := (Array.getElem?_eq_some_iff.mp hcb).1
    have hX : va_X b xs.length (fun j => xs.getD j 0) s s.heap := ⟨scr, hcb, hof, hkn, hsz, hval⟩
    have K : W p l e room_1 s m #[Value.ref b] below meth c s₁.heap [] 0 0 (lw_Z below #[Value.ref b] s) (entryFrame m ([Value.ref b] : List Value).toArray 8) := by
      rw [hh0]
      exact whole_start l hl hR hbd ⟨B.exec, B.bytes, B.returns, hml, hown, hts, hX, hbl, B.notSynchronized, hgv, hfit, hxt⟩
    obtain ⟨t, a1, o, b1, b2, b3⟩ := K s₁ rfl X₀
    exact ⟨t, o, a1, b1, b2, b3⟩
theorem lw_pre_spec {args : Array Value} {s : State} (h : gv1.before args s = true) (hr : rest_1_c.before args s = true) (hfit : heapFits s = true) : ∃ (b : Addr) (xs : List Int32), lw_P b xs args s := by
  have hs := flat_of_before _ h
  have hq := flat_of_before _ hr
  have hc : (Cond.count 1).before args s = true := hs _ (by decide +kernel)
  have harr : (Cond.arrayOf (.arg 0) .int).before args s = true := hs _ (by decide +kernel)
  have hle : (Cond.le (.length (.arg 0)) (.int 5632)).before args s = true := hs _ (by decide +kernel)
  have hlen : (Cond.isInt (.length (.arg 0))).before args s = true := hq _ (by decide +kernel)
  have hall : (Cond.all (.arg 0) (.isInt (.elem (.arg 0) (.index 0)))).before args s = true := hq _ (by decide +kernel)
  obtain ⟨b, xs, hb, hx⟩ := State.ints_of_pre rfl harr hlen hall
  have hsm : xs.length < 2 ^ 31 := hx.choose_spec.2.2.2
  have hev : (Term.length (.arg 0)).eval args s none [] s = some (.int xs.length.toInt32) := hx.length_eval hb
  have hv := Cond.le_ints hev (show (Term.int 5632).eval args s none [] s = some (.int 5632) from rfl)
  have hd : xs.length.toInt32 ≤ 5632 := by
    simpa [Cond.before, Cond.holds, hv] using hle
  have hN : xs.length ≤ 5632 := (Int32.ofNat_le_ofNat hsm (by decide)).mp (show Int32.ofNat xs.length ≤ Int32.ofNat 5632 from hd)
  exact ⟨b, xs, Cond.one_arg hc (show args[0]? = some (.ref b) from hb), hx, hN, h, hfit⟩
theorem lw_comes (l : Launch) (hl : l.stackTraces = false) (hR : LawTrue) : Comes l x (Jvm.Cond.code x code maxLocals ret :: tables_1) room_1 (fun tb e args s => Calls_1 tb e args s ∧ rest_1 tb e args s ∧ Pre_1 tb e args s)
    (fun _ _ args s o t => lw_Q args s o t) := by
  intro p e ha hc hk s m args below hf hfit hheap happ hpre
  obtain ⟨b, xs, hP⟩ := lw_pre_spec hpre.2.2 hpre.2.1 hheap
  obtain ⟨k, o, h1, h2, h3, hQ⟩ := lw_walk l hl hR b xs p e ha hc hk s m args below hf ((Spec.applies_iff_loose hf).mp happ).1 hP trivial
  exact ⟨k, o, h1, h2, h3, hQ⟩
theorem lw_frame {s t : State} {o : Outcome} {args : Array Value} (h : Framed s o t [] 601024 7293034) :
    Framed s o t (fieldLocs frame_1_writes args s ++ arrayLocs frame_1_arrays args s ++ staticLocs frame_1_statics s) 601024 7293034 := h
theorem lw_limb (hR : LawTrue) (L : Cond) (hL : ∀ (args : Array Value) (s t : State), L.after args s (.returned (some (.int 1))) t = true) :
    ArmFor flags0 classFile x code maxLocals ret World_1 tables_1 room_1 Calls_1 rest_1 Pre_1
      (fun tb e a s o t => postC L tb e a s o t ∧ Framed s o t (fieldLocs frame_1_writes a s ++ arrayLocs frame_1_arrays a s ++ staticLocs frame_1_statics s) 601024 7293034) := by
  intro l hfl _ _ p e ha hc hk s m args below hf hfit hheap happ hpre
  have hl : l.stackTraces = false := by unfold Launch.stackTraces; rw [hfl]; decide
  obtain ⟨k, o, h1, h2, h3, rfl, hF⟩ := lw_comes l hl hR p e ha hc hk s m args below hf hfit hheap happ hpre
  exact ⟨k, _, h1, h2, h3, hL args s _, lw_frame hF⟩
theorem claim_of (hR : LawTrue) : Claimed_1_1 ∧ Claimed_1_2 := ⟨lw_limb hR limb_1_1 (fun args s t => by simp [limb_1_1, Cond.after, Cond.holds, Cond.value]), lw_limb hR limb_1_2 (fun args s t => Cond.after_iff.mpr (by
  first | (rw [show limb_1_2 = Cond.eq .result (.int 1) from rfl, Cond.eq_ints (x := 1) (y := 1) rfl rfl]; simp; done) | (simp [limb_1_2, Cond.value, Term.eval]; done)))⟩
