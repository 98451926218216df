/-! an exception whose constructor names its class above by an index of its own (the library's law without traces has a fixed one) -/
def mx_atX (own : String) (ic : Nat) (X : String) (ix : Nat) (rx : ByteArray) (names : List String) : List Cond := (Bundle.ownAtomsX own ic X ix rx names).filter vx_no
/-- the method that an object of the class takes -/
theorem mx_sel {l : Launch} {e : Env} {s : State} {args : Array Value} {cls : String} {y : MethodName} {ci : ClassId} {t : MethodId} (ha : l.admits e) (hw : (Cond.selects cls y y).before args s = true) (hc : s.vm.findClass cls = some ci) (hn : s.methodNamed? y = some t)
    (hy : y.cls ≠ "java/lang/invoke/MethodHandle" ∧ y.cls ≠ "java/lang/invoke/VarHandle") : selectMethod e.platform s.vm ci t = .method t := by
  obtain ⟨k, r, z, h1, h2, h3, h4, -⟩ := Cond.selects_spec (first := s) (o := none) (idx := []) hw
  have g1 := h1.symm.trans hc
  have g2 := h2.symm.trans (State.methodFound?_of_named hn hy)
  have g3 := h3.symm.trans hn
  injection g1 with g1
  injection g2 with g2
  injection g3 with g3
  subst g1 g2 g3
  rw [Launch.admits_selectMethod ha]
  exact h4
section Xctor
variable {p : Program} {l : Launch} {e : Env} {R : Room} {s : State} {m : MethodId} {args : Array Value} {below : List Frame} {meth : Method} {c : Code} {T : State} {cells slots : Nat}
set_option maxHeartbeats 1000000 in
/-- the constructor's call and the throw behind it -/
theorem mx_ctorX (X : Stand p l e R s m args below meth c T [] cells slots) (hexec : p.tables.exec = Jvm.exec) (htr : e.platform.stackTraces = false) {own cls : String} {names : List String} {ic ix : Nat} {rx : ByteArray}
    (x0 : decode rx 0 = .ok (.aload_n 0, 1)) (x1 : decode rx 1 = .ok (.aload_n 1, 1)) (x2 : decode rx 2 = .ok (.invokespecial ix, 3)) (x5 : decode rx 5 = .ok (.return_, 1))
    (hown : s.vm.findClass own = some m.cls) (hcls : Bundle.fit cls = true) (hnames : ∀ n ∈ names, Bundle.fit n = true) (h : ∀ w ∈ Bundle.ownAtomsX own ic cls ix rx names, w.before args s = true)
    {q : Addr} {ci : ClassId} {k : Class} (hci : s.vm.findClass cls = some ci) (hk : s.vm.classes[ci]? = some k) (hq : T.heap[q]? = some (freshCell ci k)) (hqn : s.heap.size ≤ q) {sa : Nat}
    {g : JFrame} (hg : g.method = m) (hsz : g.locals.size = c.maxLocals) (hgl : g.locked = none) (hge : g.entered = []) {rest : List Value} (hst : g.stack = .ref sa :: .ref q :: .ref q :: rest)
    (d1 : decode c.code g.pc = .ok (.invokespecial ic, 3)) (d2 : decode c.code (g.pc + 3) = .ok (.athrow, 1)) (hout : ∀ x ∈ c.exceptionTable.toList, covers x (g.pc + 3) = false)
    (hRf : names.length + 3 < R.frames) (hRl : 2 * g.monitorRoom + ((Value.ref q :: rest).map fun v => v.category).sum + (13 * (names.length + 1) + 42) ≤ R.locals) (hlk : meth.locks = false) :
    ∃ U : State, Steps p.tables e below (T.setTop g) U ∧ U.status = .running ∧ Ended U below (.threw q) ∧ s.WarmedH U.vm ∧ s.sameButNew ({ U with vm := s.vm } : State) [] cells slots ∧ ∃ ce, U.heap[q]? = some ce ∧ ce.vm = .none ∧ s.vm.findClass cls = some ce.cls := by
  have pl := X.admits.platform
  have hm : e.platform.magicAccessors = ({} : Platform).magicAccessors := by rw [pl]
  have wd : ∀ {w : Cond}, w ∈ Bundle.ownAtomsX own ic cls ix rx names → w.before args s = true := fun hw => h _ hw
  -- the class above all, and the chain down to ours
  obtain ⟨A, B0, LA, -, TA⟩ := ThrowableC.of_atoms (args := args) (by rw [pl]) (by rw [pl]) hm (fun w hw => wd (by simp [Bundle.ownAtomsX, hw]))
  obtain ⟨B, G, LB, LG, nB⟩ := Init0T.ofS_atoms (args := args) hm LA TA (fun w hw => wd (by simp [Bundle.ownAtomsX, hw]))
  obtain ⟨P, Ps, len, LP, LPs, nP, on1, on2⟩ := Bundle.chainSX (args := args) hm nB x0 x1 x2 x5 names cls hcls hnames (fun w hw => wd (by simp [Bundle.ownAtomsX, hw]))
  have eci : P.m.cls = ci := Option.some.inj ((findClass_of_methodNamed nP).symm.trans hci)
  obtain ⟨ci', k', i1, i2, ord, -, -, -⟩ := Cond.instantiable_spec (first := s) (o := none) (idx := []) (wd (w := .instantiable cls 6) (by simp [Bundle.ownAtomsX]))
  have eci' := Option.some.inj (hci.symm.trans i1)
  subst eci'
  have ek := Option.some.inj (hk.symm.trans i2)
  subst ek
  -- the two statics of the class above
  obtain ⟨sc, sc1, sc2⟩ := TA.statics
  obtain ⟨u, hu⟩ := Cond.staticRefV (first := s) (o := none) (idx := []) TA.unassigned LA.unassignedStatic LA.statics sc1 sc2 (wd (w := .isRef (.static Bundle.tN "UNASSIGNED_STACK" Bundle.steD)) (by simp [Bundle.ownAtomsX]))
  obtain ⟨v, hv⟩ := Cond.staticRefV (first := s) (o := none) (idx := []) TA.sentinel LA.sentinelStatic LA.statics sc1 sc2 (wd (w := .isRef (.static Bundle.tN "SUPPRESSED_SENTINEL" Bundle.listD)) (by simp [Bundle.ownAtomsX]))
  obtain ⟨sc', sc3, sc4, -, sc5⟩ := X.same.2.2.2.2.2 A.aS sc sc1
  have sc3 : T.heap[A.aS]? = some sc' := sc3
  have sc6 : sc'.vm ≠ .unknown := fun hz => by rw [sc4] at hz; rw [show sc.vm = .unknown from hz] at sc2; cases sc2
  have sc7 : A.aS ≠ q := by have := (Array.getElem?_eq_some_iff.mp sc1).1; intro hz; rw [hz] at this; omega
  have keep : ∀ j, sc'.slots[j]? = sc.slots[j]? := fun j => sc5 j (fun hz => nomatch hz)
  -- where our object holds the fields of the class above
  obtain ⟨j1, j2, fb, b1, b2, b3, b4, -, b5, b6, b7⟩ := Cond.ownField (first := s) (o := none) (idx := []) (t := .object "java/lang/Object") TA.found LA.cls (by decide +kernel) (wd (w := .fieldLink Bundle.tN 198 Bundle.tN "backtrace" "Ljava/lang/Object;") (by simp [Bundle.ownAtomsX])) (wd (w := .lays Bundle.tN Bundle.tN "backtrace" "Ljava/lang/Object;") (by simp [Bundle.ownAtomsX])) e.platform hm
  obtain ⟨jm, fm⟩ := TA.msg
  have lay : ∀ {nm ds : String} {r : Nat × Class × Nat × Field}, Cond.lays cls Bundle.tN nm ds ∈ Bundle.ownAtomsX own ic cls ix rx names → s.fieldFound? Bundle.tN nm ds = some r → _ := fun {nm ds r} hw hf => Cond.laysAt (first := s) (o := none) (idx := []) (c' := r.1) (k' := r.2.1) (i := r.2.2.1) (f := r.2.2.2) hci hk hf (wd hw)
  obtain ⟨c1, cd, c2, c3⟩ := lay (by simp [Bundle.ownAtomsX]) TA.cause
  obtain ⟨t1, td, t2, t3⟩ := lay (by simp [Bundle.ownAtomsX]) TA.stack
  obtain ⟨p1, pd, p2, p3⟩ := lay (by simp [Bundle.ownAtomsX]) TA.supp
  obtain ⟨m1, -, -, -⟩ := lay (by simp [Bundle.ownAtomsX]) fm
  obtain ⟨a1, ad, a2, a3⟩ := lay (by simp [Bundle.ownAtomsX]) b7
  have e1 : fb.slot ≠ A.fCause.slot := Cond.laysApart a2 c2 a3 c3 (by rw [b5, TA.causeName]; decide)
  have e2 : fb.slot ≠ A.fStack.slot := Cond.laysApart a2 t2 a3 t3 (by rw [b5, TA.stackName]; decide)
  have e3 : fb.slot ≠ A.fSupp.slot := Cond.laysApart a2 p2 a3 p3 (by rw [b5, TA.suppName]; decide)
  have skip : SkipFacts A e.platform s (fun z => z) u ((preparedCellV A.toThrowableT (freshCell ci k) q u v).withEntry T.cur) := by
    refine ⟨{ ci198 := j1, i198 := j2, fBack := fb }, ⟨b1, b2, b3, b4⟩, ?_, fun _ _ => rfl⟩
    have z := fresh_default (c := ci) a1
    rw [show fb.type = .object "java/lang/Object" from b6] at z
    simpa [preparedCellV, Cell.setSlot, Cell.withEntry, Array.getElem?_setIfInBounds, e1, e2, e3, e1.symm, e2.symm, e3.symm, defaultValue] using z
  -- the call
  obtain ⟨tm, -, -, -, vm1, n1, -, -, -, -, -, -, -, w1, st1⟩ := Steps.initColdS (tb := p.tables) (e := e) (below := below) (s := s) (U := T) X.here hexec X.warmed hm hown (t := Bundle.initS cls) rfl rfl (Bundle.fit_spec hcls).2
    (wd (w := .methodLink own ic (Bundle.initS cls)) (by simp [Bundle.ownAtomsX])) (wd (w := .instanceMethod (Bundle.initS cls)) (by cases names <;> simp [Bundle.ownAtomsX, Bundle.chainSAtomsX, Bundle.passSAtoms])) (bytes := rx) (maxL := 2)
    (wd (w := .code (Bundle.initS cls) rx 2 none) (by cases names <;> simp [Bundle.ownAtomsX, Bundle.chainSAtomsX, Bundle.passSAtoms])) (f := g) hg (a := q) (msg := .ref sa) (rest := .ref q :: rest) hst d1
  have etm := Option.some.inj (n1.symm.trans nP)
  subst etm
  obtain ⟨vm2, Y, st2⟩ := (X.noted w1).ctorMessageOffV hexec (g := { g with stack := .ref q :: rest }) hg hsz A LA B LB G LG (P :: Ps) (fun Z hZ => (List.mem_cons.mp hZ).elim (fun hz => by rw [hz]; exact LP) (LPs Z)) ⟨on1, on2⟩ (u0 := u) (sen := v) (self := q) (msg := .ref sa) rfl (cell := freshCell ci k) (cellS := sc')
    hq (fun _ => by simp) (by simp) rfl rfl (mx_sel X.admits (wd (w := .selects cls Bundle.tFill0 Bundle.tFill0) (by simp [Bundle.ownAtomsX])) hci TA.fill0 (by decide)) (mx_sel X.admits (wd (w := .selects cls Bundle.tFill Bundle.tFill) (by simp [Bundle.ownAtomsX])) hci TA.fill (by decide))
    sc3 sc7 sc6 ((keep _).trans hu) ((keep _).trans hv) (Takes.of_laid hk ord c1 (by rw [TA.causeType]; rfl)) (Takes.of_laid hk ord t1 (by rw [TA.stackType]; exact fits_refV_array _ u)) (Takes.of_laid hk ord p1 (by rw [TA.suppType]; exact fits_refV_object _ v))
    (Takes.of_laid hk ord m1 (by rw [TA.msgType]; exact fits_refV_object _ ⟨.ref sa, rfl⟩)) TA.objLocals skip htr [] d1 (by simp only [List.length_cons, len]; omega) (by simp only [List.length_cons, len]; exact hRl)
  -- the throw
  obtain ⟨g1, g2, g3, g4, g5⟩ := Y.athrowLeaves hexec (g := { g with stack := .ref q :: rest, pc := g.pc + 3 }) hg hgl hge hout (a := q) (rest := rest) rfl d2 hlk
  have hlt : q < ((T.setVm vm1).setVm vm2).heap.size := (Array.getElem?_eq_some_iff.mp hq).1
  refine ⟨_, st1 _ (fun acts => ?_), g2, g3, g4, g5.weaken (fun z hz hzl => ?_) (Nat.le_refl _) (Nat.le_refl _), _, heapAt_setCell_self (s := (T.setVm vm1).setVm vm2) (plainBareV A.toThrowableT (freshCell ci k) q u v (.ref sa)) hlt, rfl, hci⟩
  · rw [doInvoke_state]
    exact st2 _ g1
  · exfalso
    have hzq : z.base = q := by
      simp only [List.nil_append, List.mem_cons, List.not_mem_nil, or_false] at hz
      rcases hz with hz | hz | hz | hz | hz <;> rw [hz]
    rw [hzq] at hzl
    exact absurd hzl (Nat.not_lt.mpr hqn)
end Xctor
section Ends2
variable {p : Program} {l : Launch} {e : Env} {R : Room} {s : State} {m : MethodId} {args : Array Value} {below : List Frame} {meth : Method} {c : Code} {H : Heap} {locs : List Loc} {cells slots : Nat} {Q : State → Prop}
variable {mc ms : Nat} {free : Addr → Prop} {A0 A1 : Nat → Prop} {H0 : Heap} {a : Array Value} {ls : Array Slot} {st0 rest : List Value}
variable {Qc : Array Value → State → Outcome → State → Prop} {XC : String → State → State → Prop}
/-- as the printed row vx_throwSW, over mx_ctorX -/
theorem mx_throwX {cc : ByteArray} {pc : Nat} (hexec : p.tables.exec = Jvm.exec) (hb : c.code = cc) (hl : l.stackTraces = false) {own cls text : String} {names : List String} {ik is ic ix mc ms sa : Nat} {A : Nat → Prop} {rx : ByteArray} (x0 : decode rx 0 = .ok (.aload_n 0, 1)) (x1 : decode rx 1 = .ok (.aload_n 1, 1)) (x2 : decode rx 2 = .ok (.invokespecial ix, 3)) (x5 : decode rx 5 = .ok (.return_, 1))
    (hown : s.vm.findClass own = some m.cls) (hcls : Bundle.fit cls = true) (hnames : ∀ n ∈ names, Bundle.fit n = true)
    (hk : (Cond.classLink own ik cls).before args s = true) (hini : (Cond.initialized cls).before args s = true) (hstr : vk_R own is text sa s) (hat : ∀ w ∈ mx_atX own ic cls ix rx names, w.before args s = true)
    (hgood : ∀ w ∈ Cond.classLink own ik cls :: Cond.initialized cls :: mx_atX own ic cls ix rx names, vx_ot w = true)
    (hU : vx_Zq Bundle.tN "UNASSIGNED_STACK" Bundle.steD A s s.heap) (hN : vx_Zq Bundle.tN "SUPPRESSED_SENTINEL" Bundle.listD A s s.heap) (hS : va_S A s.heap H locs) (hsize : ls.size = c.maxLocals)
    (d0 : decode cc pc = .ok (.new ik, 3)) (d3 : decode cc (pc + 3) = .ok (.dup, 1)) (d4 : decode cc (pc + 4) = .ok (.ldc_w is, 3)) (d7 : decode cc (pc + 7) = .ok (.invokespecial ic, 3)) (d10 : decode cc (pc + 10) = .ok (.athrow, 1))
    (hout : ∀ x ∈ c.exceptionTable.toList, covers x (pc + 10) = false)
    (hRframes : names.length + 3 < R.frames) (hRlocals : (rest.map fun v => v.category).sum + (13 * (names.length + 1) + 43) ≤ R.locals) (hRcells : cells + 1 ≤ R.cells) (hRslots : slots + 6 ≤ R.slots) (hlocks : meth.locks = false)
    (hx : ∀ t : State, s.vm.Alike t.vm → H.size ≤ t.heap.size → (∀ q : Nat, q < H.size → t.heap[q]? = H[q]?) → XC cls s t)
    (hf : ∀ z ∈ locs, free z.base) (hc : cells + 1 ≤ mc) (hs : slots + 6 ≤ ms) :
    W p l e R s m args below meth c H locs cells slots (vx_MQ below Qc XC args s mc ms free) (F0 m pc ls rest) := by
  intro T hT X
  have htr : e.platform.stackTraces = false := (show e.platform.stackTraces = l.stackTraces by rw [X.admits.platform]).trans hl
  have Y := vx_rebase X (R' := { frames := R.frames, locals := R.locals, cells := 1, slots := 6 }) (Nat.le_refl _) (Nat.le_refl _) hRcells hRslots
  obtain ⟨s', hA⟩ : ∃ z, z = (T.setVm s.vm).setFrames (.invoking m args :: below) := ⟨_, rfl⟩
  rw [← hA] at Y
  have hvm : s'.vm = s.vm := by rw [hA]; rfl
  have hhp : s'.heap = H := by rw [hA]; exact hT
  have hW0 : s.WarmedH s'.vm := by rw [hvm]; exact State.WarmedH.refl s
  have hat' : ∀ w ∈ mx_atX own ic cls ix rx names, w.before args s' = true := fun w hw => vx_ot_at hW0 hvm.symm (hgood w (List.mem_cons_of_mem _ (List.mem_cons_of_mem _ hw))) (hat w hw)
  have hk' : (Cond.classLink own ik cls).before args s' = true := vx_ot_at hW0 hvm.symm (hgood _ List.mem_cons_self) hk
  have hini' : (Cond.initialized cls).before args s' = true := vx_ot_at hW0 hvm.symm (hgood _ (List.mem_cons_of_mem _ List.mem_cons_self)) hini
  have hU' : vx_Zq Bundle.tN "UNASSIGNED_STACK" Bundle.steD A s' s'.heap := by rw [hhp]; exact vx_Zq.moved hW0.alike (hU.kept hS.2.1)
  have hN' : vx_Zq Bundle.tN "SUPPRESSED_SENTINEL" Bundle.listD A s' s'.heap := by rw [hhp]; exact vx_Zq.moved hW0.alike (hN.kept hS.2.1)
  have h : ∀ w ∈ Bundle.ownAtomsX own ic cls ix rx names, w.before args s' = true := vx_own hat' (vx_isRefq hU'.1) (vx_isRefq hN'.1) hU'.2.word hN'.2.word
  have hown' : s'.vm.findClass own = some m.cls := by rw [hvm]; exact hown
  have hins : (Cond.instantiable cls 6).before args s' = true := h _ (by simp [Bundle.ownAtomsX])
  obtain ⟨vm₁, cX, kX, hfX, hkX, -, -, X₁, st1⟩ := Y.newCold hexec (own := own) (C := cls) (index := ik) (n := 6) hown' hk' hins hini'
    (g := F0 m pc ls rest) rfl (by rw [hb]; exact d0) (Nat.le_refl _) (Nat.le_refl _)
  generalize hT1 : (T.setVm vm₁).pushCell { cls := cX, slots := kX.instanceTypes.map defaultValue, vm := .none } = T1 at X₁ st1
  have hcat : (Value.ref T.heap.size).category = 1 := rfl
  have hcellA : T1.heap[T.heap.size]? = some (freshCell cX kX) := by rw [← hT1]; exact State.heap_pushCell_size _ _
  have d3' : decode c.code (pc + 3) = .ok (.dup, 1) := by rw [hb]; exact d3
  have d4' : decode c.code (pc + 4) = .ok (.ldc_w is, 3) := by rw [hb]; exact d4
  have hstr' : vk_R own is text sa s' := vk_R.warm hW0 hstr
  obtain ⟨U, hsteps, hrun, hend, hW, hsame, ce, hce, hO1, hO2⟩ := mx_ctorX X₁ hexec htr x0 x1 x2 x5 (own := own) (cls := cls) (names := names) (ic := ic) hown' hcls hnames h hfX hkX hcellA (by rw [hhp, hT]; exact Nat.le_refl _) (sa := sa)
    (g := { method := m, pc := pc + 7, locals := ls, stack := .ref sa :: .ref T.heap.size :: .ref T.heap.size :: rest, locked := none }) rfl hsize rfl rfl (rest := rest) rfl
    (by rw [hb]; exact d7) (by rw [hb]; exact d10) hout hRframes (by simp only [List.map_cons, List.sum_cons, hcat]; omega) hlocks
  obtain ⟨f1, f2⟩ := vx_frame hsame
  rw [hhp] at f1 f2
  have hWs : s.WarmedH U.vm := State.WarmedH.trans hW0 hW
  have hcl : s.vm.findClass cls = some ce.cls := by
    have h9 := hO2
    rw [hvm] at h9
    exact h9
  have hall : s.sameButNew ({ U with vm := s.vm } : State) locs mc ms := by
    subst hA
    obtain ⟨e1, e2⟩ := hsame
    rw [State.setFrames_setFrames] at e1
    have h2 : (T.setVm s.vm).sameButNew ({ U with vm := s.vm } : State) [] (0 + 1) (0 + 6) := ⟨e1, e2⟩
    have h3 := X.same.trans h2
    rw [List.append_nil] at h3
    exact h3.mono hc hs
  refine ⟨U, ?_, .threw T.heap.size, hrun, hend, Or.inr ⟨T.heap.size, rfl, cls, ce, locs, hx U hWs.alike f1 (fun q hq => f2 q hq (fun z hz => nomatch hz)), hce, hO1, hcl, hWs, hall, hf⟩⟩
  refine st1 _ ?_
  show Steps p.tables e below (T1.setTop { method := m, pc := pc + 3, locals := ls, stack := .ref T.heap.size :: rest, locked := none }) _
  jvm_step X₁.here [X₁.here.top, hexec, d3', Value.category]
  exact X₁.ldcStringW hexec (own := own) (text := text) (index := is) (a := sa) hown' hstr'.1 hstr'.2
    (g := { method := m, pc := pc + 4, locals := ls, stack := .ref T.heap.size :: .ref T.heap.size :: rest, locked := none }) rfl d4' _ hsteps
end Ends2
