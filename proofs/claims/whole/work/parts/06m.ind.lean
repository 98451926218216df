/-! the induction: every run of the small machine is one of the real machine -/
theorem mm_G_some {X : Option mm_R} {b : Bool} {q : mm_R} (h : mm_G X b = some q) : b = true ∧ X = some q := by
  cases b with
  | true => exact ⟨rfl, h⟩
  | false => cases h
theorem go_run {L : Nat} {xs : Nat → Int32} : ∀ (n d m pc : Nat) (ls st : List Value) (σ : mm_M) (q : mm_R), WF L xs σ → mm_run n d m pc ls st σ = some q → GO L xs σ q.2
  | 0, _, _, _, _, _, _, _, _, h => by cases h
  | n + 1, d, m, pc, ls, st, σ, q, hw, h => by
    rw [mm_run_succ] at h
    unfold mm_one at h
    split at h
    · cases h
    · rename_i e hfd
      refine wf_step hfd hw (fun pc ls st σ hw h => go_run n d m pc ls st σ q hw h) (fun pc ls st σ hw h => go_run n d m pc ls st σ q hw h) ?_ h
      intro x as σ1 r τ hw1 h1
      cases d with
      | zero => cases h1
      | succ d => exact go_run n d x 0 (ment x as) [] σ1 (r, τ) hw1 (mm_G_some h1).2
theorem plain_all : ∀ m, m < 307 → plainFor (yn m) = true := by decide +kernel
theorem mx_his {m : Nat} {rm : Room} {args : Array Value} {s : State} {M : MethodId} (h : (headSpec (codeC m :: lwG) rm).pre.before args s = true) (hn : s.methodNamed? (yn m) = some M) :
    ∃ meth c, s.vm.method? M = some meth ∧ meth.code = some c ∧ c.code = yb m ∧ c.maxLocals = mx m ∧ meth.sig.returnType = yr m ∧ meth.locks = false ∧ c.exceptionTable.toList = tableOf (yh m) := by
  have hw := atoms_spec (ws := codeC m :: lwG) h (codeC m) List.mem_cons_self
  cases hy : yh m with
  | nil =>
    rw [codeC_nil hy] at hw
    obtain ⟨meth, c, h1, h2, h3, h4, h5, h6, h7, -⟩ := Cond.code_spec hn hw
    exact ⟨meth, c, h1, h2, h3, h4, h5, h6, by rw [Array.isEmpty_iff.mp h7]; rfl⟩
  | cons q t =>
    rw [codeC_cons hy] at hw
    obtain ⟨M9, meth, c, hn9, h1, h2, h3, h4, h7, h5, h6, -⟩ := Cond.codeWith_spec hw
    cases Option.some.inj (hn9.symm.trans hn)
    exact ⟨meth, c, h1, h2, h3, h4, h5, h6, by rw [← h7, table_eq]⟩
/-- a contract out of a body's walk -/
theorem mx_of {l : Launch} {m : Nat} {rm : Room} {Pc : Array Value → State → Prop} {Qc : Array Value → State → Outcome → State → Prop} {XC : String → State → State → Prop} {mc ms : Nat} {free : Addr → Prop} (hm : m < 307)
    (body : ∀ p e s M args below meth c s₁, BodyLoose p l (yn m) (headSpec (codeC m :: lwG) rm) (yb m) (mx m) (yr m) e s M args below meth c s₁ → c.maxLocals = mx m → c.exceptionTable.toList = tableOf (yh m) → Pc args s →
      W p l e (headSpec (codeC m :: lwG) rm).room s M args below meth c s.heap [] 0 0 (vx_MQ below Qc XC args s mc ms free) (entryFrame M args (mx m))) : vx_Met l (yn m) (codeC m :: lwG) rm Pc Qc XC mc ms free := by
  refine MetFree.of_bodySF (code := yb m) (maxLocals := mx m) (ret := yr m) (plain_all m hm) ?_ ?_
  · intro args s M h hn
    obtain ⟨meth, c, h1, h2, h3, h4, h5, h6, -⟩ := mx_his h hn
    exact ⟨meth, c, h1, h2, h3, h4, h5, h6⟩
  · intro p e s M args below meth c s₁ B hml hP _
    have hh0 : s₁.heap = s.heap := by rw [B.state]; rfl
    have ht : c.exceptionTable.toList = tableOf (yh m) := by
      obtain ⟨meth9, c9, h1, h2, -, -, -, -, h7⟩ := mx_his B.pre B.named
      cases Option.some.inj (h1.symm.trans B.method)
      cases Option.some.inj (h2.symm.trans (Stand.of_body B).code)
      exact h7
    obtain ⟨t, a1, o, b1, b2, b3⟩ := body p e s M args below meth c s₁ B hml ht hP s₁ hh0 (Stand.of_body B)
    exact ⟨t, o, a1, b1, b2, b3⟩
/-- the locals at a method's entry -/
theorem cat_ok {ad : Nat → Nat} {fv v : Value} (hfv : fv.category = 1) (h : okv v = true) : (tr ad fv v).category = 1 ∧ v.category = 1 ∧ ∀ b, v ≠ .double b := by
  cases v <;> first | exact ⟨rfl, rfl, fun _ h => by cases h⟩ | exact ⟨hfv, rfl, fun _ h => by cases h⟩ | cases h
theorem sl_one : ∀ (vs : List Value), (∀ v ∈ vs, v.category = 1) → lg_sl vs = vs.map Slot.val
  | [], _ => rfl
  | v :: t, h => by
    have h1 : v.category = 1 := h v List.mem_cons_self
    have h2 := sl_one t (fun u hu => h u (List.mem_cons_of_mem _ hu))
    unfold lg_sl at h2 ⊢
    rw [List.flatMap_cons, h2, if_neg (by omega)]
    rfl
theorem lr_entry {ad : Nat → Nat} {fv : Value} {nL : Nat} {nl : Bool} {as : List Value} (hfv : fv.category = 1) (hok : ∀ v ∈ as, okv v = true) (hn : as.length ≤ nL) :
    LR ad fv nL nl (lg_sl (as.map (tr ad fv)) ++ List.replicate (nL - (lg_sl (as.map (tr ad fv))).length) Slot.unset).toArray (as ++ List.replicate (nL - as.length) uv) := by
  have hc : ∀ v ∈ as.map (tr ad fv), v.category = 1 := by
    intro v hv
    obtain ⟨u, hu, rfl⟩ := List.mem_map.mp hv
    exact (cat_ok hfv (hok u hu)).1
  rw [sl_one _ hc]
  simp only [List.length_map]
  have key : ∀ (i : Nat) (x : Slot), ((as.map (tr ad fv)).map Slot.val ++ List.replicate (nL - as.length) Slot.unset).toArray[i]? = some x → (∃ v ∈ as, x = .val (tr ad fv v)) ∨ x = .unset := by
    intro i x hx
    rw [List.getElem?_toArray] at hx
    rcases List.mem_append.mp (List.mem_of_getElem? hx) with h | h
    · obtain ⟨u, hu, rfl⟩ := List.mem_map.mp h
      obtain ⟨w, hw, rfl⟩ := List.mem_map.mp hu
      exact Or.inl ⟨w, hw, rfl⟩
    · exact Or.inr (List.eq_of_mem_replicate h)
  refine ⟨by rw [List.length_append, List.length_replicate]; omega, by simp; omega, ⟨?_, ?_⟩, ?_, ?_⟩
  · intro i v hv h2
    rcases key i _ hv with ⟨u, hu, e⟩ | e
    · cases e
      have := (cat_ok (ad := ad) hfv (hok u hu)).1
      omega
    · cases e
  · intro i hi
    rcases key i _ hi with ⟨u, hu, e⟩ | e <;> cases e
  · intro i v hv hne
    rw [List.getElem?_toArray]
    rcases Nat.lt_or_ge i as.length with hi | hi
    · rw [List.getElem?_append_left hi] at hv
      rw [List.getElem?_append_left (by simpa using hi), List.getElem?_map, List.getElem?_map, hv]
      rfl
    · rw [List.getElem?_append_right hi] at hv
      have := List.eq_of_mem_replicate (List.mem_of_getElem? hv)
      exact absurd this (hne 0)
  · intro v hv
    rcases List.mem_append.mp hv with h | h
    · exact ⟨(cat_ok (ad := ad) hfv (hok v h)).2.2, fun _ => (cat_ok (ad := ad) hfv (hok v h)).2.1⟩
    · rw [List.eq_of_mem_replicate h]
      exact ⟨fun b e => (by cases e), fun _ => rfl⟩
/-- a run's tail, in a body -/
theorem snd_tail {l : Launch} {p : Program} {e : Env} {R : Room} {s : State} {M : MethodId} {args : Array Value} {below : List Frame} {meth : Method} {c : Code} {D : va_G} {cA : Nat → ClassId} {b0 : Nat} {sad : Nat → Nat} {fv : Value} {L : Nat} {xs : Nat → Int32} {m t0 u0 : Nat} {σf : mm_M} {r : Value ⊕ Nat} {d : Nat}
    (hm : m < 307) (hl : l.stackTraces = false) (F : CallFix p M c (yb m) (mx m) s args lwG (onm (yo m))) (hK : va_K D mcl (mtys cA) s) (hSt : Stc sad fv L xs b0 s s.heap) (hz1 : b0 ≤ s.heap.size) (hz2 : s.heap.size ≤ b0 + t0) (hfv : fv.category = 1) (hRc : tt σf - t0 ≤ R.cells) (hRs : mS σf - u0 ≤ R.slots) (hfr : d + 8 ≤ R.frames) (hrl : 60 * d + 200 ≤ R.locals)
    (hlk : meth.locks = false) (hret : meth.sig.returnType = yr m) (hxt : c.exceptionTable.toList = tableOf (yh m)) (hnm : yk m = 1 → meth.name = "<init>")
    (kC : ∀ n d1 x as σ r1 τ, d1 < d → x < 306 → as.length ≤ mx x → WF L xs σ → rokb x as σ = true → mm_run n d1 x 0 (ment x as) [] σ = some (r1, τ) → Ctr l D cA b0 sad fv L xs d1 x as σ r1 τ) :
    ∀ (n pc : Nat) (ls st : List Value) (σ : mm_M), WF L xs σ → t0 ≤ tt σ → u0 ≤ mS σ → mm_run n d m pc ls st σ = some (r, σf) → WK p l e R s M args below meth c (QQ below D cA b0 sad r σf args s t0 u0) D cA b0 sad fv m t0 u0 σf pc ls st σ
  | 0, _, _, _, _, _, _, _, h => by cases h
  | n + 1, pc, ls, st, σ, hw, ht, hu, h => by
    rw [mm_run_succ] at h
    unfold mm_one at h
    split at h
    · cases h
    · rename_i e9 hfd
      have ih := snd_tail (e := e) (below := below) (r := r) hm hl F hK hSt hz1 hz2 hfv hRc hRs hfr hrl hlk hret hxt hnm kC n
      refine snd_step hm hl F hK hSt hz1 hz2 hfv hRc hRs (by omega) (by omega) hlk hret hxt hnm ih ih ?_ hfd hw ht hu h
      intro x as σ1 r1 τ hx5 hy5 hw1 h1
      cases d with
      | zero => cases h1
      | succ d =>
        obtain ⟨g1, g2⟩ := mm_G_some h1
        exact ⟨go_run n d x 0 (ment x as) [] σ1 (r1, τ) hw1 g2, g1, d, by omega, by omega, kC n d x as σ1 r1 τ (Nat.lt_succ_self d) hx5 hy5 hw1 g1 g2⟩
/-- every run of a method is its contract -/
theorem ctr_all {l : Launch} {D : va_G} {cA : Nat → ClassId} {b0 : Nat} {sad : Nat → Nat} {fv : Value} {L : Nat} {xs : Nat → Int32} (hl : l.stackTraces = false) (hfv : fv.category = 1) :
    ∀ (d n m : Nat) (as : List Value) (σ : mm_M) (r : Value ⊕ Nat) (τ : mm_M), m < 306 → as.length ≤ mx m → WF L xs σ → rokb m as σ = true → mm_run n d m 0 (ment m as) [] σ = some (r, τ) → Ctr l D cA b0 sad fv L xs d m as σ r τ := by
  intro d
  induction d using Nat.strongRecOn with
  | ind d ih =>
    intro n m as σ r τ hm hlen hw hrok h
    have em : ment m as = as ++ List.replicate (mx m - as.length) uv := by unfold ment; rw [mmx_all m (by omega)]
    unfold Ctr
    refine mx_of (by omega) ?_
    intro p e s M args below meth c s₁ B hml hxt hP
    obtain ⟨rfl, hP1, hz1, hz2, hK, hSt⟩ := hP
    have F : CallFix p M c (yb m) (mx m) s (as.map (tr (mad b0 sad) fv)).toArray lwG (onm (yo m)) := ⟨B.exec, B.bytes, hml, by rw [← (ckn_all m (by omega)).2.2.2.2.2.2]; exact findClass_of_methodNamed B.named, fun w hw => atoms_spec (ws := codeC m :: lwG) B.pre w (List.mem_cons_of_mem _ hw)⟩
    have key := snd_tail (e := e) (R := rmd d σ τ) (below := below) (t0 := tt σ) (u0 := mS σ) (σf := τ) (r := r) (d := d) (by omega) hl F hK hSt hz1 hz2 hfv (Nat.le_refl _) (Nat.le_refl _) (Nat.le_refl _) (Nat.le_refl _) B.notSynchronized B.returns hxt
      (fun hk => (name_of_methodNamed B.named B.method).1.trans ((ckn_all m (by omega)).2.2.2.2.2.1 hk)) (fun n d1 x as σ r1 τ hd hx hy hw hr h => ih d1 hd n x as σ r1 τ hx hy hw hr h) n 0 (ment m as) [] σ hw (Nat.le_refl _) (Nat.le_refl _) h
    rw [em] at key
    have hE := key.2.2 s.heap [] _ hP1 ⟨Nat.le_refl _, fun _ _ _ => rfl, fun _ h => nomatch h⟩ (lr_entry hfv (rok_ok hrok) hlen)
    rw [Nat.sub_self, Nat.sub_self] at hE
    rw [lg_entry_eq]
    exact hE
