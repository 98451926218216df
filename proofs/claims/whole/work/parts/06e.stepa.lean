/-! each step of the small machine is a step of the real one: locals, the stack, numbers, branches -/
def WK (p : Program) (l : Launch) (e : Env) (R : Room) (s : State) (M : MethodId) (args : Array Value) (below : List Frame) (meth : Method) (c : Code) (Q : State → Prop) (D : va_G) (cA : Nat → ClassId) (b0 : Nat) (sad : Nat → Nat) (fv : Value) (m t0 u0 : Nat) (σf : mm_M) (pc : Nat) (ls st : List Value) (σ : mm_M) : Prop :=
  tt σ ≤ tt σf ∧ mS σ ≤ mS σf ∧ ∀ (H : Heap) (locs : List Loc) (lsR : Array Slot), va_P D mcl (wo cA (mad b0 sad) σ) H → va_S (mA0 b0) s.heap H locs → LR (mad b0 sad) fv (mx m) (ynl m) lsR ls →
    W p l e R s M args below meth c H locs (tt σ - t0) (mS σ - u0) Q (F0 M pc lsR (st.map (tr (mad b0 sad) fv)))
theorem dec_of {m pc : Nat} {i : Instr} {nx : Nat} {v : Int32} {x y z w : Nat} (h : chk m (pc, i, nx, v, x, y, z, w) = true) : ∃ ri len, decode (yb m) pc = .ok (ri, len) ∧ nrm ri = i ∧ pc + len = nx ∧ (iln ri = 0 ∨ len = iln ri) := by
  have h1 : chkD m (pc, i, nx, v, x, y, z, w) = true := (Bool.and_eq_true_iff.mp h).1
  unfold chkD at h1
  dsimp only at h1
  split at h1
  · rename_i q hq
    obtain ⟨ri, len⟩ := q
    simp only [Bool.and_eq_true, Bool.or_eq_true, decide_eq_true_eq] at h1
    exact ⟨ri, len, hq, h1.1.1, Nat.eq_of_beq_eq_true h1.1.2, h1.2.imp Nat.eq_of_beq_eq_true Nat.eq_of_beq_eq_true⟩
  · cases h1
theorem nbf {a b : Nat} (h : Nat.beq a b = false) : a ≠ b := fun e => by rw [e, Nat.beq_refl] at h; cases h
theorem lnk_of {m : Nat} {e : mm_E} (h : chk m e = true) : chkL m e = true := (Bool.and_eq_true_iff.mp h).2
def ntg (i : Instr) : Bool := match i with
  | .iload _ => true
  | .lload _ => true
  | .aload _ => true
  | .istore _ => true
  | .lstore _ => true
  | .astore _ => true
  | .iconst _ => true
  | .ldc _ => true
  | _ => false
theorem nrm_id {ri i : Instr} (h : nrm ri = i) (ht : ntg i = false) : ri = i := by
  subst h
  cases ri <;> first | rfl | (simp [nrm, ntg] at ht)
theorem dec1 {m pc : Nat} {i : Instr} {nx : Nat} {v : Int32} {x y z w : Nat} (h : chk m (pc, i, nx, v, x, y, z, w) = true) (ht : ntg i = false) (n : Nat) (hn : iln i = n + 1) : decode (yb m) pc = .ok (i, n + 1) ∧ nx = pc + (n + 1) := by
  obtain ⟨ri, len, h1, h2, h3, h4⟩ := dec_of h
  have := nrm_id h2 ht
  subst this
  rcases h4 with h4 | h4
  · omega
  · rw [hn] at h4
    subst h4
    exact ⟨h1, h3.symm⟩
theorem nrm_iload {ri : Instr} {j : Nat} (h : nrm ri = .iload j) : ri = .iload j ∨ ∃ k : Fin 4, ri = .iload_n k ∧ (k : Nat) = j := by
  cases ri <;> simp [nrm] at h ⊢ <;> exact h
theorem nrm_lload {ri : Instr} {j : Nat} (h : nrm ri = .lload j) : ri = .lload j ∨ ∃ k : Fin 4, ri = .lload_n k ∧ (k : Nat) = j := by
  cases ri <;> simp [nrm] at h ⊢ <;> exact h
theorem nrm_aload {ri : Instr} {j : Nat} (h : nrm ri = .aload j) : ri = .aload j ∨ ∃ k : Fin 4, ri = .aload_n k ∧ (k : Nat) = j := by
  cases ri <;> simp [nrm] at h ⊢ <;> exact h
theorem nrm_istore {ri : Instr} {j : Nat} (h : nrm ri = .istore j) : ri = .istore j ∨ ∃ k : Fin 4, ri = .istore_n k ∧ (k : Nat) = j := by
  cases ri <;> simp [nrm] at h ⊢ <;> exact h
theorem nrm_lstore {ri : Instr} {j : Nat} (h : nrm ri = .lstore j) : ri = .lstore j ∨ ∃ k : Fin 4, ri = .lstore_n k ∧ (k : Nat) = j := by
  cases ri <;> simp [nrm] at h ⊢ <;> exact h
theorem nrm_astore {ri : Instr} {j : Nat} (h : nrm ri = .astore j) : ri = .astore j ∨ ∃ k : Fin 4, ri = .astore_n k ∧ (k : Nat) = j := by
  cases ri <;> simp [nrm] at h ⊢ <;> exact h
theorem nrm_iconst {ri : Instr} {j : Int} (h : nrm ri = .iconst j) : ri = .iconst j ∨ ri = .bipush j ∨ ri = .sipush j := by
  cases ri <;> simp [nrm] at h ⊢ <;> exact h
theorem nrm_ldc {ri : Instr} {j : Nat} (h : nrm ri = .ldc j) : ri = .ldc j ∨ ri = .ldc_w j := by
  cases ri <;> simp [nrm] at h ⊢ <;> exact h
/-- constants are as wide as their instruction -/
def cki (e : mm_E) : Bool := match e.2.1 with
  | .iconst n => (decide (-128 ≤ n ∧ n < 128) || !Nat.beq e.2.2.1 (e.1 + 2)) && decide (-32768 ≤ n ∧ n < 32768)
  | _ => true
theorem cki_all : mcodes.all (fun l => l.all cki) = true := by decide +kernel
theorem cki_of {m pc : Nat} {e : mm_E} (h : mfind pc (mcode m) = some e) : cki e = true := by
  obtain ⟨h1, h2⟩ := mfind_mem _ _ _ h
  have hl : m < mcodes.length := by
    rcases Nat.lt_or_ge m mcodes.length with q | q
    · exact q
    · unfold mcode at h1
      rw [List.getD_eq_getElem?_getD, List.getElem?_eq_none q] at h1
      cases h1
  have hg : mcodes[m]? = some (mcode m) := by
    unfold mcode
    rw [List.getD_eq_getElem?_getD, List.getElem?_eq_getElem hl]; rfl
  exact List.all_eq_true.mp (List.all_eq_true.mp cki_all _ (List.mem_of_getElem? hg)) e h1
theorem w8 {n : Int} (h : -128 ≤ n ∧ n < 128) : (Int8.ofInt n).toInt32 = Int32.ofInt n := by
  apply Int32.toInt_inj.mp
  rw [Int8.toInt_toInt32, Int8.toInt_ofInt_of_le (by omega) (by omega), Int32.toInt_ofInt_of_le (by omega) (by omega)]
theorem w16 {n : Int} (h : -32768 ≤ n ∧ n < 32768) : (Int16.ofInt n).toInt32 = Int32.ofInt n := by
  apply Int32.toInt_inj.mp
  rw [Int16.toInt_toInt32, Int16.toInt_ofInt_of_le (by omega) (by omega), Int32.toInt_ofInt_of_le (by omega) (by omega)]
section SndA
variable {l : Launch} {p : Program} {e : Env} {R : Room} {s : State} {M : MethodId} {args : Array Value} {below : List Frame} {meth : Method} {c : Code} {Q : State → Prop} {D : va_G} {cA : Nat → ClassId} {b0 : Nat} {sad : Nat → Nat} {fv : Value} {L : Nat} {xs : Nat → Int32} {m t0 u0 : Nat} {σf : mm_M}
theorem WK_step {pc nx : Nat} {ls ls' st st' : List Value} {σ : mm_M} (k : WK p l e R s M args below meth c Q D cA b0 sad fv m t0 u0 σf nx ls' st' σ)
    (h : ∀ (H : Heap) (locs : List Loc) (lsR : Array Slot), va_S (mA0 b0) s.heap H locs → LR (mad b0 sad) fv (mx m) (ynl m) lsR ls → (∀ lsR', LR (mad b0 sad) fv (mx m) (ynl m) lsR' ls' → W p l e R s M args below meth c H locs (tt σ - t0) (mS σ - u0) Q (F0 M nx lsR' (st'.map (tr (mad b0 sad) fv)))) → W p l e R s M args below meth c H locs (tt σ - t0) (mS σ - u0) Q (F0 M pc lsR (st.map (tr (mad b0 sad) fv)))) : WK p l e R s M args below meth c Q D cA b0 sad fv m t0 u0 σf pc ls st σ :=
  ⟨k.1, k.2.1, fun H locs lsR hP hS hL => h H locs lsR hS hL fun lsR' hL' => k.2.2 H locs lsR' hP hS hL'⟩
theorem s_iconst {pc nx x y z w : Nat} {n : Int} {v : Int32} {ls st : List Value} {σ : mm_M} (F : CallFix p M c (yb m) (mx m) s args lwG (onm (yo m))) (hc : chk m (pc, .iconst n, nx, v, x, y, z, w) = true) (hi : cki (pc, .iconst n, nx, v, x, y, z, w) = true) (k : WK p l e R s M args below meth c Q D cA b0 sad fv m t0 u0 σf nx ls (.int v :: st) σ) : WK p l e R s M args below meth c Q D cA b0 sad fv m t0 u0 σf pc ls st σ := by
  obtain ⟨ri, len, h1, h2, h3, h4⟩ := dec_of hc
  have hv : Int32.ofInt n = v := by simpa [chkL] using lnk_of hc
  subst h3
  simp only [cki, Bool.and_eq_true, Bool.or_eq_true, decide_eq_true_eq] at hi
  rcases nrm_iconst h2 with rfl | rfl | rfl
  · rcases h4 with h4 | rfl
    · cases h4
    · exact WK_step k fun H locs lsR hS hL kk => lv_iconst F.1 F.2.1 h1 hv (kk lsR hL)
  · rcases h4 with h4 | rfl
    · cases h4
    · exact WK_step k fun H locs lsR hS hL kk => lv_bipush F.1 F.2.1 h1 ((w8 (hi.1.resolve_right (by simp [iln]))).trans hv) (kk lsR hL)
  · rcases h4 with h4 | rfl
    · cases h4
    · exact WK_step k fun H locs lsR hS hL kk => lv_sipush F.1 F.2.1 h1 ((w16 hi.2).trans hv) (kk lsR hL)
theorem lr_at {nL : Nat} {nl : Bool} {ad : Nat → Nat} {lsR : Array Slot} {ls : List Value} (hL : LR ad fv nL nl lsR ls) {j : Nat} {v : Value} (h : ld ls j = v) (hv : ∀ q, v ≠ .retAddr q) : lsR[j]? = some (.val (tr ad fv v)) := by
  refine hL.2.2.2.1 j v ?_ hv
  unfold ld at h
  rw [List.getD_eq_getElem?_getD] at h
  cases hj : ls[j]? with
  | none => rw [hj] at h; exact absurd h.symm (hv 0)
  | some u => rw [hj] at h; exact congrArg some h
theorem s_iload {pc nx x y z w j : Nat} {v a : Int32} {ls st : List Value} {σ : mm_M} (F : CallFix p M c (yb m) (mx m) s args lwG (onm (yo m))) (hc : chk m (pc, .iload j, nx, v, x, y, z, w) = true) (ha : ld ls j = .int a) (k : WK p l e R s M args below meth c Q D cA b0 sad fv m t0 u0 σf nx ls (.int a :: st) σ) : WK p l e R s M args below meth c Q D cA b0 sad fv m t0 u0 σf pc ls st σ := by
  obtain ⟨ri, len, h1, h2, h3, h4⟩ := dec_of hc
  subst h3
  rcases nrm_iload h2 with rfl | ⟨f, rfl, hf⟩
  · rcases h4 with h4 | rfl
    · cases h4
    · exact WK_step k fun H locs lsR hS hL kk => lv_iload F.1 F.2.1 h1 (lr_at hL ha (fun q h => by cases h)) (kk lsR hL)
  · rcases h4 with h4 | rfl
    · cases h4
    · exact WK_step k fun H locs lsR hS hL kk => lv_iload_n F.1 F.2.1 h1 hf (lr_at hL ha (fun q h => by cases h)) (kk lsR hL)
theorem s_lload {pc nx x y z w j : Nat} {v : Int32} {a : Int64} {ls st : List Value} {σ : mm_M} (F : CallFix p M c (yb m) (mx m) s args lwG (onm (yo m))) (hc : chk m (pc, .lload j, nx, v, x, y, z, w) = true) (ha : ld ls j = .long a) (k : WK p l e R s M args below meth c Q D cA b0 sad fv m t0 u0 σf nx ls (.long a :: st) σ) : WK p l e R s M args below meth c Q D cA b0 sad fv m t0 u0 σf pc ls st σ := by
  obtain ⟨ri, len, h1, h2, h3, h4⟩ := dec_of hc
  subst h3
  rcases nrm_lload h2 with rfl | ⟨f, rfl, hf⟩
  · rcases h4 with h4 | rfl
    · cases h4
    · refine WK_step k fun H locs lsR hS hL kk => ?_
      have h0 := lr_at hL ha (fun q h => by cases h)
      exact lv_lload F.1 F.2.1 h1 h0 (kk lsR hL)
  · rcases h4 with h4 | rfl
    · cases h4
    · refine WK_step k fun H locs lsR hS hL kk => ?_
      have h0 := lr_at hL ha (fun q h => by cases h)
      exact lv_lload_n F.1 F.2.1 h1 hf h0 (kk lsR hL)
theorem s_aload {pc nx x y z w j a : Nat} {v : Int32} {ls st : List Value} {σ : mm_M} (F : CallFix p M c (yb m) (mx m) s args lwG (onm (yo m))) (hc : chk m (pc, .aload j, nx, v, x, y, z, w) = true) (ha : ld ls j = .ref a) (k : WK p l e R s M args below meth c Q D cA b0 sad fv m t0 u0 σf nx ls (.ref a :: st) σ) : WK p l e R s M args below meth c Q D cA b0 sad fv m t0 u0 σf pc ls st σ := by
  obtain ⟨ri, len, h1, h2, h3, h4⟩ := dec_of hc
  subst h3
  rcases nrm_aload h2 with rfl | ⟨f, rfl, hf⟩
  · rcases h4 with h4 | rfl
    · cases h4
    · exact WK_step k fun H locs lsR hS hL kk => lv_aload F.1 F.2.1 h1 (lr_at hL ha (fun q h => by cases h)) (kk lsR hL)
  · rcases h4 with h4 | rfl
    · cases h4
    · exact WK_step k fun H locs lsR hS hL kk => lv_aload_n F.1 F.2.1 h1 hf (lr_at hL ha (fun q h => by cases h)) (kk lsR hL)
def als (ad : Nat → Nat) (fv : Value) (ls : List Value) : List (Nat × Value) := (List.range ls.length).filterMap fun i => (ls[i]?).bind fun u => match u with
  | .retAddr _ => none
  | u => some (i, tr ad fv u)
theorem als_mem {ad : Nat → Nat} {fv : Value} {ls : List Value} {q : Nat × Value} : q ∈ als ad fv ls ↔ ∃ u, ls[q.1]? = some u ∧ (∀ a, u ≠ .retAddr a) ∧ q.2 = tr ad fv u := by
  unfold als
  rw [List.mem_filterMap]
  constructor
  · rintro ⟨i, hi, h⟩
    cases hu : ls[i]? with
    | none => rw [hu] at h; cases h
    | some u =>
      rw [hu, Option.bind_some] at h
      cases u <;> first | (cases h; exact ⟨_, hu, (fun a e => by cases e), rfl⟩) | (cases h)
  · rintro ⟨u, hu, hr, hq⟩
    refine ⟨q.1, List.mem_range.mpr (List.getElem?_eq_some_iff.mp hu).1, ?_⟩
    rw [hu, Option.bind_some]
    obtain ⟨i, w⟩ := q
    dsimp only at hq ⊢
    subst hq
    cases u <;> first | rfl | exact absurd rfl (hr _)
theorem lr_has {ad : Nat → Nat} {nL : Nat} {nl : Bool} {lsR : Array Slot} {ls : List Value} (hL : LR ad fv nL nl lsR ls) : lv_has lsR nL (als ad fv ls) := by
  refine ⟨hL.2.1, hL.2.2.1, fun q hq => ?_⟩
  obtain ⟨u, h1, h2, h3⟩ := als_mem.mp hq
  rw [h3]
  exact hL.2.2.2.1 q.1 u h1 h2
theorem tr_cat {ad : Nat → Nat} {fv u : Value} (h : ∀ a, u ≠ .retAddr a) : (tr ad fv u).category = u.category := by
  cases u <;> first | rfl | exact absurd rfl (h _)
theorem kill_at {ls : List Value} {j i : Nat} {u : Value} (h : (kill ls j)[i]? = some u) (hr : ∀ a, u ≠ .retAddr a) : ls[i]? = some u ∧ (i + 1 = j → ∀ a, u ≠ .long a) := by
  unfold kill at h
  split at h
  · exact ⟨h, fun e => by omega⟩
  · rename_i k
    split at h
    · rename_i a ha
      by_cases hik : i = k
      · subst hik
        rw [List.getElem?_set] at h
        simp only [if_true] at h
        split at h
        · cases h; exact absurd rfl (hr 0)
        · cases h
      · rw [List.getElem?_set_ne (fun q => hik q.symm)] at h
        exact ⟨h, fun e => absurd (by omega : i = k) hik⟩
    · rename_i hn
      refine ⟨h, fun e a ea => ?_⟩
      have : i = k := by omega
      subst this
      rw [List.getD_eq_getElem?_getD, h] at hn
      exact hn a ea
theorem kill_len (ls : List Value) (j : Nat) : (kill ls j).length = ls.length := by
  unfold kill
  split
  · rfl
  · split
    · rw [List.length_set]
    · rfl
theorem kill_mem {ls : List Value} {j : Nat} {u : Value} (h : u ∈ kill ls j) : u ∈ ls ∨ u = uv := by
  unfold kill at h
  split at h
  · exact Or.inl h
  · split at h
    · exact List.mem_or_eq_of_mem_set h
    · exact Or.inl h
theorem lr_store {ad : Nat → Nat} {nL : Nat} {nl : Bool} {lsR lsR' : Array Slot} {ls : List Value} {j z : Nat} {v : Value} (hL : LR ad fv nL nl lsR ls) (hj : j < nL) (hz : nl = true ∨ z ≠ 0) (hv : v.category = 1)
    (h : lv_has lsR' nL ((j, tr ad fv v) :: (als ad fv ls).filter (fun q => !(q.1 == j) && !(q.1 + 1 == j && q.2.category == 2)))) : LR ad fv nL nl lsR' (sto z ls j v) := by
  obtain ⟨h1, h2, h3, h4, h5⟩ := hL
  obtain ⟨g1, g2, g3⟩ := h
  have hd : ∀ b, v ≠ .double b := fun b e => by rw [e] at hv; cases hv
  have old : ∀ (i : Nat) (u : Value), i ≠ j → ls[i]? = some u → (∀ a, u ≠ .retAddr a) → (nl = true ∨ (i + 1 = j → ∀ a, u ≠ .long a)) → lsR'[i]? = some (.val (tr ad fv u)) := by
    intro i u hi hu hr hc
    refine g3 (i, tr ad fv u) (List.mem_cons_of_mem _ (List.mem_filter.mpr ⟨als_mem.mpr ⟨u, hu, hr, rfl⟩, ?_⟩))
    have hm := h5 u (List.mem_of_getElem? hu)
    simp only [Bool.and_eq_true, Bool.not_eq_true', beq_eq_false_iff_ne, ne_eq, Bool.and_eq_false_iff]
    refine ⟨hi, ?_⟩
    by_cases hij : i + 1 = j
    · right
      rw [tr_cat hr]
      rcases hc with hc | hc
      · rw [hm.2 hc]; decide
      · cases u with
        | long a => exact absurd rfl (hc hij a)
        | double b => exact absurd rfl (hm.1 b)
        | _ => simp [Value.category]
    · left; exact hij
  have lens : ∀ w : List Value, w.length = nL → (w.set j v).length = nL := fun w hw => by rw [List.length_set]; exact hw
  have mems : ∀ (w : List Value) (u : Value), (∀ u ∈ w, (∀ b, u ≠ .double b) ∧ (nl = true → u.category = 1)) → u ∈ w.set j v → (∀ b, u ≠ .double b) ∧ (nl = true → u.category = 1) := by
    intro w u hw hu
    rcases List.mem_or_eq_of_mem_set hu with q | q
    · exact hw u q
    · rw [q]; exact ⟨hd, fun _ => hv⟩
  cases z with
  | zero =>
    have hn : nl = true := hz.resolve_right (fun q => q rfl)
    refine ⟨lens _ h1, g1, g2, fun i u hu hr => ?_, fun u hu => mems _ u h5 hu⟩
    by_cases hi : i = j
    · subst hi
      have hu' : (ls.set i v)[i]? = some u := hu
      rw [List.getElem?_set_self (by omega)] at hu'
      cases hu'
      exact g3 _ List.mem_cons_self
    · have hu' : (ls.set j v)[i]? = some u := hu
      rw [List.getElem?_set_ne (fun q => hi q.symm)] at hu'
      exact old i u hi hu' hr (Or.inl hn)
  | succ z =>
    refine ⟨lens _ (by rw [kill_len]; exact h1), g1, g2, fun i u hu hr => ?_, fun u hu => mems _ u ?_ hu⟩
    · by_cases hi : i = j
      · subst hi
        have hu' : ((kill ls i).set i v)[i]? = some u := hu
        rw [List.getElem?_set_self (by rw [kill_len]; omega)] at hu'
        cases hu'
        exact g3 _ List.mem_cons_self
      · have hu' : ((kill ls j).set j v)[i]? = some u := hu
        rw [List.getElem?_set_ne (fun q => hi q.symm)] at hu'
        obtain ⟨k1, k2⟩ := kill_at hu' hr
        exact old i u hi k1 hr (Or.inr k2)
    · intro u hu
      rcases kill_mem hu with q | q
      · exact h5 u q
      · rw [q]; exact ⟨fun b e => (by cases e), fun _ => rfl⟩
theorem lr_store2 {ad : Nat → Nat} {nL : Nat} {nl : Bool} {lsR lsR' : Array Slot} {ls : List Value} {j : Nat} {v : Int64} (hL : LR ad fv nL nl lsR ls) (hj : j + 1 < nL) (hz : nl = false)
    (h : lv_has lsR' nL ((j, .long v) :: (als ad fv ls).filter (fun q => !(q.1 == j) && (!(q.1 == j + 1) && !(q.1 + 1 == j && q.2.category == 2))))) : LR ad fv nL nl lsR' (sto2 ls j v) := by
  obtain ⟨h1, h2, h3, h4, h5⟩ := hL
  obtain ⟨g1, g2, g3⟩ := h
  subst hz
  unfold sto2
  refine ⟨by rw [List.length_set, List.length_set, kill_len]; exact h1, g1, g2, fun i u hu hr => ?_, fun u hu => ⟨?_, fun e => by cases e⟩⟩
  · by_cases hi1 : i = j + 1
    · subst hi1
      rw [List.getElem?_set_self (by rw [List.length_set, kill_len]; omega)] at hu
      cases hu
      exact absurd rfl (hr 0)
    · rw [List.getElem?_set_ne (fun q => hi1 q.symm)] at hu
      by_cases hi : i = j
      · subst hi
        rw [List.getElem?_set_self (by rw [kill_len]; omega)] at hu
        cases hu
        exact g3 _ List.mem_cons_self
      · rw [List.getElem?_set_ne (fun q => hi q.symm)] at hu
        obtain ⟨k1, k2⟩ := kill_at hu hr
        refine g3 (i, tr ad fv u) (List.mem_cons_of_mem _ (List.mem_filter.mpr ⟨als_mem.mpr ⟨u, k1, hr, rfl⟩, ?_⟩))
        have hm := h5 u (List.mem_of_getElem? k1)
        simp only [Bool.and_eq_true, Bool.not_eq_true', beq_eq_false_iff_ne, ne_eq, Bool.and_eq_false_iff]
        refine ⟨hi, hi1, ?_⟩
        by_cases hij : i + 1 = j
        · right
          rw [tr_cat hr]
          cases u with
          | long a => exact absurd rfl (k2 hij a)
          | double b => exact absurd rfl (hm.1 b)
          | _ => simp [Value.category]
        · left; exact hij
  · intro b e
    subst e
    rcases List.mem_or_eq_of_mem_set hu with q | q
    · rcases List.mem_or_eq_of_mem_set q with q | q
      · rcases kill_mem q with q | q
        · exact (h5 _ q).1 b rfl
        · cases q
      · cases q
    · cases q
theorem s_istore {pc nx x y z w j : Nat} {v a : Int32} {ls t : List Value} {σ : mm_M} (F : CallFix p M c (yb m) (mx m) s args lwG (onm (yo m))) (hc : chk m (pc, .istore j, nx, v, x, y, z, w) = true) (k : WK p l e R s M args below meth c Q D cA b0 sad fv m t0 u0 σf nx (sto z ls j (.int a)) t σ) : WK p l e R s M args below meth c Q D cA b0 sad fv m t0 u0 σf pc ls (.int a :: t) σ := by
  obtain ⟨ri, len, h1, h2, h3, h4⟩ := dec_of hc
  have hl : j < mx m ∧ (ynl m = true ∨ z ≠ 0) := by
    have := lnk_of hc
    simp only [chkL, Bool.and_eq_true, Bool.or_eq_true, Nat.blt_eq, Bool.not_eq_true'] at this
    exact ⟨this.1, this.2.imp id nbf⟩
  subst h3
  rcases nrm_istore h2 with rfl | ⟨f, rfl, hf⟩
  · rcases h4 with h4 | rfl
    · cases h4
    · exact WK_step k fun H locs lsR hS hL kk => lv_istore F.1 F.2.1 h1 (lr_has hL) hl.1 rfl (fun ls' h => kk ls' (lr_store hL hl.1 hl.2 rfl h))
  · rcases h4 with h4 | rfl
    · cases h4
    · exact WK_step k fun H locs lsR hS hL kk => lv_istore_n F.1 F.2.1 h1 hf (lr_has hL) hl.1 rfl (fun ls' h => kk ls' (lr_store hL hl.1 hl.2 rfl h))
theorem s_astore {pc nx x y z w j a : Nat} {v : Int32} {ls t : List Value} {σ : mm_M} (F : CallFix p M c (yb m) (mx m) s args lwG (onm (yo m))) (hc : chk m (pc, .astore j, nx, v, x, y, z, w) = true) (k : WK p l e R s M args below meth c Q D cA b0 sad fv m t0 u0 σf nx (sto z ls j (.ref a)) t σ) : WK p l e R s M args below meth c Q D cA b0 sad fv m t0 u0 σf pc ls (.ref a :: t) σ := by
  obtain ⟨ri, len, h1, h2, h3, h4⟩ := dec_of hc
  have hl : j < mx m ∧ (ynl m = true ∨ z ≠ 0) := by
    have := lnk_of hc
    simp only [chkL, Bool.and_eq_true, Bool.or_eq_true, Nat.blt_eq, Bool.not_eq_true'] at this
    exact ⟨this.1, this.2.imp id nbf⟩
  subst h3
  rcases nrm_astore h2 with rfl | ⟨f, rfl, hf⟩
  · rcases h4 with h4 | rfl
    · cases h4
    · exact WK_step k fun H locs lsR hS hL kk => lv_astore F.1 F.2.1 h1 (lr_has hL) hl.1 rfl (fun ls' h => kk ls' (lr_store (v := .ref a) hL hl.1 hl.2 rfl h))
  · rcases h4 with h4 | rfl
    · cases h4
    · exact WK_step k fun H locs lsR hS hL kk => lv_astore_n F.1 F.2.1 h1 hf (lr_has hL) hl.1 rfl (fun ls' h => kk ls' (lr_store (v := .ref a) hL hl.1 hl.2 rfl h))
theorem s_iinc {pc nx x y z w j : Nat} {n : Int} {v a : Int32} {ls t : List Value} {σ : mm_M} (F : CallFix p M c (yb m) (mx m) s args lwG (onm (yo m))) (hc : chk m (pc, .iinc j n, nx, v, x, y, z, w) = true) (ha : ld ls j = .int a) (k : WK p l e R s M args below meth c Q D cA b0 sad fv m t0 u0 σf nx (sto z ls j (.int (a + v))) t σ) : WK p l e R s M args below meth c Q D cA b0 sad fv m t0 u0 σf pc ls t σ := by
  obtain ⟨hd, rfl⟩ := dec1 hc rfl 2 rfl
  have hl : (j < mx m ∧ (ynl m = true ∨ z ≠ 0)) ∧ Int32.ofInt n = v := by
    have := lnk_of hc
    simp only [chkL, Bool.and_eq_true, Bool.or_eq_true, Nat.blt_eq, Bool.not_eq_true', decide_eq_true_eq] at this
    exact ⟨⟨this.1.1, this.1.2.imp id nbf⟩, this.2⟩
  refine WK_step k fun H locs lsR hS hL kk => ?_
  have hj : (j, Value.int a) ∈ als (mad b0 sad) fv ls := als_mem.mpr ⟨.int a, by
    unfold ld at ha
    rw [List.getD_eq_getElem?_getD] at ha
    cases hj : ls[j]? with
    | none => rw [hj] at ha; cases ha
    | some u => rw [hj] at ha; exact congrArg some ha, fun q e => (by cases e), rfl⟩
  obtain ⟨i, hi⟩ := List.getElem?_of_mem hj
  exact lv_iinc F.1 F.2.1 hd (lr_has hL) hi (by rw [hl.2]) hl.1.1 rfl (fun ls' h => kk ls' (lr_store (v := .int (a + v)) hL hl.1.1 hl.1.2 rfl h))
end SndA
