/-! numbers, branches, switches -/
section SndB
variable {l : Launch} {p : Program} {e : Env} {R : Room} {s : State} {M : MethodId} {args : Array Value} {below : List Frame} {meth : Method} {c : Code} {Q : State → Prop} {D : va_G} {cA : Nat → ClassId} {b0 : Nat} {sad : Nat → Nat} {fv : Value} {L : Nat} {xs : Nat → Int32} {m t0 u0 : Nat} {σf : mm_M}
theorem s_iadd {pc nx x y z w : Nat} {v : Int32} {a b : Int32} {ls t : List Value} {σ : mm_M} (F : CallFix p M c (yb m) (mx m) s args lwG (onm (yo m))) (hc : chk m (pc, .iadd, nx, v, x, y, z, w) = true) (k : WK p l e R s M args below meth c Q D cA b0 sad fv m t0 u0 σf nx ls (.int (a + b) :: t) σ) : WK p l e R s M args below meth c Q D cA b0 sad fv m t0 u0 σf pc ls (.int b :: .int a :: t) σ := by
  obtain ⟨hd, rfl⟩ := dec1 hc rfl 0 rfl
  exact WK_step k fun H locs lsR hS hL kk => lv_iadd F.1 F.2.1 hd (kk lsR hL)
theorem s_isub {pc nx x y z w : Nat} {v : Int32} {a b : Int32} {ls t : List Value} {σ : mm_M} (F : CallFix p M c (yb m) (mx m) s args lwG (onm (yo m))) (hc : chk m (pc, .isub, nx, v, x, y, z, w) = true) (k : WK p l e R s M args below meth c Q D cA b0 sad fv m t0 u0 σf nx ls (.int (a - b) :: t) σ) : WK p l e R s M args below meth c Q D cA b0 sad fv m t0 u0 σf pc ls (.int b :: .int a :: t) σ := by
  obtain ⟨hd, rfl⟩ := dec1 hc rfl 0 rfl
  exact WK_step k fun H locs lsR hS hL kk => lv_isub F.1 F.2.1 hd (kk lsR hL)
theorem s_imul {pc nx x y z w : Nat} {v : Int32} {a b : Int32} {ls t : List Value} {σ : mm_M} (F : CallFix p M c (yb m) (mx m) s args lwG (onm (yo m))) (hc : chk m (pc, .imul, nx, v, x, y, z, w) = true) (k : WK p l e R s M args below meth c Q D cA b0 sad fv m t0 u0 σf nx ls (.int (a * b) :: t) σ) : WK p l e R s M args below meth c Q D cA b0 sad fv m t0 u0 σf pc ls (.int b :: .int a :: t) σ := by
  obtain ⟨hd, rfl⟩ := dec1 hc rfl 0 rfl
  exact WK_step k fun H locs lsR hS hL kk => lv_imul F.1 F.2.1 hd (kk lsR hL)
theorem s_iand {pc nx x y z w : Nat} {v : Int32} {a b : Int32} {ls t : List Value} {σ : mm_M} (F : CallFix p M c (yb m) (mx m) s args lwG (onm (yo m))) (hc : chk m (pc, .iand, nx, v, x, y, z, w) = true) (k : WK p l e R s M args below meth c Q D cA b0 sad fv m t0 u0 σf nx ls (.int (a &&& b) :: t) σ) : WK p l e R s M args below meth c Q D cA b0 sad fv m t0 u0 σf pc ls (.int b :: .int a :: t) σ := by
  obtain ⟨hd, rfl⟩ := dec1 hc rfl 0 rfl
  exact WK_step k fun H locs lsR hS hL kk => lv_iand F.1 F.2.1 hd (kk lsR hL)
theorem s_ior {pc nx x y z w : Nat} {v : Int32} {a b : Int32} {ls t : List Value} {σ : mm_M} (F : CallFix p M c (yb m) (mx m) s args lwG (onm (yo m))) (hc : chk m (pc, .ior, nx, v, x, y, z, w) = true) (k : WK p l e R s M args below meth c Q D cA b0 sad fv m t0 u0 σf nx ls (.int (a ||| b) :: t) σ) : WK p l e R s M args below meth c Q D cA b0 sad fv m t0 u0 σf pc ls (.int b :: .int a :: t) σ := by
  obtain ⟨hd, rfl⟩ := dec1 hc rfl 0 rfl
  exact WK_step k fun H locs lsR hS hL kk => lv_ior F.1 F.2.1 hd (kk lsR hL)
theorem s_ixor {pc nx x y z w : Nat} {v : Int32} {a b : Int32} {ls t : List Value} {σ : mm_M} (F : CallFix p M c (yb m) (mx m) s args lwG (onm (yo m))) (hc : chk m (pc, .ixor, nx, v, x, y, z, w) = true) (k : WK p l e R s M args below meth c Q D cA b0 sad fv m t0 u0 σf nx ls (.int (a ^^^ b) :: t) σ) : WK p l e R s M args below meth c Q D cA b0 sad fv m t0 u0 σf pc ls (.int b :: .int a :: t) σ := by
  obtain ⟨hd, rfl⟩ := dec1 hc rfl 0 rfl
  exact WK_step k fun H locs lsR hS hL kk => lv_ixor F.1 F.2.1 hd (kk lsR hL)
theorem s_ishl {pc nx x y z w : Nat} {v : Int32} {a b : Int32} {ls t : List Value} {σ : mm_M} (F : CallFix p M c (yb m) (mx m) s args lwG (onm (yo m))) (hc : chk m (pc, .ishl, nx, v, x, y, z, w) = true) (k : WK p l e R s M args below meth c Q D cA b0 sad fv m t0 u0 σf nx ls (.int (a <<< (b &&& 31)) :: t) σ) : WK p l e R s M args below meth c Q D cA b0 sad fv m t0 u0 σf pc ls (.int b :: .int a :: t) σ := by
  obtain ⟨hd, rfl⟩ := dec1 hc rfl 0 rfl
  exact WK_step k fun H locs lsR hS hL kk => lv_ishl F.1 F.2.1 hd (kk lsR hL)
theorem s_ishr {pc nx x y z w : Nat} {v : Int32} {a b : Int32} {ls t : List Value} {σ : mm_M} (F : CallFix p M c (yb m) (mx m) s args lwG (onm (yo m))) (hc : chk m (pc, .ishr, nx, v, x, y, z, w) = true) (k : WK p l e R s M args below meth c Q D cA b0 sad fv m t0 u0 σf nx ls (.int (a >>> (b &&& 31)) :: t) σ) : WK p l e R s M args below meth c Q D cA b0 sad fv m t0 u0 σf pc ls (.int b :: .int a :: t) σ := by
  obtain ⟨hd, rfl⟩ := dec1 hc rfl 0 rfl
  exact WK_step k fun H locs lsR hS hL kk => lv_ishr F.1 F.2.1 hd (kk lsR hL)
theorem s_iushr {pc nx x y z w : Nat} {v : Int32} {a b : Int32} {ls t : List Value} {σ : mm_M} (F : CallFix p M c (yb m) (mx m) s args lwG (onm (yo m))) (hc : chk m (pc, .iushr, nx, v, x, y, z, w) = true) (k : WK p l e R s M args below meth c Q D cA b0 sad fv m t0 u0 σf nx ls (.int (a.toUInt32 >>> (b.toUInt32 &&& Int32.toUInt32 31)).toInt32 :: t) σ) : WK p l e R s M args below meth c Q D cA b0 sad fv m t0 u0 σf pc ls (.int b :: .int a :: t) σ := by
  obtain ⟨hd, rfl⟩ := dec1 hc rfl 0 rfl
  exact WK_step k fun H locs lsR hS hL kk => lv_iushr F.1 F.2.1 hd rfl (kk lsR hL)
theorem s_idiv {pc nx x y z w : Nat} {v : Int32} {a b : Int32} (hb0 : ¬ b = 0) {ls t : List Value} {σ : mm_M} (F : CallFix p M c (yb m) (mx m) s args lwG (onm (yo m))) (hc : chk m (pc, .idiv, nx, v, x, y, z, w) = true) (k : WK p l e R s M args below meth c Q D cA b0 sad fv m t0 u0 σf nx ls (.int (a / b) :: t) σ) : WK p l e R s M args below meth c Q D cA b0 sad fv m t0 u0 σf pc ls (.int b :: .int a :: t) σ := by
  obtain ⟨hd, rfl⟩ := dec1 hc rfl 0 rfl
  exact WK_step k fun H locs lsR hS hL kk => lv_idiv F.1 F.2.1 hd hb0 (kk lsR hL)
theorem s_irem {pc nx x y z w : Nat} {v : Int32} {a b : Int32} (hb0 : ¬ b = 0) {ls t : List Value} {σ : mm_M} (F : CallFix p M c (yb m) (mx m) s args lwG (onm (yo m))) (hc : chk m (pc, .irem, nx, v, x, y, z, w) = true) (k : WK p l e R s M args below meth c Q D cA b0 sad fv m t0 u0 σf nx ls (.int (a - a / b * b) :: t) σ) : WK p l e R s M args below meth c Q D cA b0 sad fv m t0 u0 σf pc ls (.int b :: .int a :: t) σ := by
  obtain ⟨hd, rfl⟩ := dec1 hc rfl 0 rfl
  exact WK_step k fun H locs lsR hS hL kk => lv_irem F.1 F.2.1 hd hb0 (kk lsR hL)
theorem s_ldiv {pc nx x y z w : Nat} {v : Int32} {a b : Int64} (hb0 : ¬ b = 0) {ls t : List Value} {σ : mm_M} (F : CallFix p M c (yb m) (mx m) s args lwG (onm (yo m))) (hc : chk m (pc, .ldiv, nx, v, x, y, z, w) = true) (k : WK p l e R s M args below meth c Q D cA b0 sad fv m t0 u0 σf nx ls (.long (a / b) :: t) σ) : WK p l e R s M args below meth c Q D cA b0 sad fv m t0 u0 σf pc ls (.long b :: .long a :: t) σ := by
  obtain ⟨hd, rfl⟩ := dec1 hc rfl 0 rfl
  exact WK_step k fun H locs lsR hS hL kk => lv_ldiv F.1 F.2.1 hd hb0 (kk lsR hL)
theorem s_lrem {pc nx x y z w : Nat} {v : Int32} {a b : Int64} (hb0 : ¬ b = 0) {ls t : List Value} {σ : mm_M} (F : CallFix p M c (yb m) (mx m) s args lwG (onm (yo m))) (hc : chk m (pc, .lrem, nx, v, x, y, z, w) = true) (k : WK p l e R s M args below meth c Q D cA b0 sad fv m t0 u0 σf nx ls (.long (a - a / b * b) :: t) σ) : WK p l e R s M args below meth c Q D cA b0 sad fv m t0 u0 σf pc ls (.long b :: .long a :: t) σ := by
  obtain ⟨hd, rfl⟩ := dec1 hc rfl 0 rfl
  exact WK_step k fun H locs lsR hS hL kk => lv_lrem F.1 F.2.1 hd hb0 (kk lsR hL)
theorem s_ineg {pc nx x y z w : Nat} {v : Int32} {a : Int32} {ls t : List Value} {σ : mm_M} (F : CallFix p M c (yb m) (mx m) s args lwG (onm (yo m))) (hc : chk m (pc, .ineg, nx, v, x, y, z, w) = true) (k : WK p l e R s M args below meth c Q D cA b0 sad fv m t0 u0 σf nx ls (.int (-a) :: t) σ) : WK p l e R s M args below meth c Q D cA b0 sad fv m t0 u0 σf pc ls (.int a :: t) σ := by
  obtain ⟨hd, rfl⟩ := dec1 hc rfl 0 rfl
  exact WK_step k fun H locs lsR hS hL kk => lv_ineg F.1 F.2.1 hd (kk lsR hL)
theorem s_i2l {pc nx x y z w : Nat} {v : Int32} {a : Int32} {ls t : List Value} {σ : mm_M} (F : CallFix p M c (yb m) (mx m) s args lwG (onm (yo m))) (hc : chk m (pc, .i2l, nx, v, x, y, z, w) = true) (k : WK p l e R s M args below meth c Q D cA b0 sad fv m t0 u0 σf nx ls (.long a.toInt64 :: t) σ) : WK p l e R s M args below meth c Q D cA b0 sad fv m t0 u0 σf pc ls (.int a :: t) σ := by
  obtain ⟨hd, rfl⟩ := dec1 hc rfl 0 rfl
  exact WK_step k fun H locs lsR hS hL kk => lv_i2l F.1 F.2.1 hd rfl (kk lsR hL)
theorem s_i2b {pc nx x y z w : Nat} {v : Int32} {a : Int32} {ls t : List Value} {σ : mm_M} (F : CallFix p M c (yb m) (mx m) s args lwG (onm (yo m))) (hc : chk m (pc, .i2b, nx, v, x, y, z, w) = true) (k : WK p l e R s M args below meth c Q D cA b0 sad fv m t0 u0 σf nx ls (.int a.toInt8.toInt32 :: t) σ) : WK p l e R s M args below meth c Q D cA b0 sad fv m t0 u0 σf pc ls (.int a :: t) σ := by
  obtain ⟨hd, rfl⟩ := dec1 hc rfl 0 rfl
  exact WK_step k fun H locs lsR hS hL kk => lv_i2b F.1 F.2.1 hd rfl (kk lsR hL)
theorem s_i2c {pc nx x y z w : Nat} {v : Int32} {a : Int32} {ls t : List Value} {σ : mm_M} (F : CallFix p M c (yb m) (mx m) s args lwG (onm (yo m))) (hc : chk m (pc, .i2c, nx, v, x, y, z, w) = true) (k : WK p l e R s M args below meth c Q D cA b0 sad fv m t0 u0 σf nx ls (.int (a.toUInt32 % 65536).toInt32 :: t) σ) : WK p l e R s M args below meth c Q D cA b0 sad fv m t0 u0 σf pc ls (.int a :: t) σ := by
  obtain ⟨hd, rfl⟩ := dec1 hc rfl 0 rfl
  exact WK_step k fun H locs lsR hS hL kk => lv_i2c F.1 F.2.1 hd rfl (kk lsR hL)
theorem s_ladd {pc nx x y z w : Nat} {v : Int32} {a b : Int64} {ls t : List Value} {σ : mm_M} (F : CallFix p M c (yb m) (mx m) s args lwG (onm (yo m))) (hc : chk m (pc, .ladd, nx, v, x, y, z, w) = true) (k : WK p l e R s M args below meth c Q D cA b0 sad fv m t0 u0 σf nx ls (.long (a + b) :: t) σ) : WK p l e R s M args below meth c Q D cA b0 sad fv m t0 u0 σf pc ls (.long b :: .long a :: t) σ := by
  obtain ⟨hd, rfl⟩ := dec1 hc rfl 0 rfl
  exact WK_step k fun H locs lsR hS hL kk => lv_ladd F.1 F.2.1 hd (kk lsR hL)
theorem s_lmul {pc nx x y z w : Nat} {v : Int32} {a b : Int64} {ls t : List Value} {σ : mm_M} (F : CallFix p M c (yb m) (mx m) s args lwG (onm (yo m))) (hc : chk m (pc, .lmul, nx, v, x, y, z, w) = true) (k : WK p l e R s M args below meth c Q D cA b0 sad fv m t0 u0 σf nx ls (.long (a * b) :: t) σ) : WK p l e R s M args below meth c Q D cA b0 sad fv m t0 u0 σf pc ls (.long b :: .long a :: t) σ := by
  obtain ⟨hd, rfl⟩ := dec1 hc rfl 0 rfl
  exact WK_step k fun H locs lsR hS hL kk => lv_lmul F.1 F.2.1 hd (kk lsR hL)
theorem s_lshl {pc nx x y z w : Nat} {v : Int32} {a : Int64} {b : Int32} {ls t : List Value} {σ : mm_M} (F : CallFix p M c (yb m) (mx m) s args lwG (onm (yo m))) (hc : chk m (pc, .lshl, nx, v, x, y, z, w) = true) (k : WK p l e R s M args below meth c Q D cA b0 sad fv m t0 u0 σf nx ls (.long (a <<< (b.toInt64 &&& 63)) :: t) σ) : WK p l e R s M args below meth c Q D cA b0 sad fv m t0 u0 σf pc ls (.int b :: .long a :: t) σ := by
  obtain ⟨hd, rfl⟩ := dec1 hc rfl 0 rfl
  exact WK_step k fun H locs lsR hS hL kk => lv_lshl F.1 F.2.1 hd rfl (kk lsR hL)
theorem s_lcmp {pc nx x y z w : Nat} {v : Int32} {a b : Int64} {ls t : List Value} {σ : mm_M} (F : CallFix p M c (yb m) (mx m) s args lwG (onm (yo m))) (hc : chk m (pc, .lcmp, nx, v, x, y, z, w) = true) (k : WK p l e R s M args below meth c Q D cA b0 sad fv m t0 u0 σf nx ls (.int (lg_cmp a b) :: t) σ) : WK p l e R s M args below meth c Q D cA b0 sad fv m t0 u0 σf pc ls (.long b :: .long a :: t) σ := by
  obtain ⟨hd, rfl⟩ := dec1 hc rfl 0 rfl
  exact WK_step k fun H locs lsR hS hL kk => W.lcmp F.1 F.2.1 hd (kk lsR hL)
theorem s_dupI {pc nx x y z w : Nat} {v : Int32} {a : Int32} {ls t : List Value} {σ : mm_M} (F : CallFix p M c (yb m) (mx m) s args lwG (onm (yo m))) (hc : chk m (pc, .dup, nx, v, x, y, z, w) = true) (k : WK p l e R s M args below meth c Q D cA b0 sad fv m t0 u0 σf nx ls (.int a :: .int a :: t) σ) : WK p l e R s M args below meth c Q D cA b0 sad fv m t0 u0 σf pc ls (.int a :: t) σ := by
  obtain ⟨hd, rfl⟩ := dec1 hc rfl 0 rfl
  exact WK_step k fun H locs lsR hS hL kk => lv_dup F.1 F.2.1 hd rfl (kk lsR hL)
theorem s_dupR {pc nx x y z w : Nat} {v : Int32} {a : Nat} {ls t : List Value} {σ : mm_M} (F : CallFix p M c (yb m) (mx m) s args lwG (onm (yo m))) (hc : chk m (pc, .dup, nx, v, x, y, z, w) = true) (k : WK p l e R s M args below meth c Q D cA b0 sad fv m t0 u0 σf nx ls (.ref a :: .ref a :: t) σ) : WK p l e R s M args below meth c Q D cA b0 sad fv m t0 u0 σf pc ls (.ref a :: t) σ := by
  obtain ⟨hd, rfl⟩ := dec1 hc rfl 0 rfl
  exact WK_step k fun H locs lsR hS hL kk => lv_dup F.1 F.2.1 hd rfl (kk lsR hL)
theorem s_dup2 {pc nx x y z w : Nat} {v : Int32} {a : Int32} {b : Nat} {ls t : List Value} {σ : mm_M} (F : CallFix p M c (yb m) (mx m) s args lwG (onm (yo m))) (hc : chk m (pc, .dup2, nx, v, x, y, z, w) = true) (k : WK p l e R s M args below meth c Q D cA b0 sad fv m t0 u0 σf nx ls (.int a :: .ref b :: .int a :: .ref b :: t) σ) : WK p l e R s M args below meth c Q D cA b0 sad fv m t0 u0 σf pc ls (.int a :: .ref b :: t) σ := by
  obtain ⟨hd, rfl⟩ := dec1 hc rfl 0 rfl
  exact WK_step k fun H locs lsR hS hL kk => lv_dup2_11 F.1 F.2.1 hd rfl rfl (kk lsR hL)
theorem s_pop {pc nx x y z w : Nat} {v : Int32} {a : Int32} {ls t : List Value} {σ : mm_M} (F : CallFix p M c (yb m) (mx m) s args lwG (onm (yo m))) (hc : chk m (pc, .pop, nx, v, x, y, z, w) = true) (k : WK p l e R s M args below meth c Q D cA b0 sad fv m t0 u0 σf nx ls (t) σ) : WK p l e R s M args below meth c Q D cA b0 sad fv m t0 u0 σf pc ls (.int a :: t) σ := by
  obtain ⟨hd, rfl⟩ := dec1 hc rfl 0 rfl
  exact WK_step k fun H locs lsR hS hL kk => lv_pop F.1 F.2.1 hd rfl (kk lsR hL)
theorem s_lconst {pc nx x y z w : Nat} {v : Int32} {n : Fin 2} {ls t : List Value} {σ : mm_M} (F : CallFix p M c (yb m) (mx m) s args lwG (onm (yo m))) (hc : chk m (pc, .lconst n, nx, v, x, y, z, w) = true) (k : WK p l e R s M args below meth c Q D cA b0 sad fv m t0 u0 σf nx ls (.long (Int64.ofNat x) :: t) σ) : WK p l e R s M args below meth c Q D cA b0 sad fv m t0 u0 σf pc ls t σ := by
  obtain ⟨hd, rfl⟩ := dec1 hc rfl 0 rfl
  have hx : n.val = x := Nat.eq_of_beq_eq_true (by simpa only [chkL] using lnk_of hc)
  subst hx
  exact WK_step k fun H locs lsR hS hL kk => lv_lconst F.1 F.2.1 hd rfl (kk lsR hL)
theorem s_goto {pc nx x y z w : Nat} {v : Int32} {off : Int} {ls t : List Value} {σ : mm_M} (F : CallFix p M c (yb m) (mx m) s args lwG (onm (yo m))) (hc : chk m (pc, .goto off, nx, v, x, y, z, w) = true) (k : WK p l e R s M args below meth c Q D cA b0 sad fv m t0 u0 σf x ls t σ) : WK p l e R s M args below meth c Q D cA b0 sad fv m t0 u0 σf pc ls t σ := by
  obtain ⟨hd, rfl⟩ := dec1 hc rfl 2 rfl
  have hx : (pc : Int) + off = x := by simpa only [chkL, decide_eq_true_eq] using lnk_of hc
  exact WK_step k fun H locs lsR hS hL kk => lv_goto F.1 F.2.1 hd hx (kk lsR hL)
/-- two ways to go on -/
theorem WK_two {pc n1 n2 : Nat} {ls st st' : List Value} {σ : mm_M} {P : Prop} (d : P ∨ ¬ P) (k1 : P → WK p l e R s M args below meth c Q D cA b0 sad fv m t0 u0 σf n1 ls st' σ) (k2 : ¬ P → WK p l e R s M args below meth c Q D cA b0 sad fv m t0 u0 σf n2 ls st' σ)
    (h : ∀ (H : Heap) (locs : List Loc) (lsR : Array Slot), (P → W p l e R s M args below meth c H locs (tt σ - t0) (mS σ - u0) Q (F0 M n1 lsR (st'.map (tr (mad b0 sad) fv)))) → (¬ P → W p l e R s M args below meth c H locs (tt σ - t0) (mS σ - u0) Q (F0 M n2 lsR (st'.map (tr (mad b0 sad) fv)))) → W p l e R s M args below meth c H locs (tt σ - t0) (mS σ - u0) Q (F0 M pc lsR (st.map (tr (mad b0 sad) fv)))) : WK p l e R s M args below meth c Q D cA b0 sad fv m t0 u0 σf pc ls st σ :=
  ⟨d.elim (fun q => (k1 q).1) (fun q => (k2 q).1), d.elim (fun q => (k1 q).2.1) (fun q => (k2 q).2.1), fun H locs lsR hP hS hL => h H locs lsR (fun q => (k1 q).2.2 H locs lsR hP hS hL) (fun q => (k2 q).2.2 H locs lsR hP hS hL)⟩
theorem s_if_eq {pc nx x y z w : Nat} {v : Int32} {off : Int} {a : Int32} {ls t : List Value} {σ : mm_M} (F : CallFix p M c (yb m) (mx m) s args lwG (onm (yo m))) (hc : chk m (pc, .ifCond .eq off, nx, v, x, y, z, w) = true) (k1 : (a = 0) → WK p l e R s M args below meth c Q D cA b0 sad fv m t0 u0 σf x ls t σ) (k2 : ¬ (a = 0) → WK p l e R s M args below meth c Q D cA b0 sad fv m t0 u0 σf nx ls t σ) : WK p l e R s M args below meth c Q D cA b0 sad fv m t0 u0 σf pc ls (.int a :: t) σ := by
  obtain ⟨hd, rfl⟩ := dec1 hc rfl 2 rfl
  have hx : (pc : Int) + off = x := by simpa only [chkL, decide_eq_true_eq] using lnk_of hc
  exact WK_two (Decidable.em _) k1 k2 fun H locs lsR q1 q2 => lv_if_eq F.1 F.2.1 hd hx q1 q2
theorem s_icmp_eq {pc nx x y z w : Nat} {v : Int32} {off : Int} {a b : Int32} {ls t : List Value} {σ : mm_M} (F : CallFix p M c (yb m) (mx m) s args lwG (onm (yo m))) (hc : chk m (pc, .if_icmp .eq off, nx, v, x, y, z, w) = true) (k1 : (a = b) → WK p l e R s M args below meth c Q D cA b0 sad fv m t0 u0 σf x ls t σ) (k2 : ¬ (a = b) → WK p l e R s M args below meth c Q D cA b0 sad fv m t0 u0 σf nx ls t σ) : WK p l e R s M args below meth c Q D cA b0 sad fv m t0 u0 σf pc ls (.int b :: .int a :: t) σ := by
  obtain ⟨hd, rfl⟩ := dec1 hc rfl 2 rfl
  have hx : (pc : Int) + off = x := by simpa only [chkL, decide_eq_true_eq] using lnk_of hc
  exact WK_two (Decidable.em _) k1 k2 fun H locs lsR q1 q2 => lv_icmp_eq F.1 F.2.1 hd hx q1 q2
theorem s_if_ne {pc nx x y z w : Nat} {v : Int32} {off : Int} {a : Int32} {ls t : List Value} {σ : mm_M} (F : CallFix p M c (yb m) (mx m) s args lwG (onm (yo m))) (hc : chk m (pc, .ifCond .ne off, nx, v, x, y, z, w) = true) (k1 : (a = 0) → WK p l e R s M args below meth c Q D cA b0 sad fv m t0 u0 σf nx ls t σ) (k2 : ¬ (a = 0) → WK p l e R s M args below meth c Q D cA b0 sad fv m t0 u0 σf x ls t σ) : WK p l e R s M args below meth c Q D cA b0 sad fv m t0 u0 σf pc ls (.int a :: t) σ := by
  obtain ⟨hd, rfl⟩ := dec1 hc rfl 2 rfl
  have hx : (pc : Int) + off = x := by simpa only [chkL, decide_eq_true_eq] using lnk_of hc
  exact WK_two (Decidable.em _) k1 k2 fun H locs lsR q1 q2 => lv_if_ne F.1 F.2.1 hd hx q2 q1
theorem s_icmp_ne {pc nx x y z w : Nat} {v : Int32} {off : Int} {a b : Int32} {ls t : List Value} {σ : mm_M} (F : CallFix p M c (yb m) (mx m) s args lwG (onm (yo m))) (hc : chk m (pc, .if_icmp .ne off, nx, v, x, y, z, w) = true) (k1 : (a = b) → WK p l e R s M args below meth c Q D cA b0 sad fv m t0 u0 σf nx ls t σ) (k2 : ¬ (a = b) → WK p l e R s M args below meth c Q D cA b0 sad fv m t0 u0 σf x ls t σ) : WK p l e R s M args below meth c Q D cA b0 sad fv m t0 u0 σf pc ls (.int b :: .int a :: t) σ := by
  obtain ⟨hd, rfl⟩ := dec1 hc rfl 2 rfl
  have hx : (pc : Int) + off = x := by simpa only [chkL, decide_eq_true_eq] using lnk_of hc
  exact WK_two (Decidable.em _) k1 k2 fun H locs lsR q1 q2 => lv_icmp_ne F.1 F.2.1 hd hx q2 q1
theorem s_if_lt {pc nx x y z w : Nat} {v : Int32} {off : Int} {a : Int32} {ls t : List Value} {σ : mm_M} (F : CallFix p M c (yb m) (mx m) s args lwG (onm (yo m))) (hc : chk m (pc, .ifCond .lt off, nx, v, x, y, z, w) = true) (k1 : (a < 0) → WK p l e R s M args below meth c Q D cA b0 sad fv m t0 u0 σf x ls t σ) (k2 : ¬ (a < 0) → WK p l e R s M args below meth c Q D cA b0 sad fv m t0 u0 σf nx ls t σ) : WK p l e R s M args below meth c Q D cA b0 sad fv m t0 u0 σf pc ls (.int a :: t) σ := by
  obtain ⟨hd, rfl⟩ := dec1 hc rfl 2 rfl
  have hx : (pc : Int) + off = x := by simpa only [chkL, decide_eq_true_eq] using lnk_of hc
  exact WK_two (Decidable.em _) k1 k2 fun H locs lsR q1 q2 => lv_if_lt F.1 F.2.1 hd hx q1 q2
theorem s_icmp_lt {pc nx x y z w : Nat} {v : Int32} {off : Int} {a b : Int32} {ls t : List Value} {σ : mm_M} (F : CallFix p M c (yb m) (mx m) s args lwG (onm (yo m))) (hc : chk m (pc, .if_icmp .lt off, nx, v, x, y, z, w) = true) (k1 : (a < b) → WK p l e R s M args below meth c Q D cA b0 sad fv m t0 u0 σf x ls t σ) (k2 : ¬ (a < b) → WK p l e R s M args below meth c Q D cA b0 sad fv m t0 u0 σf nx ls t σ) : WK p l e R s M args below meth c Q D cA b0 sad fv m t0 u0 σf pc ls (.int b :: .int a :: t) σ := by
  obtain ⟨hd, rfl⟩ := dec1 hc rfl 2 rfl
  have hx : (pc : Int) + off = x := by simpa only [chkL, decide_eq_true_eq] using lnk_of hc
  exact WK_two (Decidable.em _) k1 k2 fun H locs lsR q1 q2 => lv_icmp_lt F.1 F.2.1 hd hx q1 q2
theorem s_if_ge {pc nx x y z w : Nat} {v : Int32} {off : Int} {a : Int32} {ls t : List Value} {σ : mm_M} (F : CallFix p M c (yb m) (mx m) s args lwG (onm (yo m))) (hc : chk m (pc, .ifCond .ge off, nx, v, x, y, z, w) = true) (k1 : (0 ≤ a) → WK p l e R s M args below meth c Q D cA b0 sad fv m t0 u0 σf x ls t σ) (k2 : ¬ (0 ≤ a) → WK p l e R s M args below meth c Q D cA b0 sad fv m t0 u0 σf nx ls t σ) : WK p l e R s M args below meth c Q D cA b0 sad fv m t0 u0 σf pc ls (.int a :: t) σ := by
  obtain ⟨hd, rfl⟩ := dec1 hc rfl 2 rfl
  have hx : (pc : Int) + off = x := by simpa only [chkL, decide_eq_true_eq] using lnk_of hc
  exact WK_two (Decidable.em _) k1 k2 fun H locs lsR q1 q2 => lv_if_ge F.1 F.2.1 hd hx q1 q2
theorem s_icmp_ge {pc nx x y z w : Nat} {v : Int32} {off : Int} {a b : Int32} {ls t : List Value} {σ : mm_M} (F : CallFix p M c (yb m) (mx m) s args lwG (onm (yo m))) (hc : chk m (pc, .if_icmp .ge off, nx, v, x, y, z, w) = true) (k1 : (b ≤ a) → WK p l e R s M args below meth c Q D cA b0 sad fv m t0 u0 σf x ls t σ) (k2 : ¬ (b ≤ a) → WK p l e R s M args below meth c Q D cA b0 sad fv m t0 u0 σf nx ls t σ) : WK p l e R s M args below meth c Q D cA b0 sad fv m t0 u0 σf pc ls (.int b :: .int a :: t) σ := by
  obtain ⟨hd, rfl⟩ := dec1 hc rfl 2 rfl
  have hx : (pc : Int) + off = x := by simpa only [chkL, decide_eq_true_eq] using lnk_of hc
  exact WK_two (Decidable.em _) k1 k2 fun H locs lsR q1 q2 => lv_icmp_ge F.1 F.2.1 hd hx q1 q2
theorem s_if_gt {pc nx x y z w : Nat} {v : Int32} {off : Int} {a : Int32} {ls t : List Value} {σ : mm_M} (F : CallFix p M c (yb m) (mx m) s args lwG (onm (yo m))) (hc : chk m (pc, .ifCond .gt off, nx, v, x, y, z, w) = true) (k1 : (0 < a) → WK p l e R s M args below meth c Q D cA b0 sad fv m t0 u0 σf x ls t σ) (k2 : ¬ (0 < a) → WK p l e R s M args below meth c Q D cA b0 sad fv m t0 u0 σf nx ls t σ) : WK p l e R s M args below meth c Q D cA b0 sad fv m t0 u0 σf pc ls (.int a :: t) σ := by
  obtain ⟨hd, rfl⟩ := dec1 hc rfl 2 rfl
  have hx : (pc : Int) + off = x := by simpa only [chkL, decide_eq_true_eq] using lnk_of hc
  exact WK_two (Decidable.em _) k1 k2 fun H locs lsR q1 q2 => lv_if_gt F.1 F.2.1 hd hx q1 q2
theorem s_icmp_gt {pc nx x y z w : Nat} {v : Int32} {off : Int} {a b : Int32} {ls t : List Value} {σ : mm_M} (F : CallFix p M c (yb m) (mx m) s args lwG (onm (yo m))) (hc : chk m (pc, .if_icmp .gt off, nx, v, x, y, z, w) = true) (k1 : (b < a) → WK p l e R s M args below meth c Q D cA b0 sad fv m t0 u0 σf x ls t σ) (k2 : ¬ (b < a) → WK p l e R s M args below meth c Q D cA b0 sad fv m t0 u0 σf nx ls t σ) : WK p l e R s M args below meth c Q D cA b0 sad fv m t0 u0 σf pc ls (.int b :: .int a :: t) σ := by
  obtain ⟨hd, rfl⟩ := dec1 hc rfl 2 rfl
  have hx : (pc : Int) + off = x := by simpa only [chkL, decide_eq_true_eq] using lnk_of hc
  exact WK_two (Decidable.em _) k1 k2 fun H locs lsR q1 q2 => lv_icmp_gt F.1 F.2.1 hd hx q1 q2
theorem s_if_le {pc nx x y z w : Nat} {v : Int32} {off : Int} {a : Int32} {ls t : List Value} {σ : mm_M} (F : CallFix p M c (yb m) (mx m) s args lwG (onm (yo m))) (hc : chk m (pc, .ifCond .le off, nx, v, x, y, z, w) = true) (k1 : (a ≤ 0) → WK p l e R s M args below meth c Q D cA b0 sad fv m t0 u0 σf x ls t σ) (k2 : ¬ (a ≤ 0) → WK p l e R s M args below meth c Q D cA b0 sad fv m t0 u0 σf nx ls t σ) : WK p l e R s M args below meth c Q D cA b0 sad fv m t0 u0 σf pc ls (.int a :: t) σ := by
  obtain ⟨hd, rfl⟩ := dec1 hc rfl 2 rfl
  have hx : (pc : Int) + off = x := by simpa only [chkL, decide_eq_true_eq] using lnk_of hc
  exact WK_two (Decidable.em _) k1 k2 fun H locs lsR q1 q2 => lv_if_le F.1 F.2.1 hd hx q1 q2
theorem s_icmp_le {pc nx x y z w : Nat} {v : Int32} {off : Int} {a b : Int32} {ls t : List Value} {σ : mm_M} (F : CallFix p M c (yb m) (mx m) s args lwG (onm (yo m))) (hc : chk m (pc, .if_icmp .le off, nx, v, x, y, z, w) = true) (k1 : (a ≤ b) → WK p l e R s M args below meth c Q D cA b0 sad fv m t0 u0 σf x ls t σ) (k2 : ¬ (a ≤ b) → WK p l e R s M args below meth c Q D cA b0 sad fv m t0 u0 σf nx ls t σ) : WK p l e R s M args below meth c Q D cA b0 sad fv m t0 u0 σf pc ls (.int b :: .int a :: t) σ := by
  obtain ⟨hd, rfl⟩ := dec1 hc rfl 2 rfl
  have hx : (pc : Int) + off = x := by simpa only [chkL, decide_eq_true_eq] using lnk_of hc
  exact WK_two (Decidable.em _) k1 k2 fun H locs lsR q1 q2 => lv_icmp_le F.1 F.2.1 hd hx q1 q2
theorem s_table {pc nx x y z w : Nat} {v a : Int32} {dflt lo hi : Int} {offs : Array Int} {ls t : List Value} {σ : mm_M} (F : CallFix p M c (yb m) (mx m) s args lwG (onm (yo m))) (hc : chk m (pc, .tableswitch dflt lo hi offs, nx, v, x, y, z, w) = true) (k : WK p l e R s M args below meth c Q D cA b0 sad fv m t0 u0 σf (swT pc dflt lo hi offs a) ls t σ) : WK p l e R s M args below meth c Q D cA b0 sad fv m t0 u0 σf pc ls (.int a :: t) σ := by
  obtain ⟨ri, len, h1, h2, h3, h4⟩ := dec_of hc
  have := nrm_id h2 rfl
  subst this
  have hl := lnk_of hc
  simp only [chkL, Bool.and_eq_true, decide_eq_true_eq, List.all_eq_true] at hl
  obtain ⟨⟨l1, l2⟩, l3⟩ := hl
  refine WK_step k fun H locs lsR hS hL kk => ?_
  by_cases hq : a.toInt < lo ∨ hi < a.toInt
  · have e : swT pc dflt lo hi offs a = ((pc : Int) + dflt).toNat := by unfold swT; rw [if_pos hq]
    rw [e] at kk
    exact lv_tableOut F.1 F.2.1 h1 hq (by omega) (kk lsR hL)
  · have hi2 : (a.toInt - lo).toNat < offs.size := by omega
    have ho : offs[(a.toInt - lo).toNat]? = some offs[(a.toInt - lo).toNat] := Array.getElem?_eq_getElem hi2
    have e : swT pc dflt lo hi offs a = ((pc : Int) + offs[(a.toInt - lo).toNat]).toNat := by unfold swT; rw [if_neg hq, ho]
    rw [e] at kk
    have hn := l2 _ (Array.mem_toList_iff.mpr (Array.getElem_mem hi2))
    exact lv_tableIn F.1 F.2.1 h1 (by omega) (by omega) ho (by omega) (kk lsR hL)
theorem look_in (ps : List (Int × Int)) (dflt v : Int) : Op.lookupswitch.offset ps dflt v = dflt ∨ ∃ q ∈ ps, Op.lookupswitch.offset ps dflt v = q.2 := by
  induction ps with
  | nil => left; rfl
  | cons q t ih =>
    unfold Op.lookupswitch.offset
    split
    · right; exact ⟨q, List.mem_cons_self, rfl⟩
    · rcases ih with h | ⟨r, h1, h2⟩
      · left; exact h
      · right; exact ⟨r, List.mem_cons_of_mem _ h1, h2⟩
theorem s_look {pc nx x y z w : Nat} {v a : Int32} {dflt : Int} {ps : Array (Int × Int)} {ls t : List Value} {σ : mm_M} (F : CallFix p M c (yb m) (mx m) s args lwG (onm (yo m))) (hc : chk m (pc, .lookupswitch dflt ps, nx, v, x, y, z, w) = true) (k : WK p l e R s M args below meth c Q D cA b0 sad fv m t0 u0 σf (swL pc dflt ps a) ls t σ) : WK p l e R s M args below meth c Q D cA b0 sad fv m t0 u0 σf pc ls (.int a :: t) σ := by
  obtain ⟨ri, len, h1, h2, h3, h4⟩ := dec_of hc
  have := nrm_id h2 rfl
  subst this
  have hl := lnk_of hc
  simp only [chkL, Bool.and_eq_true, decide_eq_true_eq] at hl
  obtain ⟨⟨l1, l2⟩, l3⟩ := hl
  refine WK_step k fun H locs lsR hS hL kk => ?_
  have hn : 0 ≤ (pc : Int) + Op.lookupswitch.offset ps.toList dflt a.toInt := by
    rcases look_in ps.toList dflt a.toInt with h | ⟨q, hq, h⟩
    · rw [h]; exact l1
    · rw [h]; simpa using List.all_eq_true.mp l2 q hq
  exact lv_lookup F.1 F.2.1 h1 l3 rfl (by have e : swL pc dflt ps a = ((pc : Int) + Op.lookupswitch.offset ps.toList dflt a.toInt).toNat := rfl; omega) (kk lsR hL)
end SndB
