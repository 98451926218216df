/-! THE SMALL MACHINE: memory as functions of small addresses, one step an instruction, calls by number; an answer is none where the machine itself would throw -/
abbrev mm_M : Type := (Nat → Nat → Int32) × (Nat → Nat → Int64) × (Nat → Nat → Option Nat) × (Nat → Nat × Nat) × Nat × Nat × Nat
/-- how a method ends: a value (uv: none), or an exception by its number; and the memory -/
abbrev mm_R : Type := (Value ⊕ Nat) × mm_M
/-- pc, instruction, next pc, immediate, x, y, z, w -/
abbrev mm_E : Type := Nat × Instr × Nat × Int32 × Nat × Nat × Nat × Nat
def mI (σ : mm_M) (a i : Nat) : Int32 := σ.1 a i
def mL (σ : mm_M) (a i : Nat) : Int64 := σ.2.1 a i
def mR (σ : mm_M) (a i : Nat) : Option Nat := σ.2.2.1 a i
def mK (σ : mm_M) (a : Nat) : Nat × Nat := σ.2.2.2.1 a
def mN (σ : mm_M) : Nat := σ.2.2.2.2.1
def mX (σ : mm_M) : Nat := σ.2.2.2.2.2.1
def mS (σ : mm_M) : Nat := σ.2.2.2.2.2.2
def wI (σ : mm_M) (a i : Nat) (v : Int32) : mm_M := (fun b j => if b = a ∧ j = i then v else σ.1 b j, σ.2)
def wL (σ : mm_M) (a i : Nat) (v : Int64) : mm_M := (σ.1, fun b j => if b = a ∧ j = i then v else σ.2.1 b j, σ.2.2)
def wR (σ : mm_M) (a i : Nat) (v : Nat) : mm_M := (σ.1, σ.2.1, fun b j => if b = a ∧ j = i then some v else σ.2.2.1 b j, σ.2.2.2)
/-- the row f at a -/
def wA (σ : mm_M) (a : Nat) (f : Nat → Int32) : mm_M := (fun b j => if b = a then f j else σ.1 b j, σ.2)
/-- one cell more, of the kind k, with so many slots -/
def mA (σ : mm_M) (k : Nat × Nat) (n : Nat) : mm_M :=
  (fun b j => if b = mN σ then 0 else σ.1 b j, fun b j => if b = mN σ then 0 else σ.2.1 b j, fun b j => if b = mN σ then none else σ.2.2.1 b j, fun b => if b = mN σ then k else σ.2.2.2.1 b, mN σ + 1, mX σ, mS σ + n)
/-- a grid: n rows of k ints -/
def mG (σ : mm_M) (n k : Nat) : mm_M :=
  (fun b j => if mN σ ≤ b ∧ b < mN σ + 1 + n then 0 else σ.1 b j, fun b j => if mN σ ≤ b ∧ b < mN σ + 1 + n then 0 else σ.2.1 b j,
   fun b j => if b = mN σ then (if j < n then some (mN σ + 1 + j) else none) else if mN σ ≤ b ∧ b < mN σ + 1 + n then none else σ.2.2.1 b j,
   fun b => if b = mN σ then (5, n) else if mN σ ≤ b ∧ b < mN σ + 1 + n then (1, k) else σ.2.2.2.1 b, mN σ + 1 + n, mX σ, mS σ + n + n * k)
/-- an exception more -/
def mT (σ : mm_M) : mm_M := (σ.1, σ.2.1, σ.2.2.1, σ.2.2.2.1, mN σ, mX σ + 1, mS σ + 6)
def uv : Value := .retAddr 0
def ix (i : Int32) : Nat := i.toNatClampNeg
def inb (i : Int32) (n : Nat) : Prop := ¬ i < 0 ∧ i.toNatClampNeg < n
theorem inb_dec (i : Int32) (n : Nat) : (¬ i < 0 ∧ i.toNatClampNeg < n) = inb i n := rfl
def oI (v : Value) (k : Int32 → Option mm_R) : Option mm_R := match v with
  | .int x => k x
  | _ => none
def oL (v : Value) (k : Int64 → Option mm_R) : Option mm_R := match v with
  | .long x => k x
  | _ => none
def oR (v : Value) (k : Nat → Option mm_R) : Option mm_R := match v with
  | .ref x => k x
  | _ => none
def pI (st : List Value) (k : Int32 → List Value → Option mm_R) : Option mm_R := match st with
  | .int x :: t => k x t
  | _ => none
def pL (st : List Value) (k : Int64 → List Value → Option mm_R) : Option mm_R := match st with
  | .long x :: t => k x t
  | _ => none
def pR (st : List Value) (k : Nat → List Value → Option mm_R) : Option mm_R := match st with
  | .ref x :: t => k x t
  | _ => none
/-- fields -/
def gI (σ : mm_M) (c a x : Nat) (k : Int32 → Option mm_R) : Option mm_R := if (mK σ a).1 = 100 + c then k (mI σ a x) else none
def gR (σ : mm_M) (c a x : Nat) (k : Nat → Option mm_R) : Option mm_R := if (mK σ a).1 = 100 + c then (match mR σ a x with
  | some r => k r
  | none => none) else none
def sI (σ : mm_M) (c a x : Nat) (v : Int32) (k : mm_M → Option mm_R) : Option mm_R := if (mK σ a).1 = 100 + c then k (wI σ a x v) else none
def sR (σ : mm_M) (c a x : Nat) (v : Nat) (k : mm_M → Option mm_R) : Option mm_R := if (mK σ a).1 = 100 + c then k (wR σ a x v) else none
/-- arrays -/
def aI (σ : mm_M) (a : Nat) (i : Int32) (k : Int32 → Option mm_R) : Option mm_R := if ((mK σ a).1 = 1 ∨ (mK σ a).1 = 21) ∧ (¬ i < 0 ∧ i.toNatClampNeg < (mK σ a).2) then k (mI σ a (ix i)) else none
def aB (σ : mm_M) (a : Nat) (i : Int32) (k : Int32 → Option mm_R) : Option mm_R := if ((mK σ a).1 = 3 ∨ (mK σ a).1 = 4 ∨ (mK σ a).1 = 23) ∧ (¬ i < 0 ∧ i.toNatClampNeg < (mK σ a).2) then k (mI σ a (ix i)) else none
def aL (σ : mm_M) (a : Nat) (i : Int32) (k : Int64 → Option mm_R) : Option mm_R := if (mK σ a).1 = 2 ∧ (¬ i < 0 ∧ i.toNatClampNeg < (mK σ a).2) then k (mL σ a (ix i)) else none
def aR (σ : mm_M) (a : Nat) (i : Int32) (k : Nat → Option mm_R) : Option mm_R := if (mK σ a).1 = 5 ∧ (¬ i < 0 ∧ i.toNatClampNeg < (mK σ a).2) then (match mR σ a (ix i) with
  | some r => k r
  | none => none) else none
def tI (σ : mm_M) (a : Nat) (i v : Int32) (k : mm_M → Option mm_R) : Option mm_R := if (mK σ a).1 = 1 ∧ (¬ i < 0 ∧ i.toNatClampNeg < (mK σ a).2) then k (wI σ a (ix i) v) else none
def tB (σ : mm_M) (a : Nat) (i v : Int32) (k : mm_M → Option mm_R) : Option mm_R := if (mK σ a).1 = 3 ∧ (¬ i < 0 ∧ i.toNatClampNeg < (mK σ a).2) then k (wI σ a (ix i) (vp_nar .byte v)) else if (mK σ a).1 = 4 ∧ (¬ i < 0 ∧ i.toNatClampNeg < (mK σ a).2) then k (wI σ a (ix i) (vp_nar .boolean v)) else none
def tL (σ : mm_M) (a : Nat) (i : Int32) (v : Int64) (k : mm_M → Option mm_R) : Option mm_R := if (mK σ a).1 = 2 ∧ (¬ i < 0 ∧ i.toNatClampNeg < (mK σ a).2) then k (wL σ a (ix i) v) else none
def aN (σ : mm_M) (a : Nat) (k : Int32 → Option mm_R) : Option mm_R := if 0 < (mK σ a).1 ∧ (mK σ a).1 < 100 then k (Int32.ofNat (mK σ a).2) else none
/-- System.arraycopy over rows of ints -/
def cpy (σ : mm_M) (a : Nat) (sp : Int32) (b : Nat) (dp n : Int32) (k : mm_M → Option mm_R) : Option mm_R :=
  if ((mK σ a).1 = 1 ∨ (mK σ a).1 = 21) ∧ (mK σ b).1 = 1 ∧ a ≠ b ∧ (¬ sp < 0 ∧ ¬ dp < 0 ∧ ¬ n < 0) ∧ ix sp + ix n ≤ (mK σ a).2 ∧ ix dp + ix n ≤ (mK σ b).2 then
    k (wA σ b (va_cpy (mI σ a) (mI σ b) (ix sp) (ix dp) (ix n))) else none
/-- what comes back from a call: an int, a long, nothing; 1: no exception is looked for -/
def cI (x : Option mm_R) (k : Int32 → mm_M → Option mm_R) : Option mm_R := match x with
  | some (.inl (.int r), σ) => k r σ
  | some (.inr E, σ) => some (.inr E, σ)
  | _ => none
def cL (x : Option mm_R) (k : Int64 → mm_M → Option mm_R) : Option mm_R := match x with
  | some (.inl (.long r), σ) => k r σ
  | some (.inr E, σ) => some (.inr E, σ)
  | _ => none
def cV (x : Option mm_R) (k : mm_M → Option mm_R) : Option mm_R := match x with
  | some (.inl (.retAddr _), σ) => k σ
  | some (.inr E, σ) => some (.inr E, σ)
  | _ => none
def cI1 (x : Option mm_R) (k : Int32 → mm_M → Option mm_R) : Option mm_R := match x with
  | some (.inl (.int r), σ) => k r σ
  | _ => none
def cL1 (x : Option mm_R) (k : Int64 → mm_M → Option mm_R) : Option mm_R := match x with
  | some (.inl (.long r), σ) => k r σ
  | _ => none
def cV1 (x : Option mm_R) (k : mm_M → Option mm_R) : Option mm_R := match x with
  | some (.inl (.retAddr _), σ) => k σ
  | _ => none
/-- the table of a method: exception, what is answered -/
def hget (h : List (Nat × Int32)) (E : Nat) : Option Int32 := match h with
  | [] => none
  | q :: t => if q.1 = E then some q.2 else hget t E
def cIh (h : List (Nat × Int32)) (x : Option mm_R) (k : Int32 → mm_M → Option mm_R) : Option mm_R := match x with
  | some (.inl (.int r), σ) => k r σ
  | some (.inr E, σ) => (match hget h E with
    | some c => some (.inl (.int c), σ)
    | none => none)
  | _ => none
def cLh (h : List (Nat × Int32)) (x : Option mm_R) (k : Int64 → mm_M → Option mm_R) : Option mm_R := match x with
  | some (.inl (.long r), σ) => k r σ
  | some (.inr E, σ) => (match hget h E with
    | some c => some (.inl (.int c), σ)
    | none => none)
  | _ => none
def ld (ls : List Value) (i : Nat) : Value := ls.getD i uv
def kill (ls : List Value) (i : Nat) : List Value := match i with
  | 0 => ls
  | j + 1 => (match ls.getD j uv with
    | .long _ => ls.set j uv
    | _ => ls)
def sto (z : Nat) (ls : List Value) (i : Nat) (v : Value) : List Value := match z with
  | 0 => ls.set i v
  | _ => (kill ls i).set i v
def sto2 (ls : List Value) (i : Nat) (v : Int64) : List Value := ((kill ls i).set i (.long v)).set (i + 1) uv
def swT (pc : Nat) (dflt lo hi : Int) (offs : Array Int) (x : Int32) : Nat :=
  if x.toInt < lo ∨ hi < x.toInt then ((pc : Int) + dflt).toNat else (match offs[(x.toInt - lo).toNat]? with
    | some off => ((pc : Int) + off).toNat
    | none => 0)
def swL (pc : Nat) (dflt : Int) (ps : Array (Int × Int)) (x : Int32) : Nat := ((pc : Int) + Op.lookupswitch.offset ps.toList dflt x.toInt).toNat
def nar (w : Nat) (v : Int32) : Int32 := match w with
  | 0 => v
  | 1 => vp_nar .boolean v
  | 2 => vp_nar .byte v
  | _ => vp_nar .char v
/-- the arguments off the stack, n of them; the room behind -/
def pA (n : Nat) (st : List Value) (k : List Value → List Value → Option mm_R) : Option mm_R :=
  match Nat.ble n st.length && Nat.ble (((st.drop n).map Value.category).sum) 8 with
  | true => k (st.take n).reverse (st.drop n)
  | false => none
/-- room behind the stack -/
def gd (t : List Value) (x : Option mm_R) : Option mm_R := match Nat.ble ((t.map Value.category).sum) 8 with
  | true => x
  | false => none
def mm_step (h : List (Nat × Int32)) (K S : Nat → List Value → List Value → mm_M → Option mm_R) (C : Nat → List Value → mm_M → Option mm_R) (e : mm_E) (ls st : List Value) (σ : mm_M) : Option mm_R :=
  match e with
  | (pc, i, nx, v, x, y, z, w) => (match i with
    | .iconst _ => K nx ls (.int v :: st) σ
    | .lconst _ => K nx ls (.long (Int64.ofNat x) :: st) σ
    | .ldc2_w _ => K nx ls (.long (Int64.ofNat x) :: st) σ
    | .ldc _ => (match z with
      | 0 => K nx ls (.int v :: st) σ
      | _ => K nx ls (.ref x :: st) σ)
    | .getstatic _ => (match z with
      | 0 => K nx ls (.int v :: st) σ
      | 1 => K nx ls (.ref x :: st) σ
      | _ => K nx ls (uv :: st) σ)
    | .iload j => oI (ld ls j) fun a => K nx ls (.int a :: st) σ
    | .lload j => oL (ld ls j) fun a => K nx ls (.long a :: st) σ
    | .aload j => oR (ld ls j) fun a => K nx ls (.ref a :: st) σ
    | .istore j => pI st fun a t => K nx (sto z ls j (.int a)) t σ
    | .astore j => pR st fun a t => K nx (sto z ls j (.ref a)) t σ
    | .lstore j => pL st fun a t => K nx (sto2 ls j a) t σ
    | .iinc j _ => oI (ld ls j) fun a => K nx (sto z ls j (.int (a + v))) st σ
    | .iadd => pI st fun b t => pI t fun a t => K nx ls (.int (a + b) :: t) σ
    | .isub => pI st fun b t => pI t fun a t => K nx ls (.int (a - b) :: t) σ
    | .imul => pI st fun b t => pI t fun a t => K nx ls (.int (a * b) :: t) σ
    | .iand => pI st fun b t => pI t fun a t => K nx ls (.int (a &&& b) :: t) σ
    | .ior => pI st fun b t => pI t fun a t => K nx ls (.int (a ||| b) :: t) σ
    | .ixor => pI st fun b t => pI t fun a t => K nx ls (.int (a ^^^ b) :: t) σ
    | .ishl => pI st fun b t => pI t fun a t => K nx ls (.int (a <<< (b &&& 31)) :: t) σ
    | .ishr => pI st fun b t => pI t fun a t => K nx ls (.int (a >>> (b &&& 31)) :: t) σ
    | .iushr => pI st fun b t => pI t fun a t => K nx ls (.int (a.toUInt32 >>> (b.toUInt32 &&& Int32.toUInt32 31)).toInt32 :: t) σ
    | .idiv => pI st fun b t => pI t fun a t => if b = 0 then none else K nx ls (.int (a / b) :: t) σ
    | .irem => pI st fun b t => pI t fun a t => if b = 0 then none else K nx ls (.int (a - a / b * b) :: t) σ
    | .ineg => pI st fun a t => K nx ls (.int (-a) :: t) σ
    | .i2l => pI st fun a t => K nx ls (.long a.toInt64 :: t) σ
    | .i2b => pI st fun a t => K nx ls (.int a.toInt8.toInt32 :: t) σ
    | .i2c => pI st fun a t => K nx ls (.int (a.toUInt32 % 65536).toInt32 :: t) σ
    | .ladd => pL st fun b t => pL t fun a t => K nx ls (.long (a + b) :: t) σ
    | .lmul => pL st fun b t => pL t fun a t => K nx ls (.long (a * b) :: t) σ
    | .ldiv => pL st fun b t => pL t fun a t => if b = 0 then none else K nx ls (.long (a / b) :: t) σ
    | .lrem => pL st fun b t => pL t fun a t => if b = 0 then none else K nx ls (.long (a - a / b * b) :: t) σ
    | .lshl => pI st fun b t => pL t fun a t => K nx ls (.long (a <<< (b.toInt64 &&& 63)) :: t) σ
    | .lcmp => pL st fun b t => pL t fun a t => K nx ls (.int (lg_cmp a b) :: t) σ
    | .dup => (match st with
      | .int a :: t => K nx ls (.int a :: .int a :: t) σ
      | .ref a :: t => K nx ls (.ref a :: .ref a :: t) σ
      | _ => none)
    | .dup2 => (match st with
      | .int a :: .ref b :: t => K nx ls (.int a :: .ref b :: .int a :: .ref b :: t) σ
      | _ => none)
    | .pop => pI st fun _ t => K nx ls t σ
    | .goto _ => K x ls st σ
    | .ifCond c _ => pI st fun a t => (match c with
      | .eq => if a = 0 then K x ls t σ else K nx ls t σ
      | .ne => if a = 0 then K nx ls t σ else K x ls t σ
      | .lt => if a < 0 then K x ls t σ else K nx ls t σ
      | .ge => if 0 ≤ a then K x ls t σ else K nx ls t σ
      | .gt => if 0 < a then K x ls t σ else K nx ls t σ
      | .le => if a ≤ 0 then K x ls t σ else K nx ls t σ)
    | .if_icmp c _ => pI st fun b t => pI t fun a t => (match c with
      | .eq => if a = b then K x ls t σ else K nx ls t σ
      | .ne => if a = b then K nx ls t σ else K x ls t σ
      | .lt => if a < b then K x ls t σ else K nx ls t σ
      | .ge => if b ≤ a then K x ls t σ else K nx ls t σ
      | .gt => if b < a then K x ls t σ else K nx ls t σ
      | .le => if a ≤ b then K x ls t σ else K nx ls t σ)
    | .tableswitch dflt lo hi offs => pI st fun a t => S (swT pc dflt lo hi offs a) ls t σ
    | .lookupswitch dflt ps => pI st fun a t => S (swL pc dflt ps a) ls t σ
    | .getfield _ => pR st fun a t => (match z with
      | 0 => gI σ y a x fun r => K nx ls (.int r :: t) σ
      | _ => gR σ y a x fun r => K nx ls (.ref r :: t) σ)
    | .putfield _ => (match z with
      | 0 => pI st fun b t => pR t fun a t => sI σ y a x b fun σ => K nx ls t σ
      | _ => pR st fun b t => pR t fun a t => sR σ y a x b fun σ => K nx ls t σ)
    | .iaload => pI st fun j t => pR t fun a t => aI σ a j fun r => K nx ls (.int r :: t) σ
    | .baload => pI st fun j t => pR t fun a t => aB σ a j fun r => K nx ls (.int r :: t) σ
    | .laload => pI st fun j t => pR t fun a t => aL σ a j fun r => K nx ls (.long r :: t) σ
    | .aaload => pI st fun j t => pR t fun a t => aR σ a j fun r => K nx ls (.ref r :: t) σ
    | .iastore => pI st fun b t => pI t fun j t => pR t fun a t => tI σ a j b fun σ => K nx ls t σ
    | .bastore => pI st fun b t => pI t fun j t => pR t fun a t => tB σ a j b fun σ => K nx ls t σ
    | .lastore => pL st fun b t => pI t fun j t => pR t fun a t => tL σ a j b fun σ => K nx ls t σ
    | .arraylength => pR st fun a t => aN σ a fun r => K nx ls (.int r :: t) σ
    | .new _ => (match z with
      | 0 => if mX σ = 0 ∧ mN σ < 1000000 then K nx ls (.ref (mN σ) :: st) (mA σ (100 + x, 0) y) else none
      | _ => gd st (some (.inr x, mT σ)))
    | .newarray _ => pI st fun n t => if mX σ = 0 ∧ mN σ < 1000000 ∧ ¬ n < 0 ∧ n.toNatClampNeg ≤ 60000000 then K nx ls (.ref (mN σ) :: t) (mA σ (x, ix n) (ix n)) else none
    | .multianewarray _ _ => pI st fun k t => pI t fun n t => if mX σ = 0 ∧ mN σ + 1 + ix n ≤ 1000000 ∧ ¬ n < 0 ∧ ¬ k < 0 ∧ k.toNatClampNeg ≤ 60000000 then K nx ls (.ref (mN σ) :: t) (mG σ (ix n) (ix k)) else none
    | .invokespecial _ => (match z with
      | 2 => pR st fun _ t => gd t (K nx ls t σ)
      | _ => pA y st fun as t => cV1 (C x as σ) fun σ => K nx ls t σ)
    | .invokestatic _ => (match z with
      | 3 => pI st fun n t => pI t fun dp t => pR t fun b t => pI t fun sp t => pR t fun a t => gd t (cpy σ a sp b dp n fun σ => K nx ls t σ)
      | _ => pA y st fun as t => (match w with
        | 0 => cV1 (C x as σ) fun σ => K nx ls t σ
        | 1 => cI1 (C x as σ) fun r σ => K nx ls (.int r :: t) σ
        | _ => cL1 (C x as σ) fun r σ => K nx ls (.long r :: t) σ))
    | .invokevirtual _ => pA y st fun as t => (match z with
      | 0 => (match h with
        | [] => (match w with
          | 0 => cV (C x as σ) fun σ => K nx ls t σ
          | 1 => cI (C x as σ) fun r σ => K nx ls (.int r :: t) σ
          | _ => cL (C x as σ) fun r σ => K nx ls (.long r :: t) σ)
        | q :: u => (match w with
          | 0 => none
          | 1 => cIh (q :: u) (C x as σ) fun r σ => K nx ls (.int r :: t) σ
          | _ => cLh (q :: u) (C x as σ) fun r σ => K nx ls (.long r :: t) σ))
      | _ => (match w with
        | 0 => cV1 (C x as σ) fun σ => K nx ls t σ
        | 1 => cI1 (C x as σ) fun r σ => K nx ls (.int r :: t) σ
        | _ => cL1 (C x as σ) fun r σ => K nx ls (.long r :: t) σ))
    | .ireturn => (match st with
      | [.int a] => some (.inl (.int (nar w a)), σ)
      | _ => none)
    | .lreturn => (match st with
      | [.long a] => some (.inl (.long a), σ)
      | _ => none)
    | .return_ => (match st with
      | [] => some (.inl uv, σ)
      | _ => none)
    | _ => none)
