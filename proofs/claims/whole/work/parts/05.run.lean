/-! the run of the small machine: with fuel, and its limit -/
def mm_run : Nat → Nat → Nat → Nat → List Value → List Value → mm_M → Option mm_R
  | 0, _, _, _, _, _, _ => none
  | n + 1, d, m, pc, ls, st, σ => match mfind pc (mcode m) with
    | none => none
    | some e => mm_step (mhnd m) (fun pc ls st σ => mm_run n d m pc ls st σ) (fun pc ls st σ => mm_run n d m pc ls st σ) (fun m' as σ => match d with
      | 0 => none
      | d' + 1 => (match rokb m' as σ with
        | true => mm_run n d' m' 0 (ment m' as) [] σ
        | false => none)) e ls st σ
/-- F climbs to x -/
def Cn (F : Nat → Option mm_R) (x : Option mm_R) : Prop := (∀ n r, F n = some r → F (n + 1) = some r) ∧ ∀ r, x = some r ↔ ∃ n, F n = some r
theorem Cn.up {F : Nat → Option mm_R} {x : Option mm_R} (h : Cn F x) {n r} (k : Nat) (e : F n = some r) : F (n + k) = some r := by
  induction k with
  | zero => exact e
  | succ k ih => exact h.1 _ _ ih
theorem cn_const (x : Option mm_R) : Cn (fun _ => x) x := ⟨fun _ _ h => h, fun r => ⟨fun h => ⟨0, h⟩, fun ⟨_, h⟩ => h⟩⟩
theorem cn_ite {c : Prop} [Decidable c] {F G : Nat → Option mm_R} {x y : Option mm_R} (h1 : Cn F x) (h2 : Cn G y) : Cn (fun n => if c then F n else G n) (if c then x else y) := by
  by_cases h : c
  · simpa [h] using h1
  · simpa [h] using h2
theorem cn_oI (v : Value) {k : Nat → Int32 → Option mm_R} {k1 : Int32 → Option mm_R} (h : ∀ a, Cn (fun n => k n a) (k1 a)) : Cn (fun n => oI v (k n)) (oI v k1) := by
  cases v <;> simp only [oI] <;> first | exact cn_const _ | exact h _
theorem cn_oL (v : Value) {k : Nat → Int64 → Option mm_R} {k1 : Int64 → Option mm_R} (h : ∀ a, Cn (fun n => k n a) (k1 a)) : Cn (fun n => oL v (k n)) (oL v k1) := by
  cases v <;> simp only [oL] <;> first | exact cn_const _ | exact h _
theorem cn_oR (v : Value) {k : Nat → Nat → Option mm_R} {k1 : Nat → Option mm_R} (h : ∀ a, Cn (fun n => k n a) (k1 a)) : Cn (fun n => oR v (k n)) (oR v k1) := by
  cases v <;> simp only [oR] <;> first | exact cn_const _ | exact h _
theorem cn_pI (st : List Value) {k : Nat → Int32 → List Value → Option mm_R} {k1 : Int32 → List Value → Option mm_R} (h : ∀ a t, Cn (fun n => k n a t) (k1 a t)) : Cn (fun n => pI st (k n)) (pI st k1) := by
  unfold pI
  split
  · exact h _ _
  · exact cn_const _
theorem cn_pL (st : List Value) {k : Nat → Int64 → List Value → Option mm_R} {k1 : Int64 → List Value → Option mm_R} (h : ∀ a t, Cn (fun n => k n a t) (k1 a t)) : Cn (fun n => pL st (k n)) (pL st k1) := by
  unfold pL
  split
  · exact h _ _
  · exact cn_const _
theorem cn_pR (st : List Value) {k : Nat → Nat → List Value → Option mm_R} {k1 : Nat → List Value → Option mm_R} (h : ∀ a t, Cn (fun n => k n a t) (k1 a t)) : Cn (fun n => pR st (k n)) (pR st k1) := by
  unfold pR
  split
  · exact h _ _
  · exact cn_const _
theorem cn_pA (y : Nat) (st : List Value) {k : Nat → List Value → List Value → Option mm_R} {k1 : List Value → List Value → Option mm_R} (h : ∀ a t, Cn (fun n => k n a t) (k1 a t)) : Cn (fun n => pA y st (k n)) (pA y st k1) := by
  unfold pA
  split
  · exact h _ _
  · exact cn_const _
theorem cn_gd (t : List Value) {X : Nat → Option mm_R} {x : Option mm_R} (h : Cn X x) : Cn (fun n => gd t (X n)) (gd t x) := by
  unfold gd
  split
  · exact h
  · exact cn_const _
theorem cn_gI (σ : mm_M) (c a x : Nat) {k : Nat → Int32 → Option mm_R} {k1 : Int32 → Option mm_R} (h : ∀ a, Cn (fun n => k n a) (k1 a)) : Cn (fun n => gI σ c a x (k n)) (gI σ c a x k1) := cn_ite (h _) (cn_const _)
theorem cn_gR (σ : mm_M) (c a x : Nat) {k : Nat → Nat → Option mm_R} {k1 : Nat → Option mm_R} (h : ∀ a, Cn (fun n => k n a) (k1 a)) : Cn (fun n => gR σ c a x (k n)) (gR σ c a x k1) := by
  refine cn_ite ?_ (cn_const _)
  split
  · exact h _
  · exact cn_const _
theorem cn_sI (σ : mm_M) (c a x : Nat) (v : Int32) {k : Nat → mm_M → Option mm_R} {k1 : mm_M → Option mm_R} (h : ∀ a, Cn (fun n => k n a) (k1 a)) : Cn (fun n => sI σ c a x v (k n)) (sI σ c a x v k1) := cn_ite (h _) (cn_const _)
theorem cn_sR (σ : mm_M) (c a x : Nat) (v : Nat) {k : Nat → mm_M → Option mm_R} {k1 : mm_M → Option mm_R} (h : ∀ a, Cn (fun n => k n a) (k1 a)) : Cn (fun n => sR σ c a x v (k n)) (sR σ c a x v k1) := cn_ite (h _) (cn_const _)
theorem cn_aI (σ : mm_M) (a : Nat) (i : Int32) {k : Nat → Int32 → Option mm_R} {k1 : Int32 → Option mm_R} (h : ∀ a, Cn (fun n => k n a) (k1 a)) : Cn (fun n => aI σ a i (k n)) (aI σ a i k1) := cn_ite (h _) (cn_const _)
theorem cn_aB (σ : mm_M) (a : Nat) (i : Int32) {k : Nat → Int32 → Option mm_R} {k1 : Int32 → Option mm_R} (h : ∀ a, Cn (fun n => k n a) (k1 a)) : Cn (fun n => aB σ a i (k n)) (aB σ a i k1) := cn_ite (h _) (cn_const _)
theorem cn_aL (σ : mm_M) (a : Nat) (i : Int32) {k : Nat → Int64 → Option mm_R} {k1 : Int64 → Option mm_R} (h : ∀ a, Cn (fun n => k n a) (k1 a)) : Cn (fun n => aL σ a i (k n)) (aL σ a i k1) := cn_ite (h _) (cn_const _)
theorem cn_aR (σ : mm_M) (a : Nat) (i : Int32) {k : Nat → Nat → Option mm_R} {k1 : Nat → Option mm_R} (h : ∀ a, Cn (fun n => k n a) (k1 a)) : Cn (fun n => aR σ a i (k n)) (aR σ a i k1) := by
  refine cn_ite ?_ (cn_const _)
  split
  · exact h _
  · exact cn_const _
theorem cn_tI (σ : mm_M) (a : Nat) (i v : Int32) {k : Nat → mm_M → Option mm_R} {k1 : mm_M → Option mm_R} (h : ∀ a, Cn (fun n => k n a) (k1 a)) : Cn (fun n => tI σ a i v (k n)) (tI σ a i v k1) := cn_ite (h _) (cn_const _)
theorem cn_tB (σ : mm_M) (a : Nat) (i v : Int32) {k : Nat → mm_M → Option mm_R} {k1 : mm_M → Option mm_R} (h : ∀ a, Cn (fun n => k n a) (k1 a)) : Cn (fun n => tB σ a i v (k n)) (tB σ a i v k1) := cn_ite (h _) (cn_ite (h _) (cn_const _))
theorem cn_tL (σ : mm_M) (a : Nat) (i : Int32) (v : Int64) {k : Nat → mm_M → Option mm_R} {k1 : mm_M → Option mm_R} (h : ∀ a, Cn (fun n => k n a) (k1 a)) : Cn (fun n => tL σ a i v (k n)) (tL σ a i v k1) := cn_ite (h _) (cn_const _)
theorem cn_aN (σ : mm_M) (a : Nat) {k : Nat → Int32 → Option mm_R} {k1 : Int32 → Option mm_R} (h : ∀ a, Cn (fun n => k n a) (k1 a)) : Cn (fun n => aN σ a (k n)) (aN σ a k1) := cn_ite (h _) (cn_const _)
theorem cn_cpy (σ : mm_M) (a : Nat) (sp : Int32) (b : Nat) (dp m : Int32) {k : Nat → mm_M → Option mm_R} {k1 : mm_M → Option mm_R} (h : ∀ a, Cn (fun n => k n a) (k1 a)) : Cn (fun n => cpy σ a sp b dp m (k n)) (cpy σ a sp b dp m k1) := cn_ite (h _) (cn_const _)
/-- a call, then what goes on with its answer -/
theorem cn_bind (B : Option mm_R → (mm_R → Option mm_R) → Option mm_R) (hn : ∀ k, B none k = none) (hs : ∀ q k, B (some q) k = k q) {X : Nat → Option mm_R} {x : Option mm_R} {k : Nat → mm_R → Option mm_R} {k1 : mm_R → Option mm_R} (hX : Cn X x) (hk : ∀ q, Cn (fun n => k n q) (k1 q)) : Cn (fun n => B (X n) (k n)) (B x k1) := by
  refine ⟨fun n r h => ?_, fun r => ⟨fun h => ?_, fun ⟨n, h⟩ => ?_⟩⟩
  · cases hx : X n with
    | none => simp only [hx, hn] at h; cases h
    | some q =>
      simp only [hx, hs] at h
      simp only [hX.1 _ _ hx, hs]
      exact (hk q).1 _ _ h
  · cases hx : x with
    | none => rw [hx, hn] at h; cases h
    | some q =>
      rw [hx, hs] at h
      obtain ⟨a, ha⟩ := (hX.2 q).mp hx
      obtain ⟨b, hb⟩ := ((hk q).2 r).mp h
      refine ⟨a + b, ?_⟩
      have h1 := hX.up b ha
      have h2 := (hk q).up a hb
      simp only [h1, hs]
      rw [Nat.add_comm a b]
      exact h2
  · cases hx : X n with
    | none => simp only [hx, hn] at h; cases h
    | some q =>
      simp only [hx, hs] at h
      rw [(hX.2 q).mpr ⟨n, hx⟩, hs]
      exact ((hk q).2 r).mpr ⟨n, h⟩
def bn (x : Option mm_R) (k : mm_R → Option mm_R) : Option mm_R := match x with
  | none => none
  | some q => k q
theorem cn_bn {X : Nat → Option mm_R} {x : Option mm_R} {k : Nat → mm_R → Option mm_R} {k1 : mm_R → Option mm_R} (hX : Cn X x) (hk : ∀ q, Cn (fun n => k n q) (k1 q)) : Cn (fun n => bn (X n) (k n)) (bn x k1) := cn_bind bn (fun _ => rfl) (fun _ _ => rfl) hX hk
theorem cI_bn (x : Option mm_R) (k) : cI x k = bn x (fun q => cI (some q) k) := by cases x <;> rfl
theorem cL_bn (x : Option mm_R) (k) : cL x k = bn x (fun q => cL (some q) k) := by cases x <;> rfl
theorem cV_bn (x : Option mm_R) (k) : cV x k = bn x (fun q => cV (some q) k) := by cases x <;> rfl
theorem cI1_bn (x : Option mm_R) (k) : cI1 x k = bn x (fun q => cI1 (some q) k) := by cases x <;> rfl
theorem cL1_bn (x : Option mm_R) (k) : cL1 x k = bn x (fun q => cL1 (some q) k) := by cases x <;> rfl
theorem cV1_bn (x : Option mm_R) (k) : cV1 x k = bn x (fun q => cV1 (some q) k) := by cases x <;> rfl
theorem cIh_bn (h) (x : Option mm_R) (k) : cIh h x k = bn x (fun q => cIh h (some q) k) := by cases x <;> rfl
theorem cLh_bn (h) (x : Option mm_R) (k) : cLh h x k = bn x (fun q => cLh h (some q) k) := by cases x <;> rfl
theorem cn_cI {X : Nat → Option mm_R} {x : Option mm_R} {k : Nat → Int32 → mm_M → Option mm_R} {k1 : Int32 → mm_M → Option mm_R} (hX : Cn X x) (hk : ∀ r σ, Cn (fun n => k n r σ) (k1 r σ)) : Cn (fun n => cI (X n) (k n)) (cI x k1) := by
  simp only [cI_bn (X _), cI_bn x]
  refine cn_bn hX fun q => ?_
  unfold cI
  split <;> first | exact hk _ _ | exact cn_const _
theorem cn_cL {X : Nat → Option mm_R} {x : Option mm_R} {k : Nat → Int64 → mm_M → Option mm_R} {k1 : Int64 → mm_M → Option mm_R} (hX : Cn X x) (hk : ∀ r σ, Cn (fun n => k n r σ) (k1 r σ)) : Cn (fun n => cL (X n) (k n)) (cL x k1) := by
  simp only [cL_bn (X _), cL_bn x]
  refine cn_bn hX fun q => ?_
  unfold cL
  split <;> first | exact hk _ _ | exact cn_const _
theorem cn_cV {X : Nat → Option mm_R} {x : Option mm_R} {k : Nat → mm_M → Option mm_R} {k1 : mm_M → Option mm_R} (hX : Cn X x) (hk : ∀ σ, Cn (fun n => k n σ) (k1 σ)) : Cn (fun n => cV (X n) (k n)) (cV x k1) := by
  simp only [cV_bn (X _), cV_bn x]
  refine cn_bn hX fun q => ?_
  unfold cV
  split <;> first | exact hk _ | exact cn_const _
theorem cn_cI1 {X : Nat → Option mm_R} {x : Option mm_R} {k : Nat → Int32 → mm_M → Option mm_R} {k1 : Int32 → mm_M → Option mm_R} (hX : Cn X x) (hk : ∀ r σ, Cn (fun n => k n r σ) (k1 r σ)) : Cn (fun n => cI1 (X n) (k n)) (cI1 x k1) := by
  simp only [cI1_bn (X _), cI1_bn x]
  refine cn_bn hX fun q => ?_
  unfold cI1
  split <;> first | exact hk _ _ | exact cn_const _
theorem cn_cL1 {X : Nat → Option mm_R} {x : Option mm_R} {k : Nat → Int64 → mm_M → Option mm_R} {k1 : Int64 → mm_M → Option mm_R} (hX : Cn X x) (hk : ∀ r σ, Cn (fun n => k n r σ) (k1 r σ)) : Cn (fun n => cL1 (X n) (k n)) (cL1 x k1) := by
  simp only [cL1_bn (X _), cL1_bn x]
  refine cn_bn hX fun q => ?_
  unfold cL1
  split <;> first | exact hk _ _ | exact cn_const _
theorem cn_cV1 {X : Nat → Option mm_R} {x : Option mm_R} {k : Nat → mm_M → Option mm_R} {k1 : mm_M → Option mm_R} (hX : Cn X x) (hk : ∀ σ, Cn (fun n => k n σ) (k1 σ)) : Cn (fun n => cV1 (X n) (k n)) (cV1 x k1) := by
  simp only [cV1_bn (X _), cV1_bn x]
  refine cn_bn hX fun q => ?_
  unfold cV1
  split <;> first | exact hk _ | exact cn_const _
theorem cn_cIh (h : List (Nat × Int32)) {X : Nat → Option mm_R} {x : Option mm_R} {k : Nat → Int32 → mm_M → Option mm_R} {k1 : Int32 → mm_M → Option mm_R} (hX : Cn X x) (hk : ∀ r σ, Cn (fun n => k n r σ) (k1 r σ)) : Cn (fun n => cIh h (X n) (k n)) (cIh h x k1) := by
  simp only [cIh_bn h (X _), cIh_bn h x]
  refine cn_bn hX fun q => ?_
  unfold cIh
  split <;> first | exact hk _ _ | exact cn_const _
theorem cn_cLh (h : List (Nat × Int32)) {X : Nat → Option mm_R} {x : Option mm_R} {k : Nat → Int64 → mm_M → Option mm_R} {k1 : Int64 → mm_M → Option mm_R} (hX : Cn X x) (hk : ∀ r σ, Cn (fun n => k n r σ) (k1 r σ)) : Cn (fun n => cLh h (X n) (k n)) (cLh h x k1) := by
  simp only [cLh_bn h (X _), cLh_bn h x]
  refine cn_bn hX fun q => ?_
  unfold cLh
  split <;> first | exact hk _ _ | exact cn_const _
set_option maxHeartbeats 4000000 in
theorem cn_step (h : List (Nat × Int32)) {K S : Nat → Nat → List Value → List Value → mm_M → Option mm_R} {K1 S1 : Nat → List Value → List Value → mm_M → Option mm_R} {C : Nat → Nat → List Value → mm_M → Option mm_R} {C1 : Nat → List Value → mm_M → Option mm_R}
    (hK : ∀ pc ls st σ, Cn (fun n => K n pc ls st σ) (K1 pc ls st σ)) (hS : ∀ pc ls st σ, Cn (fun n => S n pc ls st σ) (S1 pc ls st σ)) (hC : ∀ m as σ, Cn (fun n => C n m as σ) (C1 m as σ)) (e : mm_E) (ls st : List Value) (σ : mm_M) : Cn (fun n => mm_step h (K n) (S n) (C n) e ls st σ) (mm_step h K1 S1 C1 e ls st σ) := by
  obtain ⟨pc, i, nx, v, x, y, z, w⟩ := e
  cases i <;> simp only [mm_step] <;>
    repeat (first | exact cn_const _ | exact hK _ _ _ _ | exact hS _ _ _ _ | refine cn_oI _ fun _ => ?_ | refine cn_oL _ fun _ => ?_ | refine cn_oR _ fun _ => ?_ | refine cn_pI _ fun _ _ => ?_ | refine cn_pL _ fun _ _ => ?_ | refine cn_pR _ fun _ _ => ?_ | refine cn_pA _ _ fun _ _ => ?_ | refine cn_gd _ ?_ | refine cn_gI _ _ _ _ fun _ => ?_ | refine cn_gR _ _ _ _ fun _ => ?_ | refine cn_sI _ _ _ _ _ fun _ => ?_ | refine cn_sR _ _ _ _ _ fun _ => ?_ | refine cn_aI _ _ _ fun _ => ?_ | refine cn_aB _ _ _ fun _ => ?_ | refine cn_aL _ _ _ fun _ => ?_ | refine cn_aR _ _ _ fun _ => ?_ | refine cn_tI _ _ _ _ fun _ => ?_ | refine cn_tB _ _ _ _ fun _ => ?_ | refine cn_tL _ _ _ _ fun _ => ?_ | refine cn_aN _ _ fun _ => ?_ | refine cn_cpy _ _ _ _ _ _ fun _ => ?_ | refine cn_cI (hC _ _ _) fun _ _ => ?_ | refine cn_cL (hC _ _ _) fun _ _ => ?_ | refine cn_cV (hC _ _ _) fun _ => ?_ | refine cn_cI1 (hC _ _ _) fun _ _ => ?_ | refine cn_cL1 (hC _ _ _) fun _ _ => ?_ | refine cn_cV1 (hC _ _ _) fun _ => ?_ | refine cn_cIh _ (hC _ _ _) fun _ _ => ?_ | refine cn_cLh _ (hC _ _ _) fun _ _ => ?_ | refine cn_ite ?_ ?_ | split)

/-- one step, for any continuations -/
def mm_one (m : Nat) (K S : Nat → List Value → List Value → mm_M → Option mm_R) (C : Nat → List Value → mm_M → Option mm_R) (pc : Nat) (ls st : List Value) (σ : mm_M) : Option mm_R := match mfind pc (mcode m) with
  | none => none
  | some e => mm_step (mhnd m) K S C e ls st σ
theorem cn_one (m : Nat) {K S : Nat → Nat → List Value → List Value → mm_M → Option mm_R} {K1 S1 : Nat → List Value → List Value → mm_M → Option mm_R} {C : Nat → Nat → List Value → mm_M → Option mm_R} {C1 : Nat → List Value → mm_M → Option mm_R}
    (hK : ∀ pc ls st σ, Cn (fun n => K n pc ls st σ) (K1 pc ls st σ)) (hS : ∀ pc ls st σ, Cn (fun n => S n pc ls st σ) (S1 pc ls st σ)) (hC : ∀ m as σ, Cn (fun n => C n m as σ) (C1 m as σ)) (pc : Nat) (ls st : List Value) (σ : mm_M) : Cn (fun n => mm_one m (K n) (S n) (C n) pc ls st σ) (mm_one m K1 S1 C1 pc ls st σ) := by
  unfold mm_one
  split
  · exact cn_const _
  · exact cn_step _ hK hS hC _ _ _ _
def mm_C (E : Nat → Nat → List Value → mm_M → Option mm_R) (d : Nat) : Nat → List Value → mm_M → Option mm_R := fun m' as σ => match d with
  | 0 => none
  | d' + 1 => E d' m' as σ
def mm_G (X : Option mm_R) (b : Bool) : Option mm_R := match b with
  | true => X
  | false => none
theorem mm_run_succ (n d m pc : Nat) (ls st : List Value) (σ : mm_M) : mm_run (n + 1) d m pc ls st σ = mm_one m (mm_run n d m) (mm_run n d m) (mm_C (fun d' m' as σ => mm_G (mm_run n d' m' 0 (ment m' as) [] σ) (rokb m' as σ)) d) pc ls st σ := by
  rfl
theorem cn_two {a b : Option mm_R} (h : ∀ r, a = some r → b = some r) : Cn (fun j => if j = 0 then a else b) b := by
  refine ⟨fun n r e => ?_, fun r => ⟨fun e => ⟨1, by simpa using e⟩, fun ⟨n, e⟩ => ?_⟩⟩
  · by_cases hn : n = 0
    · simp only [hn, if_true] at e
      simpa using h r e
    · simpa [hn] using e
  · by_cases hn : n = 0
    · simp only [hn, if_true] at e
      exact h r e
    · simpa [hn] using e
theorem mm_run_mono : ∀ (n d m pc : Nat) (ls st : List Value) (σ : mm_M) (r : mm_R), mm_run n d m pc ls st σ = some r → mm_run (n + 1) d m pc ls st σ = some r
  | 0, _, _, _, _, _, _, _, h => by cases h
  | n + 1, d, m, pc, ls, st, σ, r, h => by
    rw [mm_run_succ] at h ⊢
    have hK : ∀ pc ls st σ, Cn (fun j => (fun j pc ls st σ => if j = 0 then mm_run n d m pc ls st σ else mm_run (n + 1) d m pc ls st σ) j pc ls st σ) (mm_run (n + 1) d m pc ls st σ) := fun pc ls st σ => cn_two (mm_run_mono n d m pc ls st σ)
    have hC : ∀ m' as σ, Cn (fun j => (fun j m' as σ => if j = 0 then mm_C (fun d' m' as σ => mm_G (mm_run n d' m' 0 (ment m' as) [] σ) (rokb m' as σ)) d m' as σ else mm_C (fun d' m' as σ => mm_G (mm_run (n + 1) d' m' 0 (ment m' as) [] σ) (rokb m' as σ)) d m' as σ) j m' as σ) (mm_C (fun d' m' as σ => mm_G (mm_run (n + 1) d' m' 0 (ment m' as) [] σ) (rokb m' as σ)) d m' as σ) := fun m' as σ => cn_two (by
      cases d with
      | zero => intro r h; cases h
      | succ d =>
        show ∀ r, mm_G _ (rokb m' as σ) = some r → mm_G _ (rokb m' as σ) = some r
        cases rokb m' as σ with
        | true => exact mm_run_mono n d m' 0 (ment m' as) [] σ
        | false => intro r h; cases h)
    have key := (cn_one m hK hK hC pc ls st σ).1 0 r
    simp only [if_true] at key
    have := key h
    simpa using this
/-- the limit of a climbing row -/
noncomputable def mm_lim (F : Nat → Option mm_R) : Option mm_R := @dite _ (∃ n r, F n = some r) (Classical.propDecidable _) (fun h => F (Classical.choose h)) (fun _ => none)
theorem cn_lim {F : Nat → Option mm_R} (h : ∀ n r, F n = some r → F (n + 1) = some r) : Cn F (mm_lim F) := by
  have up : ∀ n k r, F n = some r → F (n + k) = some r := by
    intro n k r e
    induction k with
    | zero => exact e
    | succ k ih => exact h _ _ ih
  refine ⟨h, fun r => ⟨fun e => ?_, fun ⟨n, e⟩ => ?_⟩⟩
  · unfold mm_lim at e
    split at e
    · exact ⟨_, e⟩
    · cases e
  · have hx : ∃ n r, F n = some r := ⟨n, r, e⟩
    unfold mm_lim
    rw [dif_pos hx]
    obtain ⟨r', e'⟩ := Classical.choose_spec hx
    rw [e']
    have h1 := up n (Classical.choose hx) r e
    have h2 := up (Classical.choose hx) n r' e'
    rw [Nat.add_comm] at h2
    rw [h1] at h2
    exact h2.symm
theorem Cn.uniq {F : Nat → Option mm_R} {x y : Option mm_R} (h1 : Cn F x) (h2 : Cn F y) : x = y := by
  cases hx : x with
  | some r => exact (((h2.2 r).mpr ((h1.2 r).mp hx))).symm
  | none =>
    cases hy : y with
    | none => rfl
    | some r =>
      have := (h1.2 r).mpr ((h2.2 r).mp hy)
      rw [hx] at this
      cases this
theorem Cn.shift {F : Nat → Option mm_R} {x : Option mm_R} (h : Cn F x) : Cn (fun n => F (n + 1)) x := ⟨fun n r e => h.1 _ _ e, fun r => ⟨fun e => by
    obtain ⟨n, hn⟩ := (h.2 r).mp e
    exact ⟨n, h.1 _ _ hn⟩, fun ⟨n, e⟩ => (h.2 r).mpr ⟨n + 1, e⟩⟩⟩
/-- what the small machine comes to -/
noncomputable def rn (d m pc : Nat) (ls st : List Value) (σ : mm_M) : Option mm_R := mm_lim (fun n => mm_run n d m pc ls st σ)
noncomputable def ev (d m : Nat) (as : List Value) (σ : mm_M) : Option mm_R := mm_G (rn d m 0 (ment m as) [] σ) (rokb m as σ)
theorem ev_in {d m : Nat} {as : List Value} {σ : mm_M} (h : rokb m as σ = true) : ev d m as σ = rn d m 0 (ment m as) [] σ := by unfold ev; rw [h]; rfl
theorem rok_of {k a : Nat} {σ : mm_M} (h : (mK σ a).1 = k) : Nat.beq (mK σ a).1 k = true := by rw [h]; exact Nat.beq_refl k
theorem cn_rn (d m pc : Nat) (ls st : List Value) (σ : mm_M) : Cn (fun n => mm_run n d m pc ls st σ) (rn d m pc ls st σ) := cn_lim fun n r h => mm_run_mono n d m pc ls st σ r h
theorem rn_eq (d m pc : Nat) (ls st : List Value) (σ : mm_M) : rn d m pc ls st σ = mm_one m (rn d m) (rn d m) (mm_C ev d) pc ls st σ := by
  have h1 := (cn_rn d m pc ls st σ).shift
  simp only [mm_run_succ] at h1
  refine h1.uniq (cn_one m (fun pc ls st σ => cn_rn d m pc ls st σ) (fun pc ls st σ => cn_rn d m pc ls st σ) (fun m' as σ => ?_) pc ls st σ)
  cases d with
  | zero => exact cn_const _
  | succ d =>
    show Cn (fun n => mm_G (mm_run n d m' 0 (ment m' as) [] σ) (rokb m' as σ)) (mm_G (rn d m' 0 (ment m' as) [] σ) (rokb m' as σ))
    cases rokb m' as σ with
    | true => exact cn_rn d m' 0 (ment m' as) [] σ
    | false => exact cn_const _
/-- k steps, but not beyond a stop -/
noncomputable def mm_sn (m : Nat) (stop : Nat → Bool) (K : Nat → List Value → List Value → mm_M → Option mm_R) (C : Nat → List Value → mm_M → Option mm_R) (k : Nat) : Nat → List Value → List Value → mm_M → Option mm_R :=
  Nat.rec (motive := fun _ => Nat → List Value → List Value → mm_M → Option mm_R) K (fun _ ih pc ls st σ => match stop pc with
    | true => K pc ls st σ
    | false => mm_one m ih K C pc ls st σ) k
theorem rn_sn (d m : Nat) (stop : Nat → Bool) (k : Nat) : mm_sn m stop (rn d m) (mm_C ev d) k = rn d m := by
  induction k with
  | zero => rfl
  | succ k ih =>
    funext pc ls st σ
    show (match stop pc with
      | true => rn d m pc ls st σ
      | false => mm_one m (mm_sn m stop (rn d m) (mm_C ev d) k) (rn d m) (mm_C ev d) pc ls st σ) = _
    cases stop pc with
    | true => rfl
    | false => exact (by rw [ih]; exact (rn_eq d m pc ls st σ).symm)
/-- a block: the first step, then up to k more -/
theorem rn_bl (stop : Nat → Bool) (k : Nat) (d m pc : Nat) (ls st : List Value) (σ : mm_M) : rn d m pc ls st σ = mm_one m (mm_sn m stop (rn d m) (mm_C ev d) k) (rn d m) (mm_C ev d) pc ls st σ := by
  rw [rn_sn]
  exact rn_eq d m pc ls st σ
