/-! the small machine beside the real one: what holds between them -/
def stdL : List Int32 := [1000, 1001, 2, 1012, 1011, 1002, 3, 1012, 1011, 1005, 1011]
def stdI (j : Nat) : Int32 := stdL.getD j 0
def strB : List (List Int32) := [[112, 101, 114, 115, 111, 110, 32, 106, 111, 107, 101, 32, 115, 116, 114, 101, 101, 116, 32, 106, 117, 103, 32, 100, 114, 105, 110, 107], [115, 116, 114, 111, 110, 103, 32, 97, 112, 97, 114, 116, 32, 119, 111, 114, 110, 32, 116, 111, 108, 100, 32, 100, 105, 109, 112, 108, 101, 115, 32, 103, 114, 105, 101, 102, 32, 110, 101, 97, 114, 32, 116, 104, 105, 114, 115, 116, 32, 100, 97, 121, 32, 112, 101, 114, 115, 111, 110], [108, 101, 97, 115, 116, 32, 109, 111, 115, 116], [116, 101, 108, 108, 32, 103, 114, 105, 101, 118, 101, 32, 99, 104, 101, 101, 114, 32, 112, 111, 117, 114, 32, 100, 97, 121, 32, 97, 103, 97, 105, 110]]
def strL : List Nat := [28, 59, 10, 32]
def i0 (xs : Nat → Int32) (a j : Nat) : Int32 := if a = 1000000 then xs j else if a = 1000001 then stdI j else if 1000006 ≤ a ∧ a < 1000010 then (strB.getD (a - 1000006) []).getD j 0 else 0
def r0 (a j : Nat) : Option Nat := if 1000002 ≤ a ∧ a < 1000006 ∧ j = 0 then some (a + 4) else none
def k0 (L a : Nat) : Nat × Nat := if a = 1000000 then (21, L) else if a = 1000001 then (21, 11) else if 1000002 ≤ a ∧ a < 1000006 then (113, 0) else if 1000006 ≤ a ∧ a < 1000010 then (23, strL.getD (a - 1000006) 0) else (0, 0)
/-- the memory at the law's start -/
def mm_0 (L : Nat) (xs : Nat → Int32) : mm_M := (i0 xs, fun _ _ => 0, r0, k0 L, 0, 0, 0)
def tt (σ : mm_M) : Nat := mN σ + mX σ
/-- a memory that can be: the still part is as it was, the other cells are of a kind -/
def WF (L : Nat) (xs : Nat → Int32) (σ : mm_M) : Prop := mN σ ≤ 1000000 ∧ (∀ a, 1000000 ≤ a → mI σ a = i0 xs a ∧ mR σ a = r0 a ∧ mK σ a = k0 L a) ∧ (∀ a, mN σ ≤ a → a < 1000000 → mK σ a = (0, 0)) ∧ ∀ a, a < mN σ → (1 ≤ (mK σ a).1 ∧ (mK σ a).1 ≤ 5) ∨ (100 ≤ (mK σ a).1 ∧ (mK σ a).1 < 113)
def mm_AO (U : State) : Prop := (Cond.arrayOver (.array .int)).before #[] U = true
theorem mm_AO_moved {u U : State} (hvm : u.vm.Alike U.vm) (h : mm_AO u) : mm_AO U := over_moved (a := #[]) (a' := #[]) hvm h
def nwk (w : Cond) : Bool := match w with
  | .fieldLinkNest .. => true
  | .methodLinkNest .. => true
  | .declares _ => true
  | .castable .. => true
  | _ => false
def nwl : List Cond := lw_tbl.filter nwk
theorem nw_warm {w : Cond} (hk : nwk w = true) {s U : State} (hW : s.WarmedH U.vm) (h : va_Nw w s) : va_Nw w U := by
  cases w <;> first | (exact va_Nw.warmF hW h) | (exact va_Nw.warmM hW h) | (exact va_Nw.warmD hW h) | (exact va_Nw.warmC hW h) | (cases hk)
abbrev mA0 (b0 : Nat) : Nat → Prop := fun q => b0 ≤ q
def mtys (cA : Nat → ClassId) : List (ClassId × FieldType) := [(cA 1, .int), (cA 2, .long), (cA 3, .byte), (cA 4, .boolean), (cA 5, .array .int)]
/-- a copy speaks only of what it copies -/
theorem cpy_as {f g h : Nat → Int32} {M sp dp n : Nat} (e : ∀ j, j < M → f j = g j) (hl : sp + n ≤ M) : va_cpy f h sp dp n = va_cpy g h sp dp n := by
  funext k
  unfold va_cpy
  split
  · exact e _ (by omega)
  · rfl
/-- the still part of the world -/
def Stc (sad : Nat → Nat) (fv : Value) (L : Nat) (xs : Nat → Int32) (b0 : Nat) (U : State) (H : Heap) : Prop :=
  (va_X (sad 1000000) L xs U H ∧ sad 1000000 < b0) ∧ ((∃ (N : Nat) (f : Nat → Int32), va_X (sad 1000001) N f U H ∧ 11 ≤ N ∧ Int32.ofNat N = Int32.ofNat 11 ∧ ∀ j, j < 11 → f j = stdI j) ∧ sad 1000001 < b0) ∧
  vk_S 4 strL strB (fun i => sad (1000002 + i)) (fun i => sad (1000006 + i)) (mA0 b0) U H ∧
  va_Z "DimpleWells$Law" "STANDARD" "[I" (.ref (sad 1000001)) (mA0 b0) U H ∧ va_Z "java/lang/String" "COMPACT_STRINGS" "Z" (.int 1) (mA0 b0) U H ∧
  va_Z "jdk/internal/util/Preconditions" "SIOOBE_FORMATTER" "Ljava/util/function/BiFunction;" fv (mA0 b0) U H ∧
  vx_Zq Bundle.tN "UNASSIGNED_STACK" Bundle.steD (mA0 b0) U H ∧ vx_Zq Bundle.tN "SUPPRESSED_SENTINEL" Bundle.listD (mA0 b0) U H ∧
  (∀ q ∈ kt, vk_R (onm q.1) q.2.1 q.2.2.2.1 (sad q.2.2.1) U) ∧ (∀ w ∈ nwl, va_Nw w U) ∧ mm_AO U ∧
  va_Nc "java/lang/IllegalArgumentException" "java/util/NoSuchElementException" U
theorem stc_go {sad : Nat → Nat} {fv : Value} {L : Nat} {xs : Nat → Int32} {b0 : Nat} {s U : State} {H H1 : Heap} (hW : s.WarmedH U.vm) (hq : ∀ a : Nat, a < H.size → ¬ b0 ≤ a → H1[a]? = H[a]?) (h : Stc sad fv L xs b0 s H) : Stc sad fv L xs b0 U H1 := by
  obtain ⟨⟨h1, h1'⟩, ⟨⟨N2, f2, h2, e2⟩, h2'⟩, h3, h4, h5, h6, h7, h8, h9, h10, h11, h12⟩ := h
  have al := hW.alike
  have lt1 : sad 1000000 < H.size := by obtain ⟨_, q, _⟩ := h1; exact (Array.getElem?_eq_some_iff.mp q).1
  have lt2 : sad 1000001 < H.size := by obtain ⟨_, q, _⟩ := h2; exact (Array.getElem?_eq_some_iff.mp q).1
  exact ⟨⟨(va_X.moved al h1).kept (hq _ lt1 (by omega)), h1'⟩, ⟨⟨N2, f2, (va_X.moved al h2).kept (hq _ lt2 (by omega)), e2⟩, h2'⟩, (vk_S.moved al h3).kept hq, (va_Z.moved al h4).kept hq, (va_Z.moved al h5).kept hq, (va_Z.moved al h6).kept hq,
    (vx_Zq.moved al h7).kept hq, (vx_Zq.moved al h8).kept hq, fun q hm => vk_R.warm hW (h9 q hm), fun w hm => nw_warm (List.mem_filter.mp hm).2 hW (h10 w hm), mm_AO_moved al h11, va_Nc.moved al h12⟩
theorem stc_same {sad : Nat → Nat} {fv : Value} {L : Nat} {xs : Nat → Int32} {b0 : Nat} {s U : State} {H : Heap} (hv : U.vm = s.vm) (h : Stc sad fv L xs b0 s H) : Stc sad fv L xs b0 U H := stc_go (by rw [hv]; exact State.WarmedH.refl s) (fun _ _ _ => rfl) h
/-- the locals: what is known of them -/
def LR (ad : Nat → Nat) (fv : Value) (nL : Nat) (nl : Bool) (lsR : Array Slot) (ls : List Value) : Prop :=
  ls.length = nL ∧ lsR.size = nL ∧ lv_wf lsR ∧ (∀ (i : Nat) (v : Value), ls[i]? = some v → (∀ q, v ≠ .retAddr q) → lsR[i]? = some (.val (tr ad fv v))) ∧ ∀ v ∈ ls, (∀ b, v ≠ .double b) ∧ (nl = true → v.category = 1)
/-- kinds tell the place -/
theorem wf_dyn {L : Nat} {xs : Nat → Int32} {σ : mm_M} (h : WF L xs σ) {a : Nat} (hk : (1 ≤ (mK σ a).1 ∧ (mK σ a).1 ≤ 5) ∨ (100 ≤ (mK σ a).1 ∧ (mK σ a).1 < 113)) : a < mN σ := by
  rcases Nat.lt_or_ge a (mN σ) with q | q
  · exact q
  · exfalso
    rcases Nat.lt_or_ge a 1000000 with q2 | q2
    · rw [h.2.2.1 a q q2] at hk; simp at hk
    · rw [(h.2.1 a q2).2.2] at hk
      unfold k0 at hk
      split at hk
      · simp at hk
      · split at hk
        · simp at hk
        · split at hk
          · simp at hk
          · split at hk <;> simp at hk
theorem wf_s21 {L : Nat} {xs : Nat → Int32} {σ : mm_M} (h : WF L xs σ) {a : Nat} (hk : (mK σ a).1 = 21) : (a = 1000000 ∧ (mK σ a).2 = L ∧ mI σ a = xs) ∨ (a = 1000001 ∧ (mK σ a).2 = 11 ∧ mI σ a = stdI) := by
  rcases Nat.lt_or_ge a 1000000 with q2 | q2
  · exfalso
    rcases Nat.lt_or_ge a (mN σ) with q | q
    · have := h.2.2.2 a q; omega
    · rw [h.2.2.1 a q q2] at hk; simp at hk
  · obtain ⟨e1, e2, e3⟩ := h.2.1 a q2
    rw [e3] at hk ⊢
    rw [e1]
    unfold k0 at hk ⊢
    by_cases c1 : a = 1000000
    · left; subst c1; exact ⟨rfl, rfl, by funext j; simp [i0]⟩
    · by_cases c2 : a = 1000001
      · right; subst c2; exact ⟨rfl, rfl, by funext j; simp [i0]⟩
      · exfalso
        rw [if_neg c1, if_neg c2] at hk
        split at hk
        · simp at hk
        · split at hk <;> simp at hk
theorem wf_s23 {L : Nat} {xs : Nat → Int32} {σ : mm_M} (h : WF L xs σ) {a : Nat} (hk : (mK σ a).1 = 23) : ∃ i, i < 4 ∧ a = 1000006 + i ∧ (mK σ a).2 = strL.getD i 0 ∧ ∀ j, mI σ a j = (strB.getD i []).getD j 0 := by
  rcases Nat.lt_or_ge a 1000000 with q2 | q2
  · exfalso
    rcases Nat.lt_or_ge a (mN σ) with q | q
    · have := h.2.2.2 a q; omega
    · rw [h.2.2.1 a q q2] at hk; simp at hk
  · obtain ⟨e1, e2, e3⟩ := h.2.1 a q2
    rw [e3] at hk ⊢
    rw [e1]
    by_cases c4 : 1000006 ≤ a ∧ a < 1000010
    · refine ⟨a - 1000006, by omega, by omega, ?_, fun j => ?_⟩
      · unfold k0; rw [if_neg (by omega), if_neg (by omega), if_neg (by omega), if_pos c4]
      · unfold i0; rw [if_neg (by omega), if_neg (by omega), if_pos c4]
    · exfalso
      unfold k0 at hk
      rw [if_neg c4] at hk
      split at hk
      · simp at hk
      · split at hk
        · simp at hk
        · split at hk <;> simp at hk
theorem wf_s113 {L : Nat} {xs : Nat → Int32} {σ : mm_M} (h : WF L xs σ) {a : Nat} (hk : (mK σ a).1 = 113) : ∃ i, i < 4 ∧ a = 1000002 + i ∧ mR σ a 0 = some (1000006 + i) ∧ mI σ a 1 = 0 := by
  rcases Nat.lt_or_ge a 1000000 with q2 | q2
  · exfalso
    rcases Nat.lt_or_ge a (mN σ) with q | q
    · have := h.2.2.2 a q; omega
    · rw [h.2.2.1 a q q2] at hk; simp at hk
  · obtain ⟨e1, e2, e3⟩ := h.2.1 a q2
    rw [e3] at hk
    rw [e1, e2]
    by_cases c4 : 1000002 ≤ a ∧ a < 1000006
    · refine ⟨a - 1000002, by omega, by omega, ?_, ?_⟩
      · unfold r0; rw [if_pos ⟨c4.1, c4.2, rfl⟩]; exact congrArg some (by omega)
      · unfold i0; rw [if_neg (by omega), if_neg (by omega), if_neg (by omega)]
    · exfalso
      unfold k0 at hk
      rw [if_neg c4] at hk
      split at hk
      · simp at hk
      · split at hk
        · simp at hk
        · split at hk <;> simp at hk
theorem wf_wI {L : Nat} {xs : Nat → Int32} {σ : mm_M} (h : WF L xs σ) {a i : Nat} {v : Int32} (ha : a < mN σ) : WF L xs (wI σ a i v) :=
  ⟨h.1, fun b hb => ⟨by rw [mI_wI, if_neg (by have := h.1; omega)]; exact (h.2.1 b hb).1, (h.2.1 b hb).2⟩, h.2.2.1, h.2.2.2⟩
theorem wf_wA {L : Nat} {xs : Nat → Int32} {σ : mm_M} (h : WF L xs σ) {a : Nat} {f : Nat → Int32} (ha : a < mN σ) : WF L xs (wA σ a f) :=
  ⟨h.1, fun b hb => ⟨by rw [mI_wA, if_neg (by have := h.1; omega)]; exact (h.2.1 b hb).1, (h.2.1 b hb).2⟩, h.2.2.1, h.2.2.2⟩
theorem wf_wL {L : Nat} {xs : Nat → Int32} {σ : mm_M} (h : WF L xs σ) {a i : Nat} {v : Int64} : WF L xs (wL σ a i v) := h
theorem wf_wR {L : Nat} {xs : Nat → Int32} {σ : mm_M} (h : WF L xs σ) {a i v : Nat} (ha : a < mN σ) : WF L xs (wR σ a i v) :=
  ⟨h.1, fun b hb => ⟨(h.2.1 b hb).1, by rw [mR_wR, if_neg (by have := h.1; omega)]; exact (h.2.1 b hb).2.1, (h.2.1 b hb).2.2⟩, h.2.2.1, h.2.2.2⟩
theorem wf_mT {L : Nat} {xs : Nat → Int32} {σ : mm_M} (h : WF L xs σ) : WF L xs (mT σ) := h
theorem wf_mA {L : Nat} {xs : Nat → Int32} {σ : mm_M} (h : WF L xs σ) {q : Nat × Nat} {n : Nat} (hn : mN σ < 1000000) (hq : (1 ≤ q.1 ∧ q.1 ≤ 5) ∨ (100 ≤ q.1 ∧ q.1 < 113)) : WF L xs (mA σ q n) := by
  have hk : ∀ b, mK (mA σ q n) b = if b = mN σ then q else mK σ b := fun b => rfl
  refine ⟨by show mN σ + 1 ≤ 1000000; omega, fun b hb => ⟨?_, ?_, ?_⟩, fun b h1 h2 => ?_, fun b h1 => ?_⟩
  · rw [← (h.2.1 b hb).1]; funext j; show (if b = mN σ then 0 else _) = _; rw [if_neg (by omega)]; rfl
  · rw [← (h.2.1 b hb).2.1]; funext j; show (if b = mN σ then none else _) = _; rw [if_neg (by omega)]; rfl
  · rw [hk, if_neg (by omega)]; exact (h.2.1 b hb).2.2
  · have h1 : mN σ + 1 ≤ b := h1
    rw [hk, if_neg (by omega)]; exact h.2.2.1 b (by omega) h2
  · have h1 : b < mN σ + 1 := h1
    rw [hk]
    by_cases c : b = mN σ
    · rw [if_pos c]; exact hq
    · rw [if_neg c]; exact h.2.2.2 b (by omega)
theorem wf_mG {L : Nat} {xs : Nat → Int32} {σ : mm_M} (h : WF L xs σ) {n k : Nat} (hn : mN σ + 1 + n ≤ 1000000) : WF L xs (mG σ n k) := by
  have hk : ∀ b, mK (mG σ n k) b = if b = mN σ then (5, n) else if mN σ ≤ b ∧ b < mN σ + 1 + n then (1, k) else mK σ b := fun b => rfl
  refine ⟨by show mN σ + 1 + n ≤ 1000000; omega, fun b hb => ⟨?_, ?_, ?_⟩, fun b h1 h2 => ?_, fun b h1 => ?_⟩
  · rw [← (h.2.1 b hb).1]; funext j; show (if mN σ ≤ b ∧ b < mN σ + 1 + n then (0 : Int32) else _) = _; rw [if_neg (by omega)]; rfl
  · rw [← (h.2.1 b hb).2.1]; funext j; show (if b = mN σ then (if j < n then some (mN σ + 1 + j) else none) else if mN σ ≤ b ∧ b < mN σ + 1 + n then none else _) = _; rw [if_neg (by omega), if_neg (by omega)]; rfl
  · rw [hk, if_neg (by omega), if_neg (by omega)]; exact (h.2.1 b hb).2.2
  · have h1 : mN σ + 1 + n ≤ b := h1
    rw [hk, if_neg (by omega), if_neg (by omega)]; exact h.2.2.1 b (by omega) h2
  · have h1 : b < mN σ + 1 + n := h1
    rw [hk]
    by_cases c : b = mN σ
    · rw [if_pos c]; left; exact ⟨by simp, by simp⟩
    · rw [if_neg c]
      by_cases c2 : mN σ ≤ b ∧ b < mN σ + 1 + n
      · rw [if_pos c2]; left; exact ⟨by simp, by simp⟩
      · rw [if_neg c2]; exact h.2.2.2 b (by omega)
