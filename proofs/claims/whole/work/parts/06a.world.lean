/-! the worlds of the small machine: classes, their fields, the cells of a memory -/
def TW0 : u_T := fun k => match k with
  | 0 => ("DimpleWells", "tape", "LDimpleWells$Tape;", true)
  | 1 => ("DimpleWells", "scene", "LDimpleWells$Scene;", true)
  | 2 => ("DimpleWells", "steps", "LDimpleWells$Steps;", true)
  | 3 => ("DimpleWells", "now", "LDimpleWells$Days;", true)
  | 4 => ("DimpleWells", "trial", "LDimpleWells$Days;", true)
  | 5 => ("DimpleWells", "history", "LDimpleWells$History;", true)
  | 6 => ("DimpleWells", "plan", "LDimpleWells$Plan;", true)
  | 7 => ("DimpleWells", "guess", "LDimpleWells$Guess;", true)
  | 8 => ("DimpleWells", "years", "LDimpleWells$Years;", true)
  | 9 => ("DimpleWells", "spareLand", "LDimpleWells$Land;", false)
  | 10 => ("DimpleWells", "spareLaw", "LDimpleWells$Law;", false)
  | 11 => ("DimpleWells", "book", "LDimpleWells$Book;", false)
  | 12 => ("DimpleWells", "spareBook", "LDimpleWells$Book;", false)
  | 13 => ("DimpleWells", "refusedSteps", "I", false)
  | 14 => ("DimpleWells", "noSuchCalls", "I", false)
  | _ => ("DimpleWells", "wrongCalls", "I", false)
def tW0 : Nat → FieldType := fun k => match k with
  | 0 => .object "DimpleWells$Tape"
  | 1 => .object "DimpleWells$Scene"
  | 2 => .object "DimpleWells$Steps"
  | 3 => .object "DimpleWells$Days"
  | 4 => .object "DimpleWells$Days"
  | 5 => .object "DimpleWells$History"
  | 6 => .object "DimpleWells$Plan"
  | 7 => .object "DimpleWells$Guess"
  | 8 => .object "DimpleWells$Years"
  | 9 => .object "DimpleWells$Land"
  | 10 => .object "DimpleWells$Law"
  | 11 => .object "DimpleWells$Book"
  | 12 => .object "DimpleWells$Book"
  | 13 => .int
  | 14 => .int
  | _ => .int
def TW1 : u_T := fun k => match k with
  | 0 => ("DimpleWells$Tape", "bytes", "[B", true)
  | 1 => ("DimpleWells$Tape", "size", "I", false)
  | 2 => ("DimpleWells$Tape", "length", "I", false)
  | 3 => ("DimpleWells$Tape", "behind", "I", false)
  | 4 => ("DimpleWells$Tape", "kind", "I", false)
  | 5 => ("DimpleWells$Tape", "start", "I", false)
  | 6 => ("DimpleWells$Tape", "value", "I", false)
  | 7 => ("DimpleWells$Tape", "numberStart", "I", false)
  | 8 => ("DimpleWells$Tape", "fault", "I", false)
  | _ => ("DimpleWells$Tape", "place", "I", false)
def tW1 : Nat → FieldType := fun k => match k with
  | 0 => .array .byte
  | 1 => .int
  | 2 => .int
  | 3 => .int
  | 4 => .int
  | 5 => .int
  | 6 => .int
  | 7 => .int
  | 8 => .int
  | _ => .int
def TW2 : u_T := fun k => match k with
  | 0 => ("DimpleWells$Scene", "given", "[I", true)
  | 1 => ("DimpleWells$Scene", "land", "LDimpleWells$Land;", false)
  | _ => ("DimpleWells$Scene", "law", "LDimpleWells$Law;", false)
def tW2 : Nat → FieldType := fun k => match k with
  | 0 => .array .int
  | 1 => .object "DimpleWells$Land"
  | _ => .object "DimpleWells$Law"
def TW3 : u_T := fun k => match k with
  | 0 => ("DimpleWells$Land", "dimples", "[I", true)
  | 1 => ("DimpleWells$Land", "tastes", "[I", true)
  | 2 => ("DimpleWells$Land", "near", "[I", true)
  | 3 => ("DimpleWells$Land", "kinds", "[I", true)
  | 4 => ("DimpleWells$Land", "strengths", "[I", true)
  | 5 => ("DimpleWells$Land", "firstEnds", "[I", true)
  | 6 => ("DimpleWells$Land", "otherEnds", "[I", true)
  | 7 => ("DimpleWells$Land", "persons", "I", false)
  | 8 => ("DimpleWells$Land", "jokes", "I", false)
  | 9 => ("DimpleWells$Land", "streets", "I", false)
  | 10 => ("DimpleWells$Land", "jug", "I", false)
  | _ => ("DimpleWells$Land", "drink", "I", false)
def tW3 : Nat → FieldType := fun k => match k with
  | 0 => .array .int
  | 1 => .array .int
  | 2 => .array .int
  | 3 => .array .int
  | 4 => .array .int
  | 5 => .array .int
  | 6 => .array .int
  | 7 => .int
  | 8 => .int
  | 9 => .int
  | 10 => .int
  | _ => .int
def TW4 : u_T := fun k => match k with
  | 0 => ("DimpleWells$Law", "codes", "[I", true)
  | 1 => ("DimpleWells$Law", "pile", "[I", true)
  | _ => ("DimpleWells$Law", "length", "I", false)
def tW4 : Nat → FieldType := fun k => match k with
  | 0 => .array .int
  | 1 => .array .int
  | _ => .int
def TW5 : u_T := fun k => match k with
  | 0 => ("DimpleWells$Steps", "words", "[I", true)
  | 1 => ("DimpleWells$Steps", "firsts", "[I", true)
  | 2 => ("DimpleWells$Steps", "seconds", "[I", true)
  | 3 => ("DimpleWells$Steps", "behinds", "[I", true)
  | 4 => ("DimpleWells$Steps", "rows", "I", false)
  | 5 => ("DimpleWells$Steps", "begun", "I", false)
  | 6 => ("DimpleWells$Steps", "done", "I", false)
  | _ => ("DimpleWells$Steps", "refused", "I", false)
def tW5 : Nat → FieldType := fun k => match k with
  | 0 => .array .int
  | 1 => .array .int
  | 2 => .array .int
  | 3 => .array .int
  | 4 => .int
  | 5 => .int
  | 6 => .int
  | _ => .int
def TW6 : u_T := fun k => match k with
  | _ => ("DimpleWells$Days", "cells", "[I", true)
def tW6 : Nat → FieldType := fun k => match k with
  | _ => .array .int
def TW7 : u_T := fun k => match k with
  | 0 => ("DimpleWells$History", "past", "[I", true)
  | 1 => ("DimpleWells$History", "kept", "[I", true)
  | 2 => ("DimpleWells$History", "keptWorks", "[I", true)
  | 3 => ("DimpleWells$History", "works", "I", false)
  | _ => ("DimpleWells$History", "images", "I", false)
def tW7 : Nat → FieldType := fun k => match k with
  | 0 => .array .int
  | 1 => .array .int
  | 2 => .array .int
  | 3 => .int
  | _ => .int
def TW8 : u_T := fun k => match k with
  | 0 => ("DimpleWells$Plan", "waters", "[I", true)
  | 1 => ("DimpleWells$Plan", "mosts", "[I", true)
  | 2 => ("DimpleWells$Plan", "gains", "[I", true)
  | _ => ("DimpleWells$Plan", "chosen", "[I", true)
def tW8 : Nat → FieldType := fun k => match k with
  | 0 => .array .int
  | 1 => .array .int
  | 2 => .array .int
  | _ => .array .int
def TW9 : u_T := fun k => match k with
  | 0 => ("DimpleWells$Guess", "fitting", "[Z", true)
  | 1 => ("DimpleWells$Guess", "tally", "[I", true)
  | 2 => ("DimpleWells$Guess", "pairs", "I", false)
  | 3 => ("DimpleWells$Guess", "first", "I", false)
  | 4 => ("DimpleWells$Guess", "joke", "I", false)
  | _ => ("DimpleWells$Guess", "worst", "I", false)
def tW9 : Nat → FieldType := fun k => match k with
  | 0 => .array .boolean
  | 1 => .array .int
  | 2 => .int
  | 3 => .int
  | 4 => .int
  | _ => .int
def TW10 : u_T := fun k => match k with
  | 0 => ("DimpleWells$Years", "seed", "I", false)
  | _ => ("DimpleWells$Years", "laughed", "I", false)
def tW10 : Nat → FieldType := fun k => match k with
  | 0 => .int
  | _ => .int
def TW11 : u_T := fun k => match k with
  | 0 => ("DimpleWells$Book", "laughs", "[I", true)
  | _ => ("DimpleWells$Book", "lines", "I", false)
def tW11 : Nat → FieldType := fun k => match k with
  | 0 => .array .int
  | _ => .int
def TW12 : u_T := fun k => match k with
  | 0 => ("DimpleWellsModel", "thrown", "I", false)
  | 1 => ("DimpleWellsModel", "tape", "I", false)
  | 2 => ("DimpleWellsModel", "size", "I", false)
  | 3 => ("DimpleWellsModel", "place", "I", false)
  | 4 => ("DimpleWellsModel", "at", "I", false)
  | 5 => ("DimpleWellsModel", "fault", "I", false)
  | 6 => ("DimpleWellsModel", "faultAt", "I", false)
  | 7 => ("DimpleWellsModel", "clauses", "I", false)
  | 8 => ("DimpleWellsModel", "open", "I", false)
  | 9 => ("DimpleWellsModel", "fed", "[I", true)
  | 10 => ("DimpleWellsModel", "refused", "[I", true)
  | 11 => ("DimpleWellsModel", "readTold", "[I", true)
  | 12 => ("DimpleWellsModel", "told", "[I", true)
  | 13 => ("DimpleWellsModel", "readPerson", "[[I", true)
  | 14 => ("DimpleWellsModel", "person", "[[I", true)
  | 15 => ("DimpleWellsModel", "readJoke", "[[I", true)
  | 16 => ("DimpleWellsModel", "joke", "[[I", true)
  | 17 => ("DimpleWellsModel", "readStreet", "[[I", true)
  | 18 => ("DimpleWellsModel", "street", "[[I", true)
  | 19 => ("DimpleWellsModel", "lawMany", "I", false)
  | 20 => ("DimpleWellsModel", "readLawMany", "I", false)
  | 21 => ("DimpleWellsModel", "law", "[[I", true)
  | 22 => ("DimpleWellsModel", "readLaw", "[[I", true)
  | 23 => ("DimpleWellsModel", "line", "[[I", true)
  | 24 => ("DimpleWellsModel", "readLine", "[[I", true)
  | 25 => ("DimpleWellsModel", "stack", "[I", true)
  | 26 => ("DimpleWellsModel", "known", "[I", true)
  | 27 => ("DimpleWellsModel", "step", "[[I", true)
  | 28 => ("DimpleWellsModel", "steps", "I", false)
  | 29 => ("DimpleWellsModel", "now", "[I", true)
  | 30 => ("DimpleWellsModel", "trial", "[I", true)
  | 31 => ("DimpleWellsModel", "before", "[[I", true)
  | 32 => ("DimpleWellsModel", "kept", "[[I", true)
  | 33 => ("DimpleWellsModel", "lines", "I", false)
  | 34 => ("DimpleWellsModel", "works", "I", false)
  | 35 => ("DimpleWellsModel", "refusedSteps", "I", false)
  | 36 => ("DimpleWellsModel", "images", "I", false)
  | 37 => ("DimpleWellsModel", "spot", "I", false)
  | 38 => ("DimpleWellsModel", "begun", "I", false)
  | 39 => ("DimpleWellsModel", "doneSteps", "I", false)
  | 40 => ("DimpleWellsModel", "to", "[I", true)
  | 41 => ("DimpleWellsModel", "bestTo", "[I", true)
  | 42 => ("DimpleWellsModel", "mostWater", "I", false)
  | 43 => ("DimpleWellsModel", "seen", "[I", true)
  | 44 => ("DimpleWellsModel", "exact", "[J", true)
  | _ => ("DimpleWellsModel", "lots", "I", false)
def tW12 : Nat → FieldType := fun k => match k with
  | 0 => .int
  | 1 => .int
  | 2 => .int
  | 3 => .int
  | 4 => .int
  | 5 => .int
  | 6 => .int
  | 7 => .int
  | 8 => .int
  | 9 => .array .int
  | 10 => .array .int
  | 11 => .array .int
  | 12 => .array .int
  | 13 => .array (.array .int)
  | 14 => .array (.array .int)
  | 15 => .array (.array .int)
  | 16 => .array (.array .int)
  | 17 => .array (.array .int)
  | 18 => .array (.array .int)
  | 19 => .int
  | 20 => .int
  | 21 => .array (.array .int)
  | 22 => .array (.array .int)
  | 23 => .array (.array .int)
  | 24 => .array (.array .int)
  | 25 => .array .int
  | 26 => .array .int
  | 27 => .array (.array .int)
  | 28 => .int
  | 29 => .array .int
  | 30 => .array .int
  | 31 => .array (.array .int)
  | 32 => .array (.array .int)
  | 33 => .int
  | 34 => .int
  | 35 => .int
  | 36 => .int
  | 37 => .int
  | 38 => .int
  | 39 => .int
  | 40 => .array .int
  | 41 => .array .int
  | 42 => .int
  | 43 => .array .int
  | 44 => .array .long
  | _ => .int
def mcl : List vw_C := [("DimpleWells", TW0, 16), ("DimpleWells$Tape", TW1, 10), ("DimpleWells$Scene", TW2, 3), ("DimpleWells$Land", TW3, 12), ("DimpleWells$Law", TW4, 3), ("DimpleWells$Steps", TW5, 8), ("DimpleWells$Days", TW6, 1), ("DimpleWells$History", TW7, 5), ("DimpleWells$Plan", TW8, 4), ("DimpleWells$Guess", TW9, 6), ("DimpleWells$Years", TW10, 2), ("DimpleWells$Book", TW11, 2), ("DimpleWellsModel", TW12, 46)]
def mty : List (Nat → FieldType) := [tW0, tW1, tW2, tW3, tW4, tW5, tW6, tW7, tW8, tW9, tW10, tW11, tW12]
def mnf : List Nat := [16, 10, 3, 12, 3, 8, 1, 5, 4, 6, 2, 2, 46]
def mrf : List (List Bool) := [[true, true, true, true, true, true, true, true, true, true, true, true, true, false, false, false], [true, false, false, false, false, false, false, false, false, false], [true, true, true], [true, true, true, true, true, true, true, false, false, false, false, false], [true, true, false], [true, true, true, true, false, false, false, false], [true], [true, true, true, false, false], [true, true, true, true], [true, true, false, false, false, false], [false, false], [true, false], [false, false, false, false, false, false, false, false, false, true, true, true, true, true, true, true, true, true, true, false, false, true, true, true, true, true, true, true, false, true, true, true, true, false, false, false, false, false, false, false, true, true, false, true, true, false]]
def nfl (c : Nat) : Nat := mnf.getD c 0
def isR (c x : Nat) : Bool := (mrf.getD c []).getD x false
theorem mcl_len (ci : Nat) (q : vw_C) (h : mcl[ci]? = some q) : ci < 13 := (List.getElem?_eq_some_iff.mp h).1
/-- what a program decides of each class: its fields have different names, their types are parsed -/
def mclD (ci : Nat) : vw_C := mcl.getD ci ("", TW0, 0)
theorem mclD_of {ci : Nat} {q : vw_C} (h : mcl[ci]? = some q) : mclD ci = q := by unfold mclD; rw [List.getD_eq_getElem?_getD, h]; rfl
theorem mcl_at {ci : Nat} (h : ci < 13) : mcl[ci]? = some (mclD ci) := by
  have h1 : ci < mcl.length := h
  unfold mclD
  rw [List.getD_eq_getElem?_getD, List.getElem?_eq_getElem h1]
  rfl
def ftk (t : FieldType) : Nat := match t with
  | .int => 0
  | .object _ => 1
  | .array _ => 1
  | _ => 2
theorem mcl_names : ∀ ci, ci < 13 → ∀ a, a < (mclD ci).2.2 → ∀ b, b < (mclD ci).2.2 → a ≠ b → ((mclD ci).2.1 a).2.1 ≠ ((mclD ci).2.1 b).2.1 := by decide +kernel
theorem mcl_types : ∀ ci, ci < 13 → ∀ a, a < (mclD ci).2.2 → parseFieldDescriptor ((mclD ci).2.1 a).2.2.1 = some ((mty.getD ci tW0) a) := by decide +kernel
theorem mcl_nfl : ∀ ci, ci < 13 → (mclD ci).2.2 = nfl ci := by decide +kernel
theorem mcl_ftk : ∀ ci, ci < 13 → ∀ x, x < nfl ci → ftk ((mty.getD ci tW0) x) = (if isR ci x then 1 else 0) := by decide +kernel
theorem mcl_isR (ci : Nat) (hc : ci < 13) (x : Nat) (hx : x < nfl ci) : (isR ci x = false ∧ (mty.getD ci tW0) x = .int) ∨ (isR ci x = true ∧ ((∃ n, (mty.getD ci tW0) x = .object n) ∨ ∃ t, (mty.getD ci tW0) x = .array t)) := by
  have h1 := mcl_ftk ci hc x hx
  cases hr : isR ci x <;> rw [hr] at h1 <;> cases hq : (mty.getD ci tW0) x <;> rw [hq] at h1 <;> simp [ftk] at h1 ⊢

def mad (b0 : Nat) (sad : Nat → Nat) (k : Nat) : Nat := if k < 1000000 then b0 + k else sad k
def tr (ad : Nat → Nat) (fv : Value) (v : Value) : Value := match v with
  | .ref k => .ref (ad k)
  | .retAddr _ => fv
  | v => v
def fvals (ad : Nat → Nat) (c : Nat) (fI : Nat → Int32) (fR : Nat → Option Nat) : List Value := (List.range (nfl c)).map fun j => if isR c j then va_rf ((fR j).map ad) else .int (fI j)
def entOf (cA : Nat → ClassId) (ad : Nat → Nat) (q : Nat × Nat) (fI : Nat → Int32) (fL : Nat → Int64) (fR : Nat → Option Nat) : va_E :=
  if q.1 = 2 then .inl (cA 2, q.2, .inr (.inl fL))
  else if q.1 = 5 then .inl (cA 5, q.2, .inr (.inr (.inr (.inr (fun j => (fR j).map ad)))))
  else if q.1 < 100 then .inl (cA q.1, q.2, .inl fI)
  else .inr (q.1 - 100, fvals ad (q.1 - 100) fI fR)
def ent (cA : Nat → ClassId) (ad : Nat → Nat) (σ : mm_M) (k : Nat) : va_E := entOf cA ad (mK σ k) (mI σ k) (mL σ k) (mR σ k)
def wo (cA : Nat → ClassId) (ad : Nat → Nat) (σ : mm_M) : va_W := (List.range (mN σ)).map fun k => (ad k, ent cA ad σ k)
theorem wo_get {cA : Nat → ClassId} {ad : Nat → Nat} {σ : mm_M} {k : Nat} (h : k < mN σ) : (wo cA ad σ)[k]? = some (ad k, ent cA ad σ k) := by
  simp [wo, h]
theorem wo_len {cA : Nat → ClassId} {ad : Nat → Nat} {σ : mm_M} : (wo cA ad σ).length = mN σ := by simp [wo]
theorem wo_out {cA : Nat → ClassId} {ad : Nat → Nat} {σ : mm_M} {k : Nat} (h : ¬ k < mN σ) : (wo cA ad σ)[k]? = none := by
  simp [wo]; omega
/-- memories that differ at a alone: the worlds do so -/
theorem wo_upd {cA : Nat → ClassId} {ad : Nat → Nat} {σ τ : mm_M} {a : Nat} {e : va_E} (hn : mN τ = mN σ) (ho : ∀ k, k ≠ a → ent cA ad τ k = ent cA ad σ k) (he : ent cA ad τ a = e) : (wo cA ad σ).set a (ad a, e) = wo cA ad τ := by
  apply List.ext_getElem?
  intro k
  by_cases hk : k < mN σ
  · rw [wo_get (by rw [hn]; exact hk)]
    by_cases hka : k = a
    · subst hka
      rw [List.getElem?_set_self (by rw [wo_len]; exact hk), he]
    · rw [List.getElem?_set_ne (fun q => hka q.symm), wo_get hk, ho k hka]
  · rw [wo_out (by rw [hn]; exact hk), List.getElem?_eq_none]
    rw [List.length_set, wo_len]; omega
theorem wo_D {cA : Nat → ClassId} {b0 : Nat} {sad : Nat → Nat} {σ : mm_M} (h : mN σ ≤ 1000000) : va_D (fun q => b0 ≤ q) (wo cA (mad b0 sad) σ) := by
  have key : ∀ (k : Nat) (q : Nat × va_E), (wo cA (mad b0 sad) σ)[k]? = some q → q.1 = b0 + k ∧ k < mN σ := by
    intro k q hk
    by_cases hl : k < mN σ
    · rw [wo_get hl] at hk
      cases hk
      exact ⟨by unfold mad; rw [if_pos (by omega)], hl⟩
    · rw [wo_out hl] at hk; cases hk
  exact ⟨fun i j p q hi hj e => by have h1 := key i p hi; have h2 := key j q hj; omega, fun k q hk => by have h1 := key k q hk; show b0 ≤ q.1; omega⟩
theorem mI_wI (σ : mm_M) (a i : Nat) (v : Int32) (b : Nat) : mI (wI σ a i v) b = if b = a then upd (mI σ a) i v else mI σ b := by
  funext j
  unfold mI wI upd
  by_cases h : b = a
  · subst h; by_cases h2 : j = i <;> simp [h2]
  · simp [h]
theorem mL_wL (σ : mm_M) (a i : Nat) (v : Int64) (b : Nat) : mL (wL σ a i v) b = if b = a then vp_updL (mL σ a) i v else mL σ b := by
  funext j
  unfold mL wL vp_updL
  by_cases h : b = a
  · subst h; by_cases h2 : j = i <;> simp [h2]
  · simp [h]
theorem mR_wR (σ : mm_M) (a i : Nat) (v : Nat) (b : Nat) : mR (wR σ a i v) b = if b = a then va_up (mR σ a) i (some v) else mR σ b := by
  funext j
  unfold mR wR va_up
  by_cases h : b = a
  · subst h; by_cases h2 : j = i <;> simp [h2]
  · simp [h]
theorem mI_wA (σ : mm_M) (a : Nat) (f : Nat → Int32) (b : Nat) : mI (wA σ a f) b = if b = a then f else mI σ b := by
  funext j
  unfold mI wA
  by_cases h : b = a <;> simp [h]
theorem fvals_get {ad : Nat → Nat} {c : Nat} {fI : Nat → Int32} {fR : Nat → Option Nat} {x : Nat} (h : x < nfl c) : (fvals ad c fI fR)[x]? = some (if isR c x then va_rf ((fR x).map ad) else .int (fI x)) := by
  simp [fvals, h]
theorem fvals_len {ad : Nat → Nat} {c : Nat} {fI : Nat → Int32} {fR : Nat → Option Nat} : (fvals ad c fI fR).length = nfl c := by simp [fvals]
theorem fvals_setI {ad : Nat → Nat} {c : Nat} {fI : Nat → Int32} {fR : Nat → Option Nat} {x : Nat} {v : Int32} (hr : isR c x = false) : (fvals ad c fI fR).set x (.int v) = fvals ad c (upd fI x v) fR := by
  apply List.ext_getElem?
  intro k
  by_cases hk : k < nfl c
  · rw [fvals_get hk]
    by_cases hkx : k = x
    · subst hkx
      rw [List.getElem?_set_self (by rw [fvals_len]; exact hk)]
      simp [hr, upd]
    · rw [List.getElem?_set_ne (fun q => hkx q.symm), fvals_get hk]
      simp [upd, hkx]
  · rw [List.getElem?_eq_none (by rw [List.length_set, fvals_len]; omega), List.getElem?_eq_none (by rw [fvals_len]; omega)]
theorem fvals_setR {ad : Nat → Nat} {c : Nat} {fI : Nat → Int32} {fR : Nat → Option Nat} {x v : Nat} (hr : isR c x = true) : (fvals ad c fI fR).set x (.ref (ad v)) = fvals ad c fI (va_up fR x (some v)) := by
  apply List.ext_getElem?
  intro k
  by_cases hk : k < nfl c
  · rw [fvals_get hk]
    by_cases hkx : k = x
    · subst hkx
      rw [List.getElem?_set_self (by rw [fvals_len]; exact hk)]
      simp [hr, va_up, va_rf]
    · rw [List.getElem?_set_ne (fun q => hkx q.symm), fvals_get hk]
      simp [va_up, hkx]
  · rw [List.getElem?_eq_none (by rw [List.length_set, fvals_len]; omega), List.getElem?_eq_none (by rw [fvals_len]; omega)]
theorem ent_obj {cA : Nat → ClassId} {ad : Nat → Nat} {σ : mm_M} {k c : Nat} (h : (mK σ k).1 = 100 + c) : ent cA ad σ k = .inr (c, fvals ad c (mI σ k) (mR σ k)) := by
  unfold ent entOf
  rw [if_neg (by omega), if_neg (by omega), if_neg (by omega)]
  rw [show (mK σ k).1 - 100 = c by omega]
theorem ent_ints {cA : Nat → ClassId} {ad : Nat → Nat} {σ : mm_M} {k t : Nat} (h : (mK σ k).1 = t) (ht : t = 1 ∨ t = 3 ∨ t = 4) : ent cA ad σ k = .inl (cA t, (mK σ k).2, .inl (mI σ k)) := by
  unfold ent entOf
  rw [h, if_neg (by omega), if_neg (by omega), if_pos (by omega)]
theorem ent_longs {cA : Nat → ClassId} {ad : Nat → Nat} {σ : mm_M} {k : Nat} (h : (mK σ k).1 = 2) : ent cA ad σ k = .inl (cA 2, (mK σ k).2, .inr (.inl (mL σ k))) := by
  unfold ent entOf
  rw [h, if_pos rfl]
theorem ent_grid {cA : Nat → ClassId} {ad : Nat → Nat} {σ : mm_M} {k : Nat} (h : (mK σ k).1 = 5) : ent cA ad σ k = .inl (cA 5, (mK σ k).2, .inr (.inr (.inr (.inr (fun j => (mR σ k j).map ad))))) := by
  unfold ent entOf
  rw [h, if_neg (by omega), if_pos rfl]
/-- entries agree where the memories do -/
theorem ent_same {cA : Nat → ClassId} {ad : Nat → Nat} {σ τ : mm_M} {k : Nat} (h1 : mK τ k = mK σ k) (h2 : mI τ k = mI σ k) (h3 : mL τ k = mL σ k) (h4 : mR τ k = mR σ k) : ent cA ad τ k = ent cA ad σ k := by
  unfold ent; rw [h1, h2, h3, h4]
theorem wo_wI {cA : Nat → ClassId} {ad : Nat → Nat} {σ : mm_M} {a i t : Nat} {v : Int32} (h : (mK σ a).1 = t) (ht : t = 1 ∨ t = 3 ∨ t = 4) : (wo cA ad σ).set a (ad a, .inl (cA t, (mK σ a).2, .inl (upd (mI σ a) i v))) = wo cA ad (wI σ a i v) := by
  refine wo_upd rfl (fun k hk => ent_same rfl (by rw [mI_wI, if_neg hk]) rfl rfl) ?_
  rw [ent_ints (σ := wI σ a i v) h ht, mI_wI, if_pos rfl]
  rfl
theorem wo_wL {cA : Nat → ClassId} {ad : Nat → Nat} {σ : mm_M} {a i : Nat} {v : Int64} (h : (mK σ a).1 = 2) : (wo cA ad σ).set a (ad a, .inl (cA 2, (mK σ a).2, .inr (.inl (vp_updL (mL σ a) i v)))) = wo cA ad (wL σ a i v) := by
  refine wo_upd rfl (fun k hk => ent_same rfl rfl (by rw [mL_wL, if_neg hk]) rfl) ?_
  rw [ent_longs (σ := wL σ a i v) h, mL_wL, if_pos rfl]
  rfl
theorem wo_wA {cA : Nat → ClassId} {ad : Nat → Nat} {σ : mm_M} {a : Nat} {f : Nat → Int32} (h : (mK σ a).1 = 1) : (wo cA ad σ).set a (ad a, .inl (cA 1, (mK σ a).2, .inl f)) = wo cA ad (wA σ a f) := by
  refine wo_upd rfl (fun k hk => ent_same rfl (by rw [mI_wA, if_neg hk]) rfl rfl) ?_
  rw [ent_ints (σ := wA σ a f) (t := 1) h (Or.inl rfl), mI_wA, if_pos rfl]
  rfl
theorem wo_fI {cA : Nat → ClassId} {ad : Nat → Nat} {σ : mm_M} {a x c : Nat} {v : Int32} (h : (mK σ a).1 = 100 + c) (hr : isR c x = false) : (wo cA ad σ).set a (ad a, .inr (c, (fvals ad c (mI σ a) (mR σ a)).set x (.int v))) = wo cA ad (wI σ a x v) := by
  refine wo_upd rfl (fun k hk => ent_same rfl (by rw [mI_wI, if_neg hk]) rfl rfl) ?_
  rw [ent_obj (σ := wI σ a x v) h, mI_wI, if_pos rfl, fvals_setI hr]
  rfl
theorem wo_fR {cA : Nat → ClassId} {ad : Nat → Nat} {σ : mm_M} {a x c v : Nat} (h : (mK σ a).1 = 100 + c) (hr : isR c x = true) : (wo cA ad σ).set a (ad a, .inr (c, (fvals ad c (mI σ a) (mR σ a)).set x (.ref (ad v)))) = wo cA ad (wR σ a x v) := by
  refine wo_upd rfl (fun k hk => ent_same rfl rfl rfl (by rw [mR_wR, if_neg hk])) ?_
  rw [ent_obj (σ := wR σ a x v) h, mR_wR, if_pos rfl, fvals_setR hr]
  rfl
/-- one cell more -/
theorem wo_new {cA : Nat → ClassId} {ad : Nat → Nat} {σ : mm_M} {q : Nat × Nat} {n : Nat} : wo cA ad (mA σ q n) = wo cA ad σ ++ [(ad (mN σ), entOf cA ad q (fun _ => 0) (fun _ => 0) (fun _ => none))] := by
  have hs : ∀ k, k ≠ mN σ → ent cA ad (mA σ q n) k = ent cA ad σ k := by
    intro k hk
    refine ent_same ?_ ?_ ?_ ?_
    · unfold mK mA; simp [hk]
    · funext j; unfold mI mA; simp [hk]
    · funext j; unfold mL mA; simp [hk]
    · funext j; unfold mR mA; simp [hk]
  have hl : ent cA ad (mA σ q n) (mN σ) = entOf cA ad q (fun _ => 0) (fun _ => 0) (fun _ => none) := by
    unfold ent
    have e1 : mK (mA σ q n) (mN σ) = q := by unfold mK mA; simp
    have e2 : mI (mA σ q n) (mN σ) = fun _ => 0 := by funext j; unfold mI mA; simp
    have e3 : mL (mA σ q n) (mN σ) = fun _ => 0 := by funext j; unfold mL mA; simp
    have e4 : mR (mA σ q n) (mN σ) = fun _ => none := by funext j; unfold mR mA; simp
    rw [e1, e2, e3, e4]
  unfold wo
  rw [show mN (mA σ q n) = mN σ + 1 from rfl, List.range_succ, List.map_append, List.map_cons, List.map_nil, hl]
  congr 1
  apply List.map_congr_left
  intro k hk
  rw [List.mem_range] at hk
  rw [hs k (by omega)]
theorem wo_grid {cA : Nat → ClassId} {ad : Nat → Nat} {σ : mm_M} {n k : Nat} : wo cA ad (mG σ n k) = wo cA ad σ ++ (ad (mN σ), .inl (cA 5, n, .inr (.inr (.inr (.inr (fun j => (if j < n then some (mN σ + 1 + j) else none).map ad)))))) :: (List.range n).map (fun j => (ad (mN σ + 1 + j), .inl (cA 1, k, .inl (fun _ => 0)))) := by
  have hs : ∀ j, j < mN σ → ent cA ad (mG σ n k) j = ent cA ad σ j := by
    intro j hj
    have h1 : ¬ (mN σ ≤ j) := by omega
    have h2 : j ≠ mN σ := by omega
    refine ent_same ?_ ?_ ?_ ?_
    · unfold mK mG; simp [h1, h2]
    · funext i; unfold mI mG; simp [h1]
    · funext i; unfold mL mG; simp [h1]
    · funext i; unfold mR mG; simp [h1, h2]
  have h0 : ent cA ad (mG σ n k) (mN σ) = .inl (cA 5, n, .inr (.inr (.inr (.inr (fun j => (if j < n then some (mN σ + 1 + j) else none).map ad))))) := by
    have e1 : mK (mG σ n k) (mN σ) = (5, n) := by unfold mK mG; simp
    rw [ent_grid (by rw [e1]), e1]
    have e4 : mR (mG σ n k) (mN σ) = fun j => if j < n then some (mN σ + 1 + j) else none := by funext j; unfold mR mG; simp
    rw [e4]
  have hr : ∀ j, j < n → ent cA ad (mG σ n k) (mN σ + 1 + j) = .inl (cA 1, k, .inl (fun _ => 0)) := by
    intro j hj
    have g1 : mN σ ≤ mN σ + 1 + j ∧ mN σ + 1 + j < mN σ + 1 + n := by omega
    have g2 : mN σ + 1 + j ≠ mN σ := by omega
    have e1 : mK (mG σ n k) (mN σ + 1 + j) = (1, k) := by unfold mK mG; simp only [if_neg g2, if_pos g1]
    have e2 : mI (mG σ n k) (mN σ + 1 + j) = fun _ => 0 := by funext i; unfold mI mG; simp only [if_pos g1]
    rw [ent_ints (t := 1) (by rw [e1]) (Or.inl rfl), e1, e2]
  unfold wo
  rw [show mN (mG σ n k) = mN σ + (1 + n) from by unfold mG mN; simp [Nat.add_assoc], List.range_add, List.map_append]
  congr 1
  · apply List.map_congr_left
    intro j hj
    rw [List.mem_range] at hj
    rw [hs j hj]
  · rw [Nat.add_comm 1 n, List.range_succ_eq_map, List.map_cons, List.map_cons, List.map_map, List.map_map]
    simp only [Nat.add_zero]
    rw [h0]
    congr 1
    apply List.map_congr_left
    intro j hj
    rw [List.mem_range] at hj
    simp only [Function.comp]
    rw [show mN σ + Nat.succ j = mN σ + 1 + j by omega, hr j hj]
