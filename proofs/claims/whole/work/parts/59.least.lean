/-! the least set among those with fewest ones -/
def on (s : Nat) : Nat := fo 7 (fun k a => a + (s / 2 ^ k) % 2) 0
theorem on_ok : ∀ s, s < 128 → ones7 (nI s) = nI (on s) ∧ on s ≤ 7 := by decide +kernel
def Mn (Q : Nat → Prop) (lo hi : Nat) (v : Int32) : Prop := (v = -1 ∧ ∀ c, lo ≤ c → c < hi → ¬ Q c) ∨ ∃ c, lo ≤ c ∧ c < hi ∧ v = nI c ∧ Q c ∧ ∀ c', lo ≤ c' → c' < hi → Q c' → on c < on c' ∨ (on c = on c' ∧ c ≤ c')
section LeastV
variable {Q : Nat → Prop} {lo hi : Nat} {v v' : Int32}
theorem Mn.uniq (h : Mn Q lo hi v) (g : Mn Q lo hi v') : v = v' := by
  rcases h with ⟨h1, h2⟩ | ⟨c, h1, h2, h3, h4, h5⟩
  · rcases g with ⟨g1, -⟩ | ⟨c', g1, g2, g3, g4, g5⟩
    · rw [h1, g1]
    · exact absurd g4 (h2 c' g1 g2)
  · rcases g with ⟨g1, g2⟩ | ⟨c', g1, g2, g3, g4, g5⟩
    · exact absurd h4 (g2 c h1 h2)
    · have a := h5 c' g1 g2 g4
      have b := g5 c h1 h2 h4
      have : c = c' := by omega
      rw [h3, g3, this]
/-- upwards: s is not taken -/
theorem Mn.skip {s : Nat} (h : Mn Q 0 s v) (q : Q s → ∃ c, v = nI c ∧ c < s ∧ Q c ∧ on c ≤ on s ∧ ∀ c', c' < s → Q c' → on c < on c' ∨ (on c = on c' ∧ c ≤ c')) : Mn Q 0 (s + 1) v := by
  by_cases z : Q s
  · obtain ⟨c, q1, q2, q3, q4, q5⟩ := q z
    refine Or.inr ⟨c, Nat.zero_le _, by omega, q1, q3, fun c' _ h2 h3 => ?_⟩
    by_cases y : c' = s
    · subst y; omega
    · exact q5 c' (by omega) h3
  · rcases h with ⟨h1, h2⟩ | ⟨c, h1, h2, h3, h4, h5⟩
    · refine Or.inl ⟨h1, fun c a b => ?_⟩
      by_cases y : c = s
      · rw [y]; exact z
      · exact h2 c a (by omega)
    · refine Or.inr ⟨c, h1, by omega, h3, h4, fun c' a b k => ?_⟩
      by_cases y : c' = s
      · rw [y] at k; exact absurd k z
      · exact h5 c' a (by omega) k
/-- upwards: s is taken, with fewer ones than all before -/
theorem Mn.take {s : Nat} (q : Q s) (h : ∀ c', c' < s → Q c' → on s < on c') : Mn Q 0 (s + 1) (nI s) :=
  Or.inr ⟨s, Nat.zero_le _, by omega, rfl, q, fun c' _ b k => by
    by_cases y : c' = s
    · subst y; exact Or.inr ⟨rfl, Nat.le_refl _⟩
    · exact Or.inl (h c' (by omega) k)⟩
/-- downwards: s is not taken -/
theorem Mn.skipD {s : Nat} (h : Mn Q (s + 1) hi v) (q : Q s → ∃ c, v = nI c ∧ s < c ∧ c < hi ∧ Q c ∧ on c < on s ∧ ∀ c', s < c' → c' < hi → Q c' → on c < on c' ∨ (on c = on c' ∧ c ≤ c')) : Mn Q s hi v := by
  by_cases z : Q s
  · obtain ⟨c, q1, q2, q0, q3, q4, q5⟩ := q z
    refine Or.inr ⟨c, by omega, q0, q1, q3, fun c' h1 h2 h3 => ?_⟩
    by_cases y : c' = s
    · subst y; exact Or.inl q4
    · exact q5 c' (by omega) h2 h3
  · rcases h with ⟨h1, h2⟩ | ⟨c, h1, h2, h3, h4, h5⟩
    · refine Or.inl ⟨h1, fun c a b => ?_⟩
      by_cases y : c = s
      · rw [y]; exact z
      · exact h2 c (by omega) b
    · refine Or.inr ⟨c, by omega, h2, h3, h4, fun c' a b k => ?_⟩
      by_cases y : c' = s
      · rw [y] at k; exact absurd k z
      · exact h5 c' (by omega) b k
/-- downwards: s is taken, with no more ones than all behind -/
theorem Mn.takeD {s : Nat} (q : Q s) (hs : s < hi) (h : ∀ c', s < c' → c' < hi → Q c' → on s ≤ on c') : Mn Q s hi (nI s) :=
  Or.inr ⟨s, Nat.le_refl _, hs, rfl, q, fun c' a b k => by
    by_cases y : c' = s
    · subst y; exact Or.inr ⟨rfl, Nat.le_refl _⟩
    · have := h c' (by omega) b k
      omega⟩
end LeastV
