/-! enough: the class's search -/
section FewV
variable {σ τ : mm_M} {t : Nat → Nat} {n : Nat} {l : Ln} {many : Nat} {cs : Nat → Int32} {w K : Nat} {b : List (Nat × Nat)} {d : Nat}
def Qe (N : Nat) (f : Nat → Int32) (tb J x : Int32) (s : Nat) : Prop := (nI s &&& tb) = 0 ∧ ¬ (J + fo N (fun p a => a + (if bt (nI s) p = 0 then 0 else f p)) 0) < x
theorem c_few {f : Nat → Int32} (h : Iv σ t n l many cs w K b) (e : ∀ p, p < nP l → mI σ 30 p = f p) (x : Int32) : ∀ m s v x6 v8, 2 ^ nP l - s = m → s ≤ 2 ^ nP l →
    ((v = -1 ∧ x6 = nI 8 ∧ ∀ c, c < s → ¬ Qe (nP l) f (mI σ 22 2) (mI σ 22 1) x c) ∨ ∃ c, c < s ∧ v = nI c ∧ x6 = nI (on c) ∧ Qe (nP l) f (mI σ 22 2) (mI σ 22 1) x c ∧ ∀ c', c' < s → Qe (nP l) f (mI σ 22 2) (mI σ 22 1) x c' → on c < on c' ∨ (on c = on c' ∧ c ≤ c')) →
    ∃ v', rn (d + 29) 102 88 [.ref 29, .ref 3, .ref 21, .int x, .ref (ldA σ), .int v, .int x6, .int (nI s), v8] [] σ = some (.inl (.int v'), σ) ∧ Mn (Qe (nP l) f (mI σ 22 2) (mI σ 22 1) x) 0 (2 ^ nP l) v'
  | 0, s, v, x6, v8, hm, hs, iv => by
    have hw := h.1
    have h7 := hw.ok.1.1
    have p7 := pow7 h7
    have pos : 1 ≤ 2 ^ nP l := Nat.one_le_two_pow
    have : s = 2 ^ nP l := by omega
    rw [e_Plan_fewestFor_88, c_allP hw.cx hw.ok.1, cI1_ok, if_pos (nI_lt (by omega) (by omega)), nar0]
    refine ⟨v, rfl, ?_⟩
    rw [← this]
    rcases iv with ⟨i1, -, i3⟩ | ⟨c, i1, i2, -, i4, i5⟩
    · exact Or.inl ⟨i1, fun c _ a => i3 c a⟩
    · exact Or.inr ⟨c, Nat.zero_le _, i1, i2, i4, fun c' _ a k => i5 c' a k⟩
  | m + 1, s, v, x6, v8, hm, hs, iv => by
    have hw := h.1
    have h7 := hw.ok.1.1
    have p7 := pow7 h7
    have s128 : s < 128 := by omega
    obtain ⟨o1, o2⟩ := on_ok s s128
    have step : ∀ v x6 v8, _ → _ := fun v x6 v8 iv => c_few h e x m (s + 1) v x6 v8 (by omega) (by omega) iv
    have keep : ¬ (Qe (nP l) f (mI σ 22 2) (mI σ 22 1) x s ∧ ¬ x6 ≤ nI (on s)) → ((v = -1 ∧ x6 = nI 8 ∧ ∀ c, c < s + 1 → ¬ Qe (nP l) f (mI σ 22 2) (mI σ 22 1) x c) ∨ ∃ c, c < s + 1 ∧ v = nI c ∧ x6 = nI (on c) ∧ Qe (nP l) f (mI σ 22 2) (mI σ 22 1) x c ∧ ∀ c', c' < s + 1 → Qe (nP l) f (mI σ 22 2) (mI σ 22 1) x c' → on c < on c' ∨ (on c = on c' ∧ c ≤ c')) := by
      intro z
      rcases iv with ⟨i1, i2, i3⟩ | ⟨c, i1, i2, i3, i4, i5⟩
      · refine Or.inl ⟨i1, i2, fun c hc k => ?_⟩
        by_cases y : c = s
        · subst y
          exact z ⟨k, by rw [i2]; exact nI_ge (by omega) (by omega)⟩
        · exact i3 c (by omega) k
      · have oc := (on_ok c (by omega)).2
        refine Or.inr ⟨c, by omega, i2, i3, i4, fun c' hc k => ?_⟩
        by_cases y : c' = s
        · subst y
          have : on c ≤ on c' := by
            by_cases q : on c ≤ on c'
            · exact q
            · exact absurd ⟨k, by rw [i3]; exact nI_ge (by omega) (by omega)⟩ z
          omega
        · exact i5 c' (by omega) k
    have skip : ∀ v8, ¬ (Qe (nP l) f (mI σ 22 2) (mI σ 22 1) x s ∧ ¬ x6 ≤ nI (on s)) → ∃ v', rn (d + 29) 102 88 [.ref 29, .ref 3, .ref 21, .int x, .ref (ldA σ), .int v, .int x6, .int (nI s + 1), v8] [] σ = some (.inl (.int v'), σ) ∧ Mn (Qe (nP l) f (mI σ 22 2) (mI σ 22 1) x) 0 (2 ^ nP l) v' := fun v8 z => by
      rw [nI_1]
      exact step v x6 v8 (keep z)
    rw [e_Plan_fewestFor_88, c_allP hw.cx hw.ok.1, cI1_ok, if_neg (nI_nlt (by omega) (by omega)), c_toldBits hw.sh da21, cI1_ok, show mI σ (21 + 1) = mI σ 22 from rfl]
    by_cases q1 : (nI s &&& mI σ 22 2) = 0
    · rw [if_pos q1, c_bitCount s128, cI1_ok, o1]
      by_cases q2 : x6 ≤ nI (on s)
      · rw [if_pos q2, e_Plan_fewestFor_122, e_Plan_fewestFor_123, if_pos (show (0 : Int32) = 0 from rfl), e_Plan_fewestFor_161]
        exact skip _ (fun z => z.2 q2)
      · rw [if_neg q2, e_Plan_fewestFor_123, if_neg (show ¬ (1 : Int32) = 0 by decide), c_jugWater hw.sh da21, cI1_ok, xg_ld hw.sh hw.sh.ld, hw.cx.2.1.1.1, c_waterOfAll hw.sh h7 e, cI_ok, show mI σ (21 + 1) = mI σ 22 from rfl]
        by_cases q3 : (mI σ 22 1 + fo (nP l) (fun p a => a + (if bt (nI s) p = 0 then 0 else f p)) 0) < x
        · rw [if_pos q3, e_Plan_fewestFor_161]
          exact skip _ (fun z => z.1.2 q3)
        · rw [if_neg q3, c_bitCount s128, cI1_ok, o1, e_Plan_fewestFor_161, nI_1]
          refine step (nI s) (nI (on s)) _ (Or.inr ⟨s, by omega, rfl, rfl, ⟨q1, q3⟩, fun c' hc k => ?_⟩)
          by_cases y : c' = s
          · subst y; exact Or.inr ⟨rfl, Nat.le_refl _⟩
          · left
            rcases iv with ⟨i1, i2, i3⟩ | ⟨c, i1, i2, i3, i4, i5⟩
            · exact absurd k (i3 c' (by omega))
            · have oc := (on_ok c (by omega)).2
              have := i5 c' (by omega) k
              have : on s < on c := by
                by_cases g : on s < on c
                · exact g
                · exact absurd (by rw [i3]; exact nI_le (by omega) (by omega)) q2
              omega
    · rw [if_neg q1, e_Plan_fewestFor_122, e_Plan_fewestFor_123, if_pos (show (0 : Int32) = 0 from rfl), e_Plan_fewestFor_161]
      exact skip _ (fun z => q1 z.1.1)
end FewV
