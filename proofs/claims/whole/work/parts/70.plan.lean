/-! best and given: the plan, as numbers -/
def dpM (g : Nat → Nat → Nat) (n : Nat) : Nat → Nat → Nat → Nat
  | 0, _, _ => 0
  | k + 1, j, T => fo n (fun p s => if bt (nI T) p = 0 then max s (g j p + dpM g n k (j + 1) (T ||| 2 ^ p)) else s) (dpM g n k (j + 1) T)
def dpv (g : Nat → Nat → Nat) (n k j T p : Nat) : Nat := g j p + dpM g n k (j + 1) (T ||| 2 ^ p)
section Fmax
variable {c : Nat → Prop} {f : Nat → Nat} {s0 : Nat}
theorem fm_0 [DecidablePred c] : ∀ n, s0 ≤ fo n (fun p s => if c p then max s (f p) else s) s0
  | 0 => Nat.le_refl _
  | n + 1 => by
    have := fm_0 n
    rw [fo_s]
    by_cases h : c n
    · rw [if_pos h]; omega
    · rw [if_neg h]; exact this
theorem fm_p [DecidablePred c] {p : Nat} (hc : c p) : ∀ n, p < n → f p ≤ fo n (fun p s => if c p then max s (f p) else s) s0
  | 0, h => absurd h (Nat.not_lt_zero p)
  | n + 1, h => by
    rw [fo_s]
    by_cases e : p = n
    · rw [← e, if_pos hc]; omega
    · have := fm_p hc n (by omega)
      by_cases h : c n
      · rw [if_pos h]; omega
      · rw [if_neg h]; exact this
theorem fm_e [DecidablePred c] : ∀ n, fo n (fun p s => if c p then max s (f p) else s) s0 = s0 ∨ ∃ p, p < n ∧ c p ∧ fo n (fun p s => if c p then max s (f p) else s) s0 = f p
  | 0 => Or.inl rfl
  | n + 1 => by
    rw [fo_s]
    by_cases h : c n
    · rw [if_pos h]
      rcases fm_e n with z | ⟨p, z1, z2, z3⟩
      · rcases Nat.le_total (fo n (fun p s => if c p then max s (f p) else s) s0) (f n) with y | y
        · exact Or.inr ⟨n, by omega, h, by omega⟩
        · exact Or.inl (by omega)
      · rcases Nat.le_total (fo n (fun p s => if c p then max s (f p) else s) s0) (f n) with y | y
        · exact Or.inr ⟨n, by omega, h, by omega⟩
        · exact Or.inr ⟨p, by omega, z2, by omega⟩
    · rw [if_neg h]
      rcases fm_e n with z | ⟨p, z1, z2, z3⟩
      · exact Or.inl z
      · exact Or.inr ⟨p, by omega, z2, z3⟩
end Fmax
section PlanP
variable {g : Nat → Nat → Nat} {n : Nat}
theorem dp_0 (k j T : Nat) : dpM g n k (j + 1) T ≤ dpM g n (k + 1) j T := fm_0 (c := fun p => bt (nI T) p = 0) (f := fun p => g j p + dpM g n k (j + 1) (T ||| 2 ^ p)) n
theorem dp_p {k j T p : Nat} (hp : p < n) (h : bt (nI T) p = 0) : dpv g n k j T p ≤ dpM g n (k + 1) j T := fm_p (c := fun p => bt (nI T) p = 0) (f := fun p => g j p + dpM g n k (j + 1) (T ||| 2 ^ p)) h n hp
theorem dp_e (k j T : Nat) : dpM g n (k + 1) j T = dpM g n k (j + 1) T ∨ ∃ p, p < n ∧ bt (nI T) p = 0 ∧ dpM g n (k + 1) j T = dpv g n k j T p := fm_e (c := fun p => bt (nI T) p = 0) (f := fun p => g j p + dpM g n k (j + 1) (T ||| 2 ^ p)) n
theorem dp_le (hg : ∀ j p, g j p ≤ 120) : ∀ k j T, dpM g n k j T ≤ 120 * k
  | 0, _, _ => Nat.le_refl _
  | k + 1, j, T => by
    rcases dp_e (g := g) (n := n) k j T with h | ⟨p, h1, h2, h3⟩
    · have := dp_le hg k (j + 1) T
      omega
    · have := dp_le hg k (j + 1) (T ||| 2 ^ p)
      have := hg j p
      unfold dpv at h3
      omega
/-- the first one that brings the most; n: none -/
def PickR (P : Nat → Prop) (n q : Nat) : Prop := (q < n ∧ P q ∧ ∀ p, p < q → ¬ P p) ∨ (q = n ∧ ∀ p, p < n → ¬ P p)
theorem PickR.uniq {P : Nat → Prop} {q q' : Nat} (h : PickR P n q) (g : PickR P n q') : q = q' := by
  rcases h with ⟨h1, h2, h3⟩ | ⟨h1, h2⟩ <;> rcases g with ⟨g1, g2, g3⟩ | ⟨g1, g2⟩
  · rcases Nat.lt_trichotomy q q' with z | z | z
    · exact absurd h2 (g3 q z)
    · exact z
    · exact absurd g2 (h3 q' z)
  · exact absurd h2 (g2 q h1)
  · exact absurd g2 (h2 q' g1)
  · rw [h1, g1]
def PkP (g : Nat → Nat → Nat) (n k j T : Nat) (p : Nat) : Prop := bt (nI T) p = 0 ∧ dpv g n k j T p = dpM g n (k + 1) j T
def ChR (g : Nat → Nat → Nat) (n : Nat) : Nat → Nat → Nat → (Nat → Int32) → Prop
  | 0, _, _, _ => True
  | k + 1, j, T, c => ∃ q, PickR (PkP g n k j T) n q ∧ c j = (if q < n then nI q else -1) ∧ ChR g n k (j + 1) (if q < n then T ||| 2 ^ q else T) c
theorem ChR.uniq {c c' : Nat → Int32} : ∀ k j T, ChR g n k j T c → ChR g n k j T c' → ∀ i, j ≤ i → i < j + k → c i = c' i
  | 0, j, T, _, _, i, h1, h2 => by omega
  | k + 1, j, T, ⟨q, a1, a2, a3⟩, ⟨q', b1, b2, b3⟩, i, h1, h2 => by
    have e := a1.uniq b1
    subst e
    by_cases z : i = j
    · rw [z, a2, b2]
    · exact ChR.uniq k (j + 1) _ a3 b3 i (by omega) (by omega)
theorem ChR.as {c c' : Nat → Int32} : ∀ k j T, ChR g n k j T c → (∀ i, j ≤ i → i < j + k → c' i = c i) → ChR g n k j T c'
  | 0, _, _, _, _ => trivial
  | k + 1, j, T, ⟨q, a1, a2, a3⟩, e => ⟨q, a1, by rw [e j (by omega) (by omega)]; exact a2, ChR.as k (j + 1) _ a3 (fun i h1 h2 => e i (by omega) (by omega))⟩
end PlanP
theorem wlt {W s : Nat} (hW : W ≤ 5000) (hs : s ≤ 5000) : nI W + (-1) < nI s ↔ W < s + 1 := by
  cases W with
  | zero => exact ⟨fun _ => by omega, fun _ => by
      rw [show nI 0 + (-1 : Int32) = -1 by decide, Int32.lt_iff_toInt_lt, nI_toInt (by omega), show (-1 : Int32).toInt = -1 by decide]
      omega⟩
  | succ W =>
    rw [pk_m1, nI_ltI (by omega) (by omega)]
    omega
theorem who_lt {f : Nat → Int32} : ∀ n, n ≤ 7 → ∃ s, s < 2 ^ n ∧ whoB n f = nI s
  | 0, _ => ⟨0, by decide, rfl⟩
  | n + 1, hn => by
    obtain ⟨s, hs, e⟩ := who_lt (f := f) n (by omega)
    have h7 : s < 128 := Nat.lt_of_lt_of_le hs (Nat.pow_le_pow_right (by decide) (show n ≤ 7 by omega))
    have p1 : 2 ^ n < 2 ^ (n + 1) := Nat.pow_lt_pow_right (by decide) (by omega)
    show ∃ s, s < 2 ^ (n + 1) ∧ (whoB n f ||| (if f n ≤ 0 then (0 : Int32) else b1 n)) = nI s
    by_cases h : f n ≤ 0
    · exact ⟨s, by omega, by rw [if_pos h, i_or0, e]⟩
    · exact ⟨s ||| 2 ^ n, Nat.or_lt_two_pow (by omega) p1, by rw [if_neg h, e]; exact (or_small s h7 n (by omega)).1⟩
theorem or_lt {n T p : Nat} (hT : T < 2 ^ n) (hp : p < n) : T ||| 2 ^ p < 2 ^ n := Nat.or_lt_two_pow hT (Nat.pow_lt_pow_right (by decide) hp)
theorem p128 {n T : Nat} (hn : n ≤ 7) (hT : T < 2 ^ n) : T < 128 := Nat.lt_of_lt_of_le hT (Nat.pow_le_pow_right (by decide) hn)
/-- the water, as a number -/
def gw (l : Ln) (many : Nat) (cs r : Nat → Int32) (j p : Nat) : Nat := min 120 (lgv many cs (gvs l r j p (lT l p) (r p) 0) * lD l p).toNatClampNeg
theorem gw_le (l : Ln) (many : Nat) (cs r : Nat → Int32) (j p : Nat) : gw l many cs r j p ≤ 120 := Nat.min_le_left _ _
theorem gw_ok {l : Ln} {many : Nat} {cs r : Nat → Int32} (ok : OKx l many cs) {j p : Nat} (hp : p < nP l) : lgv many cs (gvs l r j p (lT l p) (r p) 0) * lD l p = nI (gw l many cs r j p) := by
  obtain ⟨w, hw, e⟩ := wt_ok ok hp (gvs l r j p (lT l p) (r p) 0)
  unfold gw
  rw [e, nI_clamp (by omega), Nat.min_eq_right hw]
theorem mxx_nI {a c : Nat} (ha : a < 5000) (hc : c < 5000) : mxx (nI a) (nI c) = nI (max a c) := by
  unfold mxx
  by_cases q : a < c
  · rw [if_pos (nI_lt q (by omega)), Nat.max_eq_right (by omega)]
  · rw [if_neg (nI_nlt (by omega) (by omega)), Nat.max_eq_left (by omega)]
