/-! parts: those that are reached -/
theorem bit1 (a c : Int32) : (a &&& (c ^^^ (-1))) &&& 1 = (a &&& 1) &&& ((c &&& 1) ^^^ 1) := by
  apply Int32.toBitVec_inj.mp
  rw [Int32.toBitVec_and, Int32.toBitVec_and, Int32.toBitVec_xor, Int32.toBitVec_and, Int32.toBitVec_and, Int32.toBitVec_xor, Int32.toBitVec_and, show (-1 : Int32).toBitVec = BitVec.allOnes 32 by decide]
  ext i hi
  simp only [BitVec.getElem_and, BitVec.getElem_xor, BitVec.getElem_allOnes]
  cases a.toBitVec[i] <;> cases c.toBitVec[i] <;> cases (1 : Int32).toBitVec[i] <;> rfl
theorem m1_shr : ∀ p, p < 7 → (-1 : Int32) >>> (nI p &&& 31) = -1 := by decide +kernel
theorem bt_less {x y : Int32} {p : Nat} (hp : p < 7) : bt (x &&& (y ^^^ (-1))) p = 1 ↔ bt x p = 1 ∧ ¬ bt y p = 1 := by
  have e : bt (x &&& (y ^^^ (-1))) p = bt x p &&& (bt y p ^^^ 1) := by
    unfold bt
    rw [Int32.shiftRight_and, Int32.shiftRight_xor, m1_shr p hp, bit1]
  rw [e]
  rcases bt01 x p with h1 | h1 <;> rcases bt01 y p with h2 | h2 <;> rw [h1, h2] <;> decide
theorem bt_or1 {x y : Int32} {p : Nat} : bt (x ||| y) p = 1 ↔ bt x p = 1 ∨ bt y p = 1 := by
  rw [bt_or]
  rcases bt01 x p with h1 | h1 <;> rcases bt01 y p with h2 | h2 <;> rw [h1, h2] <;> decide
/-- one step further, bit by bit -/
theorem nrs_fo {l : Ln} {x : Int32} {p : Nat} : ∀ n, bt (fo n (fun q s => if bt x q = 0 then s else s ||| near l (nI q)) x) p = 1 ↔ bt x p = 1 ∨ ∃ q, q < n ∧ bt x q = 1 ∧ bt (near l (nI q)) p = 1
  | 0 => ⟨fun h => Or.inl h, fun h => h.elim id (fun ⟨q, hq, _⟩ => absurd hq (Nat.not_lt_zero q))⟩
  | n + 1 => by
    rw [fo_s]
    by_cases z : bt x n = 0
    · rw [if_pos z, nrs_fo n]
      refine ⟨fun h => h.elim Or.inl (fun ⟨q, h1, h2, h3⟩ => Or.inr ⟨q, by omega, h2, h3⟩), fun h => h.elim Or.inl (fun ⟨q, h1, h2, h3⟩ => ?_)⟩
      by_cases e : q = n
      · rw [e, z] at h2; exact absurd h2 (by decide)
      · exact Or.inr ⟨q, by omega, h2, h3⟩
    · rw [if_neg z, bt_or1, nrs_fo n]
      refine ⟨fun h => ?_, fun h => ?_⟩
      · rcases h with (h | ⟨q, h1, h2, h3⟩) | h
        · exact Or.inl h
        · exact Or.inr ⟨q, by omega, h2, h3⟩
        · exact Or.inr ⟨n, by omega, bt_ne.mpr z, h⟩
      · rcases h with h | ⟨q, h1, h2, h3⟩
        · exact Or.inl (Or.inl h)
        · by_cases e : q = n
          · exact Or.inr (e ▸ h3)
          · exact Or.inl (Or.inr ⟨q, by omega, h2, h3⟩)
theorem nrs_bt {l : Ln} {x : Int32} {p : Nat} : bt (nrs l x) p = 1 ↔ bt x p = 1 ∨ ∃ q, q < nP l ∧ bt x q = 1 ∧ bt (near l (nI q)) p = 1 := nrs_fo (nP l)
def itn (l : Ln) (k : Nat) (x : Int32) : Int32 := fo k (fun _ s => nrs l s) x
def clo (l : Ln) (x : Int32) : Prop := ∀ q p, q < nP l → p < nP l → bt x q = 1 → bt (near l (nI q)) p = 1 → bt x p = 1
def cntB (x : Int32) : Nat → Nat
  | 0 => 0
  | n + 1 => cntB x n + (if bt x n = 1 then 1 else 0)
theorem cntB_le (x : Int32) : ∀ n, cntB x n ≤ n
  | 0 => Nat.le_refl 0
  | n + 1 => by
    have := cntB_le x n
    unfold cntB
    split <;> omega
theorem cntB_mono {x y : Int32} : ∀ n, (∀ p, p < n → bt x p = 1 → bt y p = 1) → cntB x n ≤ cntB y n
  | 0, _ => Nat.le_refl 0
  | n + 1, h => by
    have := cntB_mono n (fun p hp => h p (by omega))
    unfold cntB
    by_cases z : bt x n = 1
    · rw [if_pos z, if_pos (h n (by omega) z)]; omega
    · rw [if_neg z]; omega
theorem cntB_lt {x y : Int32} {q : Nat} (hx : ¬ bt x q = 1) (hy : bt y q = 1) : ∀ n, q < n → (∀ p, p < n → bt x p = 1 → bt y p = 1) → cntB x n < cntB y n
  | 0, hq, _ => absurd hq (Nat.not_lt_zero q)
  | n + 1, hq, h => by
    have m := cntB_mono n (fun p hp => h p (by omega))
    unfold cntB
    by_cases e : q = n
    · rw [e] at hx hy
      rw [if_neg hx, if_pos hy]; omega
    · have := cntB_lt hx hy n (by omega) (fun p hp => h p (by omega))
      by_cases z : bt x n = 1
      · rw [if_pos z, if_pos (h n (by omega) z)]; omega
      · rw [if_neg z]; omega
theorem cntB_full {x : Int32} : ∀ n, n ≤ cntB x n → ∀ p, p < n → bt x p = 1
  | 0, _, p, hp => absurd hp (Nat.not_lt_zero p)
  | n + 1, h, p, hp => by
    have m := cntB_le x n
    unfold cntB at h
    by_cases z : bt x n = 1
    · rw [if_pos z] at h
      by_cases e : p = n
      · rw [e]; exact z
      · exact cntB_full n (by omega) p (by omega)
    · rw [if_neg z] at h; omega
theorem clo_step {l : Ln} {x : Int32} (h : clo l x) : clo l (nrs l x) ∧ ∀ p, p < nP l → (bt (nrs l x) p = 1 ↔ bt x p = 1) := by
  have e : ∀ p, p < nP l → (bt (nrs l x) p = 1 ↔ bt x p = 1) := fun p hp => by
    rw [nrs_bt]
    exact ⟨fun z => z.elim id (fun ⟨q, h1, h2, h3⟩ => h q p h1 hp h2 h3), Or.inl⟩
  exact ⟨fun q p hq hp h1 h2 => (e p hp).mpr (h q p hq hp ((e q hq).mp h1) h2), e⟩
theorem clo_or {l : Ln} {x y : Int32} (h : clo l x) (g : clo l y) : clo l (x ||| y) := fun q p hq hp h1 h2 => by
  rw [bt_or1] at h1 ⊢
  exact h1.elim (fun z => Or.inl (h q p hq hp z h2)) (fun z => Or.inr (g q p hq hp z h2))
theorem itn_grow {l : Ln} {x : Int32} {p : Nat} (hp : p < nP l) (hx : bt x p = 1) : ∀ k, clo l (itn l k x) ∨ k + 1 ≤ cntB (itn l k x) (nP l)
  | 0 => by
    right
    have z : ¬ bt 0 p = 1 := by rw [bt_0]; decide
    have := cntB_lt (x := 0) (y := x) z hx (nP l) hp (fun q _ h => absurd h (by rw [bt_0]; decide))
    show 0 + 1 ≤ cntB x (nP l)
    omega
  | k + 1 => by
    rcases itn_grow hp hx k with h | h
    · exact Or.inl (clo_step h).1
    · by_cases c : clo l (itn l k x)
      · exact Or.inl (clo_step c).1
      · right
        have : ∃ q, q < nP l ∧ ¬ bt (itn l k x) q = 1 ∧ bt (nrs l (itn l k x)) q = 1 := by
          apply Classical.byContradiction
          intro n
          refine c (fun q p hq hp h1 h2 => Classical.byContradiction (fun m => n ⟨p, hp, m, nrs_bt.mpr (Or.inr ⟨q, hq, h1, h2⟩)⟩))
        obtain ⟨q, h1, h2, h3⟩ := this
        have := cntB_lt h2 h3 (nP l) h1 (fun p _ z => nrs_bt.mpr (Or.inl z))
        show k + 1 + 1 ≤ cntB (nrs l (itn l k x)) (nP l)
        omega
theorem itn_clo {l : Ln} {x : Int32} {p : Nat} (hp : p < nP l) (hx : bt x p = 1) {k : Nat} (hk : nP l ≤ k + 1) : clo l (itn l k x) := by
  rcases itn_grow hp hx k with h | h
  · exact h
  · exact fun q r hq hr h1 h2 => cntB_full (nP l) (by omega) r hr
theorem itn_in {l : Ln} {x y : Int32} (c : clo l y) (h : ∀ p, p < nP l → bt x p = 1 → bt y p = 1) : ∀ k p, p < nP l → bt (itn l k x) p = 1 → bt y p = 1
  | 0, p, hp, z => h p hp z
  | k + 1, p, hp, z => by
    have z : bt (nrs l (itn l k x)) p = 1 := z
    rw [nrs_bt] at z
    rcases z with z | ⟨q, h1, h2, h3⟩
    · exact itn_in c h k p hp z
    · exact c q p h1 hp (itn_in c h k q h1 h2) h3
section PartsV
variable {σ τ σ' τ' υ φ : mm_M} {t : Nat → Nat} {n : Nat} {l : Ln} {many : Nat} {cs : Nat → Int32} {w K : Nat} {b : List (Nat × Nat)} {d : Nat}
theorem c_reached (h : CX σ l many cs) (ok : LnOK l) {p : Nat} (hp : p < nP l) : ev (d + 1) 56 [.ref (ldA σ), .int (nI p)] σ = some (.inl (.int (itn l (nP l - 1) (b1 p))), σ) := by
  have hs := h.1
  have h7 := ok.1
  rw [e_Land_reachedFrom d (ldA σ) (nI p) σ (by rw [k_ld0 hs hs.ld])]
  refine (lp (F := fun i s => rn (d + 1) 56 6 [.ref (ldA σ), .int (nI p), .int s, .int (nI (i + 1))] [] σ) (n := nP l - 1) (st := fun _ s => nrs l s) (fun i s hi => ?_) (b1 p)).trans ?_
  · show rn (d + 1) 56 6 [.ref (ldA σ), .int (nI p), .int s, .int (nI (i + 1))] [] σ = _
    rw [e_Land_reachedFrom_6, xg_ld hs hs.ld, h.2.1.1.1, if_neg (nI_ge (by omega) (by omega)), c_withNear h ok, cI_ok, nI_1]
  · show rn (d + 1) 56 6 [.ref (ldA σ), .int (nI p), .int _, .int (nI (nP l - 1 + 1))] [] σ = _
    rw [e_Land_reachedFrom_6, xg_ld hs hs.ld, h.2.1.1.1, if_pos (nI_le (by omega) (by omega))]
    rfl
theorem m_reach (h : MX σ l many cs) (ok : LnOK l) (x1 x2 : Int32) {p : Nat} (hp : p < nP l) : rn (d + 2) 254 29 [.ref 53, .int x1, .int x2, .int (nI p), .int (b1 p), .int 0] [] σ = rn (d + 2) 254 11 [.ref 53, .int (x1 + (if bt x2 p = 0 then 1 else 0)), .int (x2 ||| itn l (nP l) (b1 p)), .int (nI (p + 1)), .int (itn l (nP l) (b1 p)), .int (nI (nP l))] [] σ := by
  have hs := h.1
  have h7 := ok.1
  refine (lp (F := fun i s => rn (d + 2) 254 29 [.ref 53, .int x1, .int x2, .int (nI p), .int s, .int (nI i)] [] σ) (n := nP l) (st := fun _ s => nrs l s) (fun i s hi => ?_) (b1 p)).trans ?_
  · show rn (d + 2) 254 29 [.ref 53, .int x1, .int x2, .int (nI p), .int s, .int (nI i)] [] σ = _
    rw [e_M_parts_29, xr_53_12 hs, show aI σ 57 0 = aI σ 57 (nI 0) from rfl, xa_57 hs (by decide), h.2.1.1.1, if_neg (nI_ge (by omega) (by omega)), m_further h ok, cI_ok, nI_1]
  · show rn (d + 2) 254 29 [.ref 53, .int x1, .int x2, .int (nI p), .int (itn l (nP l) (b1 p)), .int (nI (nP l))] [] σ = _
    rw [e_M_parts_29, xr_53_12 hs, show aI σ 57 0 = aI σ 57 (nI 0) from rfl, xa_57 hs (by decide), h.2.1.1.1, if_pos (nI_le (by omega) (by omega)), m_has, cI1_ok]
    by_cases z : bt x2 p = 0
    · rw [if_pos z, if_pos z, e_M_parts_68, nI_1]
    · rw [if_neg z, if_neg z, e_M_parts_68, nI_1]
theorem parts_loop (h : B2 σ τ t n l many cs w K b) : ∀ m i x y v v4 v5, nP l - i = m → i ≤ nP l → (∀ p, p < nP l → (bt x p = 1 ↔ ¬ bt y p = 1)) → clo l y →
    Two σ τ (rn (d + 31) 147 15 [.ref 0, .int x, .int v, .int (nI i)] [] σ) (rn (d + 31) 254 11 [.ref 53, .int v, .int y, .int (nI i), v4, v5] [] τ)
  | 0, i, x, y, v, v4, v5, hm, hi, e, c => by
    have hw := h.1.1
    have hg := h.2.1.1
    have h7 := hw.ok.1.1
    rw [e_W_parts_15, xr_0_1 hw.sh, xr_3_1 hw.sh, xg_ld hw.sh hw.sh.ld, hw.cx.2.1.1.1, if_pos (nI_le (by omega) (by omega)), e_M_parts_11, xr_53_12 hg.sh, show aI τ 57 0 = aI τ 57 (nI 0) from rfl, xa_57 hg.sh (by decide), hg.mx.2.1.1.1, if_pos (nI_le (by omega) (by omega))]
    exact Two.ok h.2.2.2 _
  | m + 1, i, x, y, v, v4, v5, hm, hi, e, c => by
    have hw := h.1.1
    have hg := h.2.1.1
    have h7 := hw.ok.1.1
    have bi : bt (b1 i) i = 1 := by rw [bt_one i (by omega) i (by omega), if_pos rfl]
    have c1 : clo l (itn l (nP l - 1) (b1 i)) := itn_clo (p := i) (by omega) bi (by omega)
    have eq : ∀ p, p < nP l → (bt (itn l (nP l) (b1 i)) p = 1 ↔ bt (itn l (nP l - 1) (b1 i)) p = 1) := fun p hp => by
      have := (clo_step c1).2 p hp
      have f : itn l (nP l) (b1 i) = nrs l (itn l (nP l - 1) (b1 i)) := by
        conv => lhs; rw [show nP l = (nP l - 1) + 1 by omega]
        rfl
      rw [f]; exact this
    have c2 : clo l (itn l (nP l) (b1 i)) := itn_clo (p := i) (by omega) bi (by omega)
    have ei := e i (by omega)
    have eM : rn (d + 31) 254 11 [.ref 53, .int v, .int y, .int (nI i), v4, v5] [] τ = rn (d + 31) 254 11 [.ref 53, .int (v + (if bt y i = 0 then 1 else 0)), .int (y ||| itn l (nP l) (b1 i)), .int (nI (i + 1)), .int (itn l (nP l) (b1 i)), .int (nI (nP l))] [] τ := by
      rw [e_M_parts_11, xr_53_12 hg.sh, show aI τ 57 0 = aI τ 57 (nI 0) from rfl, xa_57 hg.sh (by decide), hg.mx.2.1.1.1, if_neg (nI_ge (by omega) (by omega))]
      exact m_reach (d := d + 29) hg.mx hg.ok.1 v y (p := i) (by omega)
    rw [eM, e_W_parts_15, xr_0_1 hw.sh, xr_3_1 hw.sh, xg_ld hw.sh hw.sh.ld, hw.cx.2.1.1.1, if_neg (nI_ge (by omega) (by omega))]
    show Two σ τ (if bt x i = 0 then _ else _) _
    by_cases z : bt x i = 0
    · have zy : bt y i = 1 := Classical.byContradiction (fun q => by have := ei.mpr q; rw [z] at this; exact absurd this (by decide))
      have sub := itn_in (x := b1 i) c (fun p hp q => by
        rw [bt_one i (by omega) p (by omega)] at q
        by_cases pe : p = i
        · rw [pe]; exact zy
        · rw [if_neg pe] at q; exact absurd q (by decide)) (nP l)
      rw [if_pos z, e_W_parts_56, nI_1, if_neg (bt_ne.mp zy), Int32.add_zero]
      refine parts_loop h m (i + 1) x _ v _ _ (by omega) (by omega) (fun p hp => ?_) (clo_or c c2)
      rw [e p hp, bt_or1]
      exact ⟨fun q z => z.elim q (fun r => q (sub p hp r)), fun q r => q (Or.inl r)⟩
    · have zy : bt y i = 0 := by
        rcases bt01 y i with q | q
        · exact q
        · exact absurd q (ei.mp (bt_ne.mpr z))
      rw [if_neg z, xr_0_1 hw.sh, xr_3_1 hw.sh, c_reached hw.cx hw.ok.1 (p := i) (by omega), cI1_ok, e_W_parts_56, nI_1, if_pos zy]
      refine parts_loop h m (i + 1) _ _ _ _ _ (by omega) (by omega) (fun p hp => ?_) (clo_or c c2)
      rw [bt_less (by omega), e p hp, bt_or1, eq p hp]
      exact ⟨fun q z => z.elim q.1 q.2, fun q => ⟨fun r => q (Or.inl r), fun r => q (Or.inr r)⟩⟩
theorem bt_all : ∀ n, n < 8 → ∀ p, p < 7 → p < n → bt (nI (2 ^ n - 1)) p = 1 := by decide +kernel
theorem op_parts : OpN (d + 31) 147 [.ref 0] (d + 31) 254 [.ref 53] :=
  op_n (fun σ h => e_M_parts (d + 30) 53 σ (by rw [k_53 h])) (fun σ τ t n l many cs w K b h => by
    have hw := h.1.1
    have h7 := hw.ok.1.1
    rw [e_W_parts (d + 30) 0 σ (by rw [k_0 hw.sh]), xr_0_1 hw.sh, xr_3_1 hw.sh, c_allP hw.cx hw.ok.1, cI1_ok]
    exact parts_loop h _ 0 _ 0 0 uv uv rfl (Nat.zero_le _) (fun p hp => by rw [bt_all _ (by omega) p (by omega) hp, bt_0]; decide) (fun q p hq hp h1 h2 => by rw [bt_0] at h1; exact absurd h1 (by decide)))
end PartsV
