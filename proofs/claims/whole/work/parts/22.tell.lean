/-! the two sides' standing things together; jokes told, days, steps -/
def OKx (l : Ln) (many : Nat) (cs : Nat → Int32) : Prop := LnOK l ∧ LWOK many cs
def CX (σ : mm_M) (l : Ln) (many : Nat) (cs : Nat → Int32) : Prop := Sh σ ∧ CLn σ (ldA σ) l ∧ CLw σ many cs
def MX (σ : mm_M) (l : Ln) (many : Nat) (cs : Nat → Int32) : Prop := Sh σ ∧ MLn σ l ∧ MLw σ many cs
def fxC (x : Nat) : Prop := (5 ≤ x ∧ x ≤ 14) ∨ (38 ≤ x ∧ x ≤ 47)
def fxM (x : Nat) : Prop := x = 53 ∨ x = 57 ∨ (67 ≤ x ∧ x ≤ 73) ∨ (82 ≤ x ∧ x ≤ 87) ∨ (102 ≤ x ∧ x ≤ 113) ∨ (115 ≤ x ∧ x ≤ 274)
section Ctx
variable {σ τ : mm_M} {l : Ln} {many : Nat} {cs : Nat → Int32} {S : Nat → Prop}
theorem CLn_o {a : Nat} (hc : CLn σ a l) (e : ∀ k, k ≤ 7 → mI τ (a + k) = mI σ (a + k)) : CLn τ a l := by
  have e0 := e 0 (by omega)
  rw [Nat.add_zero] at e0
  unfold CLn at hc ⊢
  rw [e0, e 1 (by omega), e 2 (by omega), e 3 (by omega), e 4 (by omega), e 5 (by omega), e 6 (by omega), e 7 (by omega)]
  exact hc
theorem CX.ag (h : CX σ l many cs) (a : Ag S σ τ) (hS : ∀ x, fxC x → ¬ S x) : CX τ l many cs := by
  obtain ⟨h1, h2, h3⟩ := h
  have hl : ldA σ = 5 ∨ ldA σ = 38 := h1.ld
  have hw : lwA σ = 13 ∨ lwA σ = 46 := h1.lw
  refine ⟨a.sh h1, ?_, CLw_o h3 a.lw (a.at (hS _ (by unfold fxC; omega))) (a.at (hS _ (by unfold fxC; omega)))⟩
  rw [a.ld]
  exact CLn_o h2 (fun k hk => a.at (hS _ (by unfold fxC; omega)))
theorem MLn_o (ok : LnOK l) (hm : MLn σ l) (e : ∀ x, fxM x → x ≠ 53 → mI τ x = mI σ x) : MLn τ l := by
  have h1 := ok.1
  have h2 := ok.2.1
  have h3 := ok.2.2.1
  obtain ⟨m1, m2, m3, m4⟩ := hm
  refine ⟨by rw [e 57 (by unfold fxM; omega) (by omega)]; exact m1, fun p hp => ?_, fun p hp => ?_, fun p hp => ?_⟩
  · rw [e (67 + p) (by unfold fxM; omega) (by omega)]; exact m2 p hp
  · rw [e (82 + p) (by unfold fxM; omega) (by omega)]; exact m3 p hp
  · rw [e (102 + p) (by unfold fxM; omega) (by omega)]; exact m4 p hp
theorem MLw_o (ok : LWOK many cs) (hm : MLw σ many cs) (e1 : mI τ 53 19 = mI σ 53 19) (e : ∀ x, 115 ≤ x → x ≤ 274 → mI τ x = mI σ x) : MLw τ many cs := by
  refine ⟨e1.trans hm.1, fun i hi => ?_⟩
  have : i < 150 := by
    rcases ok with ok | ok
    · omega
    · have := ok.1; omega
  rw [e (115 + i) (by omega) (by omega)]
  exact hm.2 i hi
theorem MX.ag (h : MX σ l many cs) (ok : OKx l many cs) (a : Ag S σ τ) (hS : ∀ x, fxM x → ¬ S x) : MX τ l many cs :=
  ⟨a.sh h.1, MLn_o ok.1 h.2.1 (fun x hx _ => a.at (hS x hx)), MLw_o ok.2 h.2.2 (by rw [a.at (hS 53 (by unfold fxM; omega))]) (fun x h1 h2 => a.at (hS x (by unfold fxM; omega)))⟩
theorem MX.w53 (h : MX σ l many cs) (ok : OKx l many cs) {i : Nat} (hi : i ≠ 19) (v : Int32) : MX (wI σ 53 i v) l many cs :=
  ⟨h.1, MLn_o ok.1 h.2.1 (fun x _ hn => rI_o hn), MLw_o ok.2 h.2.2 (by rw [rI_w, if_neg (by omega)]) (fun x h1 h2 => rI_o (by omega))⟩
end Ctx
/-- LAUGH of p at j in the row r -/
def lgh (l : Ln) (many : Nat) (cs r : Nat → Int32) (j p : Nat) : Int32 := lgv many cs (gvs l r j p (lT l p) (r p) 0)
/-- the row behind a telling that can be done -/
def rTell (l : Ln) (many : Nat) (cs r : Nat → Int32) (j p : Nat) : Nat → Int32 := if r (14 + p) = 1 then r else rHear r j p (lgh l many cs r j p) (lgh l many cs r j p * lD l p)
/-- nothing stands behind a row's end -/
def RZ (r : Nat → Int32) : Prop := ∀ k, 79 ≤ k → r k = 0
theorem up_RZ {r : Nat → Int32} (h : RZ r) {i : Nat} (hi : i < 79) (v : Int32) : RZ (up r i v) := fun k hk => by rw [up_n (by omega)]; exact h k hk
theorem rHear_RZ {r : Nat → Int32} (h : RZ r) {j p : Nat} (hj : j < 6) (hp : p < 7) (lg wt : Int32) : RZ (rHear r j p lg wt) := by
  unfold rHear
  exact up_RZ (up_RZ (up_RZ (up_RZ (up_RZ h (by omega) _) (by omega) _) (by omega) _) (by omega) _) (by omega) _
theorem rDay1_RZ {r : Nat → Int32} (h : RZ r) {p : Nat} (hp : p < 7) (dk : Int32) : RZ (rDay1 dk p r) := by
  unfold rDay1
  exact up_RZ (up_RZ (up_RZ (up_RZ h (by omega) _) (by omega) _) (by omega) _) (by omega) _
theorem rDayN_RZ {r : Nat → Int32} (h : RZ r) (dk : Int32) : ∀ n, n ≤ 7 → RZ (fo n (rDay1 dk) r)
  | 0, _ => h
  | n + 1, hn => rDay1_RZ (rDayN_RZ h dk n (by omega)) (by omega) dk
theorem rDay_RZ {r : Nat → Int32} (h : RZ r) (dk : Int32) {n : Nat} (hn : n ≤ 7) : RZ (rDay n dk r) := by
  unfold rDay
  exact up_RZ (rDayN_RZ h dk n hn) (by omega) _
theorem mnn_cap {x : Int32} {c : Nat} (hc : c < 2147483648) (h : 0 ≤ x.toInt) : ∃ g, g ≤ c ∧ mnn (nI c) x = nI g := by
  have hi : (nI c).toInt = (c : Int) := nI_toInt hc
  unfold mnn
  by_cases q : x < nI c
  · rw [if_pos q]
    rw [Int32.lt_iff_toInt_lt, hi] at q
    refine ⟨x.toInt.toNat, by omega, Int32.toInt_inj.mp ?_⟩
    rw [nI_toInt (by omega)]
    omega
  · rw [if_neg q]
    exact ⟨c, Nat.le_refl _, rfl⟩
theorem ROK_o {n : Nat} {r s : Nat → Int32} (h : ROK n r) (e : ∀ p, p < 7 → s p = r p ∧ s (7 + p) = r (7 + p) ∧ (s (14 + p) = 0 ∨ s (14 + p) = 1)) (g : ∃ g, g ≤ 999 ∧ s 77 = nI g) : ROK n s := by
  refine ⟨fun p h1 h2 => ?_, fun p hp => (e p hp).2.2, fun p hp => ?_, g⟩
  · rw [(e p h2).1, (e p h2).2.1]; exact h.1 p h1 h2
  · rw [(e p hp).2.1]; exact h.2.2.1 p hp
theorem rHear_ROK {n : Nat} {r : Nat → Int32} (h : ROK n r) {j p : Nat} (hj : j < 6) (hp : p < 7) {lg wt : Int32} {w : Nat} (hw : w ≤ 120) (ew : wt = nI w) : ROK n (rHear r j p lg wt) := by
  have U : ∀ (f : Nat → Int32) (i k : Nat) (v : Int32), k ≠ i → up f i v k = f k := fun f i k v h => up_n h
  refine ROK_o h (fun q hq => ⟨?_, ?_, ?_⟩) ?_
  · unfold rHear; simp (disch := omega) only [U]
  · unfold rHear; simp (disch := omega) only [U]
  · by_cases e : q = p
    · right; subst e; unfold rHear; simp (disch := omega) only [U, up_e]
    · have : rHear r j p lg wt (14 + q) = r (14 + q) := by unfold rHear; simp (disch := omega) only [U]
      rw [this]
      exact h.2.1 q hq
  · have : rHear r j p lg wt 77 = mnn 999 (r 77 + wt) := by unfold rHear; simp (disch := omega) only [U, up_e]
    rw [this, ew]
    obtain ⟨g, hg, eg⟩ := h.2.2.2
    rw [eg, nI_add]
    exact mnn_cap (c := 999) (by decide) (by rw [nI_toInt (by omega)]; omega)
/-- what a day leaves in the jug, and of thirst -/
theorem rDay1_ROK {n : Nat} {r : Nat → Int32} (h : ROK n r) {p dk : Nat} (hp : p < n) (hn : n ≤ 7) (hd : dk ≤ 9) : ROK n (rDay1 (nI dk) p r) := by
  have U : ∀ (f : Nat → Int32) (i k : Nat) (v : Int32), k ≠ i → up f i v k = f k := fun f i k v h => up_n h
  obtain ⟨g, hg, eg⟩ := h.2.2.2
  obtain ⟨t, ht, et⟩ := h.2.2.1 p (by omega)
  have hm : mnn (nI dk) (r 77) = nI (min dk g) := by
    rw [eg]
    unfold mnn
    by_cases q : g < dk
    · rw [if_pos (nI_lt q (by omega)), Nat.min_eq_right (by omega)]
    · rw [if_neg (nI_nlt (by omega) (by omega)), Nat.min_eq_left (by omega)]
  refine ⟨fun q h1 h2 => ?_, fun q hq => ?_, fun q hq => ?_, ?_⟩
  · have := h.1 q h1 h2
    unfold rDay1
    constructor
    · simp (disch := omega) only [U, this.1]
    · simp (disch := omega) only [U, this.2]
  · by_cases e : q = p
    · left; subst e; unfold rDay1; exact up_e _ _ _
    · have : rDay1 (nI dk) p r (14 + q) = r (14 + q) := by unfold rDay1; simp (disch := omega) only [U]
      rw [this]
      exact h.2.1 q hq
  · by_cases e : q = p
    · subst e
      have : rDay1 (nI dk) q r (7 + q) = if mnn (nI dk) (r 77) = nI dk then 0 else mnn 99 (r (7 + q) + nI dk - mnn (nI dk) (r 77)) := by unfold rDay1; simp (disch := omega) only [U, up_e]
      rw [this]
      by_cases q2 : mnn (nI dk) (r 77) = nI dk
      · rw [if_pos q2]; exact ⟨0, by omega, rfl⟩
      · rw [if_neg q2, hm, et, nI_add, pk_sub (by omega)]
        exact mnn_cap (c := 99) (by decide) (by rw [nI_toInt (by omega)]; omega)
    · have : rDay1 (nI dk) p r (7 + q) = r (7 + q) := by unfold rDay1; simp (disch := omega) only [U]
      rw [this]
      exact h.2.2.1 q hq
  · have : rDay1 (nI dk) p r 77 = r 77 - mnn (nI dk) (r 77) := by unfold rDay1; simp (disch := omega) only [U, up_e]
    rw [this, hm, eg, pk_sub (by omega)]
    exact ⟨g - min dk g, by omega, rfl⟩
theorem rDayN_ROK {n : Nat} {r : Nat → Int32} (h : ROK n r) {dk : Nat} (hn : n ≤ 7) (hd : dk ≤ 9) : ∀ k, k ≤ n → ROK n (fo k (rDay1 (nI dk)) r)
  | 0, _ => h
  | k + 1, hk => rDay1_ROK (rDayN_ROK h hn hd k (by omega)) (by omega) hn hd
theorem rDay_ROK {n : Nat} {r : Nat → Int32} (h : ROK n r) {dk : Int32} (hn : n ≤ 7) (hd : ∃ x, x ≤ 9 ∧ dk = nI x) : ROK n (rDay n dk r) := by
  obtain ⟨x, hx, rfl⟩ := hd
  have g := rDayN_ROK h hn hx n (Nat.le_refl n)
  unfold rDay
  generalize fo n (rDay1 (nI x)) r = s at g ⊢
  refine ROK_o g (fun q hq => ⟨up_n (by omega), up_n (by omega), by rw [up_n (by omega)]; exact g.2.1 q hq⟩) ?_
  rw [up_n (by omega)]
  exact g.2.2.2
section TellV
variable {σ : mm_M} {d : Nat} {l : Ln} {many : Nat} {cs r : Nat → Int32}
theorem wt_ok (ok : OKx l many cs) {p : Nat} (hp : p < nP l) (gl : List Int32) : ∃ w, w ≤ 120 ∧ lgv many cs gl * lD l p = nI w := by
  obtain ⟨x, hx, ex⟩ := (ok.1.2.2.2.1 p hp).1
  obtain ⟨k, hk, ek⟩ := lgv_in many cs gl
  rw [ex, ek, pk_mul]
  refine ⟨k * x, ?_, rfl⟩
  calc k * x ≤ 40 * 3 := Nat.mul_le_mul hk hx
    _ = 120 := rfl
theorem told_bit {c : Nat → Int32} {n p : Nat} (h : CRc c n r) (rok : ROK n r) (hn : n ≤ 7) (hp : p < n) : bt (c 2) p = if r (14 + p) = 1 then 1 else 0 := by
  rw [h.2, bt_who (by omega) n hn]
  rcases rok.2.1 p (by omega) with q | q
  · rw [q]; rw [if_neg (fun z => z.2 (by decide)), if_neg (by decide)]
  · rw [q]; rw [if_pos ⟨hp, by decide⟩, if_pos rfl]
theorem c_tell (h : CX σ l many cs) (ok : OKx l many cs) {a j p : Nat} (ha : isDa a) (hr : CRc (mI σ (a + 1)) (nP l) r) (rok : ROK (nP l) r) (hj : j < nJ l) (hp : p < nP l) :
    ∃ τ, ev (d + 3) 74 [.ref 3, .ref a, .int (nI j), .int (nI p)] σ = some (.inl (.int (if r (14 + p) = 1 then -1 else lgh l many cs r j p)), τ) ∧ Ag (fun x => scC x ∨ x = a + 1) σ τ ∧ CRc (mI τ (a + 1)) (nP l) (rTell l many cs r j p) := by
  have hP : nP l ≤ 7 := ok.1.1
  have hJ : nJ l ≤ 6 := ok.1.2.1
  have hp2 : p < 7 := by omega
  have ha' : a = 21 ∨ a = 23 := ha
  have hs := h.1
  rw [e_Scene_tell (d + 2) 3 a (nI j) (nI p) σ (by rw [k_3 hs]), c_wasTold hs ha p, told_bit hr rok hP hp]
  dsimp only [cI1]
  by_cases q : r (14 + p) = 1
  · rw [if_pos q, if_pos q, if_neg (by decide)]
    refine ⟨σ, rfl, Ag.refl _ σ, ?_⟩
    unfold rTell
    rw [if_pos q]
    exact hr
  · rw [if_neg q, if_neg q, if_pos rfl]
    obtain ⟨g, e, hg⟩ := c_giveAll (d := d) hs h.2.1 ok.1 ha hr rok hj hp
    have hl : lwA σ = 13 ∨ lwA σ = 46 := hs.lw
    have hl' : ldA σ = 5 ∨ ldA σ = 38 := hs.ld
    obtain ⟨τ, e2, a2⟩ := c_lawBy (σ := wA σ 4 g) (d := d) hs ok.2 (CLw_o h.2.2 rfl (rA_o (by omega)) (rA_o (by omega))) (gl := gvs l r j p (lT l p) (r p) 0) (fun k hk => by rw [rA_a]; exact hg k hk)
    have a3 : Ag scC σ τ := ((Ag.refl scC σ).wA (Or.inl rfl) g).trans (a2.mono (fun q hq => Or.inr hq))
    have hst := a3.sh hs
    have hld : isLd (ldA τ) := hst.ld
    have e3 : mI τ (ldA τ + 1) = mI σ (ldA σ + 1) := by rw [a3.ld]; exact a3.at (by unfold scC; omega)
    have e4 : mI τ (a + 1) = mI σ (a + 1) := a3.at (by unfold scC; omega)
    rw [e]
    dsimp only [cV, uv]
    rw [e2]
    dsimp only [cI]
    simp (disch := first | assumption | decide | (simp only [Sh_wI, Sh_wA, Sh_wL, Sh_mT, ldA_wI, lwA_wI, bkA_wI, ldA_wA, lwA_wA, bkA_wA]; assumption) | omega) only [xr_3_1, xr_ld0, xa_ld1, e3, (h.2.1.2.1 p hp).1, al_0, al_1, al_2, al_3, al_4, al_5, al_6, al_7, al_8, al_9, al_10, al_11, al_12, al_13, al_14, al_15, al_16, al_17, al_18, al_19, al_20, al_21, al_24, al_28, al_31, al_35, al_37, al_38, al_40, al_41, al_60, al_77, al_78, al_79, al_80, al_96, al_99, al_100, al_127, al_128, al_150, al_160, al_200, al_400, al_600, al_999, al_1000, tl_0, tl_1, tl_2, tl_3, tl_4, tl_5, tl_6, tl_7, tl_8, tl_9, tl_10, tl_11, tl_12, tl_13, tl_14, tl_15, tl_16, tl_17, tl_18, tl_19, tl_20, tl_21, tl_24, tl_28, tl_31, tl_35, tl_37, tl_38, tl_40, tl_41, tl_60, tl_77, tl_78, tl_79, tl_80, tl_96, tl_99, tl_100, tl_127, tl_128, tl_150, tl_160, tl_200, tl_400, tl_600, tl_999, tl_1000, la_0, la_1, la_2, la_3, la_4, la_5, la_6, la_7, la_8, la_9, la_10, la_11, la_12, la_13, la_14, la_15, la_16, la_17, la_18, la_19, la_20, la_21, la_24, la_28, la_31, la_35, la_37, la_38, la_40, la_41, la_60, la_77, la_78, la_79, la_80, la_96, la_99, la_100, la_127, la_128, la_150, la_160, la_200, la_400, la_600, la_999, la_1000, lm_0, lm_1, lm_2, lm_3, lm_4, lm_5, lm_6, lm_7, lm_8, lm_9, lm_10, lm_11, lm_12, lm_13, lm_14, lm_15, lm_16, lm_17, lm_18, lm_19, lm_20, lm_21, lm_24, lm_28, lm_31, lm_35, lm_37, lm_38, lm_40, lm_41, lm_60, lm_77, lm_78, lm_79, lm_80, lm_96, lm_99, lm_100, lm_127, lm_128, lm_150, lm_160, lm_200, lm_400, lm_600, lm_999, lm_1000, rm_0, rm_1, rm_2, rm_3, rm_4, rm_5, rm_6, rm_7, rm_8, rm_9, rm_10, rm_11, rm_12, rm_13, rm_14, rm_15, rm_16, rm_17, rm_18, rm_19, rm_20, rm_21, rm_24, rm_28, rm_31, rm_35, rm_37, rm_38, rm_40, rm_41, rm_60, rm_77, rm_78, rm_79, rm_80, rm_96, rm_99, rm_100, rm_127, rm_128, rm_150, rm_160, rm_200, rm_400, rm_600, rm_999, rm_1000, nar0, nar1_0, nar1_1]
    rw [c_hear hst ha (by omega) hp2]
    dsimp only [cV1, uv]
    refine ⟨_, rfl, (a3.mono (T := fun x => scC x ∨ x = a + 1) (fun x hx => Or.inl hx)).wA (a := a + 1) (Or.inr rfl) _, ?_⟩
    rw [rA_a, e4]
    unfold rTell
    rw [if_neg q]
    rcases rok.2.1 p hp2 with q0 | q0
    · exact hear_ok hr hP (by omega) hp q0
    · exact absurd q0 q
theorem m_tells (h : MX σ l many cs) (ok : OKx l many cs) {b j p : Nat} (hb : isRw b) (hj : j < nJ l) (hp : p < nP l) :
    ∃ τ, ev (d + 6) 216 [.ref 53, .ref b, .int (nI j), .int (nI p)] σ = some (.inl (.int (if mI σ b (14 + p) = 1 then 0 else 1)), τ) ∧ Ag (fun x => scM x ∨ x = b) σ τ ∧ mI τ b = rTell l many cs (mI σ b) j p := by
  have hP : nP l ≤ 7 := ok.1.1
  have hJ : nJ l ≤ 6 := ok.1.2.1
  have hp2 : p < 7 := by omega
  have hj2 : j < 6 := by omega
  have hb' : b = 533 ∨ b = 534 := hb
  have hs := h.1
  rw [e_M_tells (d + 5) 53 b (nI j) (nI p) σ (by rw [k_53 hs])]
  simp (disch := first | assumption | decide | (simp only [Sh_wI, Sh_wA, Sh_wL, Sh_mT, ldA_wI, lwA_wI, bkA_wI, ldA_wA, lwA_wA, bkA_wA]; assumption) | omega) only [xa_rw0, la_14]
  by_cases q : mI σ b (14 + p) = 1
  · rw [if_pos q, if_pos q]
    refine ⟨σ, rfl, Ag.refl _ σ, ?_⟩
    unfold rTell
    rw [if_pos q]
  · rw [if_neg q, if_neg q]
    obtain ⟨τ, e, a⟩ := m_laughOf (d := d) hs h.2.1 ok.1 ok.2 h.2.2 hb hj hp
    have hst := a.sh hs
    have e4 : mI τ b = mI σ b := a.at (by unfold scM; omega)
    have e5 : mI τ (67 + p) = mI σ (67 + p) := a.at (by unfold scM; omega)
    rw [e]
    dsimp only [cI]
    simp (disch := first | assumption | decide | (simp only [Sh_wI, Sh_wA, Sh_wL, Sh_mT, ldA_wI, lwA_wI, bkA_wI, ldA_wA, lwA_wA, bkA_wA]; assumption) | omega) only [xr_53_14, xR_66, xa_r66, xa_rw0, yt_rw, rA_a, wA_wA, m_less, cI1, e4, e5, (h.2.1.2.1 p hp).1, nI_add, al_0, al_1, al_2, al_3, al_4, al_5, al_6, al_7, al_8, al_9, al_10, al_11, al_12, al_13, al_14, al_15, al_16, al_17, al_18, al_19, al_20, al_21, al_24, al_28, al_31, al_35, al_37, al_38, al_40, al_41, al_60, al_77, al_78, al_79, al_80, al_96, al_99, al_100, al_127, al_128, al_150, al_160, al_200, al_400, al_600, al_999, al_1000, tl_0, tl_1, tl_2, tl_3, tl_4, tl_5, tl_6, tl_7, tl_8, tl_9, tl_10, tl_11, tl_12, tl_13, tl_14, tl_15, tl_16, tl_17, tl_18, tl_19, tl_20, tl_21, tl_24, tl_28, tl_31, tl_35, tl_37, tl_38, tl_40, tl_41, tl_60, tl_77, tl_78, tl_79, tl_80, tl_96, tl_99, tl_100, tl_127, tl_128, tl_150, tl_160, tl_200, tl_400, tl_600, tl_999, tl_1000, la_0, la_1, la_2, la_3, la_4, la_5, la_6, la_7, la_8, la_9, la_10, la_11, la_12, la_13, la_14, la_15, la_16, la_17, la_18, la_19, la_20, la_21, la_24, la_28, la_31, la_35, la_37, la_38, la_40, la_41, la_60, la_77, la_78, la_79, la_80, la_96, la_99, la_100, la_127, la_128, la_150, la_160, la_200, la_400, la_600, la_999, la_1000, lm_0, lm_1, lm_2, lm_3, lm_4, lm_5, lm_6, lm_7, lm_8, lm_9, lm_10, lm_11, lm_12, lm_13, lm_14, lm_15, lm_16, lm_17, lm_18, lm_19, lm_20, lm_21, lm_24, lm_28, lm_31, lm_35, lm_37, lm_38, lm_40, lm_41, lm_60, lm_77, lm_78, lm_79, lm_80, lm_96, lm_99, lm_100, lm_127, lm_128, lm_150, lm_160, lm_200, lm_400, lm_600, lm_999, lm_1000, rm_0, rm_1, rm_2, rm_3, rm_4, rm_5, rm_6, rm_7, rm_8, rm_9, rm_10, rm_11, rm_12, rm_13, rm_14, rm_15, rm_16, rm_17, rm_18, rm_19, rm_20, rm_21, rm_24, rm_28, rm_31, rm_35, rm_37, rm_38, rm_40, rm_41, rm_60, rm_77, rm_78, rm_79, rm_80, rm_96, rm_99, rm_100, rm_127, rm_128, rm_150, rm_160, rm_200, rm_400, rm_600, rm_999, rm_1000, nar0, nar1_0, nar1_1]
    refine ⟨_, rfl, (a.mono (T := fun x => scM x ∨ x = b) (fun x hx => Or.inl hx)).wA (a := b) (Or.inr rfl) _, ?_⟩
    rw [rA_a]
    unfold rTell
    rw [if_neg q]
    rfl
end TellV
