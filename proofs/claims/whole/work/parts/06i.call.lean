/-! calls: a method's contract, and what it gives its caller -/
def rmd (d : Nat) (σ τ : mm_M) : Room := { frames := d + 8, cells := tt τ - tt σ, slots := mS τ - mS σ, locals := 60 * d + 200 }
def PcM (D : va_G) (cA : Nat → ClassId) (b0 : Nat) (sad : Nat → Nat) (fv : Value) (L : Nat) (xs : Nat → Int32) (as : List Value) (σ : mm_M) : Array Value → State → Prop := fun v U =>
  v = (as.map (tr (mad b0 sad) fv)).toArray ∧ va_P D mcl (wo cA (mad b0 sad) σ) U.heap ∧ b0 ≤ U.heap.size ∧ U.heap.size ≤ b0 + tt σ ∧ va_K D mcl (mtys cA) U ∧ Stc sad fv L xs b0 U U.heap
def rvO (v : Value) : Option Value := match v with
  | .retAddr _ => none
  | v => some v
def QcR (D : va_G) (cA : Nat → ClassId) (b0 : Nat) (sad : Nat → Nat) (r : Value ⊕ Nat) (τ : mm_M) : Array Value → State → Outcome → State → Prop := fun _ st o t => match r with
  | .inl v => o = .returned (rvO v) ∧ va_P D mcl (wo cA (mad b0 sad) τ) t.heap ∧ va_F (mA0 b0) st t
  | .inr _ => False
def XcR (D : va_G) (cA : Nat → ClassId) (b0 : Nat) (sad : Nat → Nat) (r : Value ⊕ Nat) (τ : mm_M) : String → State → State → Prop := fun E st t => match r with
  | .inl _ => False
  | .inr x => E = xnm x ∧ va_P D mcl (wo cA (mad b0 sad) τ) t.heap ∧ va_F (mA0 b0) st t
/-- the contract of method m at depth d, at these arguments and this memory -/
def Ctr (l : Launch) (D : va_G) (cA : Nat → ClassId) (b0 : Nat) (sad : Nat → Nat) (fv : Value) (L : Nat) (xs : Nat → Int32) (d m : Nat) (as : List Value) (σ : mm_M) (r : Value ⊕ Nat) (τ : mm_M) : Prop :=
  vx_Met l (yn m) (codeC m :: lwG) (rmd d σ τ) (PcM D cA b0 sad fv L xs as σ) (QcR D cA b0 sad r τ) (XcR D cA b0 sad r τ) (tt τ - tt σ) (mS τ - mS σ) (mA0 b0)
theorem pcm_blind {D : va_G} {cA : Nat → ClassId} {b0 : Nat} {sad : Nat → Nat} {fv : Value} {L : Nat} {xs : Nat → Int32} {as : List Value} {σ : mm_M} : FrameBlind (PcM D cA b0 sad fv L xs as σ) := fun a U g mk h =>
  ⟨h.1, h.2.1, h.2.2.1, h.2.2.2.1, va_K.moved (u := U) (U := U.calling g mk a) (Vm.Alike.refl U.vm) h.2.2.2.2.1, stc_same (s := U) (U := U.calling g mk a) rfl h.2.2.2.2.2⟩
theorem ctr_met {l : Launch} {D : va_G} {cA : Nat → ClassId} {b0 : Nat} {sad : Nat → Nat} {fv : Value} {L : Nat} {xs : Nat → Int32} {d m : Nat} {as : List Value} {σ τ : mm_M} {v : Value} (h : Ctr l D cA b0 sad fv L xs d m as σ (.inl v) τ) :
    Met l (yn m) (codeC m :: lwG) (rmd d σ τ) (PcM D cA b0 sad fv L xs as σ) (QcR D cA b0 sad (.inl v) τ) (tt τ - tt σ) (mS τ - mS σ) (mA0 b0) := by
  intro p e a1 a2 a3 s m args below h1 h2 h3 h4
  obtain ⟨n, o, b1, b2, b3, b4⟩ := h p e a1 a2 a3 s m args below h1 h2 h3 h4
  refine ⟨n, o, b1, b2, b3, ?_⟩
  rcases b4 with b4 | ⟨q, _, E, ce, L, hx, _⟩
  · exact b4
  · exact hx.elim
/-! the words of a method -/
set_option maxRecDepth 100000 in
theorem cpa_61 : ∀ m, m < 61 → ∃ i : Nat, lw_tbl[i]? = some (codeC m) := lt_s (lt_s (lt_s (lt_s (lt_s (lt_s (lt_s (lt_s (lt_s (lt_s (lt_s (lt_s (lt_s (lt_s (lt_s (lt_s (lt_s (lt_s (lt_s (lt_s (lt_s (lt_s (lt_s (lt_s (lt_s (lt_s (lt_s (lt_s (lt_s (lt_s (lt_s (lt_s (lt_s (lt_s (lt_s (lt_s (lt_s (lt_s (lt_s (lt_s (lt_s (lt_s (lt_s (lt_s (lt_s (lt_s (lt_s (lt_s (lt_s (lt_s (lt_s (lt_s (lt_s (lt_s (lt_s (lt_s (lt_s (lt_s (lt_s (lt_s (lt_s (lt_0) ⟨_, cp_0⟩) ⟨_, cp_1⟩) ⟨_, cp_2⟩) ⟨_, cp_3⟩) ⟨_, cp_4⟩) ⟨_, cp_5⟩) ⟨_, cp_6⟩) ⟨_, cp_7⟩) ⟨_, cp_8⟩) ⟨_, cp_9⟩) ⟨_, cp_10⟩) ⟨_, cp_11⟩) ⟨_, cp_12⟩) ⟨_, cp_13⟩) ⟨_, cp_14⟩) ⟨_, cp_15⟩) ⟨_, cp_16⟩) ⟨_, cp_17⟩) ⟨_, cp_18⟩) ⟨_, cp_19⟩) ⟨_, cp_20⟩) ⟨_, cp_21⟩) ⟨_, cp_22⟩) ⟨_, cp_23⟩) ⟨_, cp_24⟩) ⟨_, cp_25⟩) ⟨_, cp_26⟩) ⟨_, cp_27⟩) ⟨_, cp_28⟩) ⟨_, cp_29⟩) ⟨_, cp_30⟩) ⟨_, cp_31⟩) ⟨_, cp_32⟩) ⟨_, cp_33⟩) ⟨_, cp_34⟩) ⟨_, cp_35⟩) ⟨_, cp_36⟩) ⟨_, cp_37⟩) ⟨_, cp_38⟩) ⟨_, cp_39⟩) ⟨_, cp_40⟩) ⟨_, cp_41⟩) ⟨_, cp_42⟩) ⟨_, cp_43⟩) ⟨_, cp_44⟩) ⟨_, cp_45⟩) ⟨_, cp_46⟩) ⟨_, cp_47⟩) ⟨_, cp_48⟩) ⟨_, cp_49⟩) ⟨_, cp_50⟩) ⟨_, cp_51⟩) ⟨_, cp_52⟩) ⟨_, cp_53⟩) ⟨_, cp_54⟩) ⟨_, cp_55⟩) ⟨_, cp_56⟩) ⟨_, cp_57⟩) ⟨_, cp_58⟩) ⟨_, cp_59⟩) ⟨_, cp_60⟩
set_option maxRecDepth 100000 in
theorem cpa_122 : ∀ m, m < 122 → ∃ i : Nat, lw_tbl[i]? = some (codeC m) := lt_s (lt_s (lt_s (lt_s (lt_s (lt_s (lt_s (lt_s (lt_s (lt_s (lt_s (lt_s (lt_s (lt_s (lt_s (lt_s (lt_s (lt_s (lt_s (lt_s (lt_s (lt_s (lt_s (lt_s (lt_s (lt_s (lt_s (lt_s (lt_s (lt_s (lt_s (lt_s (lt_s (lt_s (lt_s (lt_s (lt_s (lt_s (lt_s (lt_s (lt_s (lt_s (lt_s (lt_s (lt_s (lt_s (lt_s (lt_s (lt_s (lt_s (lt_s (lt_s (lt_s (lt_s (lt_s (lt_s (lt_s (lt_s (lt_s (lt_s (lt_s (cpa_61) ⟨_, cp_61⟩) ⟨_, cp_62⟩) ⟨_, cp_63⟩) ⟨_, cp_64⟩) ⟨_, cp_65⟩) ⟨_, cp_66⟩) ⟨_, cp_67⟩) ⟨_, cp_68⟩) ⟨_, cp_69⟩) ⟨_, cp_70⟩) ⟨_, cp_71⟩) ⟨_, cp_72⟩) ⟨_, cp_73⟩) ⟨_, cp_74⟩) ⟨_, cp_75⟩) ⟨_, cp_76⟩) ⟨_, cp_77⟩) ⟨_, cp_78⟩) ⟨_, cp_79⟩) ⟨_, cp_80⟩) ⟨_, cp_81⟩) ⟨_, cp_82⟩) ⟨_, cp_83⟩) ⟨_, cp_84⟩) ⟨_, cp_85⟩) ⟨_, cp_86⟩) ⟨_, cp_87⟩) ⟨_, cp_88⟩) ⟨_, cp_89⟩) ⟨_, cp_90⟩) ⟨_, cp_91⟩) ⟨_, cp_92⟩) ⟨_, cp_93⟩) ⟨_, cp_94⟩) ⟨_, cp_95⟩) ⟨_, cp_96⟩) ⟨_, cp_97⟩) ⟨_, cp_98⟩) ⟨_, cp_99⟩) ⟨_, cp_100⟩) ⟨_, cp_101⟩) ⟨_, cp_102⟩) ⟨_, cp_103⟩) ⟨_, cp_104⟩) ⟨_, cp_105⟩) ⟨_, cp_106⟩) ⟨_, cp_107⟩) ⟨_, cp_108⟩) ⟨_, cp_109⟩) ⟨_, cp_110⟩) ⟨_, cp_111⟩) ⟨_, cp_112⟩) ⟨_, cp_113⟩) ⟨_, cp_114⟩) ⟨_, cp_115⟩) ⟨_, cp_116⟩) ⟨_, cp_117⟩) ⟨_, cp_118⟩) ⟨_, cp_119⟩) ⟨_, cp_120⟩) ⟨_, cp_121⟩
set_option maxRecDepth 100000 in
theorem cpa_183 : ∀ m, m < 183 → ∃ i : Nat, lw_tbl[i]? = some (codeC m) := lt_s (lt_s (lt_s (lt_s (lt_s (lt_s (lt_s (lt_s (lt_s (lt_s (lt_s (lt_s (lt_s (lt_s (lt_s (lt_s (lt_s (lt_s (lt_s (lt_s (lt_s (lt_s (lt_s (lt_s (lt_s (lt_s (lt_s (lt_s (lt_s (lt_s (lt_s (lt_s (lt_s (lt_s (lt_s (lt_s (lt_s (lt_s (lt_s (lt_s (lt_s (lt_s (lt_s (lt_s (lt_s (lt_s (lt_s (lt_s (lt_s (lt_s (lt_s (lt_s (lt_s (lt_s (lt_s (lt_s (lt_s (lt_s (lt_s (lt_s (lt_s (cpa_122) ⟨_, cp_122⟩) ⟨_, cp_123⟩) ⟨_, cp_124⟩) ⟨_, cp_125⟩) ⟨_, cp_126⟩) ⟨_, cp_127⟩) ⟨_, cp_128⟩) ⟨_, cp_129⟩) ⟨_, cp_130⟩) ⟨_, cp_131⟩) ⟨_, cp_132⟩) ⟨_, cp_133⟩) ⟨_, cp_134⟩) ⟨_, cp_135⟩) ⟨_, cp_136⟩) ⟨_, cp_137⟩) ⟨_, cp_138⟩) ⟨_, cp_139⟩) ⟨_, cp_140⟩) ⟨_, cp_141⟩) ⟨_, cp_142⟩) ⟨_, cp_143⟩) ⟨_, cp_144⟩) ⟨_, cp_145⟩) ⟨_, cp_146⟩) ⟨_, cp_147⟩) ⟨_, cp_148⟩) ⟨_, cp_149⟩) ⟨_, cp_150⟩) ⟨_, cp_151⟩) ⟨_, cp_152⟩) ⟨_, cp_153⟩) ⟨_, cp_154⟩) ⟨_, cp_155⟩) ⟨_, cp_156⟩) ⟨_, cp_157⟩) ⟨_, cp_158⟩) ⟨_, cp_159⟩) ⟨_, cp_160⟩) ⟨_, cp_161⟩) ⟨_, cp_162⟩) ⟨_, cp_163⟩) ⟨_, cp_164⟩) ⟨_, cp_165⟩) ⟨_, cp_166⟩) ⟨_, cp_167⟩) ⟨_, cp_168⟩) ⟨_, cp_169⟩) ⟨_, cp_170⟩) ⟨_, cp_171⟩) ⟨_, cp_172⟩) ⟨_, cp_173⟩) ⟨_, cp_174⟩) ⟨_, cp_175⟩) ⟨_, cp_176⟩) ⟨_, cp_177⟩) ⟨_, cp_178⟩) ⟨_, cp_179⟩) ⟨_, cp_180⟩) ⟨_, cp_181⟩) ⟨_, cp_182⟩
set_option maxRecDepth 100000 in
theorem cpa_244 : ∀ m, m < 244 → ∃ i : Nat, lw_tbl[i]? = some (codeC m) := lt_s (lt_s (lt_s (lt_s (lt_s (lt_s (lt_s (lt_s (lt_s (lt_s (lt_s (lt_s (lt_s (lt_s (lt_s (lt_s (lt_s (lt_s (lt_s (lt_s (lt_s (lt_s (lt_s (lt_s (lt_s (lt_s (lt_s (lt_s (lt_s (lt_s (lt_s (lt_s (lt_s (lt_s (lt_s (lt_s (lt_s (lt_s (lt_s (lt_s (lt_s (lt_s (lt_s (lt_s (lt_s (lt_s (lt_s (lt_s (lt_s (lt_s (lt_s (lt_s (lt_s (lt_s (lt_s (lt_s (lt_s (lt_s (lt_s (lt_s (lt_s (cpa_183) ⟨_, cp_183⟩) ⟨_, cp_184⟩) ⟨_, cp_185⟩) ⟨_, cp_186⟩) ⟨_, cp_187⟩) ⟨_, cp_188⟩) ⟨_, cp_189⟩) ⟨_, cp_190⟩) ⟨_, cp_191⟩) ⟨_, cp_192⟩) ⟨_, cp_193⟩) ⟨_, cp_194⟩) ⟨_, cp_195⟩) ⟨_, cp_196⟩) ⟨_, cp_197⟩) ⟨_, cp_198⟩) ⟨_, cp_199⟩) ⟨_, cp_200⟩) ⟨_, cp_201⟩) ⟨_, cp_202⟩) ⟨_, cp_203⟩) ⟨_, cp_204⟩) ⟨_, cp_205⟩) ⟨_, cp_206⟩) ⟨_, cp_207⟩) ⟨_, cp_208⟩) ⟨_, cp_209⟩) ⟨_, cp_210⟩) ⟨_, cp_211⟩) ⟨_, cp_212⟩) ⟨_, cp_213⟩) ⟨_, cp_214⟩) ⟨_, cp_215⟩) ⟨_, cp_216⟩) ⟨_, cp_217⟩) ⟨_, cp_218⟩) ⟨_, cp_219⟩) ⟨_, cp_220⟩) ⟨_, cp_221⟩) ⟨_, cp_222⟩) ⟨_, cp_223⟩) ⟨_, cp_224⟩) ⟨_, cp_225⟩) ⟨_, cp_226⟩) ⟨_, cp_227⟩) ⟨_, cp_228⟩) ⟨_, cp_229⟩) ⟨_, cp_230⟩) ⟨_, cp_231⟩) ⟨_, cp_232⟩) ⟨_, cp_233⟩) ⟨_, cp_234⟩) ⟨_, cp_235⟩) ⟨_, cp_236⟩) ⟨_, cp_237⟩) ⟨_, cp_238⟩) ⟨_, cp_239⟩) ⟨_, cp_240⟩) ⟨_, cp_241⟩) ⟨_, cp_242⟩) ⟨_, cp_243⟩
set_option maxRecDepth 100000 in
theorem cpa_305 : ∀ m, m < 305 → ∃ i : Nat, lw_tbl[i]? = some (codeC m) := lt_s (lt_s (lt_s (lt_s (lt_s (lt_s (lt_s (lt_s (lt_s (lt_s (lt_s (lt_s (lt_s (lt_s (lt_s (lt_s (lt_s (lt_s (lt_s (lt_s (lt_s (lt_s (lt_s (lt_s (lt_s (lt_s (lt_s (lt_s (lt_s (lt_s (lt_s (lt_s (lt_s (lt_s (lt_s (lt_s (lt_s (lt_s (lt_s (lt_s (lt_s (lt_s (lt_s (lt_s (lt_s (lt_s (lt_s (lt_s (lt_s (lt_s (lt_s (lt_s (lt_s (lt_s (lt_s (lt_s (lt_s (lt_s (lt_s (lt_s (lt_s (cpa_244) ⟨_, cp_244⟩) ⟨_, cp_245⟩) ⟨_, cp_246⟩) ⟨_, cp_247⟩) ⟨_, cp_248⟩) ⟨_, cp_249⟩) ⟨_, cp_250⟩) ⟨_, cp_251⟩) ⟨_, cp_252⟩) ⟨_, cp_253⟩) ⟨_, cp_254⟩) ⟨_, cp_255⟩) ⟨_, cp_256⟩) ⟨_, cp_257⟩) ⟨_, cp_258⟩) ⟨_, cp_259⟩) ⟨_, cp_260⟩) ⟨_, cp_261⟩) ⟨_, cp_262⟩) ⟨_, cp_263⟩) ⟨_, cp_264⟩) ⟨_, cp_265⟩) ⟨_, cp_266⟩) ⟨_, cp_267⟩) ⟨_, cp_268⟩) ⟨_, cp_269⟩) ⟨_, cp_270⟩) ⟨_, cp_271⟩) ⟨_, cp_272⟩) ⟨_, cp_273⟩) ⟨_, cp_274⟩) ⟨_, cp_275⟩) ⟨_, cp_276⟩) ⟨_, cp_277⟩) ⟨_, cp_278⟩) ⟨_, cp_279⟩) ⟨_, cp_280⟩) ⟨_, cp_281⟩) ⟨_, cp_282⟩) ⟨_, cp_283⟩) ⟨_, cp_284⟩) ⟨_, cp_285⟩) ⟨_, cp_286⟩) ⟨_, cp_287⟩) ⟨_, cp_288⟩) ⟨_, cp_289⟩) ⟨_, cp_290⟩) ⟨_, cp_291⟩) ⟨_, cp_292⟩) ⟨_, cp_293⟩) ⟨_, cp_294⟩) ⟨_, cp_295⟩) ⟨_, cp_296⟩) ⟨_, cp_297⟩) ⟨_, cp_298⟩) ⟨_, cp_299⟩) ⟨_, cp_300⟩) ⟨_, cp_301⟩) ⟨_, cp_302⟩) ⟨_, cp_303⟩) ⟨_, cp_304⟩
set_option maxRecDepth 100000 in
theorem cpa_306 : ∀ m, m < 306 → ∃ i : Nat, lw_tbl[i]? = some (codeC m) := lt_s (cpa_305) ⟨_, cp_305⟩
theorem codeC_good (m : Nat) : goodWord (codeC m) = true := by
  unfold codeC
  split <;> rfl
theorem codeC_in {m : Nat} (h : m < 306) : codeC m ∈ lwG := by
  obtain ⟨i, hi⟩ := cpa_306 m h
  exact lwG_of i hi (codeC_good m)
theorem codeC_nil {m : Nat} (h : yh m = []) : codeC m = .code (yn m) (yb m) (mx m) (yr m) := by unfold codeC; rw [h]
theorem codeC_cons {m : Nat} {q : Nat × Nat × Nat × Nat} {t : List (Nat × Nat × Nat × Nat)} (h : yh m = q :: t) : codeC m = .codeWith (yn m) (yb m) (mx m) (yr m) (q :: t) := by unfold codeC; rw [h]
theorem goodin {m : Nat} (h : m < 306) : GoodIn lwG (codeC m :: lwG) := fun w hw => by
  rcases List.mem_cons.mp hw with rfl | hw
  · exact ⟨codeC_in h, good_of_word (codeC_good m)⟩
  · exact ⟨hw, good_of_word (lwG_good hw).2⟩
def ckm (m : Nat) : Bool := (match Nat.beq (yk m) 2 with
    | true => yl_st.any fun q => Nat.beq q.1 m
    | false => yl_in.any fun q => Nat.beq q.1 m) && (!Nat.beq (yk m) 0 || yl_se.any fun q => Nat.beq q.1 m) && (yl_ii.any fun q => Nat.beq q.1 m)
theorem ckm_all : (List.range 306).all ckm = true := by decide +kernel
theorem ckn_all : ∀ m, m < 307 → (parseMethodDescriptor (yn m).desc).map (fun d => d.parameters.length) = some (yp m) ∧ (yn m).cls ≠ "java/lang/invoke/MethodHandle" ∧ (yn m).cls ≠ "java/lang/invoke/VarHandle" ∧ True ∧ mx m ≤ 20 ∧ (yk m = 1 → (yn m).name = "<init>") ∧ (yn m).cls = onm (yo m) := by decide +kernel
theorem ckr_all : ∀ m, m < 306 → yk m ≠ 2 → (mrcv.getD m 0 = 113 ∧ (yn m).cls = "java/lang/String") ∨ (100 ≤ mrcv.getD m 0 ∧ mrcv.getD m 0 < 113 ∧ (mclD (mrcv.getD m 0 - 100)).1 = (yn m).cls) := by decide +kernel
theorem ck_st {m : Nat} (h : m < 306) (hk : yk m = 2) : Cond.static (yn m) ∈ lwG := by
  have h1 := List.all_eq_true.mp ckm_all m (List.mem_range.mpr h)
  simp only [ckm, hk, Nat.beq_refl, Bool.and_eq_true] at h1
  obtain ⟨q, hq, e⟩ := List.any_eq_true.mp h1.1.1
  have h2 := List.all_eq_true.mp yl_st_ok q hq
  simp only [decide_eq_true_eq] at h2
  rw [Nat.eq_of_beq_eq_true e] at h2
  exact lwG_of _ h2 rfl
theorem ck_in {m : Nat} (h : m < 306) (hk : yk m ≠ 2) : Cond.instanceMethod (yn m) ∈ lwG := by
  have h1 := List.all_eq_true.mp ckm_all m (List.mem_range.mpr h)
  have hb : Nat.beq (yk m) 2 = false := by
    cases hq : Nat.beq (yk m) 2 with
    | false => rfl
    | true => exact absurd (Nat.eq_of_beq_eq_true hq) hk
  simp only [ckm, hb, Bool.and_eq_true] at h1
  obtain ⟨q, hq, e⟩ := List.any_eq_true.mp h1.1.1
  have h2 := List.all_eq_true.mp yl_in_ok q hq
  simp only [decide_eq_true_eq] at h2
  rw [Nat.eq_of_beq_eq_true e] at h2
  exact lwG_of _ h2 rfl
theorem ck_se {m : Nat} (h : m < 306) (hk : yk m = 0) : Cond.selects (yn m).cls (yn m) (yn m) ∈ lwG := by
  have h1 := List.all_eq_true.mp ckm_all m (List.mem_range.mpr h)
  simp only [ckm, hk, Nat.beq_refl, Bool.and_eq_true, Bool.or_eq_true, Bool.not_true, Bool.false_eq_true, false_or] at h1
  obtain ⟨q, hq, e⟩ := List.any_eq_true.mp h1.1.2
  have h2 := List.all_eq_true.mp yl_se_ok q hq
  simp only [decide_eq_true_eq] at h2
  rw [Nat.eq_of_beq_eq_true e] at h2
  exact lwG_of _ h2 rfl
theorem ck_ii {m : Nat} (h : m < 306) : Cond.initialized (yn m).cls ∈ lwG := by
  have h1 := List.all_eq_true.mp ckm_all m (List.mem_range.mpr h)
  simp only [ckm, Bool.and_eq_true] at h1
  obtain ⟨q, hq, e⟩ := List.any_eq_true.mp h1.2
  have h2 := List.all_eq_true.mp yl_ii_ok q hq
  simp only [decide_eq_true_eq] at h2
  rw [Nat.eq_of_beq_eq_true e] at h2
  exact lwG_of _ h2 rfl
theorem km_use {o j x : Nat} (h : has4 km o j x = true) : x < 306 ∧ Cond.methodLink (onm o) j (yn x) ∈ lwG := by
  obtain ⟨q, hq⟩ := has4_mem h
  have := List.all_eq_true.mp km_ok _ hq
  simp only [Bool.and_eq_true, decide_eq_true_eq] at this
  exact ⟨this.2, lwG_of _ this.1 rfl⟩
theorem kw_use {o j x : Nat} (h : has4 kw o j x = true) : x < 306 ∧ Cond.methodLinkNest (onm o) j (yn x) "DimpleWells" ∈ nwl := by
  obtain ⟨q, hq⟩ := has4_mem h
  have := List.all_eq_true.mp kw_ok _ hq
  simp only [Bool.and_eq_true, decide_eq_true_eq] at this
  exact ⟨this.2, List.mem_filter.mpr ⟨List.mem_of_getElem? this.1, rfl⟩⟩
theorem pA_some {y : Nat} {st : List Value} {k : List Value → List Value → Option mm_R} {q : mm_R} (h : pA y st k = some q) : ∃ as t, st = as.reverse ++ t ∧ as.length = y ∧ (t.map Value.category).sum ≤ 8 ∧ k as t = some q := by
  unfold pA at h
  split at h
  · rename_i hb
    simp only [Bool.and_eq_true] at hb
    have h1 := Nat.le_of_ble_eq_true hb.1
    have h2 := Nat.le_of_ble_eq_true hb.2
    exact ⟨(st.take y).reverse, st.drop y, by rw [List.reverse_reverse, List.take_append_drop], by rw [List.length_reverse, List.length_take]; omega, h2, h⟩
  · cases h
section SndE
variable {l : Launch} {p : Program} {e : Env} {R : Room} {s : State} {M : MethodId} {args : Array Value} {below : List Frame} {meth : Method} {c : Code} {Q : State → Prop} {D : va_G} {cA : Nat → ClassId} {b0 : Nat} {sad : Nat → Nat} {fv : Value} {L : Nat} {xs : Nat → Int32} {m t0 u0 : Nat} {σf : mm_M}
theorem cat_tr (hfv : fv.category = 1) (t : List Value) : ((t.map (tr (mad b0 sad) fv)).map fun v => v.category).sum = (t.map Value.category).sum := by
  rw [List.map_map]
  congr 1
  apply List.map_congr_left
  intro u _
  cases u <;> first | rfl | exact hfv
theorem call_go {pc : Nat} {lsR : Array Slot} {stk rest : List Value} {σ τ : mm_M} {v : Value} {a : Array Value} {H : Heap} {locs : List Loc} (hr : va_Run p l e R s M args below meth c H locs (tt σ - t0) (mS σ - u0) (tt τ - tt σ) (mS τ - mS σ) (F0 M pc lsR stk) rest (QcR D cA b0 sad (.inl v) τ a) (mA0 b0)) (hS : va_S (mA0 b0) s.heap H locs)
    (h1 : t0 ≤ tt σ) (h2 : tt σ ≤ tt τ) (h3 : u0 ≤ mS σ) (h4 : mS σ ≤ mS τ) (kk : ∀ (H1 : Heap) (locs1 : List Loc), va_P D mcl (wo cA (mad b0 sad) τ) H1 → va_S (mA0 b0) s.heap H1 locs1 → W p l e R s M args below meth c H1 locs1 (tt τ - t0) (mS τ - u0) Q (F0 M (pc + 3) lsR ((rvO v).toList ++ rest))) : W p l e R s M args below meth c H locs (tt σ - t0) (mS σ - u0) Q (F0 M pc lsR stk) := by
  intro T hT X
  obtain ⟨v', st₀, t, T', L9, e0, X', hL, e1, e2, ⟨hv, hP, hz, hk⟩, st⟩ := hr T hT X
  cases hv
  rw [e0] at hz hk
  rw [show tt σ - t0 + (tt τ - tt σ) = tt τ - t0 by omega, show mS σ - u0 + (mS τ - mS σ) = mS τ - u0 by omega] at X'
  obtain ⟨t2, a1, b1⟩ := kk T'.heap (locs ++ L9) (by rw [e1]; exact hP) ⟨Nat.le_trans hS.1 (by rw [e1]; exact hz), fun q g1 g2 => by rw [e1, hk q (Nat.lt_of_lt_of_le g1 hS.1) g2]; exact hS.2.1 q g1 g2, fun q hq => by
      rcases List.mem_append.mp hq with h | h
      · exact hS.2.2 q h
      · exact hL q h⟩ T' rfl X'
  exact ⟨t2, st t2 a1, b1⟩
theorem throw_go {pc E : Nat} {lsR : Array Slot} {stk rest : List Value} {σ τ : mm_M} {a : Array Value} {H : Heap} {locs : List Loc} (hr : vx_Run p l e R s M args below meth c H locs (tt σ - t0) (mS σ - u0) (tt τ - tt σ) (mS τ - mS σ) (F0 M pc lsR stk) rest (QcR D cA b0 sad (.inr E) τ a) (XcR D cA b0 sad (.inr E) τ) (mA0 b0)) (hS : va_S (mA0 b0) s.heap H locs)
    (h1 : t0 ≤ tt σ) (h2 : tt σ ≤ tt τ) (h3 : u0 ≤ mS σ) (h4 : mS σ ≤ mS τ) (kk : ∀ (H1 : Heap) (locs1 : List Loc) (q : Addr) (ce : Cell), va_P D mcl (wo cA (mad b0 sad) τ) H1 → va_S (mA0 b0) s.heap H1 locs1 → H1[q]? = some ce → ce.vm = .none → s.vm.findClass (xnm E) = some ce.cls → vx_W p l e R s M args below meth c H1 locs1 (tt τ - t0) (mS τ - u0) Q (F0 M pc lsR rest) q) : W p l e R s M args below meth c H locs (tt σ - t0) (mS σ - u0) Q (F0 M pc lsR stk) := by
  intro T hT X
  rcases hr T hT X with ⟨v', st₀, t, T', L9, e0, X', hL, e1, e2, hf, st⟩ | ⟨q, st₀, t, T', L9, En, ce, e0, X', hL, e1, e2, ⟨rfl, hP, hz, hk⟩, hce, hcv, hcl, st⟩
  · exact hf.elim
  · rw [e0] at hz hk
    rw [show tt σ - t0 + (tt τ - tt σ) = tt τ - t0 by omega, show mS σ - u0 + (mS τ - mS σ) = mS τ - u0 by omega] at X'
    obtain ⟨t2, a1, b1⟩ := kk T'.heap (locs ++ L9) q ce (by rw [e1]; exact hP) ⟨Nat.le_trans hS.1 (by rw [e1]; exact hz), fun q g1 g2 => by rw [e1, hk q (Nat.lt_of_lt_of_le g1 hS.1) g2]; exact hS.2.1 q g1 g2, fun q hq => by
        rcases List.mem_append.mp hq with h | h
        · exact hS.2.2 q h
        · exact hL q h⟩ (by rw [e1]; exact hce) hcv hcl T' rfl X'
    exact ⟨t2, st.trans a1, b1⟩
/-- what a callee asks at its start -/
theorem pcm_at {as : List Value} {σ : mm_M} {H : Heap} {locs : List Loc} (hK : va_K D mcl (mtys cA) s) (hSt : Stc sad fv L xs b0 s s.heap) (hz1 : b0 ≤ s.heap.size) (hsz : H.size ≤ b0 + tt σ) (hP : va_P D mcl (wo cA (mad b0 sad) σ) H) (hS : va_S (mA0 b0) s.heap H locs) : ∀ U : State, U.heap = H → s.WarmedH U.vm → PcM D cA b0 sad fv L xs as σ (as.map (tr (mad b0 sad) fv)).toArray U := by
  intro U hU hW
  refine ⟨rfl, by rw [hU]; exact hP, by rw [hU]; exact Nat.le_trans hz1 hS.1, by rw [hU]; exact hsz, va_K.moved hW.alike hK, ?_⟩
  rw [hU]
  exact stc_go hW hS.2.1 hSt
theorem hsz_of {σ : mm_M} {T : State} {H : Heap} {locs : List Loc} {slots : Nat} (hz2 : s.heap.size ≤ b0 + t0) (ht : t0 ≤ tt σ) (hT : T.heap = H) (X : Stand p l e R s M args below meth c T locs (tt σ - t0) slots) : H.size ≤ b0 + tt σ := by
  have h1 := X.heapSize
  rw [hT] at h1
  omega
theorem mlen {f : Value → Value} {as t : List Value} : (as.reverse ++ t).map f = (as.map f).reverse ++ t.map f := by rw [List.map_append, List.map_reverse]
/-- a static call that returns -/
theorem s_invS {pc nx x y z w j d : Nat} {v : Int32} {u : Value} {ls as t : List Value} {σ τ : mm_M} (F : CallFix p M c (yb m) (mx m) s args lwG (onm (yo m))) (hK : va_K D mcl (mtys cA) s) (hSt : Stc sad fv L xs b0 s s.heap) (hz1 : b0 ≤ s.heap.size) (hz2 : s.heap.size ≤ b0 + t0) (hfv : fv.category = 1) (hRc : tt σf - t0 ≤ R.cells) (hRs : mS σf - u0 ≤ R.slots) (hf : d + 9 ≤ R.frames) (hrl : 60 * d + 260 ≤ R.locals) (ht : t0 ≤ tt σ) (hu : u0 ≤ mS σ) (hc : chk m (pc, .invokestatic j, nx, v, x, y, z, w) = true) (hz3 : z ≠ 3)
    (hlen : as.length = y) (hsum : (t.map Value.category).sum ≤ 8) (ht2 : tt σ ≤ tt τ) (hs2 : mS σ ≤ mS τ) (hC : Ctr l D cA b0 sad fv L xs d x as σ (.inl u) τ) (hu2 : (rvO u).toList.map (tr (mad b0 sad) fv) = (rvO u).toList) (k : WK p l e R s M args below meth c Q D cA b0 sad fv m t0 u0 σf nx ls ((rvO u).toList ++ t) τ) : WK p l e R s M args below meth c Q D cA b0 sad fv m t0 u0 σf pc ls (as.reverse ++ t) σ := by
  obtain ⟨hd, rfl⟩ := dec1 hc rfl 2 rfl
  have hl := lnk_of hc
  have hl : ((has4 km (yo m) j x = true ∨ has4 kw (yo m) j x = true) ∧ yk x = 2) ∧ y = yp x := by
    simp only [chkL, Bool.and_eq_true, Bool.or_eq_true] at hl
    exact ⟨⟨hl.1.1.1, Nat.eq_of_beq_eq_true hl.1.1.2⟩, Nat.eq_of_beq_eq_true hl.1.2⟩
  have k1 := k.1
  have k2 := k.2.1
  refine ⟨by omega, by omega, fun H locs lsR hP hS hL => ?_⟩
  rw [mlen]
  intro T hT X
  have hsz := hsz_of hz2 ht hT X
  have hPc := pcm_at (as := as) hK hSt hz1 hsz hP hS
  have key : W p l e R s M args below meth c H locs (tt σ - t0) (mS σ - u0) Q (F0 M pc lsR ((as.map (tr (mad b0 sad) fv)).reverse ++ t.map (tr (mad b0 sad) fv))) := by
    have fin : ∀ (H1 : Heap) (locs1 : List Loc), va_P D mcl (wo cA (mad b0 sad) τ) H1 → va_S (mA0 b0) s.heap H1 locs1 → W p l e R s M args below meth c H1 locs1 (tt τ - t0) (mS τ - u0) Q (F0 M (pc + 3) lsR ((rvO u).toList ++ t.map (tr (mad b0 sad) fv))) := fun H1 locs1 h1 h2 => by
      have := k.2.2 H1 locs1 lsR h1 h2 hL
      rw [List.map_append, hu2] at this
      exact this
    have hrm : (rmd d σ τ).frames + 1 ≤ R.frames := by show d + 8 + 1 ≤ _; omega
    have hfits : tt σ - t0 + (tt τ - tt σ) ≤ R.cells ∧ mS σ - u0 + (mS τ - mS σ) ≤ R.slots := by omega
    have hst8 : 2 * (F0 M pc lsR ((as.map (tr (mad b0 sad) fv)).reverse ++ t.map (tr (mad b0 sad) fv))).monitorRoom + ((t.map (tr (mad b0 sad) fv)).map fun v => v.category).sum ≤ 8 := by rw [cat_tr hfv]; show 2 * 0 + _ ≤ 8; omega
    have hal : (as.map (tr (mad b0 sad) fv)).length = yp x := by rw [List.length_map, hlen, hl.2]
    have gen : ∀ hx : x < 306, 8 + (mx x + 11) + (rmd d σ τ).locals ≤ R.locals := fun hx => by
      have := (ckn_all x (by omega)).2.2.2.2.1
      show 8 + (mx x + 11) + (60 * d + 200) ≤ _
      omega
    rcases hl.1.1 with h | h
    · obtain ⟨hx, hm⟩ := km_use h
      obtain ⟨n1, n2, n3, n4, n5, n6, n7⟩ := ckn_all x (by omega)
      have hG : GoodIn lwG (va_wsS (onm (yo m)) j (yn x) (codeC x :: lwG)) := fun w' hw' => by
        unfold va_wsS at hw'
        rcases List.mem_append.mp hw' with q | q
        · simp only [List.mem_cons, List.not_mem_nil, or_false] at q
          rcases q with rfl | rfl | rfl
          · exact ⟨hm, good_of_word (lwG_good hm).2⟩
          · exact ⟨ck_st hx hl.1.2, good_of_word (lwG_good (ck_st hx hl.1.2)).2⟩
          · exact ⟨ck_ii hx, good_of_word (lwG_good (ck_ii hx)).2⟩
        · exact goodin hx w' q
      cases hh : yh x with
      | nil =>
        have cb : CallB R s args (onm (yo m)) j (yn x) (yb x) (mx x) (yr x) (codeC x :: lwG) (rmd d σ τ) (tt τ - tt σ) (mS τ - mS σ) (yp x) := callB_of (yp x) F.2.2.2.2 (goodin hx) (by rw [codeC_nil hh]) rfl rfl (F.2.2.2.2 _ (ck_ii hx)) (F.2.2.2.2 _ hm) ⟨n2, n3, n1⟩ ⟨hrm, gen hx⟩
        exact call_go (va_runS F (ctr_met hC) ⟨cb, F.2.2.2.2 _ (ck_st hx hl.1.2)⟩ ⟨pcm_blind, hPc⟩ rfl hal hL.2.1 rfl hst8 hd hfits) hS ht ht2 hu hs2 fin
      | cons q9 t9 =>
        exact call_go (vx_runSW F (ctr_met hC) (vx_cwSW (yp x) F.2.2.2.2 hG (by rw [codeC_cons hh]) rfl rfl ⟨n2, n3, n1⟩ ⟨hrm, gen hx⟩) ⟨pcm_blind, hPc⟩ rfl hal hL.2.1 rfl hst8 hd hfits) hS ht ht2 hu hs2 fin
    · obtain ⟨hx, hm⟩ := kw_use h
      obtain ⟨n1, n2, n3, n4, n5, n6, n7⟩ := ckn_all x (by omega)
      have hh : yh x = [] := by
        have : ∀ q ∈ kw, yh q.2.2.1 = [] := by decide +kernel
        obtain ⟨q, hq⟩ := has4_mem h
        exact this _ hq
      have cb := va_cnB (R := R) (rm := rmd d σ τ) (mc := tt τ - tt σ) (ms := mS τ - mS σ) (yp x) F.2.2.2.2 (goodin hx) (by rw [codeC_nil hh]) rfl rfl (stc_nw hSt hm) (F.2.2.2.2 _ (ck_ii hx)) ⟨n2, n3, n1⟩ ⟨hrm, gen hx⟩
      exact call_go (va_runSN F (ctr_met hC) ⟨cb, F.2.2.2.2 _ (ck_st hx hl.1.2), trivial⟩ ⟨pcm_blind, hPc⟩ rfl hal hL.2.1 rfl hst8 hd hfits) hS ht ht2 hu hs2 fin
  exact key T hT X
/-- a constructor's call -/
theorem s_invI {pc nx x y z w j d b : Nat} {v : Int32} {ls as t : List Value} {σ τ : mm_M} (F : CallFix p M c (yb m) (mx m) s args lwG (onm (yo m))) (hK : va_K D mcl (mtys cA) s) (hSt : Stc sad fv L xs b0 s s.heap) (hz1 : b0 ≤ s.heap.size) (hz2 : s.heap.size ≤ b0 + t0) (hfv : fv.category = 1) (hRc : tt σf - t0 ≤ R.cells) (hRs : mS σf - u0 ≤ R.slots) (hf : d + 9 ≤ R.frames) (hrl : 60 * d + 260 ≤ R.locals) (ht : t0 ≤ tt σ) (hu : u0 ≤ mS σ) (hc : chk m (pc, .invokespecial j, nx, v, x, y, z, w) = true) (hz3 : z ≠ 2)
    (hlen : (.ref b :: as : List Value).length = y) (hsum : (t.map Value.category).sum ≤ 8) (ht2 : tt σ ≤ tt τ) (hs2 : mS σ ≤ mS τ) (hC : Ctr l D cA b0 sad fv L xs d x (.ref b :: as) σ (.inl uv) τ) (k : WK p l e R s M args below meth c Q D cA b0 sad fv m t0 u0 σf nx ls t τ) : WK p l e R s M args below meth c Q D cA b0 sad fv m t0 u0 σf pc ls ((.ref b :: as : List Value).reverse ++ t) σ := by
  obtain ⟨hd, rfl⟩ := dec1 hc rfl 2 rfl
  have hl := lnk_of hc
  have hl : (((has4 km (yo m) j x = true ∨ has4 kw (yo m) j x = true) ∧ yk x = 1) ∧ y = yp x + 1) ∧ rtc (yr x) = 0 := by
    simp only [chkL, Bool.and_eq_true, Bool.or_eq_true] at hl
    exact ⟨⟨⟨hl.1.1.1, Nat.eq_of_beq_eq_true hl.1.1.2⟩, Nat.eq_of_beq_eq_true hl.1.2⟩, Nat.eq_of_beq_eq_true hl.2⟩
  have hyr : yr x = none := by
    have := hl.2
    cases hq : yr x with
    | none => rfl
    | some q => rw [hq] at this; cases q <;> cases this
  have k1 := k.1
  have k2 := k.2.1
  refine ⟨by omega, by omega, fun H locs lsR hP hS hL => ?_⟩
  rw [mlen]
  intro T hT X
  have hsz := hsz_of hz2 ht hT X
  have hPc := pcm_at (as := .ref b :: as) hK hSt hz1 hsz hP hS
  have est : ((.ref b :: as : List Value).map (tr (mad b0 sad) fv)).reverse ++ t.map (tr (mad b0 sad) fv) = (as.map (tr (mad b0 sad) fv)).reverse ++ .ref (mad b0 sad b) :: t.map (tr (mad b0 sad) fv) := by
    rw [List.map_cons, List.reverse_cons, List.append_assoc]; rfl
  have key : W p l e R s M args below meth c H locs (tt σ - t0) (mS σ - u0) Q (F0 M pc lsR (((.ref b :: as : List Value).map (tr (mad b0 sad) fv)).reverse ++ t.map (tr (mad b0 sad) fv))) := by
    rw [est]
    have fin : ∀ (H1 : Heap) (locs1 : List Loc), va_P D mcl (wo cA (mad b0 sad) τ) H1 → va_S (mA0 b0) s.heap H1 locs1 → W p l e R s M args below meth c H1 locs1 (tt τ - t0) (mS τ - u0) Q (F0 M (pc + 3) lsR ((rvO uv).toList ++ t.map (tr (mad b0 sad) fv))) := fun H1 locs1 h1 h2 => k.2.2 H1 locs1 lsR h1 h2 hL
    have hrm : (rmd d σ τ).frames + 1 ≤ R.frames := by show d + 8 + 1 ≤ _; omega
    have hfits : tt σ - t0 + (tt τ - tt σ) ≤ R.cells ∧ mS σ - u0 + (mS τ - mS σ) ≤ R.slots := by omega
    have hst8 : 2 * (F0 M pc lsR ((as.map (tr (mad b0 sad) fv)).reverse ++ .ref (mad b0 sad b) :: t.map (tr (mad b0 sad) fv))).monitorRoom + ((t.map (tr (mad b0 sad) fv)).map fun v => v.category).sum ≤ 8 := by rw [cat_tr hfv]; show 2 * 0 + _ ≤ 8; omega
    have hal : (as.map (tr (mad b0 sad) fv)).length = yp x := by rw [List.length_map]; rw [List.length_cons] at hlen; omega
    have gen : ∀ hx : x < 306, 8 + (mx x + 11) + (rmd d σ τ).locals ≤ R.locals := fun hx => by
      have := (ckn_all x (by omega)).2.2.2.2.1
      show 8 + (mx x + 11) + (60 * d + 200) ≤ _
      omega
    have hnil : ∀ m, m < 306 → yk m = 1 → yh m = [] := by decide +kernel
    rcases hl.1.1.1 with h | h
    · obtain ⟨hx, hm⟩ := km_use h
      obtain ⟨n1, n2, n3, n4, n5, n6, n7⟩ := ckn_all x (by omega)
      have hh := hnil x hx hl.1.1.2
      have cb : CallB R s args (onm (yo m)) j (yn x) (yb x) (mx x) none (codeC x :: lwG) (rmd d σ τ) (tt τ - tt σ) (mS τ - mS σ) (yp x) := callB_of (yp x) F.2.2.2.2 (goodin hx) (by rw [codeC_nil hh, hyr]) rfl rfl (F.2.2.2.2 _ (ck_ii hx)) (F.2.2.2.2 _ hm) ⟨n2, n3, n1⟩ ⟨hrm, gen hx⟩
      exact call_go (va_runI F (ctr_met hC) ⟨cb, n6 hl.1.1.2, F.2.2.2.2 _ (ck_in hx (by omega))⟩ ⟨pcm_blind, hPc⟩ rfl hal hL.2.1 rfl hst8 hd hfits) hS ht ht2 hu hs2 fin
    · obtain ⟨hx, hm⟩ := kw_use h
      obtain ⟨n1, n2, n3, n4, n5, n6, n7⟩ := ckn_all x (by omega)
      have hh := hnil x hx hl.1.1.2
      have cb := va_cnB (R := R) (rm := rmd d σ τ) (mc := tt τ - tt σ) (ms := mS τ - mS σ) (ret := none) (yp x) F.2.2.2.2 (goodin hx) (by rw [codeC_nil hh, hyr]) rfl rfl (stc_nw hSt hm) (F.2.2.2.2 _ (ck_ii hx)) ⟨n2, n3, n1⟩ ⟨hrm, gen hx⟩
      exact call_go (va_runIN F (ctr_met hC) ⟨cb, n6 hl.1.1.2, F.2.2.2.2 _ (ck_in hx (by omega))⟩ ⟨pcm_blind, hPc⟩ rfl hal hL.2.1 rfl hst8 hd hfits) hS ht ht2 hu hs2 fin
  exact key T hT X
/-- the receiver's cell -/
theorem recv_at {x b : Nat} {σ : mm_M} {H : Heap} {locs : List Loc} (hK : va_K D mcl (mtys cA) s) (hSt : Stc sad fv L xs b0 s s.heap) (hw : WF L xs σ) (hx : x < 306) (hk : yk x = 0) (hr : (mK σ b).1 = mrcv.getD x 0) (hP : va_P D mcl (wo cA (mad b0 sad) σ) H) (hS : va_S (mA0 b0) s.heap H locs) : ∃ cell : Cell, H[mad b0 sad b]? = some cell ∧ cell.vm.isStatics = false ∧ s.vm.findClass (yn x).cls = some cell.cls := by
  rcases ckr_all x hx (by omega) with ⟨h1, h2⟩ | ⟨h1, h2, h3⟩
  · rw [h1] at hr
    obtain ⟨i, hi, rfl, -, -⟩ := wf_s113 hw hr
    rw [mad_s (by omega), h2]
    exact vk_recv (adK := fun i => sad (1000002 + i)) hSt.2.2.1 hi hS
  · have hb : b < mN σ := wf_dyn hw (Or.inr (by omega))
    have hk2 : (mK σ b).1 = 100 + (mrcv.getD x 0 - 100) := by omega
    have := va_recv hK hP (mcl_at (by omega : mrcv.getD x 0 - 100 < 13)) (q0 := b) (a := mad b0 sad b) (fs := fvals (mad b0 sad) (mrcv.getD x 0 - 100) (mI σ b) (mR σ b)) (by rw [wo_get hb, ent_obj hk2])
    rw [h3] at this
    exact this
/-- a virtual call that returns -/
theorem s_invV {pc nx x y z w j d b : Nat} {v : Int32} {u : Value} {ls as t : List Value} {σ τ : mm_M} (F : CallFix p M c (yb m) (mx m) s args lwG (onm (yo m))) (hK : va_K D mcl (mtys cA) s) (hSt : Stc sad fv L xs b0 s s.heap) (hz1 : b0 ≤ s.heap.size) (hz2 : s.heap.size ≤ b0 + t0) (hfv : fv.category = 1) (hRc : tt σf - t0 ≤ R.cells) (hRs : mS σf - u0 ≤ R.slots) (hf : d + 9 ≤ R.frames) (hrl : 60 * d + 260 ≤ R.locals) (hw : WF L xs σ) (ht : t0 ≤ tt σ) (hu : u0 ≤ mS σ) (hc : chk m (pc, .invokevirtual j, nx, v, x, y, z, w) = true) (hrk : (mK σ b).1 = mrcv.getD x 0)
    (hlen : (.ref b :: as : List Value).length = y) (hsum : (t.map Value.category).sum ≤ 8) (ht2 : tt σ ≤ tt τ) (hs2 : mS σ ≤ mS τ) (hC : Ctr l D cA b0 sad fv L xs d x (.ref b :: as) σ (.inl u) τ) (hu2 : (rvO u).toList.map (tr (mad b0 sad) fv) = (rvO u).toList) (k : WK p l e R s M args below meth c Q D cA b0 sad fv m t0 u0 σf nx ls ((rvO u).toList ++ t) τ) : WK p l e R s M args below meth c Q D cA b0 sad fv m t0 u0 σf pc ls ((.ref b :: as : List Value).reverse ++ t) σ := by
  obtain ⟨hd, rfl⟩ := dec1 hc rfl 2 rfl
  have hl := lnk_of hc
  have hl : (((has4 km (yo m) j x = true ∨ has4 kw (yo m) j x = true) ∧ (yh x) = []) ∧ yk x = 0) ∧ y = yp x + 1 := by
    simp only [chkL, Bool.and_eq_true] at hl
    obtain ⟨⟨⟨h1, h2⟩, h3⟩, -⟩ := hl
    refine ⟨⟨?_, Nat.eq_of_beq_eq_true h2⟩, Nat.eq_of_beq_eq_true h3⟩
    split at h1 <;> simp only [Bool.and_eq_true, List.isEmpty_iff] at h1
    · exact ⟨Or.inl h1.1, h1.2⟩
    · exact ⟨Or.inr h1.1, h1.2⟩
  have hh := hl.1.1.2
  have k1 := k.1
  have k2 := k.2.1
  refine ⟨by omega, by omega, fun H locs lsR hP hS hL => ?_⟩
  rw [mlen]
  intro T hT X
  have hsz := hsz_of hz2 ht hT X
  have hPc := pcm_at (as := .ref b :: as) hK hSt hz1 hsz hP hS
  have est : ((.ref b :: as : List Value).map (tr (mad b0 sad) fv)).reverse ++ t.map (tr (mad b0 sad) fv) = (as.map (tr (mad b0 sad) fv)).reverse ++ .ref (mad b0 sad b) :: t.map (tr (mad b0 sad) fv) := by
    rw [List.map_cons, List.reverse_cons, List.append_assoc]; rfl
  have key : W p l e R s M args below meth c H locs (tt σ - t0) (mS σ - u0) Q (F0 M pc lsR (((.ref b :: as : List Value).map (tr (mad b0 sad) fv)).reverse ++ t.map (tr (mad b0 sad) fv))) := by
    rw [est]
    have fin : ∀ (H1 : Heap) (locs1 : List Loc), va_P D mcl (wo cA (mad b0 sad) τ) H1 → va_S (mA0 b0) s.heap H1 locs1 → W p l e R s M args below meth c H1 locs1 (tt τ - t0) (mS τ - u0) Q (F0 M (pc + 3) lsR ((rvO u).toList ++ t.map (tr (mad b0 sad) fv))) := fun H1 locs1 h1 h2 => by
      have := k.2.2 H1 locs1 lsR h1 h2 hL
      rw [List.map_append, hu2] at this
      exact this
    have hrm : (rmd d σ τ).frames + 1 ≤ R.frames := by show d + 8 + 1 ≤ _; omega
    have hfits : tt σ - t0 + (tt τ - tt σ) ≤ R.cells ∧ mS σ - u0 + (mS τ - mS σ) ≤ R.slots := by omega
    have hst8 : 2 * (F0 M pc lsR ((as.map (tr (mad b0 sad) fv)).reverse ++ .ref (mad b0 sad b) :: t.map (tr (mad b0 sad) fv))).monitorRoom + ((t.map (tr (mad b0 sad) fv)).map fun v => v.category).sum ≤ 8 := by rw [cat_tr hfv]; show 2 * 0 + _ ≤ 8; omega
    have hal : (as.map (tr (mad b0 sad) fv)).length = yp x := by rw [List.length_map]; rw [List.length_cons] at hlen; omega
    have gen : ∀ hx : x < 306, 8 + (mx x + 11) + (rmd d σ τ).locals ≤ R.locals := fun hx => by
      have := (ckn_all x (by omega)).2.2.2.2.1
      show 8 + (mx x + 11) + (60 * d + 200) ≤ _
      omega
    rcases hl.1.1.1 with h | h
    · obtain ⟨hx, hm⟩ := km_use h
      obtain ⟨n1, n2, n3, n4, n5, n6, n7⟩ := ckn_all x (by omega)
      have cb : CallB R s args (onm (yo m)) j (yn x) (yb x) (mx x) (yr x) (codeC x :: lwG) (rmd d σ τ) (tt τ - tt σ) (mS τ - mS σ) (yp x) := callB_of (yp x) F.2.2.2.2 (goodin hx) (by rw [codeC_nil hh]) rfl rfl (F.2.2.2.2 _ (ck_ii hx)) (F.2.2.2.2 _ hm) ⟨n2, n3, n1⟩ ⟨hrm, gen hx⟩
      exact call_go (va_runV F (ctr_met hC) ⟨cb, F.2.2.2.2 _ (ck_in hx (by omega)), F.2.2.2.2 _ (ck_se hx hl.1.2)⟩ ⟨pcm_blind, recv_at hK hSt hw hx hl.1.2 hrk hP hS, hPc⟩ rfl hal hL.2.1 rfl hst8 hd hfits) hS ht ht2 hu hs2 fin
    · obtain ⟨hx, hm⟩ := kw_use h
      obtain ⟨n1, n2, n3, n4, n5, n6, n7⟩ := ckn_all x (by omega)
      have cb := va_cnB (R := R) (rm := rmd d σ τ) (mc := tt τ - tt σ) (ms := mS τ - mS σ) (yp x) F.2.2.2.2 (goodin hx) (by rw [codeC_nil hh]) rfl rfl (stc_nw hSt hm) (F.2.2.2.2 _ (ck_ii hx)) ⟨n2, n3, n1⟩ ⟨hrm, gen hx⟩
      exact call_go (va_runVN F (ctr_met hC) ⟨cb, F.2.2.2.2 _ (ck_in hx (by omega)), F.2.2.2.2 _ (ck_se hx hl.1.2)⟩ ⟨pcm_blind, recv_at hK hSt hw hx hl.1.2 hrk hP hS, hPc⟩ rfl hal hL.2.1 rfl hst8 hd hfits) hS ht ht2 hu hs2 fin
  exact key T hT X
/-- a virtual call that throws -/
theorem s_invX {pc nx x y w j d b E : Nat} {v : Int32} {ls as t : List Value} {σ τ : mm_M} (F : CallFix p M c (yb m) (mx m) s args lwG (onm (yo m))) (hK : va_K D mcl (mtys cA) s) (hSt : Stc sad fv L xs b0 s s.heap) (hz1 : b0 ≤ s.heap.size) (hz2 : s.heap.size ≤ b0 + t0) (hfv : fv.category = 1) (hRc : tt σf - t0 ≤ R.cells) (hRs : mS σf - u0 ≤ R.slots) (hf : d + 9 ≤ R.frames) (hrl : 60 * d + 260 ≤ R.locals) (hw : WF L xs σ) (ht : t0 ≤ tt σ) (hu : u0 ≤ mS σ) (hc : chk m (pc, .invokevirtual j, nx, v, x, y, 0, w) = true) (hrk : (mK σ b).1 = mrcv.getD x 0)
    (hlen : (.ref b :: as : List Value).length = y) (hsum : (t.map Value.category).sum ≤ 8) (ht2 : tt σ ≤ tt τ) (hs2 : mS σ ≤ mS τ) (htf : tt τ ≤ tt σf) (hsf : mS τ ≤ mS σf) (hC : Ctr l D cA b0 sad fv L xs d x (.ref b :: as) σ (.inr E) τ)
    (kk : ∀ (H1 : Heap) (locs1 : List Loc) (lsR : Array Slot) (q : Addr) (ce : Cell), LR (mad b0 sad) fv (mx m) (ynl m) lsR ls → va_P D mcl (wo cA (mad b0 sad) τ) H1 → va_S (mA0 b0) s.heap H1 locs1 → H1[q]? = some ce → ce.vm = .none → s.vm.findClass (xnm E) = some ce.cls → vx_W p l e R s M args below meth c H1 locs1 (tt τ - t0) (mS τ - u0) Q (F0 M pc lsR (t.map (tr (mad b0 sad) fv))) q) : WK p l e R s M args below meth c Q D cA b0 sad fv m t0 u0 σf pc ls ((.ref b :: as : List Value).reverse ++ t) σ := by
  obtain ⟨hd, rfl⟩ := dec1 hc rfl 2 rfl
  have hl := lnk_of hc
  have hl : ((has4 km (yo m) j x = true ∧ (yh x) = []) ∧ yk x = 0) ∧ y = yp x + 1 := by
    simp only [chkL, Bool.and_eq_true, List.isEmpty_iff] at hl
    obtain ⟨⟨⟨h1, h2⟩, h3⟩, -⟩ := hl
    exact ⟨⟨h1, Nat.eq_of_beq_eq_true h2⟩, Nat.eq_of_beq_eq_true h3⟩
  have hh := hl.1.1.2
  refine ⟨by omega, by omega, fun H locs lsR hP hS hL => ?_⟩
  rw [mlen]
  intro T hT X
  have hsz := hsz_of hz2 ht hT X
  have hPc := pcm_at (as := .ref b :: as) hK hSt hz1 hsz hP hS
  have est : ((.ref b :: as : List Value).map (tr (mad b0 sad) fv)).reverse ++ t.map (tr (mad b0 sad) fv) = (as.map (tr (mad b0 sad) fv)).reverse ++ .ref (mad b0 sad b) :: t.map (tr (mad b0 sad) fv) := by
    rw [List.map_cons, List.reverse_cons, List.append_assoc]; rfl
  have key : W p l e R s M args below meth c H locs (tt σ - t0) (mS σ - u0) Q (F0 M pc lsR (((.ref b :: as : List Value).map (tr (mad b0 sad) fv)).reverse ++ t.map (tr (mad b0 sad) fv))) := by
    rw [est]
    have hrm : (rmd d σ τ).frames + 1 ≤ R.frames := by show d + 8 + 1 ≤ _; omega
    have hfits : tt σ - t0 + (tt τ - tt σ) ≤ R.cells ∧ mS σ - u0 + (mS τ - mS σ) ≤ R.slots := by omega
    have hst8 : 2 * (F0 M pc lsR ((as.map (tr (mad b0 sad) fv)).reverse ++ .ref (mad b0 sad b) :: t.map (tr (mad b0 sad) fv))).monitorRoom + ((t.map (tr (mad b0 sad) fv)).map fun v => v.category).sum ≤ 8 := by rw [cat_tr hfv]; show 2 * 0 + _ ≤ 8; omega
    have hal : (as.map (tr (mad b0 sad) fv)).length = yp x := by rw [List.length_map]; rw [List.length_cons] at hlen; omega
    obtain ⟨hx, hm⟩ := km_use hl.1.1.1
    obtain ⟨n1, n2, n3, n4, n5, n6, n7⟩ := ckn_all x (by omega)
    have gen : 8 + (mx x + 11) + (rmd d σ τ).locals ≤ R.locals := by
      show 8 + (mx x + 11) + (60 * d + 200) ≤ _
      omega
    have cb : CallB R s args (onm (yo m)) j (yn x) (yb x) (mx x) (yr x) (codeC x :: lwG) (rmd d σ τ) (tt τ - tt σ) (mS τ - mS σ) (yp x) := callB_of (yp x) F.2.2.2.2 (goodin hx) (by rw [codeC_nil hh]) rfl rfl (F.2.2.2.2 _ (ck_ii hx)) (F.2.2.2.2 _ hm) ⟨n2, n3, n1⟩ ⟨hrm, gen⟩
    exact throw_go (vx_runV F hC ⟨cb, F.2.2.2.2 _ (ck_in hx (by omega)), F.2.2.2.2 _ (ck_se hx hl.1.2)⟩ ⟨pcm_blind, recv_at hK hSt hw hx hl.1.2 hrk hP hS, hPc⟩ rfl hal hL.2.1 rfl hst8 hd hfits) hS ht ht2 hu hs2 (fun H1 locs1 q ce h1 h2 h3 h4 h5 => kk H1 locs1 lsR q ce hL h1 h2 h3 h4 h5)
  exact key T hT X
end SndE
