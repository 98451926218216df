/-! one step of the small machine is one of the real one -/
def ckt (e : mm_E) : Bool := match e.2.1 with
  | .ireturn => !Nat.beq e.2.2.2.2.2.2.2 9
  | _ => true
theorem ckt_all : mcodes.all (fun l => l.all ckt) = true := by decide +kernel
theorem ckr9 {m pc nx x y z w : Nat} {v : Int32} (h : mfind pc (mcode m) = some (pc, .ireturn, nx, v, x, y, z, w)) : w ≠ 9 := by
  obtain ⟨h1, h2⟩ := mfind_mem _ _ _ h
  have hl : m < mcodes.length := by
    rcases Nat.lt_or_ge m mcodes.length with q | q
    · exact q
    · unfold mcode at h1
      rw [List.getD_eq_getElem?_getD, List.getElem?_eq_none q] at h1
      cases h1
  have hg : mcodes[m]? = some (mcode m) := by
    unfold mcode
    rw [List.getD_eq_getElem?_getD, List.getElem?_eq_getElem hl]; rfl
  have := List.all_eq_true.mp (List.all_eq_true.mp ckt_all _ (List.mem_of_getElem? hg)) _ h1
  intro hw
  subst hw
  cases this
theorem len8 {t : List Value} (h : (t.map Value.category).sum ≤ 8) : t.length ≤ 20 := by have := len_sum t; omega
section SndH
variable {l : Launch} {p : Program} {e : Env} {R : Room} {s : State} {M : MethodId} {args : Array Value} {below : List Frame} {meth : Method} {c : Code} {Q : State → Prop} {D : va_G} {cA : Nat → ClassId} {b0 : Nat} {sad : Nat → Nat} {fv : Value} {L : Nat} {xs : Nat → Int32} {m t0 u0 : Nat} {σf : mm_M}
variable {r : Value ⊕ Nat}
set_option maxHeartbeats 4000000 in
theorem snd_step {pc : Nat} {K S : Nat → List Value → List Value → mm_M → Option mm_R} {C : Nat → List Value → mm_M → Option mm_R} {e9 : mm_E} {ls st : List Value} {σ : mm_M}
    (hm : m < 307) (hl : l.stackTraces = false) (F : CallFix p M c (yb m) (mx m) s args lwG (onm (yo m))) (hK : va_K D mcl (mtys cA) s) (hSt : Stc sad fv L xs b0 s s.heap) (hz1 : b0 ≤ s.heap.size) (hz2 : s.heap.size ≤ b0 + t0) (hfv : fv.category = 1) (hRc : tt σf - t0 ≤ R.cells) (hRs : mS σf - u0 ≤ R.slots) (hfr : 8 ≤ R.frames) (hrl : 200 ≤ R.locals)
    (hlk : meth.locks = false) (hret : meth.sig.returnType = yr m) (hxt : c.exceptionTable.toList = tableOf (yh m)) (hnm : yk m = 1 → meth.name = "<init>")
    (kK : ∀ pc ls st σ, WF L xs σ → t0 ≤ tt σ → u0 ≤ mS σ → K pc ls st σ = some (r, σf) → WK p l e R s M args below meth c (QQ below D cA b0 sad r σf args s t0 u0) D cA b0 sad fv m t0 u0 σf pc ls st σ)
    (kS : ∀ pc ls st σ, WF L xs σ → t0 ≤ tt σ → u0 ≤ mS σ → S pc ls st σ = some (r, σf) → WK p l e R s M args below meth c (QQ below D cA b0 sad r σf args s t0 u0) D cA b0 sad fv m t0 u0 σf pc ls st σ)
    (kC : ∀ x as σ r1 τ, x < 306 → as.length ≤ mx x → WF L xs σ → C x as σ = some (r1, τ) → GO L xs σ τ ∧ rokb x as σ = true ∧ ∃ d, d + 9 ≤ R.frames ∧ 60 * d + 260 ≤ R.locals ∧ Ctr l D cA b0 sad fv L xs d x as σ r1 τ)
    (hfd : mfind pc (mcode m) = some e9) (hw : WF L xs σ) (ht : t0 ≤ tt σ) (hu : u0 ≤ mS σ) (h : mm_step (mhnd m) K S C e9 ls st σ = some (r, σf)) : WK p l e R s M args below meth c (QQ below D cA b0 sad r σf args s t0 u0) D cA b0 sad fv m t0 u0 σf pc ls st σ := by
  obtain ⟨hc, he⟩ := chk_of hfd
  obtain ⟨pc1, i, nx, v, x, y, z, w⟩ := e9
  have he : pc1 = pc := he
  subst he
  cases i
  case iconst n =>
    simp only [mm_step] at h
    exact s_iconst F hc (cki_of hfd) (kK _ _ _ _ hw ht hu h)
  case lconst n =>
    simp only [mm_step] at h
    exact s_lconst F hc (kK _ _ _ _ hw ht hu h)
  case ldc2_w j =>
    simp only [mm_step] at h
    exact s_ldc2 F hc (kK _ _ _ _ hw ht hu h)
  case ldc j =>
    cases z with
    | zero =>
      simp only [mm_step] at h
      exact s_ldcI F hc (kK _ _ _ _ hw ht hu h)
    | succ z =>
      simp only [mm_step] at h
      exact s_ldcS F hSt hc (kK _ _ _ _ hw ht hu h)
  case getstatic j =>
    rcases z with _ | _ | z
    · simp only [mm_step] at h
      exact s_gs0 F hSt hc (kK _ _ _ _ hw ht hu h)
    · simp only [mm_step] at h
      exact s_gs1 F hSt hc (kK _ _ _ _ hw ht hu h)
    · simp only [mm_step] at h
      exact s_gs2 F hSt hc (kK _ _ _ _ hw ht hu h)
  case iload j =>
    simp only [mm_step] at h
    replace h := oI_some h
    obtain ⟨a, ha, h⟩ := h
    exact s_iload F hc ha (kK _ _ _ _ hw ht hu h)
  case lload j =>
    simp only [mm_step] at h
    replace h := oL_some h
    obtain ⟨a, ha, h⟩ := h
    exact s_lload F hc ha (kK _ _ _ _ hw ht hu h)
  case aload j =>
    simp only [mm_step] at h
    replace h := oR_some h
    obtain ⟨a, ha, h⟩ := h
    exact s_aload F hc ha (kK _ _ _ _ hw ht hu h)
  case istore j =>
    simp only [mm_step] at h
    replace h := pI_some h
    obtain ⟨a, t, rfl, h⟩ := h
    exact s_istore F hc (kK _ _ _ _ hw ht hu h)
  case astore j =>
    simp only [mm_step] at h
    replace h := pR_some h
    obtain ⟨a, t, rfl, h⟩ := h
    exact s_astore F hc (kK _ _ _ _ hw ht hu h)
  case lstore j =>
    simp only [mm_step] at h
    replace h := pL_some h
    obtain ⟨a, t, rfl, h⟩ := h
    exact s_lstore F hc (ckl_of hfd) (kK _ _ _ _ hw ht hu h)
  case iinc j n =>
    simp only [mm_step] at h
    replace h := oI_some h
    obtain ⟨a, ha, h⟩ := h
    exact s_iinc F hc ha (kK _ _ _ _ hw ht hu h)
  case iadd =>
    simp only [mm_step] at h
    replace h := pI_some h
    obtain ⟨b, t, rfl, h⟩ := h
    replace h := pI_some h
    obtain ⟨a, t, rfl, h⟩ := h
    exact s_iadd F hc (kK _ _ _ _ hw ht hu h)
  case isub =>
    simp only [mm_step] at h
    replace h := pI_some h
    obtain ⟨b, t, rfl, h⟩ := h
    replace h := pI_some h
    obtain ⟨a, t, rfl, h⟩ := h
    exact s_isub F hc (kK _ _ _ _ hw ht hu h)
  case imul =>
    simp only [mm_step] at h
    replace h := pI_some h
    obtain ⟨b, t, rfl, h⟩ := h
    replace h := pI_some h
    obtain ⟨a, t, rfl, h⟩ := h
    exact s_imul F hc (kK _ _ _ _ hw ht hu h)
  case iand =>
    simp only [mm_step] at h
    replace h := pI_some h
    obtain ⟨b, t, rfl, h⟩ := h
    replace h := pI_some h
    obtain ⟨a, t, rfl, h⟩ := h
    exact s_iand F hc (kK _ _ _ _ hw ht hu h)
  case ior =>
    simp only [mm_step] at h
    replace h := pI_some h
    obtain ⟨b, t, rfl, h⟩ := h
    replace h := pI_some h
    obtain ⟨a, t, rfl, h⟩ := h
    exact s_ior F hc (kK _ _ _ _ hw ht hu h)
  case ixor =>
    simp only [mm_step] at h
    replace h := pI_some h
    obtain ⟨b, t, rfl, h⟩ := h
    replace h := pI_some h
    obtain ⟨a, t, rfl, h⟩ := h
    exact s_ixor F hc (kK _ _ _ _ hw ht hu h)
  case ishl =>
    simp only [mm_step] at h
    replace h := pI_some h
    obtain ⟨b, t, rfl, h⟩ := h
    replace h := pI_some h
    obtain ⟨a, t, rfl, h⟩ := h
    exact s_ishl F hc (kK _ _ _ _ hw ht hu h)
  case ishr =>
    simp only [mm_step] at h
    replace h := pI_some h
    obtain ⟨b, t, rfl, h⟩ := h
    replace h := pI_some h
    obtain ⟨a, t, rfl, h⟩ := h
    exact s_ishr F hc (kK _ _ _ _ hw ht hu h)
  case iushr =>
    simp only [mm_step] at h
    replace h := pI_some h
    obtain ⟨b, t, rfl, h⟩ := h
    replace h := pI_some h
    obtain ⟨a, t, rfl, h⟩ := h
    exact s_iushr F hc (kK _ _ _ _ hw ht hu h)
  case idiv =>
    simp only [mm_step] at h
    replace h := pI_some h
    obtain ⟨b, t, rfl, h⟩ := h
    replace h := pI_some h
    obtain ⟨a, t, rfl, h⟩ := h
    replace h := itn_some h
    obtain ⟨hk, h⟩ := h
    exact s_idiv hk F hc (kK _ _ _ _ hw ht hu h)
  case irem =>
    simp only [mm_step] at h
    replace h := pI_some h
    obtain ⟨b, t, rfl, h⟩ := h
    replace h := pI_some h
    obtain ⟨a, t, rfl, h⟩ := h
    replace h := itn_some h
    obtain ⟨hk, h⟩ := h
    exact s_irem hk F hc (kK _ _ _ _ hw ht hu h)
  case ldiv =>
    simp only [mm_step] at h
    replace h := pL_some h
    obtain ⟨b, t, rfl, h⟩ := h
    replace h := pL_some h
    obtain ⟨a, t, rfl, h⟩ := h
    replace h := itn_some h
    obtain ⟨hk, h⟩ := h
    exact s_ldiv hk F hc (kK _ _ _ _ hw ht hu h)
  case lrem =>
    simp only [mm_step] at h
    replace h := pL_some h
    obtain ⟨b, t, rfl, h⟩ := h
    replace h := pL_some h
    obtain ⟨a, t, rfl, h⟩ := h
    replace h := itn_some h
    obtain ⟨hk, h⟩ := h
    exact s_lrem hk F hc (kK _ _ _ _ hw ht hu h)
  case ineg =>
    simp only [mm_step] at h
    replace h := pI_some h
    obtain ⟨a, t, rfl, h⟩ := h
    exact s_ineg F hc (kK _ _ _ _ hw ht hu h)
  case i2l =>
    simp only [mm_step] at h
    replace h := pI_some h
    obtain ⟨a, t, rfl, h⟩ := h
    exact s_i2l F hc (kK _ _ _ _ hw ht hu h)
  case i2b =>
    simp only [mm_step] at h
    replace h := pI_some h
    obtain ⟨a, t, rfl, h⟩ := h
    exact s_i2b F hc (kK _ _ _ _ hw ht hu h)
  case i2c =>
    simp only [mm_step] at h
    replace h := pI_some h
    obtain ⟨a, t, rfl, h⟩ := h
    exact s_i2c F hc (kK _ _ _ _ hw ht hu h)
  case pop =>
    simp only [mm_step] at h
    replace h := pI_some h
    obtain ⟨a, t, rfl, h⟩ := h
    exact s_pop F hc (kK _ _ _ _ hw ht hu h)
  case ladd =>
    simp only [mm_step] at h
    replace h := pL_some h
    obtain ⟨b, t, rfl, h⟩ := h
    replace h := pL_some h
    obtain ⟨a, t, rfl, h⟩ := h
    exact s_ladd F hc (kK _ _ _ _ hw ht hu h)
  case lmul =>
    simp only [mm_step] at h
    replace h := pL_some h
    obtain ⟨b, t, rfl, h⟩ := h
    replace h := pL_some h
    obtain ⟨a, t, rfl, h⟩ := h
    exact s_lmul F hc (kK _ _ _ _ hw ht hu h)
  case lcmp =>
    simp only [mm_step] at h
    replace h := pL_some h
    obtain ⟨b, t, rfl, h⟩ := h
    replace h := pL_some h
    obtain ⟨a, t, rfl, h⟩ := h
    exact s_lcmp F hc (kK _ _ _ _ hw ht hu h)
  case lshl =>
    simp only [mm_step] at h
    replace h := pI_some h
    obtain ⟨b, t, rfl, h⟩ := h
    replace h := pL_some h
    obtain ⟨a, t, rfl, h⟩ := h
    exact s_lshl F hc (kK _ _ _ _ hw ht hu h)
  case dup =>
    simp only [mm_step] at h
    split at h
    · exact s_dupI F hc (kK _ _ _ _ hw ht hu h)
    · exact s_dupR F hc (kK _ _ _ _ hw ht hu h)
    · cases h
  case dup2 =>
    simp only [mm_step] at h
    split at h
    · exact s_dup2 F hc (kK _ _ _ _ hw ht hu h)
    · cases h
  case goto off =>
    simp only [mm_step] at h
    exact s_goto F hc (kK _ _ _ _ hw ht hu h)
  case ifCond cc off =>
    cases cc
    case eq =>
      simp only [mm_step] at h
      replace h := pI_some h
      obtain ⟨a, t, rfl, h⟩ := h
      exact s_if_eq F hc (fun q => kK _ _ _ _ hw ht hu (by rw [if_pos q] at h; exact h)) (fun q => kK _ _ _ _ hw ht hu (by rw [if_neg q] at h; exact h))
    case ne =>
      simp only [mm_step] at h
      replace h := pI_some h
      obtain ⟨a, t, rfl, h⟩ := h
      exact s_if_ne F hc (fun q => kK _ _ _ _ hw ht hu (by rw [if_pos q] at h; exact h)) (fun q => kK _ _ _ _ hw ht hu (by rw [if_neg q] at h; exact h))
    case lt =>
      simp only [mm_step] at h
      replace h := pI_some h
      obtain ⟨a, t, rfl, h⟩ := h
      exact s_if_lt F hc (fun q => kK _ _ _ _ hw ht hu (by rw [if_pos q] at h; exact h)) (fun q => kK _ _ _ _ hw ht hu (by rw [if_neg q] at h; exact h))
    case ge =>
      simp only [mm_step] at h
      replace h := pI_some h
      obtain ⟨a, t, rfl, h⟩ := h
      exact s_if_ge F hc (fun q => kK _ _ _ _ hw ht hu (by rw [if_pos q] at h; exact h)) (fun q => kK _ _ _ _ hw ht hu (by rw [if_neg q] at h; exact h))
    case gt =>
      simp only [mm_step] at h
      replace h := pI_some h
      obtain ⟨a, t, rfl, h⟩ := h
      exact s_if_gt F hc (fun q => kK _ _ _ _ hw ht hu (by rw [if_pos q] at h; exact h)) (fun q => kK _ _ _ _ hw ht hu (by rw [if_neg q] at h; exact h))
    case le =>
      simp only [mm_step] at h
      replace h := pI_some h
      obtain ⟨a, t, rfl, h⟩ := h
      exact s_if_le F hc (fun q => kK _ _ _ _ hw ht hu (by rw [if_pos q] at h; exact h)) (fun q => kK _ _ _ _ hw ht hu (by rw [if_neg q] at h; exact h))
  case if_icmp cc off =>
    cases cc
    case eq =>
      simp only [mm_step] at h
      replace h := pI_some h
      obtain ⟨b, t, rfl, h⟩ := h
      replace h := pI_some h
      obtain ⟨a, t, rfl, h⟩ := h
      exact s_icmp_eq F hc (fun q => kK _ _ _ _ hw ht hu (by rw [if_pos q] at h; exact h)) (fun q => kK _ _ _ _ hw ht hu (by rw [if_neg q] at h; exact h))
    case ne =>
      simp only [mm_step] at h
      replace h := pI_some h
      obtain ⟨b, t, rfl, h⟩ := h
      replace h := pI_some h
      obtain ⟨a, t, rfl, h⟩ := h
      exact s_icmp_ne F hc (fun q => kK _ _ _ _ hw ht hu (by rw [if_pos q] at h; exact h)) (fun q => kK _ _ _ _ hw ht hu (by rw [if_neg q] at h; exact h))
    case lt =>
      simp only [mm_step] at h
      replace h := pI_some h
      obtain ⟨b, t, rfl, h⟩ := h
      replace h := pI_some h
      obtain ⟨a, t, rfl, h⟩ := h
      exact s_icmp_lt F hc (fun q => kK _ _ _ _ hw ht hu (by rw [if_pos q] at h; exact h)) (fun q => kK _ _ _ _ hw ht hu (by rw [if_neg q] at h; exact h))
    case ge =>
      simp only [mm_step] at h
      replace h := pI_some h
      obtain ⟨b, t, rfl, h⟩ := h
      replace h := pI_some h
      obtain ⟨a, t, rfl, h⟩ := h
      exact s_icmp_ge F hc (fun q => kK _ _ _ _ hw ht hu (by rw [if_pos q] at h; exact h)) (fun q => kK _ _ _ _ hw ht hu (by rw [if_neg q] at h; exact h))
    case gt =>
      simp only [mm_step] at h
      replace h := pI_some h
      obtain ⟨b, t, rfl, h⟩ := h
      replace h := pI_some h
      obtain ⟨a, t, rfl, h⟩ := h
      exact s_icmp_gt F hc (fun q => kK _ _ _ _ hw ht hu (by rw [if_pos q] at h; exact h)) (fun q => kK _ _ _ _ hw ht hu (by rw [if_neg q] at h; exact h))
    case le =>
      simp only [mm_step] at h
      replace h := pI_some h
      obtain ⟨b, t, rfl, h⟩ := h
      replace h := pI_some h
      obtain ⟨a, t, rfl, h⟩ := h
      exact s_icmp_le F hc (fun q => kK _ _ _ _ hw ht hu (by rw [if_pos q] at h; exact h)) (fun q => kK _ _ _ _ hw ht hu (by rw [if_neg q] at h; exact h))
  case tableswitch dflt lo hi offs =>
    simp only [mm_step] at h
    replace h := pI_some h
    obtain ⟨a, t, rfl, h⟩ := h
    exact s_table F hc (kS _ _ _ _ hw ht hu h)
  case lookupswitch dflt ps =>
    simp only [mm_step] at h
    replace h := pI_some h
    obtain ⟨a, t, rfl, h⟩ := h
    exact s_look F hc (kS _ _ _ _ hw ht hu h)
  case getfield j =>
    cases z with
    | zero =>
      simp only [mm_step] at h
      replace h := pR_some h
      obtain ⟨a, t, rfl, h⟩ := h
      replace h := ite_some h
      obtain ⟨hk, h⟩ := h
      exact s_getI (z := 0) F hK hSt hw hc hk (kK _ _ _ _ hw ht hu h)
    | succ z =>
      simp only [mm_step] at h
      replace h := pR_some h
      obtain ⟨a, t, rfl, h⟩ := h
      replace h := gR_some h
      obtain ⟨hk, r1, hr, h⟩ := h
      exact s_getR F hK hSt hw hc hk hr (kK _ _ _ _ hw ht hu h)
  case putfield j =>
    have hy := put_y hc
    cases z with
    | zero =>
      simp only [mm_step] at h
      replace h := pI_some h
      obtain ⟨b, t, rfl, h⟩ := h
      replace h := pR_some h
      obtain ⟨a, t, rfl, h⟩ := h
      replace h := ite_some h
      obtain ⟨hk, h⟩ := h
      have g := kK _ _ _ _ (wf_wI hw (wf_dyn (a := a) hw (Or.inr (by omega)))) ht hu h
      exact s_putI F hK hSt hw hnm hc hk g
    | succ z =>
      simp only [mm_step] at h
      replace h := pR_some h
      obtain ⟨b, t, rfl, h⟩ := h
      replace h := pR_some h
      obtain ⟨a, t, rfl, h⟩ := h
      replace h := ite_some h
      obtain ⟨hk, h⟩ := h
      have g := kK _ _ _ _ (wf_wR hw (wf_dyn (a := a) hw (Or.inr (by omega)))) ht hu h
      exact s_putR F hK hSt hw hnm hc hk g
  case iaload =>
    simp only [mm_step] at h
    replace h := pI_some h
    obtain ⟨j, t, rfl, h⟩ := h
    replace h := pR_some h
    obtain ⟨a, t, rfl, h⟩ := h
    replace h := ite_some h
    obtain ⟨hk, h⟩ := h
    exact s_iald F hK hSt hw hc hk.1 hk.2 (kK _ _ _ _ hw ht hu h)
  case baload =>
    simp only [mm_step] at h
    replace h := pI_some h
    obtain ⟨j, t, rfl, h⟩ := h
    replace h := pR_some h
    obtain ⟨a, t, rfl, h⟩ := h
    replace h := ite_some h
    obtain ⟨hk, h⟩ := h
    exact s_bald F hK hSt hw hc hk.1 hk.2 (kK _ _ _ _ hw ht hu h)
  case laload =>
    simp only [mm_step] at h
    replace h := pI_some h
    obtain ⟨j, t, rfl, h⟩ := h
    replace h := pR_some h
    obtain ⟨a, t, rfl, h⟩ := h
    replace h := ite_some h
    obtain ⟨hk, h⟩ := h
    exact s_lald F hK hw hc hk.1 hk.2 (kK _ _ _ _ hw ht hu h)
  case aaload =>
    simp only [mm_step] at h
    replace h := pI_some h
    obtain ⟨j, t, rfl, h⟩ := h
    replace h := pR_some h
    obtain ⟨a, t, rfl, h⟩ := h
    replace h := aR_some h
    obtain ⟨hk, r1, hr, h⟩ := h
    exact s_aald F hK hw hc hk.1 hk.2 hr (kK _ _ _ _ hw ht hu h)
  case iastore =>
    simp only [mm_step] at h
    replace h := pI_some h
    obtain ⟨b, t, rfl, h⟩ := h
    replace h := pI_some h
    obtain ⟨j, t, rfl, h⟩ := h
    replace h := pR_some h
    obtain ⟨a, t, rfl, h⟩ := h
    replace h := ite_some h
    obtain ⟨hk, h⟩ := h
    have g := kK _ _ _ _ (wf_wI hw (wf_dyn (a := a) hw (Or.inl (by omega)))) ht hu h
    exact s_iast F hK hw hc hk.1 hk.2 g
  case bastore =>
    simp only [mm_step] at h
    replace h := pI_some h
    obtain ⟨b, t, rfl, h⟩ := h
    replace h := pI_some h
    obtain ⟨j, t, rfl, h⟩ := h
    replace h := pR_some h
    obtain ⟨a, t, rfl, h⟩ := h
    rcases tB_some h with ⟨hk, hi, h⟩ | ⟨hk, hi, h⟩
    · have g := kK _ _ _ _ (wf_wI hw (wf_dyn (a := a) hw (Or.inl (by omega)))) ht hu h
      exact s_bast3 F hK hw hc hk hi g
    · have g := kK _ _ _ _ (wf_wI hw (wf_dyn (a := a) hw (Or.inl (by omega)))) ht hu h
      exact s_bast4 F hK hw hc hk hi g
  case lastore =>
    simp only [mm_step] at h
    replace h := pL_some h
    obtain ⟨b, t, rfl, h⟩ := h
    replace h := pI_some h
    obtain ⟨j, t, rfl, h⟩ := h
    replace h := pR_some h
    obtain ⟨a, t, rfl, h⟩ := h
    replace h := ite_some h
    obtain ⟨hk, h⟩ := h
    have g := kK _ _ _ _ (wf_wL hw) ht hu h
    exact s_last F hK hw hc hk.1 hk.2 g
  case arraylength =>
    simp only [mm_step] at h
    replace h := pR_some h
    obtain ⟨a, t, rfl, h⟩ := h
    replace h := ite_some h
    obtain ⟨hk, h⟩ := h
    exact s_alen F hK hSt hw hc hk (kK _ _ _ _ hw ht hu h)
  case new j =>
    cases z with
    | zero =>
      have h13 := new_x hc
      simp only [mm_step] at h
      replace h := ite_some h
      obtain ⟨hk, h⟩ := h
      have g := kK _ _ _ _ (wf_mA hw hk.2 (Or.inr (by show 100 ≤ 100 + x ∧ 100 + x < 113; omega))) (by rw [tt_mA]; omega) (by rw [mS_mA]; omega) h
      exact s_new F hK hz1 hz2 hRc hRs hw ht hu hc hk g
    | succ z =>
      simp only [mm_step] at h
      replace h := gd_some h
      obtain ⟨hsum, h⟩ := h
      cases h
      exact s_throw hl F hSt hfv hRc hRs hfr hrl hlk hxt ht hu hsum hc
  case newarray at_ =>
    have h5 := newa_x hc
    simp only [mm_step] at h
    replace h := pI_some h
    obtain ⟨n, t, rfl, h⟩ := h
    replace h := ite_some h
    obtain ⟨hk, h⟩ := h
    have g := kK _ _ _ _ (wf_mA hw hk.2.1 (Or.inl h5)) (by rw [tt_mA]; omega) (by rw [mS_mA]; omega) h
    exact s_newa F hK hz1 hz2 hRc hRs hw ht hu hc hk g
  case multianewarray j dm =>
    simp only [mm_step] at h
    replace h := pI_some h
    obtain ⟨k, t, rfl, h⟩ := h
    replace h := pI_some h
    obtain ⟨n, t, rfl, h⟩ := h
    replace h := ite_some h
    obtain ⟨hk, h⟩ := h
    have g := kK _ _ _ _ (wf_mG hw hk.2.1) (by rw [tt_mG]; omega) (by rw [mS_mG]; omega) h
    exact s_grid F hK hSt hz1 hz2 hRc hRs hw ht hu hc hk g
  case invokespecial j =>
    by_cases hq : z = 2
    · subst hq
      simp only [mm_step] at h
      replace h := pR_some h
      obtain ⟨a, t, rfl, h⟩ := h
      replace h := gd_some h
      obtain ⟨hsum, h⟩ := h
      exact s_oinit F hfr hrl (len8 hsum) hc (kK _ _ _ _ hw ht hu h)
    · simp only [mm_step] at h
      replace h := pA_some h
      obtain ⟨as, t, rfl, hlen, hsum, h⟩ := h
      replace h := cV1_some h
      obtain ⟨r1, τ, hx, h⟩ := h
      obtain ⟨hx5, hyk, hy5⟩ := spec_x hq hc
      obtain ⟨g, hrok, d, hd1, hd2, ctr⟩ := kC _ _ _ _ _ hx5 (by rw [hlen]; exact hy5) hw hx
      obtain ⟨b, as, rfl, -⟩ := rok_inv hx5 (by omega) hrok
      exact s_invI F hK hSt hz1 hz2 hfv hRc hRs hd1 hd2 ht hu hc hq hlen hsum g.2.1 g.2.2 ctr (kK _ _ _ _ g.1 (Nat.le_trans ht g.2.1) (Nat.le_trans hu g.2.2) h)
  case invokestatic j =>
    by_cases hq : z = 3
    · subst hq
      simp only [mm_step] at h
      replace h := pI_some h
      obtain ⟨n, t, rfl, h⟩ := h
      replace h := pI_some h
      obtain ⟨dp, t, rfl, h⟩ := h
      replace h := pR_some h
      obtain ⟨b, t, rfl, h⟩ := h
      replace h := pI_some h
      obtain ⟨sp, t, rfl, h⟩ := h
      replace h := pR_some h
      obtain ⟨a, t, rfl, h⟩ := h
      replace h := gd_some h
      obtain ⟨hsum, h⟩ := h
      replace h := ite_some h
      obtain ⟨hk, h⟩ := h
      have k2 := hk.2.1
      have g := kK _ _ _ _ (wf_wA hw (wf_dyn (a := b) hw (Or.inl (by omega)))) ht hu h
      exact s_cpy F hK hSt hfr hrl (len8 hsum) hw hc hk g
    · simp only [mm_step] at h
      replace h := pA_some h
      obtain ⟨as, t, rfl, hlen, hsum, h⟩ := h
      obtain ⟨hx5, hy5⟩ := stat_x hq hc
      rcases w with _ | _ | w
      · skip
        replace h := cV1_some h
        obtain ⟨r1, τ, hx, h⟩ := h
        obtain ⟨g, hrok, d, hd1, hd2, ctr⟩ := kC _ _ _ _ _ hx5 (by rw [hlen]; exact hy5) hw hx
        exact s_invS (u := .retAddr r1) F hK hSt hz1 hz2 hfv hRc hRs hd1 hd2 ht hu hc hq hlen hsum g.2.1 g.2.2 ctr rfl (kK _ _ _ _ g.1 (Nat.le_trans ht g.2.1) (Nat.le_trans hu g.2.2) h)
      · skip
        replace h := cI1_some h
        obtain ⟨r1, τ, hx, h⟩ := h
        obtain ⟨g, hrok, d, hd1, hd2, ctr⟩ := kC _ _ _ _ _ hx5 (by rw [hlen]; exact hy5) hw hx
        exact s_invS (u := .int r1) F hK hSt hz1 hz2 hfv hRc hRs hd1 hd2 ht hu hc hq hlen hsum g.2.1 g.2.2 ctr rfl (kK _ _ _ _ g.1 (Nat.le_trans ht g.2.1) (Nat.le_trans hu g.2.2) h)
      · skip
        replace h := cL1_some h
        obtain ⟨r1, τ, hx, h⟩ := h
        obtain ⟨g, hrok, d, hd1, hd2, ctr⟩ := kC _ _ _ _ _ hx5 (by rw [hlen]; exact hy5) hw hx
        exact s_invS (u := .long r1) F hK hSt hz1 hz2 hfv hRc hRs hd1 hd2 ht hu hc hq hlen hsum g.2.1 g.2.2 ctr rfl (kK _ _ _ _ g.1 (Nat.le_trans ht g.2.1) (Nat.le_trans hu g.2.2) h)
  case invokevirtual j =>
    obtain ⟨hx5, hyk, hy5⟩ := virt_x hc
    simp only [mm_step] at h
    replace h := pA_some h
    obtain ⟨as, t, rfl, hlen, hsum, h⟩ := h
    cases z with
    | zero =>
      cases hq : mhnd m with
      | nil =>
        rw [hq] at h
        rcases w with _ | _ | w
        · skip
          replace h := cV_some h
          rcases h with ⟨r1, τ, hx, h⟩ | ⟨E, τ, hx, he⟩
          · obtain ⟨g, hrok, d, hd1, hd2, ctr⟩ := kC _ _ _ _ _ hx5 (by rw [hlen]; exact hy5) hw hx
            obtain ⟨b, as, rfl, hrk⟩ := rok_inv hx5 (by omega) hrok
            exact s_invV (u := .retAddr r1) F hK hSt hz1 hz2 hfv hRc hRs hd1 hd2 hw ht hu hc hrk hlen hsum g.2.1 g.2.2 ctr rfl (kK _ _ _ _ g.1 (Nat.le_trans ht g.2.1) (Nat.le_trans hu g.2.2) h)
          · cases he
            obtain ⟨g, hrok, d, hd1, hd2, ctr⟩ := kC _ _ _ _ _ hx5 (by rw [hlen]; exact hy5) hw hx
            obtain ⟨b, as, rfl, hrk⟩ := rok_inv hx5 (by omega) hrok
            refine s_invX F hK hSt hz1 hz2 hfv hRc hRs hd1 hd2 hw ht hu hc hrk hlen hsum g.2.1 g.2.2 (Nat.le_refl _) (Nat.le_refl _) ctr ?_
            intro H1 locs1 lsR q ce _ h1 h2 h3 h4 h5
            exact vx_out (fun z hz => by rw [hxt, hnil_of hm hq] at hz; cases hz) hlk h3 h4 h5 (fun t ht _ => ⟨rfl, by rw [ht]; exact h1, vaF_of h2 ht⟩) h2.2.2 (Nat.le_refl _) (Nat.le_refl _)
        · skip
          replace h := cI_some h
          rcases h with ⟨r1, τ, hx, h⟩ | ⟨E, τ, hx, he⟩
          · obtain ⟨g, hrok, d, hd1, hd2, ctr⟩ := kC _ _ _ _ _ hx5 (by rw [hlen]; exact hy5) hw hx
            obtain ⟨b, as, rfl, hrk⟩ := rok_inv hx5 (by omega) hrok
            exact s_invV (u := .int r1) F hK hSt hz1 hz2 hfv hRc hRs hd1 hd2 hw ht hu hc hrk hlen hsum g.2.1 g.2.2 ctr rfl (kK _ _ _ _ g.1 (Nat.le_trans ht g.2.1) (Nat.le_trans hu g.2.2) h)
          · cases he
            obtain ⟨g, hrok, d, hd1, hd2, ctr⟩ := kC _ _ _ _ _ hx5 (by rw [hlen]; exact hy5) hw hx
            obtain ⟨b, as, rfl, hrk⟩ := rok_inv hx5 (by omega) hrok
            refine s_invX F hK hSt hz1 hz2 hfv hRc hRs hd1 hd2 hw ht hu hc hrk hlen hsum g.2.1 g.2.2 (Nat.le_refl _) (Nat.le_refl _) ctr ?_
            intro H1 locs1 lsR q ce _ h1 h2 h3 h4 h5
            exact vx_out (fun z hz => by rw [hxt, hnil_of hm hq] at hz; cases hz) hlk h3 h4 h5 (fun t ht _ => ⟨rfl, by rw [ht]; exact h1, vaF_of h2 ht⟩) h2.2.2 (Nat.le_refl _) (Nat.le_refl _)
        · skip
          replace h := cL_some h
          rcases h with ⟨r1, τ, hx, h⟩ | ⟨E, τ, hx, he⟩
          · obtain ⟨g, hrok, d, hd1, hd2, ctr⟩ := kC _ _ _ _ _ hx5 (by rw [hlen]; exact hy5) hw hx
            obtain ⟨b, as, rfl, hrk⟩ := rok_inv hx5 (by omega) hrok
            exact s_invV (u := .long r1) F hK hSt hz1 hz2 hfv hRc hRs hd1 hd2 hw ht hu hc hrk hlen hsum g.2.1 g.2.2 ctr rfl (kK _ _ _ _ g.1 (Nat.le_trans ht g.2.1) (Nat.le_trans hu g.2.2) h)
          · cases he
            obtain ⟨g, hrok, d, hd1, hd2, ctr⟩ := kC _ _ _ _ _ hx5 (by rw [hlen]; exact hy5) hw hx
            obtain ⟨b, as, rfl, hrk⟩ := rok_inv hx5 (by omega) hrok
            refine s_invX F hK hSt hz1 hz2 hfv hRc hRs hd1 hd2 hw ht hu hc hrk hlen hsum g.2.1 g.2.2 (Nat.le_refl _) (Nat.le_refl _) ctr ?_
            intro H1 locs1 lsR q ce _ h1 h2 h3 h4 h5
            exact vx_out (fun z hz => by rw [hxt, hnil_of hm hq] at hz; cases hz) hlk h3 h4 h5 (fun t ht _ => ⟨rfl, by rw [ht]; exact h1, vaF_of h2 ht⟩) h2.2.2 (Nat.le_refl _) (Nat.le_refl _)
      | cons q0 u9 =>
        rw [hq] at h
        rcases w with _ | _ | w
        · cases h
        · skip
          replace h := cIh_some h
          rcases h with ⟨r1, τ, hx, h⟩ | ⟨E, τ, n, hx, hg, he⟩
          · obtain ⟨g, hrok, d, hd1, hd2, ctr⟩ := kC _ _ _ _ _ hx5 (by rw [hlen]; exact hy5) hw hx
            obtain ⟨b, as, rfl, hrk⟩ := rok_inv hx5 (by omega) hrok
            exact s_invV (u := .int r1) F hK hSt hz1 hz2 hfv hRc hRs hd1 hd2 hw ht hu hc hrk hlen hsum g.2.1 g.2.2 ctr rfl (kK _ _ _ _ g.1 (Nat.le_trans ht g.2.1) (Nat.le_trans hu g.2.2) h)
          · cases he
            obtain ⟨g, hrok, d, hd1, hd2, ctr⟩ := kC _ _ _ _ _ hx5 (by rw [hlen]; exact hy5) hw hx
            obtain ⟨b, as, rfl, hrk⟩ := rok_inv hx5 (by omega) hrok
            refine s_invX F hK hSt hz1 hz2 hfv hRc hRs hd1 hd2 hw ht hu hc hrk hlen hsum g.2.1 g.2.2 (Nat.le_refl _) (Nat.le_refl _) ctr ?_
            intro H1 locs1 lsR q ce hL h1 h2 h3 h4 h5
            exact w_catch (i := .iadd) F hSt hm hlk hret hxt hfd (by rw [hq]; exact hg) h1 h2 hL h3 h4 h5
        · skip
          replace h := cLh_some h
          rcases h with ⟨r1, τ, hx, h⟩ | ⟨E, τ, n, hx, hg, he⟩
          · obtain ⟨g, hrok, d, hd1, hd2, ctr⟩ := kC _ _ _ _ _ hx5 (by rw [hlen]; exact hy5) hw hx
            obtain ⟨b, as, rfl, hrk⟩ := rok_inv hx5 (by omega) hrok
            exact s_invV (u := .long r1) F hK hSt hz1 hz2 hfv hRc hRs hd1 hd2 hw ht hu hc hrk hlen hsum g.2.1 g.2.2 ctr rfl (kK _ _ _ _ g.1 (Nat.le_trans ht g.2.1) (Nat.le_trans hu g.2.2) h)
          · cases he
            obtain ⟨g, hrok, d, hd1, hd2, ctr⟩ := kC _ _ _ _ _ hx5 (by rw [hlen]; exact hy5) hw hx
            obtain ⟨b, as, rfl, hrk⟩ := rok_inv hx5 (by omega) hrok
            refine s_invX F hK hSt hz1 hz2 hfv hRc hRs hd1 hd2 hw ht hu hc hrk hlen hsum g.2.1 g.2.2 (Nat.le_refl _) (Nat.le_refl _) ctr ?_
            intro H1 locs1 lsR q ce hL h1 h2 h3 h4 h5
            exact w_catch (i := .iadd) F hSt hm hlk hret hxt hfd (by rw [hq]; exact hg) h1 h2 hL h3 h4 h5
    | succ z =>
      rcases w with _ | _ | w
      · skip
        replace h := cV1_some h
        obtain ⟨r1, τ, hx, h⟩ := h
        obtain ⟨g, hrok, d, hd1, hd2, ctr⟩ := kC _ _ _ _ _ hx5 (by rw [hlen]; exact hy5) hw hx
        obtain ⟨b, as, rfl, hrk⟩ := rok_inv hx5 (by omega) hrok
        exact s_invV (u := .retAddr r1) F hK hSt hz1 hz2 hfv hRc hRs hd1 hd2 hw ht hu hc hrk hlen hsum g.2.1 g.2.2 ctr rfl (kK _ _ _ _ g.1 (Nat.le_trans ht g.2.1) (Nat.le_trans hu g.2.2) h)
      · skip
        replace h := cI1_some h
        obtain ⟨r1, τ, hx, h⟩ := h
        obtain ⟨g, hrok, d, hd1, hd2, ctr⟩ := kC _ _ _ _ _ hx5 (by rw [hlen]; exact hy5) hw hx
        obtain ⟨b, as, rfl, hrk⟩ := rok_inv hx5 (by omega) hrok
        exact s_invV (u := .int r1) F hK hSt hz1 hz2 hfv hRc hRs hd1 hd2 hw ht hu hc hrk hlen hsum g.2.1 g.2.2 ctr rfl (kK _ _ _ _ g.1 (Nat.le_trans ht g.2.1) (Nat.le_trans hu g.2.2) h)
      · skip
        replace h := cL1_some h
        obtain ⟨r1, τ, hx, h⟩ := h
        obtain ⟨g, hrok, d, hd1, hd2, ctr⟩ := kC _ _ _ _ _ hx5 (by rw [hlen]; exact hy5) hw hx
        obtain ⟨b, as, rfl, hrk⟩ := rok_inv hx5 (by omega) hrok
        exact s_invV (u := .long r1) F hK hSt hz1 hz2 hfv hRc hRs hd1 hd2 hw ht hu hc hrk hlen hsum g.2.1 g.2.2 ctr rfl (kK _ _ _ _ g.1 (Nat.le_trans ht g.2.1) (Nat.le_trans hu g.2.2) h)
  case ireturn =>
    simp only [mm_step] at h
    split at h
    · cases h
      exact s_iret F hlk hret hc (ckr9 hfd)
    · cases h
  case lreturn =>
    simp only [mm_step] at h
    split at h
    · cases h
      exact s_lret F hlk hret hc
    · cases h
  case return_ =>
    simp only [mm_step] at h
    split at h
    · cases h
      exact s_vret F hlk hret hc
    · cases h
  all_goals simp only [mm_step] at h
  all_goals (cases h; done)
end SndH
