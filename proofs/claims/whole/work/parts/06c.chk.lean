/-! every row of the code tables is checked: the bytes say it, the links say it -/
def nrm (i : Instr) : Instr := match i with
  | .iload_n k => .iload k.val
  | .lload_n k => .lload k.val
  | .aload_n k => .aload k.val
  | .istore_n k => .istore k.val
  | .lstore_n k => .lstore k.val
  | .astore_n k => .astore k.val
  | .bipush n => .iconst n
  | .sipush n => .iconst n
  | .ldc_w n => .ldc n
  | i => i
def iln (i : Instr) : Nat := match i with
  | .iload _ => 2
  | .lload _ => 2
  | .aload _ => 2
  | .istore _ => 2
  | .lstore _ => 2
  | .astore _ => 2
  | .bipush _ => 2
  | .ldc _ => 2
  | .newarray _ => 2
  | .sipush _ => 3
  | .ldc_w _ => 3
  | .ldc2_w _ => 3
  | .iinc _ _ => 3
  | .ifCond _ _ => 3
  | .if_icmp _ _ => 3
  | .goto _ => 3
  | .getstatic _ => 3
  | .getfield _ => 3
  | .putfield _ => 3
  | .invokevirtual _ => 3
  | .invokespecial _ => 3
  | .invokestatic _ => 3
  | .new _ => 3
  | .multianewarray _ _ => 4
  | .tableswitch _ _ _ _ => 0
  | .lookupswitch _ _ => 0
  | _ => 1
def chkD (m : Nat) (e : mm_E) : Bool := match decode (yb m) e.1 with
  | .ok q => decide (nrm q.1 = e.2.1) && Nat.beq (e.1 + q.2) e.2.2.1 && (Nat.beq (iln q.1) 0 || Nat.beq q.2 (iln q.1))
  | .error _ => false
def rtc (t : Option FieldType) : Nat := match t with
  | none => 0
  | some .long => 2
  | some _ => 1
def rtw (t : Option FieldType) : Nat := match t with
  | some .int => 0
  | some .boolean => 1
  | some .byte => 2
  | some .char => 3
  | _ => 9
def has4 (l : List (Nat × Nat × Nat × Nat)) (a b c : Nat) : Bool := l.any fun q => Nat.beq q.1 a && Nat.beq q.2.1 b && Nat.beq q.2.2.1 c
def has5 (l : List (Nat × Nat × Nat × Nat × Nat)) (a b c d : Nat) : Bool := l.any fun q => Nat.beq q.1 a && Nat.beq q.2.1 b && Nat.beq q.2.2.1 c && Nat.beq q.2.2.2.1 d
def has3 (l : List (Nat × Nat × Nat)) (a b : Nat) : Bool := l.any fun q => Nat.beq q.1 a && Nat.beq q.2.1 b
/-- no longs among its locals -/
def ynls : List Bool := [true, true, true, true, true, true, true, true, true, true, true, true, true, true, true, true, true, true, true, true, true, true, true, true, true, true, true, true, true, true, true, true, true, true, true, true, true, true, true, true, true, true, true, true, true, true, true, true, true, true, true, true, true, true, true, true, true, true, true, true, true, true, true, true, true, true, true, true, true, true, true, true, true, true, true, true, true, true, true, true, true, true, true, true, true, true, true, true, true, true, true, true, true, true, true, true, true, true, true, true, true, true, true, true, true, true, true, true, true, true, true, true, true, true, true, true, true, true, true, true, true, true, true, true, true, true, true, true, true, true, true, true, true, true, true, true, true, true, true, true, true, true, false, true, true, true, true, true, true, true, true, true, true, true, true, true, true, true, true, true, true, false, true, true, true, true, true, true, true, true, true, true, true, true, true, true, true, true, true, true, true, true, true, true, true, true, true, true, true, true, true, true, true, true, true, true, true, true, true, true, true, true, true, true, true, true, true, true, true, true, true, true, true, true, true, true, true, true, true, true, true, true, true, true, true, true, true, true, true, true, true, true, true, true, true, true, true, true, true, true, true, true, true, true, true, true, true, true, true, true, true, true, true, true, true, true, true, true, false, true, true, true, true, true, true, true, true, true, true, true, true, true, true, true, true, true, true, true, true, true, true, true, true, true, true, true, true, true, true, true, true, true, true, true, true, true, true, true, true, true, true, true, true, true, true, true, false]
def ynl (m : Nat) : Bool := ynls.getD m false
/-- throw new E("text"): method, pc, class entry, text entry, constructor entry, E, the text -/
def kz : List (Nat × Nat × Nat × Nat × Nat × Nat × Nat × String) := [(125, 28, 262, 264, 266, 1, 1000091, "no such street"), (143, 32, 362, 364, 366, 2, 1000092, "bits of no persons"), (155, 20, 362, 391, 366, 2, 1000093, "out of its range"), (156, 28, 262, 393, 266, 1, 1000094, "no such person"), (157, 28, 262, 395, 266, 1, 1000095, "no such joke")]
def chkL (m : Nat) (e : mm_E) : Bool := match e with
  | (pc, i, nx, v, x, y, z, w) => (match i with
    | .iconst n => decide (Int32.ofInt n = v)
    | .lconst n => Nat.beq n.val x
    | .ldc2_w j => has4 kl (yo m) j x
    | .ldc j => (match z with
      | 0 => kk.any fun q => Nat.beq q.1 (yo m) && Nat.beq q.2.1 j && decide (q.2.2.1 = v)
      | _ => kt.any fun q => Nat.beq q.1 (yo m) && Nat.beq q.2.1 j && Nat.beq q.2.2.1 x)
    | .getstatic j => (match z with
      | 0 => Nat.beq (yo m) 13 && Nat.beq j 38 && decide (v = 1)
      | 1 => Nat.beq (yo m) 4 && Nat.beq j 21 && Nat.beq x 1000001
      | _ => Nat.beq (yo m) 13 && Nat.beq j 1053)
    | .istore j => Nat.blt j (mx m) && (ynl m || !Nat.beq z 0)
    | .astore j => Nat.blt j (mx m) && (ynl m || !Nat.beq z 0)
    | .iinc j n => Nat.blt j (mx m) && (ynl m || !Nat.beq z 0) && decide (Int32.ofInt n = v)
    | .lstore j => Nat.blt (j + 1) (mx m)
    | .goto off => decide ((pc : Int) + off = x)
    | .ifCond _ off => decide ((pc : Int) + off = x)
    | .if_icmp _ off => decide ((pc : Int) + off = x)
    | .tableswitch dflt lo hi offs => decide (0 ≤ (pc : Int) + dflt) && offs.toList.all (fun off => decide (0 ≤ (pc : Int) + off)) && decide (hi - lo + 1 ≤ offs.size)
    | .lookupswitch dflt ps => decide (0 ≤ (pc : Int) + dflt) && ps.toList.all (fun q => decide (0 ≤ (pc : Int) + q.2)) && (ps.toList.zip (ps.toList.drop 1)).all (fun (a, next) => a.1 < next.1)
    | .getfield j => (match Nat.beq y 13 with
      | true => has4 ks (yo m) j x && Nat.beq z (match x with
        | 0 => 1
        | _ => 0)
      | false => (has5 kf (yo m) j y x || has5 kn (yo m) j y x) && Nat.beq z (match isR y x with
        | true => 1
        | false => 0))
    | .putfield j => (match ((mclD y).2.1 x).2.2.2 with
        | true => has5 kf (yo m) j y x && Nat.beq (yk m) 1 && Nat.beq (yo m) y
        | false => has5 kf (yo m) j y x || has5 kn (yo m) j y x) && Nat.beq z (match isR y x with
        | true => 1
        | false => 0)
    | .new j => (match z with
      | 0 => has4 kc (yo m) j x && Nat.beq y (nfl x)
      | _ => kz.any fun q => Nat.beq q.1 m && Nat.beq q.2.1 pc && Nat.beq q.2.2.1 j && Nat.beq q.2.2.2.2.2.1 x)
    | .newarray t => (match t with
      | .int => Nat.beq x 1
      | .long => Nat.beq x 2
      | .byte => Nat.beq x 3
      | .boolean => Nat.beq x 4
      | _ => false)
    | .multianewarray j dm => Nat.beq (yo m) 12 && Nat.beq j 26 && Nat.beq dm 2
    | .invokespecial j => (match z with
      | 2 => has3 ko (yo m) j
      | _ => (has4 km (yo m) j x || has4 kw (yo m) j x) && Nat.beq (yk x) 1 && Nat.beq y (yp x + 1) && Nat.beq (rtc (yr x)) 0)
    | .invokestatic j => (match z with
      | 3 => has3 ka (yo m) j
      | _ => (has4 km (yo m) j x || has4 kw (yo m) j x) && Nat.beq (yk x) 2 && Nat.beq y (yp x) && Nat.beq w (rtc (yr x)))
    | .invokevirtual j => (match z with
      | 0 => has4 km (yo m) j x && (yh x).isEmpty
      | _ => has4 kw (yo m) j x && (yh x).isEmpty) && Nat.beq (yk x) 0 && Nat.beq y (yp x + 1) && Nat.beq w (rtc (yr x))
    | .ireturn => Nat.beq w (rtw (yr m))
    | .lreturn => decide (yr m = some .long)
    | .return_ => decide (yr m = none)
    | _ => true)
def chk (m : Nat) (e : mm_E) : Bool := chkD m e && chkL m e
def allc : List (List mm_E) → Nat → Bool
  | [], _ => true
  | l :: t, k => l.all (chk k) && allc t (k + 1)
theorem allc_c {l : List mm_E} {t : List (List mm_E)} {k : Nat} (h1 : l.all (chk k) = true) (h2 : allc t (k + 1) = true) : allc (l :: t) k = true := by
  show (l.all (chk k) && allc t (k + 1)) = true
  rw [h1, h2]; rfl
theorem allc_at : ∀ (L : List (List mm_E)) (k i : Nat) (l : List mm_E), allc L k = true → L[i]? = some l → l.all (chk (k + i)) = true
  | [], _, _, _, _, h => by simp at h
  | a :: t, k, 0, l, h1, h2 => by
    simp at h2; subst h2
    exact (Bool.and_eq_true_iff.mp h1).1
  | a :: t, k, i + 1, l, h1, h2 => by
    rw [show k + (i + 1) = (k + 1) + i by omega]
    exact allc_at t (k + 1) i l (Bool.and_eq_true_iff.mp h1).2 (by simpa using h2)
theorem ck_0 : mc_Ma_abs.all (chk 0) = true := by decide +kernel
theorem ck_1 : mc_Ma_max.all (chk 1) = true := by decide +kernel
theorem ck_2 : mc_Ma_min.all (chk 2) = true := by decide +kernel
theorem ck_3 : mc_In_bitCount.all (chk 3) = true := by decide +kernel
theorem ck_4 : mc_Ar_fill.all (chk 4) = true := by decide +kernel
theorem ck_5 : mc_Pr_checkIndex.all (chk 5) = true := by decide +kernel
theorem ck_6 : mc_S1_charAt.all (chk 6) = true := by decide +kernel
theorem ck_7 : mc_S_length.all (chk 7) = true := by decide +kernel
theorem ck_8 : mc_S_charAt.all (chk 8) = true := by decide +kernel
theorem ck_9 : mc_S_coder.all (chk 9) = true := by decide +kernel
theorem ck_10 : mc_S_isLatin1.all (chk 10) = true := by decide +kernel
theorem ck_11 : mc_S_checkIndex.all (chk 11) = true := by decide +kernel
theorem ck_12 : mc_Tape_init.all (chk 12) = true := by decide +kernel
theorem ck_13 : mc_Tape_hasRoom.all (chk 13) = true := by decide +kernel
theorem ck_14 : mc_Tape_put.all (chk 14) = true := by decide +kernel
theorem ck_15 : mc_Tape_drop.all (chk 15) = true := by decide +kernel
theorem ck_16 : mc_Tape_open.all (chk 16) = true := by decide +kernel
theorem ck_17 : mc_Tape_next.all (chk 17) = true := by decide +kernel
theorem ck_18 : mc_Tape_isSign.all (chk 18) = true := by decide +kernel
theorem ck_19 : mc_Tape_atEnd.all (chk 19) = true := by decide +kernel
theorem ck_20 : mc_Tape_take.all (chk 20) = true := by decide +kernel
theorem ck_21 : mc_Tape_takeNumber.all (chk 21) = true := by decide +kernel
theorem ck_22 : mc_Tape_wordOf.all (chk 22) = true := by decide +kernel
theorem ck_23 : mc_Tape_fail.all (chk 23) = true := by decide +kernel
theorem ck_24 : mc_Days_init.all (chk 24) = true := by decide +kernel
theorem ck_25 : mc_Days_begin.all (chk 25) = true := by decide +kernel
theorem ck_26 : mc_Days_copy.all (chk 26) = true := by decide +kernel
theorem ck_27 : mc_Days_dayNumber.all (chk 27) = true := by decide +kernel
theorem ck_28 : mc_Days_jugWater.all (chk 28) = true := by decide +kernel
theorem ck_29 : mc_Days_toldBits.all (chk 29) = true := by decide +kernel
theorem ck_30 : mc_Days_wasTold.all (chk 30) = true := by decide +kernel
theorem ck_31 : mc_Days_griefOf.all (chk 31) = true := by decide +kernel
theorem ck_32 : mc_Days_thirstOf.all (chk 32) = true := by decide +kernel
theorem ck_33 : mc_Days_timesOf.all (chk 33) = true := by decide +kernel
theorem ck_34 : mc_Days_laughedOf.all (chk 34) = true := by decide +kernel
theorem ck_35 : mc_Days_toldOf.all (chk 35) = true := by decide +kernel
theorem ck_36 : mc_Days_wornOf.all (chk 36) = true := by decide +kernel
theorem ck_37 : mc_Days_grieving.all (chk 37) = true := by decide +kernel
theorem ck_38 : mc_Days_thirsty.all (chk 38) = true := by decide +kernel
theorem ck_39 : mc_Days_allThirst.all (chk 39) = true := by decide +kernel
theorem ck_40 : mc_Days_thirstUpTo.all (chk 40) = true := by decide +kernel
theorem ck_41 : mc_Days_hear.all (chk 41) = true := by decide +kernel
theorem ck_42 : mc_Days_grieve.all (chk 42) = true := by decide +kernel
theorem ck_43 : mc_Days_cheer.all (chk 43) = true := by decide +kernel
theorem ck_44 : mc_Days_pour.all (chk 44) = true := by decide +kernel
theorem ck_45 : mc_Days_passDay.all (chk 45) = true := by decide +kernel
theorem ck_46 : mc_Land_init.all (chk 46) = true := by decide +kernel
theorem ck_47 : mc_Land_read.all (chk 47) = true := by decide +kernel
theorem ck_48 : mc_Land_readClause.all (chk 48) = true := by decide +kernel
theorem ck_49 : mc_Land_isFull.all (chk 49) = true := by decide +kernel
theorem ck_50 : mc_Land_readNumbers.all (chk 50) = true := by decide +kernel
theorem ck_51 : mc_Land_readPerson.all (chk 51) = true := by decide +kernel
theorem ck_52 : mc_Land_readJoke.all (chk 52) = true := by decide +kernel
theorem ck_53 : mc_Land_readStreet.all (chk 53) = true := by decide +kernel
theorem ck_54 : mc_Land_allPersons.all (chk 54) = true := by decide +kernel
theorem ck_55 : mc_Land_withNear.all (chk 55) = true := by decide +kernel
theorem ck_56 : mc_Land_reachedFrom.all (chk 56) = true := by decide +kernel
theorem ck_57 : mc_Land_streetsBetween.all (chk 57) = true := by decide +kernel
theorem ck_58 : mc_Land_fewestBy.all (chk 58) = true := by decide +kernel
theorem ck_59 : mc_Law_init.all (chk 59) = true := by decide +kernel
theorem ck_60 : mc_Law_makeStandard.all (chk 60) = true := by decide +kernel
theorem ck_61 : mc_Law_read.all (chk 61) = true := by decide +kernel
theorem ck_62 : mc_Law_readSum.all (chk 62) = true := by decide +kernel
theorem ck_63 : mc_Law_readProduct.all (chk 63) = true := by decide +kernel
theorem ck_64 : mc_Law_productCode.all (chk 64) = true := by decide +kernel
theorem ck_65 : mc_Law_readUnit.all (chk 65) = true := by decide +kernel
theorem ck_66 : mc_Law_add.all (chk 66) = true := by decide +kernel
theorem ck_67 : mc_Law_valueBy.all (chk 67) = true := by decide +kernel
theorem ck_68 : mc_Law_joined.all (chk 68) = true := by decide +kernel
theorem ck_69 : mc_Scene_init.all (chk 69) = true := by decide +kernel
theorem ck_70 : mc_Scene_laughAsGiven.all (chk 70) = true := by decide +kernel
theorem ck_71 : mc_Scene_giveAll.all (chk 71) = true := by decide +kernel
theorem ck_72 : mc_Scene_laughOf.all (chk 72) = true := by decide +kernel
theorem ck_73 : mc_Scene_waterOf.all (chk 73) = true := by decide +kernel
theorem ck_74 : mc_Scene_tell.all (chk 74) = true := by decide +kernel
theorem ck_75 : mc_Scene_laughTillDry.all (chk 75) = true := by decide +kernel
theorem ck_76 : mc_Steps_init.all (chk 76) = true := by decide +kernel
theorem ck_77 : mc_Steps_read.all (chk 77) = true := by decide +kernel
theorem ck_78 : mc_Steps_readBlock.all (chk 78) = true := by decide +kernel
theorem ck_79 : mc_Steps_readStep.all (chk 79) = true := by decide +kernel
theorem ck_80 : mc_Steps_readNumbers.all (chk 80) = true := by decide +kernel
theorem ck_81 : mc_Steps_readFirst.all (chk 81) = true := by decide +kernel
theorem ck_82 : mc_Steps_readSecond.all (chk 82) = true := by decide +kernel
theorem ck_83 : mc_Steps_run.all (chk 83) = true := by decide +kernel
theorem ck_84 : mc_Steps_runRows.all (chk 84) = true := by decide +kernel
theorem ck_85 : mc_Steps_isDone.all (chk 85) = true := by decide +kernel
theorem ck_86 : mc_Book_init.all (chk 86) = true := by decide +kernel
theorem ck_87 : mc_Book_clear.all (chk 87) = true := by decide +kernel
theorem ck_88 : mc_Book_read.all (chk 88) = true := by decide +kernel
theorem ck_89 : mc_Book_readLine.all (chk 89) = true := by decide +kernel
theorem ck_90 : mc_History_init.all (chk 90) = true := by decide +kernel
theorem ck_91 : mc_History_clear.all (chk 91) = true := by decide +kernel
theorem ck_92 : mc_History_isFull.all (chk 92) = true := by decide +kernel
theorem ck_93 : mc_History_push.all (chk 93) = true := by decide +kernel
theorem ck_94 : mc_History_pop.all (chk 94) = true := by decide +kernel
theorem ck_95 : mc_History_keep.all (chk 95) = true := by decide +kernel
theorem ck_96 : mc_History_bring.all (chk 96) = true := by decide +kernel
theorem ck_97 : mc_Plan_init.all (chk 97) = true := by decide +kernel
theorem ck_98 : mc_Plan_giveBest.all (chk 98) = true := by decide +kernel
theorem ck_99 : mc_Plan_mostBy.all (chk 99) = true := by decide +kernel
theorem ck_100 : mc_Plan_withGiven.all (chk 100) = true := by decide +kernel
theorem ck_101 : mc_Plan_choose.all (chk 101) = true := by decide +kernel
theorem ck_102 : mc_Plan_fewestFor.all (chk 102) = true := by decide +kernel
theorem ck_103 : mc_Plan_waterOfAll.all (chk 103) = true := by decide +kernel
theorem ck_104 : mc_Guess_init.all (chk 104) = true := by decide +kernel
theorem ck_105 : mc_Guess_findPairs.all (chk 105) = true := by decide +kernel
theorem ck_106 : mc_Guess_keepPairs.all (chk 106) = true := by decide +kernel
theorem ck_107 : mc_Guess_laughBy.all (chk 107) = true := by decide +kernel
theorem ck_108 : mc_Guess_findJoke.all (chk 108) = true := by decide +kernel
theorem ck_109 : mc_Guess_leftAtWorst.all (chk 109) = true := by decide +kernel
theorem ck_110 : mc_Years_init.all (chk 110) = true := by decide +kernel
theorem ck_111 : mc_Years_run.all (chk 111) = true := by decide +kernel
theorem ck_112 : mc_Years_tellByLot.all (chk 112) = true := by decide +kernel
theorem ck_113 : mc_Years_draw.all (chk 113) = true := by decide +kernel
theorem ck_114 : mc_W_init.all (chk 114) = true := by decide +kernel
theorem ck_115 : mc_W_feed.all (chk 115) = true := by decide +kernel
theorem ck_116 : mc_W_land.all (chk 116) = true := by decide +kernel
theorem ck_117 : mc_W_law.all (chk 117) = true := by decide +kernel
theorem ck_118 : mc_W_work.all (chk 118) = true := by decide +kernel
theorem ck_119 : mc_W_book.all (chk 119) = true := by decide +kernel
theorem ck_120 : mc_W_fault.all (chk 120) = true := by decide +kernel
theorem ck_121 : mc_W_undo.all (chk 121) = true := by decide +kernel
theorem ck_122 : mc_W_told.all (chk 122) = true := by decide +kernel
theorem ck_123 : mc_W_person.all (chk 123) = true := by decide +kernel
theorem ck_124 : mc_W_joke.all (chk 124) = true := by decide +kernel
theorem ck_125 : mc_W_street.all (chk 125) = true := by decide +kernel
theorem ck_126 : mc_W_worn.all (chk 126) = true := by decide +kernel
theorem ck_127 : mc_W_laugh.all (chk 127) = true := by decide +kernel
theorem ck_128 : mc_W_water.all (chk 128) = true := by decide +kernel
theorem ck_129 : mc_W_would.all (chk 129) = true := by decide +kernel
theorem ck_130 : mc_W_ahead.all (chk 130) = true := by decide +kernel
theorem ck_131 : mc_W_best.all (chk 131) = true := by decide +kernel
theorem ck_132 : mc_W_given.all (chk 132) = true := by decide +kernel
theorem ck_133 : mc_W_enough.all (chk 133) = true := by decide +kernel
theorem ck_134 : mc_W_lasts.all (chk 134) = true := by decide +kernel
theorem ck_135 : mc_W_well.all (chk 135) = true := by decide +kernel
theorem ck_136 : mc_W_fits.all (chk 136) = true := by decide +kernel
theorem ck_137 : mc_W_look.all (chk 137) = true := by decide +kernel
theorem ck_138 : mc_W_comfort.all (chk 138) = true := by decide +kernel
theorem ck_139 : mc_W_way.all (chk 139) = true := by decide +kernel
theorem ck_140 : mc_W_dry.all (chk 140) = true := by decide +kernel
theorem ck_141 : mc_W_comedians.all (chk 141) = true := by decide +kernel
theorem ck_142 : mc_W_some.all (chk 142) = true := by decide +kernel
theorem ck_143 : mc_W_share.all (chk 143) = true := by decide +kernel
theorem ck_144 : mc_W_likes.all (chk 144) = true := by decide +kernel
theorem ck_145 : mc_W_solemn.all (chk 145) = true := by decide +kernel
theorem ck_146 : mc_W_driest.all (chk 146) = true := by decide +kernel
theorem ck_147 : mc_W_parts.all (chk 147) = true := by decide +kernel
theorem ck_148 : mc_W_alike.all (chk 148) = true := by decide +kernel
theorem ck_149 : mc_W_year.all (chk 149) = true := by decide +kernel
theorem ck_150 : mc_W_span.all (chk 150) = true := by decide +kernel
theorem ck_151 : mc_W_image.all (chk 151) = true := by decide +kernel
theorem ck_152 : mc_W_restore.all (chk 152) = true := by decide +kernel
theorem ck_153 : mc_W_status.all (chk 153) = true := by decide +kernel
theorem ck_154 : mc_W_count.all (chk 154) = true := by decide +kernel
theorem ck_155 : mc_W_needRange.all (chk 155) = true := by decide +kernel
theorem ck_156 : mc_W_needPerson.all (chk 156) = true := by decide +kernel
theorem ck_157 : mc_W_needJoke.all (chk 157) = true := by decide +kernel
theorem ck_158 : mc_W_needJokeAndPerson.all (chk 158) = true := by decide +kernel
theorem ck_159 : mc_W_staysAt.all (chk 159) = true := by decide +kernel
theorem ck_160 : mc_W_shareOfFame.all (chk 160) = true := by decide +kernel
theorem ck_161 : mc_W_power.all (chk 161) = true := by decide +kernel
theorem ck_162 : mc_M_init.all (chk 162) = true := by decide +kernel
theorem ck_163 : mc_M_tellsNothing.all (chk 163) = true := by decide +kernel
theorem ck_164 : mc_M_thrown.all (chk 164) = true := by decide +kernel
theorem ck_165 : mc_M_bad.all (chk 165) = true := by decide +kernel
theorem ck_166 : mc_M_in.all (chk 166) = true := by decide +kernel
theorem ck_167 : mc_M_less.all (chk 167) = true := by decide +kernel
theorem ck_168 : mc_M_more.all (chk 168) = true := by decide +kernel
theorem ck_169 : mc_M_has.all (chk 169) = true := by decide +kernel
theorem ck_170 : mc_M_feed.all (chk 170) = true := by decide +kernel
theorem ck_171 : mc_M_byteAt.all (chk 171) = true := by decide +kernel
theorem ck_172 : mc_M_blanks.all (chk 172) = true := by decide +kernel
theorem ck_173 : mc_M_wrong.all (chk 173) = true := by decide +kernel
theorem ck_174 : mc_M_isDigit.all (chk 174) = true := by decide +kernel
theorem ck_175 : mc_M_isSmall.all (chk 175) = true := by decide +kernel
theorem ck_176 : mc_M_number.all (chk 176) = true := by decide +kernel
theorem ck_177 : mc_M_wordHere.all (chk 177) = true := by decide +kernel
theorem ck_178 : mc_M_six.all (chk 178) = true := by decide +kernel
theorem ck_179 : mc_M_isWord.all (chk 179) = true := by decide +kernel
theorem ck_180 : mc_M_skipWord.all (chk 180) = true := by decide +kernel
theorem ck_181 : mc_M_takes.all (chk 181) = true := by decide +kernel
theorem ck_182 : mc_M_sign.all (chk 182) = true := by decide +kernel
theorem ck_183 : mc_M_takesSign.all (chk 183) = true := by decide +kernel
theorem ck_184 : mc_M_starts.all (chk 184) = true := by decide +kernel
theorem ck_185 : mc_M_ends.all (chk 185) = true := by decide +kernel
theorem ck_186 : mc_M_isSeven.all (chk 186) = true := by decide +kernel
theorem ck_187 : mc_M_kindHere.all (chk 187) = true := by decide +kernel
theorem ck_188 : mc_M_mostOf.all (chk 188) = true := by decide +kernel
theorem ck_189 : mc_M_isReadStreet.all (chk 189) = true := by decide +kernel
theorem ck_190 : mc_M_clause.all (chk 190) = true := by decide +kernel
theorem ck_191 : mc_M_land.all (chk 191) = true := by decide +kernel
theorem ck_192 : mc_M_lays.all (chk 192) = true := by decide +kernel
theorem ck_193 : mc_M_copies.all (chk 193) = true := by decide +kernel
theorem ck_194 : mc_M_beginsAnew.all (chk 194) = true := by decide +kernel
theorem ck_195 : mc_M_notes.all (chk 195) = true := by decide +kernel
theorem ck_196 : mc_M_opensOne.all (chk 196) = true := by decide +kernel
theorem ck_197 : mc_M_sum.all (chk 197) = true := by decide +kernel
theorem ck_198 : mc_M_product.all (chk 198) = true := by decide +kernel
theorem ck_199 : mc_M_knownHere.all (chk 199) = true := by decide +kernel
theorem ck_200 : mc_M_one.all (chk 200) = true := by decide +kernel
theorem ck_201 : mc_M_law.all (chk 201) = true := by decide +kernel
theorem ck_202 : mc_M_by.all (chk 202) = true := by decide +kernel
theorem ck_203 : mc_M_byLaw.all (chk 203) = true := by decide +kernel
theorem ck_204 : mc_M_stepHere.all (chk 204) = true := by decide +kernel
theorem ck_205 : mc_M_readsStep.all (chk 205) = true := by decide +kernel
theorem ck_206 : mc_M_book.all (chk 206) = true := by decide +kernel
theorem ck_207 : mc_M_fault.all (chk 207) = true := by decide +kernel
theorem ck_208 : mc_M_laughBy.all (chk 208) = true := by decide +kernel
theorem ck_209 : mc_M_ones.all (chk 209) = true := by decide +kernel
theorem ck_210 : mc_M_nearTo.all (chk 210) = true := by decide +kernel
theorem ck_211 : mc_M_whoHas.all (chk 211) = true := by decide +kernel
theorem ck_212 : mc_M_toldIn.all (chk 212) = true := by decide +kernel
theorem ck_213 : mc_M_laughWith.all (chk 213) = true := by decide +kernel
theorem ck_214 : mc_M_laughOf.all (chk 214) = true := by decide +kernel
theorem ck_215 : mc_M_waterOf.all (chk 215) = true := by decide +kernel
theorem ck_216 : mc_M_tells.all (chk 216) = true := by decide +kernel
theorem ck_217 : mc_M_grieves.all (chk 217) = true := by decide +kernel
theorem ck_218 : mc_M_dayEnds.all (chk 218) = true := by decide +kernel
theorem ck_219 : mc_M_does.all (chk 219) = true := by decide +kernel
theorem ck_220 : mc_M_goes.all (chk 220) = true := by decide +kernel
theorem ck_221 : mc_M_work.all (chk 221) = true := by decide +kernel
theorem ck_222 : mc_M_undo.all (chk 222) = true := by decide +kernel
theorem ck_223 : mc_M_sumOf.all (chk 223) = true := by decide +kernel
theorem ck_224 : mc_M_told.all (chk 224) = true := by decide +kernel
theorem ck_225 : mc_M_isPerson.all (chk 225) = true := by decide +kernel
theorem ck_226 : mc_M_isJoke.all (chk 226) = true := by decide +kernel
theorem ck_227 : mc_M_isNone.all (chk 227) = true := by decide +kernel
theorem ck_228 : mc_M_person.all (chk 228) = true := by decide +kernel
theorem ck_229 : mc_M_joke.all (chk 229) = true := by decide +kernel
theorem ck_230 : mc_M_street.all (chk 230) = true := by decide +kernel
theorem ck_231 : mc_M_worn.all (chk 231) = true := by decide +kernel
theorem ck_232 : mc_M_laugh.all (chk 232) = true := by decide +kernel
theorem ck_233 : mc_M_water.all (chk 233) = true := by decide +kernel
theorem ck_234 : mc_M_would.all (chk 234) = true := by decide +kernel
theorem ck_235 : mc_M_ahead.all (chk 235) = true := by decide +kernel
theorem ck_236 : mc_M_dry.all (chk 236) = true := by decide +kernel
theorem ck_237 : mc_M_givesFrom.all (chk 237) = true := by decide +kernel
theorem ck_238 : mc_M_gives.all (chk 238) = true := by decide +kernel
theorem ck_239 : mc_M_best.all (chk 239) = true := by decide +kernel
theorem ck_240 : mc_M_given.all (chk 240) = true := by decide +kernel
theorem ck_241 : mc_M_mostOfOne.all (chk 241) = true := by decide +kernel
theorem ck_242 : mc_M_enough.all (chk 242) = true := by decide +kernel
theorem ck_243 : mc_M_untilNone.all (chk 243) = true := by decide +kernel
theorem ck_244 : mc_M_lasts.all (chk 244) = true := by decide +kernel
theorem ck_245 : mc_M_well.all (chk 245) = true := by decide +kernel
theorem ck_246 : mc_M_isTaste.all (chk 246) = true := by decide +kernel
theorem ck_247 : mc_M_fits.all (chk 247) = true := by decide +kernel
theorem ck_248 : mc_M_isTold.all (chk 248) = true := by decide +kernel
theorem ck_249 : mc_M_worstAt.all (chk 249) = true := by decide +kernel
theorem ck_250 : mc_M_look.all (chk 250) = true := by decide +kernel
theorem ck_251 : mc_M_comfort.all (chk 251) = true := by decide +kernel
theorem ck_252 : mc_M_further.all (chk 252) = true := by decide +kernel
theorem ck_253 : mc_M_way.all (chk 253) = true := by decide +kernel
theorem ck_254 : mc_M_parts.all (chk 254) = true := by decide +kernel
theorem ck_255 : mc_M_hasBy.all (chk 255) = true := by decide +kernel
theorem ck_256 : mc_M_isBest.all (chk 256) = true := by decide +kernel
theorem ck_257 : mc_M_comedians.all (chk 257) = true := by decide +kernel
theorem ck_258 : mc_M_some.all (chk 258) = true := by decide +kernel
theorem ck_259 : mc_M_givenBy.all (chk 259) = true := by decide +kernel
theorem ck_260 : mc_M_share.all (chk 260) = true := by decide +kernel
theorem ck_261 : mc_M_likes.all (chk 261) = true := by decide +kernel
theorem ck_262 : mc_M_solemn.all (chk 262) = true := by decide +kernel
theorem ck_263 : mc_M_driest.all (chk 263) = true := by decide +kernel
theorem ck_264 : mc_M_alike.all (chk 264) = true := by decide +kernel
theorem ck_265 : mc_M_draw.all (chk 265) = true := by decide +kernel
theorem ck_266 : mc_M_yearBy.all (chk 266) = true := by decide +kernel
theorem ck_267 : mc_M_isYear.all (chk 267) = true := by decide +kernel
theorem ck_268 : mc_M_year.all (chk 268) = true := by decide +kernel
theorem ck_269 : mc_M_span.all (chk 269) = true := by decide +kernel
theorem ck_270 : mc_M_puts.all (chk 270) = true := by decide +kernel
theorem ck_271 : mc_M_putsAll.all (chk 271) = true := by decide +kernel
theorem ck_272 : mc_M_image.all (chk 272) = true := by decide +kernel
theorem ck_273 : mc_M_restore.all (chk 273) = true := by decide +kernel
theorem ck_274 : mc_M_status.all (chk 274) = true := by decide +kernel
theorem ck_275 : mc_M_count.all (chk 275) = true := by decide +kernel
theorem ck_276 : mc_L_land.all (chk 276) = true := by decide +kernel
theorem ck_277 : mc_L_law3.all (chk 277) = true := by decide +kernel
theorem ck_278 : mc_L_work.all (chk 278) = true := by decide +kernel
theorem ck_279 : mc_L_book.all (chk 279) = true := by decide +kernel
theorem ck_280 : mc_L_told.all (chk 280) = true := by decide +kernel
theorem ck_281 : mc_L_person.all (chk 281) = true := by decide +kernel
theorem ck_282 : mc_L_joke.all (chk 282) = true := by decide +kernel
theorem ck_283 : mc_L_street.all (chk 283) = true := by decide +kernel
theorem ck_284 : mc_L_worn.all (chk 284) = true := by decide +kernel
theorem ck_285 : mc_L_laugh.all (chk 285) = true := by decide +kernel
theorem ck_286 : mc_L_water.all (chk 286) = true := by decide +kernel
theorem ck_287 : mc_L_would.all (chk 287) = true := by decide +kernel
theorem ck_288 : mc_L_ahead.all (chk 288) = true := by decide +kernel
theorem ck_289 : mc_L_given.all (chk 289) = true := by decide +kernel
theorem ck_290 : mc_L_enough.all (chk 290) = true := by decide +kernel
theorem ck_291 : mc_L_lasts.all (chk 291) = true := by decide +kernel
theorem ck_292 : mc_L_well.all (chk 292) = true := by decide +kernel
theorem ck_293 : mc_L_fits.all (chk 293) = true := by decide +kernel
theorem ck_294 : mc_L_look.all (chk 294) = true := by decide +kernel
theorem ck_295 : mc_L_way.all (chk 295) = true := by decide +kernel
theorem ck_296 : mc_L_comedians.all (chk 296) = true := by decide +kernel
theorem ck_297 : mc_L_some.all (chk 297) = true := by decide +kernel
theorem ck_298 : mc_L_share.all (chk 298) = true := by decide +kernel
theorem ck_299 : mc_L_likes.all (chk 299) = true := by decide +kernel
theorem ck_300 : mc_L_solemn.all (chk 300) = true := by decide +kernel
theorem ck_301 : mc_L_driest.all (chk 301) = true := by decide +kernel
theorem ck_302 : mc_L_alike.all (chk 302) = true := by decide +kernel
theorem ck_303 : mc_L_year.all (chk 303) = true := by decide +kernel
theorem ck_304 : mc_L_span.all (chk 304) = true := by decide +kernel
theorem ck_305 : mc_Days_personsWith.all (chk 305) = true := by decide +kernel
theorem ck_306_0 : mc_L_law1_0.all (chk 306) = true := by decide +kernel
theorem ck_306_1 : mc_L_law1_1.all (chk 306) = true := by decide +kernel
theorem ck_306_2 : mc_L_law1_2.all (chk 306) = true := by decide +kernel
theorem ck_306_3 : mc_L_law1_3.all (chk 306) = true := by decide +kernel
theorem ck_306_4 : mc_L_law1_4.all (chk 306) = true := by decide +kernel
theorem ck_306_5 : mc_L_law1_5.all (chk 306) = true := by decide +kernel
theorem ck_306_6 : mc_L_law1_6.all (chk 306) = true := by decide +kernel
theorem ck_306_7 : mc_L_law1_7.all (chk 306) = true := by decide +kernel
theorem ck_306_8 : mc_L_law1_8.all (chk 306) = true := by decide +kernel
theorem ck_306_9 : mc_L_law1_9.all (chk 306) = true := by decide +kernel
theorem ck_306_10 : mc_L_law1_10.all (chk 306) = true := by decide +kernel
theorem ck_306_11 : mc_L_law1_11.all (chk 306) = true := by decide +kernel
theorem ck_306_12 : mc_L_law1_12.all (chk 306) = true := by decide +kernel
theorem ck_306_13 : mc_L_law1_13.all (chk 306) = true := by decide +kernel
theorem ck_306_14 : mc_L_law1_14.all (chk 306) = true := by decide +kernel
theorem ck_306_15 : mc_L_law1_15.all (chk 306) = true := by decide +kernel
theorem ck_306 : mc_L_law1.all (chk 306) = true := by simp only [mc_L_law1, List.all_append, ck_306_0, ck_306_1, ck_306_2, ck_306_3, ck_306_4, ck_306_5, ck_306_6, ck_306_7, ck_306_8, ck_306_9, ck_306_10, ck_306_11, ck_306_12, ck_306_13, ck_306_14, ck_306_15, Bool.and_self]
theorem ac_280 : allc (mcodes.drop 280) 280 = true := allc_c ck_280 (allc_c ck_281 (allc_c ck_282 (allc_c ck_283 (allc_c ck_284 (allc_c ck_285 (allc_c ck_286 (allc_c ck_287 (allc_c ck_288 (allc_c ck_289 (allc_c ck_290 (allc_c ck_291 (allc_c ck_292 (allc_c ck_293 (allc_c ck_294 (allc_c ck_295 (allc_c ck_296 (allc_c ck_297 (allc_c ck_298 (allc_c ck_299 (allc_c ck_300 (allc_c ck_301 (allc_c ck_302 (allc_c ck_303 (allc_c ck_304 (allc_c ck_305 (allc_c ck_306 ((rfl : allc [] 307 = true))))))))))))))))))))))))))))
theorem ac_240 : allc (mcodes.drop 240) 240 = true := allc_c ck_240 (allc_c ck_241 (allc_c ck_242 (allc_c ck_243 (allc_c ck_244 (allc_c ck_245 (allc_c ck_246 (allc_c ck_247 (allc_c ck_248 (allc_c ck_249 (allc_c ck_250 (allc_c ck_251 (allc_c ck_252 (allc_c ck_253 (allc_c ck_254 (allc_c ck_255 (allc_c ck_256 (allc_c ck_257 (allc_c ck_258 (allc_c ck_259 (allc_c ck_260 (allc_c ck_261 (allc_c ck_262 (allc_c ck_263 (allc_c ck_264 (allc_c ck_265 (allc_c ck_266 (allc_c ck_267 (allc_c ck_268 (allc_c ck_269 (allc_c ck_270 (allc_c ck_271 (allc_c ck_272 (allc_c ck_273 (allc_c ck_274 (allc_c ck_275 (allc_c ck_276 (allc_c ck_277 (allc_c ck_278 (allc_c ck_279 (ac_280))))))))))))))))))))))))))))))))))))))))
theorem ac_200 : allc (mcodes.drop 200) 200 = true := allc_c ck_200 (allc_c ck_201 (allc_c ck_202 (allc_c ck_203 (allc_c ck_204 (allc_c ck_205 (allc_c ck_206 (allc_c ck_207 (allc_c ck_208 (allc_c ck_209 (allc_c ck_210 (allc_c ck_211 (allc_c ck_212 (allc_c ck_213 (allc_c ck_214 (allc_c ck_215 (allc_c ck_216 (allc_c ck_217 (allc_c ck_218 (allc_c ck_219 (allc_c ck_220 (allc_c ck_221 (allc_c ck_222 (allc_c ck_223 (allc_c ck_224 (allc_c ck_225 (allc_c ck_226 (allc_c ck_227 (allc_c ck_228 (allc_c ck_229 (allc_c ck_230 (allc_c ck_231 (allc_c ck_232 (allc_c ck_233 (allc_c ck_234 (allc_c ck_235 (allc_c ck_236 (allc_c ck_237 (allc_c ck_238 (allc_c ck_239 (ac_240))))))))))))))))))))))))))))))))))))))))
theorem ac_160 : allc (mcodes.drop 160) 160 = true := allc_c ck_160 (allc_c ck_161 (allc_c ck_162 (allc_c ck_163 (allc_c ck_164 (allc_c ck_165 (allc_c ck_166 (allc_c ck_167 (allc_c ck_168 (allc_c ck_169 (allc_c ck_170 (allc_c ck_171 (allc_c ck_172 (allc_c ck_173 (allc_c ck_174 (allc_c ck_175 (allc_c ck_176 (allc_c ck_177 (allc_c ck_178 (allc_c ck_179 (allc_c ck_180 (allc_c ck_181 (allc_c ck_182 (allc_c ck_183 (allc_c ck_184 (allc_c ck_185 (allc_c ck_186 (allc_c ck_187 (allc_c ck_188 (allc_c ck_189 (allc_c ck_190 (allc_c ck_191 (allc_c ck_192 (allc_c ck_193 (allc_c ck_194 (allc_c ck_195 (allc_c ck_196 (allc_c ck_197 (allc_c ck_198 (allc_c ck_199 (ac_200))))))))))))))))))))))))))))))))))))))))
theorem ac_120 : allc (mcodes.drop 120) 120 = true := allc_c ck_120 (allc_c ck_121 (allc_c ck_122 (allc_c ck_123 (allc_c ck_124 (allc_c ck_125 (allc_c ck_126 (allc_c ck_127 (allc_c ck_128 (allc_c ck_129 (allc_c ck_130 (allc_c ck_131 (allc_c ck_132 (allc_c ck_133 (allc_c ck_134 (allc_c ck_135 (allc_c ck_136 (allc_c ck_137 (allc_c ck_138 (allc_c ck_139 (allc_c ck_140 (allc_c ck_141 (allc_c ck_142 (allc_c ck_143 (allc_c ck_144 (allc_c ck_145 (allc_c ck_146 (allc_c ck_147 (allc_c ck_148 (allc_c ck_149 (allc_c ck_150 (allc_c ck_151 (allc_c ck_152 (allc_c ck_153 (allc_c ck_154 (allc_c ck_155 (allc_c ck_156 (allc_c ck_157 (allc_c ck_158 (allc_c ck_159 (ac_160))))))))))))))))))))))))))))))))))))))))
theorem ac_80 : allc (mcodes.drop 80) 80 = true := allc_c ck_80 (allc_c ck_81 (allc_c ck_82 (allc_c ck_83 (allc_c ck_84 (allc_c ck_85 (allc_c ck_86 (allc_c ck_87 (allc_c ck_88 (allc_c ck_89 (allc_c ck_90 (allc_c ck_91 (allc_c ck_92 (allc_c ck_93 (allc_c ck_94 (allc_c ck_95 (allc_c ck_96 (allc_c ck_97 (allc_c ck_98 (allc_c ck_99 (allc_c ck_100 (allc_c ck_101 (allc_c ck_102 (allc_c ck_103 (allc_c ck_104 (allc_c ck_105 (allc_c ck_106 (allc_c ck_107 (allc_c ck_108 (allc_c ck_109 (allc_c ck_110 (allc_c ck_111 (allc_c ck_112 (allc_c ck_113 (allc_c ck_114 (allc_c ck_115 (allc_c ck_116 (allc_c ck_117 (allc_c ck_118 (allc_c ck_119 (ac_120))))))))))))))))))))))))))))))))))))))))
theorem ac_40 : allc (mcodes.drop 40) 40 = true := allc_c ck_40 (allc_c ck_41 (allc_c ck_42 (allc_c ck_43 (allc_c ck_44 (allc_c ck_45 (allc_c ck_46 (allc_c ck_47 (allc_c ck_48 (allc_c ck_49 (allc_c ck_50 (allc_c ck_51 (allc_c ck_52 (allc_c ck_53 (allc_c ck_54 (allc_c ck_55 (allc_c ck_56 (allc_c ck_57 (allc_c ck_58 (allc_c ck_59 (allc_c ck_60 (allc_c ck_61 (allc_c ck_62 (allc_c ck_63 (allc_c ck_64 (allc_c ck_65 (allc_c ck_66 (allc_c ck_67 (allc_c ck_68 (allc_c ck_69 (allc_c ck_70 (allc_c ck_71 (allc_c ck_72 (allc_c ck_73 (allc_c ck_74 (allc_c ck_75 (allc_c ck_76 (allc_c ck_77 (allc_c ck_78 (allc_c ck_79 (ac_80))))))))))))))))))))))))))))))))))))))))
theorem ac_0 : allc (mcodes.drop 0) 0 = true := allc_c ck_0 (allc_c ck_1 (allc_c ck_2 (allc_c ck_3 (allc_c ck_4 (allc_c ck_5 (allc_c ck_6 (allc_c ck_7 (allc_c ck_8 (allc_c ck_9 (allc_c ck_10 (allc_c ck_11 (allc_c ck_12 (allc_c ck_13 (allc_c ck_14 (allc_c ck_15 (allc_c ck_16 (allc_c ck_17 (allc_c ck_18 (allc_c ck_19 (allc_c ck_20 (allc_c ck_21 (allc_c ck_22 (allc_c ck_23 (allc_c ck_24 (allc_c ck_25 (allc_c ck_26 (allc_c ck_27 (allc_c ck_28 (allc_c ck_29 (allc_c ck_30 (allc_c ck_31 (allc_c ck_32 (allc_c ck_33 (allc_c ck_34 (allc_c ck_35 (allc_c ck_36 (allc_c ck_37 (allc_c ck_38 (allc_c ck_39 (ac_40))))))))))))))))))))))))))))))))))))))))
theorem ac_all : allc mcodes 0 = true := ac_0
theorem mfind_mem : ∀ (l : List mm_E) (pc : Nat) (e : mm_E), mfind pc l = some e → e ∈ l ∧ e.1 = pc
  | [], _, _, h => by cases h
  | a :: t, pc, e, h => by
    unfold mfind at h
    cases hb : Nat.beq a.1 pc with
    | true =>
      rw [hb] at h
      cases h
      exact ⟨List.mem_cons_self, Nat.eq_of_beq_eq_true hb⟩
    | false =>
      rw [hb] at h
      obtain ⟨h1, h2⟩ := mfind_mem t pc e h
      exact ⟨List.mem_cons_of_mem _ h1, h2⟩
theorem chk_of {m pc : Nat} {e : mm_E} (h : mfind pc (mcode m) = some e) : chk m e = true ∧ e.1 = pc := by
  obtain ⟨h1, h2⟩ := mfind_mem _ _ _ h
  refine ⟨?_, h2⟩
  have hl : m < mcodes.length := by
    rcases Nat.lt_or_ge m mcodes.length with q | q
    · exact q
    · unfold mcode at h1
      rw [List.getD_eq_getElem?_getD, List.getElem?_eq_none q] at h1
      cases h1
  have hg : mcodes[m]? = some (mcode m) := by
    unfold mcode
    rw [List.getD_eq_getElem?_getD, List.getElem?_eq_getElem hl]; rfl
  have := allc_at mcodes 0 m _ ac_all hg
  rw [Nat.zero_add] at this
  exact List.all_eq_true.mp this e h1
