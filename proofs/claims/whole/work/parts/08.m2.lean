variable {l : Launch} {p : Program} {e : Env} {s : State} {m : MethodId} {args : Array Value} {below : List Frame} {meth : Method} {c : Code} {A : Nat → Prop} {Q : State → Prop}
variable {dC : Nat → ClassId} {dI : Nat → Nat → Nat} {cI : ClassId} {kA : String → Nat → Nat} {ad : Nat → Nat}
def fX11_rests_20 (M : MS) : Option (MS) := some M
def fX11_rests_12 (M : MS) (x2 : Int32) (s0 : Int32) (s1 : Int32) (s2 : Int32) (s3 : Int32) : Option (MS) := (fX11_putsCat M s3 s2 (if s1 < (s0 - x2) then (s0 - x2) else s1)).bind fun q => fX11_rests_20 q
def fX11_rests_0 (M : MS) (a1 : Int32) (a2 : Int32) : Option (MS) := (fX11_ofCat M a1 9).bind fun q => fX11_rests_12 M a2 q 0 9 a1
def fX11_rests (M : MS) (a1 : Int32) (a2 : Int32) : Option (MS) := fX11_rests_0  M a1 a2
def fX11_isOpenSack_16 (M : MS) (s0 : Int32) : Option (Int32) := some s0
def fX11_isOpenSack_15 (M : MS) : Option (Int32) := fX11_isOpenSack_16 M 0
def fX11_isOpenSack_11 (M : MS) : Option (Int32) := fX11_isOpenSack_16 M 1
def fX11_isOpenSack_7 (M : MS) (s0 : Int32) : Option (Int32) := if s0 = 1 then fX11_isOpenSack_11 M else fX11_isOpenSack_15 M
def fX11_isOpenSack_0 (M : MS) (a1 : Int32) : Option (Int32) := (fX11_ofSack M a1 9).bind fun q => fX11_isOpenSack_7 M q
def fX11_isOpenSack (M : MS) (a1 : Int32) : Option (Int32) := bq (fX11_isOpenSack_0  M a1)
def fX11_starve_27 (M : MS) : Option (MS) := some M
def fX11_starve_16 (M : MS) (x2 : Int32) : Option (MS) := if gIn 11 257 then if gIn 11 257 then fX11_starve_27 (M.1, va_up M.2 0 (upd (M.2 0) (11 : Int32).toNatClampNeg ((M.2 0 (11 : Int32).toNatClampNeg) + x2))) else none else none
def fX11_starve_11 (M : MS) (x2 : Int32) (s0 : Int32) (s1 : Int32) (s2 : Int32) : Option (MS) := (fX11_putsSack M s2 s1 (s0 - x2)).bind fun q => fX11_starve_16 q x2
def fX11_starve_0 (M : MS) (a1 : Int32) (a2 : Int32) : Option (MS) := (fX11_ofSack M a1 8).bind fun q => fX11_starve_11 M a2 q 8 a1
def fX11_starve (M : MS) (a1 : Int32) (a2 : Int32) : Option (MS) := fX11_starve_0  M a1 a2
def fX11_breeds_50 (M : MS) : Option (MS) := some M
def fX11_breeds_39 (M : MS) (x2 : Int32) : Option (MS) := if gIn 10 257 then if gIn 10 257 then fX11_breeds_50 (M.1, va_up M.2 0 (upd (M.2 0) (10 : Int32).toNatClampNeg ((M.2 0 (10 : Int32).toNatClampNeg) + x2))) else none else none
def fX11_breeds_34 (M : MS) (x2 : Int32) (s0 : Int32) (s1 : Int32) (s2 : Int32) : Option (MS) := (fX11_putsSack M s2 s1 (s0 + x2)).bind fun q => fX11_breeds_39 q x2
def fX11_breeds_18 (M : MS) (x1 : Int32) (s0 : Int32) (s1 : Int32) (s2 : Int32) : Option (MS) := (fX11_ofSack M x1 8).bind fun q => fX11_breeds_34 M (if (s1 - s0) < s2 then (s1 - s0) else s2) q 8 x1
def fX11_breeds_7 (M : MS) (x1 : Int32) (s0 : Int32) : Option (MS) := (fX11_ofSack M x1 8).bind fun q => fX11_breeds_18 M x1 q 99 (s0 / 2)
def fX11_breeds_0 (M : MS) (a1 : Int32) : Option (MS) := (fX11_ofSack M a1 8).bind fun q => fX11_breeds_7 M a1 q
def fX11_breeds (M : MS) (a1 : Int32) : Option (MS) := fX11_breeds_0  M a1
def fX11_openMany_10 (M : MS) (s0 : Int32) : Option (Int32) := some s0
def fX11_openMany_0 (M : MS) : Option (Int32) := (fX11_sumOf M 161 1 9).bind fun q => fX11_openMany_10 M q
def fX11_openMany (M : MS) : Option (Int32) := fX11_openMany_0  M
def fX11_mayAddMice_19 (M : MS) (s0 : Int32) : Option (Int32) := some s0
def fX11_mayAddMice_18 (M : MS) : Option (Int32) := fX11_mayAddMice_19 M 0
def fX11_mayAddMice_14 (M : MS) : Option (Int32) := fX11_mayAddMice_19 M 1
def fX11_mayAddMice_7 (M : MS) (x2 : Int32) (s0 : Int32) : Option (Int32) := if 99 < (s0 + x2) then fX11_mayAddMice_18 M else fX11_mayAddMice_14 M
def fX11_mayAddMice_0 (M : MS) (a1 : Int32) (a2 : Int32) : Option (Int32) := (fX11_ofSack M a1 8).bind fun q => fX11_mayAddMice_7 M a2 q
def fX11_mayAddMice (M : MS) (a1 : Int32) (a2 : Int32) : Option (Int32) := bq (fX11_mayAddMice_0  M a1 a2)
def fX11_addsMice_34 (M : MS) (s0 : Int32) : Option (Int32 × MS) := some (s0, M)
def fX11_addsMice_27 (M : MS) (x1 : Int32) : Option (Int32 × MS) := (fX11_ofSack M x1 8).bind fun q => fX11_addsMice_34 M q
def fX11_addsMice_16 (M : MS) (x1 : Int32) (x2 : Int32) : Option (Int32 × MS) := if gIn 14 257 then if gIn 14 257 then fX11_addsMice_27 (M.1, va_up M.2 0 (upd (M.2 0) (14 : Int32).toNatClampNeg ((M.2 0 (14 : Int32).toNatClampNeg) + x2))) x1 else none else none
def fX11_addsMice_11 (M : MS) (x1 : Int32) (x2 : Int32) (s0 : Int32) (s1 : Int32) (s2 : Int32) : Option (Int32 × MS) := (fX11_putsSack M s2 s1 (s0 + x2)).bind fun q => fX11_addsMice_16 q x1 x2
def fX11_addsMice_0 (M : MS) (a1 : Int32) (a2 : Int32) : Option (Int32 × MS) := (fX11_ofSack M a1 8).bind fun q => fX11_addsMice_11 M a1 a2 q 8 a1
def fX11_addsMice (M : MS) (a1 : Int32) (a2 : Int32) : Option (Int32 × MS) := fX11_addsMice_0  M a1 a2
def fX11_mayAddGrain_20 (M : MS) (s0 : Int32) : Option (Int32) := some s0
def fX11_mayAddGrain_19 (M : MS) : Option (Int32) := fX11_mayAddGrain_20 M 0
def fX11_mayAddGrain_15 (M : MS) : Option (Int32) := fX11_mayAddGrain_20 M 1
def fX11_mayAddGrain_7 (M : MS) (x2 : Int32) (s0 : Int32) : Option (Int32) := if 9999 < (s0 + x2) then fX11_mayAddGrain_19 M else fX11_mayAddGrain_15 M
def fX11_mayAddGrain_0 (M : MS) (a1 : Int32) (a2 : Int32) : Option (Int32) := (fX11_ofSack M a1 7).bind fun q => fX11_mayAddGrain_7 M a2 q
def fX11_mayAddGrain (M : MS) (a1 : Int32) (a2 : Int32) : Option (Int32) := bq (fX11_mayAddGrain_0  M a1 a2)
def fX11_addsGrain_34 (M : MS) (s0 : Int32) : Option (Int32 × MS) := some (s0, M)
def fX11_addsGrain_27 (M : MS) (x1 : Int32) : Option (Int32 × MS) := (fX11_ofSack M x1 7).bind fun q => fX11_addsGrain_34 M q
def fX11_addsGrain_16 (M : MS) (x1 : Int32) (x2 : Int32) : Option (Int32 × MS) := if gIn 15 257 then if gIn 15 257 then fX11_addsGrain_27 (M.1, va_up M.2 0 (upd (M.2 0) (15 : Int32).toNatClampNeg ((M.2 0 (15 : Int32).toNatClampNeg) + x2))) x1 else none else none
def fX11_addsGrain_11 (M : MS) (x1 : Int32) (x2 : Int32) (s0 : Int32) (s1 : Int32) (s2 : Int32) : Option (Int32 × MS) := (fX11_putsSack M s2 s1 (s0 + x2)).bind fun q => fX11_addsGrain_16 q x1 x2
def fX11_addsGrain_0 (M : MS) (a1 : Int32) (a2 : Int32) : Option (Int32 × MS) := (fX11_ofSack M a1 7).bind fun q => fX11_addsGrain_11 M a1 a2 q 7 a1
def fX11_addsGrain (M : MS) (a1 : Int32) (a2 : Int32) : Option (Int32 × MS) := fX11_addsGrain_0  M a1 a2
def fX11_remembers_80 (M : MS) : Option (MS) := some M
def fX11_remembers_70 (M : MS) : Option (MS) := fX11_remembers_80 (va_up M.1 5 ((M.1 5) + 1), M.2)
def fX11_remembers_50 (M : MS) : Option (MS) := (fX11_copies M 0 0 4 (257 * (M.1 5))).bind fun q => fX11_remembers_70 q
def fX11_remembers_40 (M : MS) : Option (MS) := fX11_remembers_50 (va_up M.1 5 ((M.1 5) - 1), M.2)
def fX11_remembers_34 (K11 : MS → Int32 → Option (MS)) (M : MS) (x1 : Int32) : Option (MS) := K11 M (x1 + 1)
def fX11_remembers_18 (K11 : MS → Int32 → Option (MS)) (M : MS) (x1 : Int32) : Option (MS) := if gIn (x1 + 257) 2056 then if gIn x1 2056 then fX11_remembers_34 K11 (M.1, va_up M.2 4 (upd (M.2 4) x1.toNatClampNeg (M.2 4 (x1 + 257).toNatClampNeg))) x1 else none else none
def fX11_remembers_11 : Nat → MS → Int32 → Option (MS)
  | 0 => fun _ _ => none
  | k + 1 => fun M x1 => if 1799 ≤ x1 then fX11_remembers_40 M else fX11_remembers_18 (fX11_remembers_11 k) M x1
def fX11_remembers_9 (M : MS) : Option (MS) := fX11_remembers_11 FU M 0
def fX11_remembers_0 (M : MS) : Option (MS) := if (M.1 5) = 8 then fX11_remembers_9 M else fX11_remembers_50 M
def fX11_remembers (M : MS) : Option (MS) := fX11_remembers_0  M
def fX11_goesAside_13 (M : MS) : Option (MS) := some M
def fX11_goesAside_0 (M : MS) : Option (MS) := (fX11_copies M 0 0 2 0).bind fun q => fX11_goesAside_13 q
def fX11_goesAside (M : MS) : Option (MS) := fX11_goesAside_0  M
def fX11_goesBack_13 (M : MS) (x1 : Int32) : Option (Int32 × MS) := some (x1, M)
def fX11_goesBack_0 (M : MS) (a1 : Int32) : Option (Int32 × MS) := (fX11_copies M 2 0 0 0).bind fun q => fX11_goesBack_13 q a1
def fX11_goesBack (M : MS) (a1 : Int32) : Option (Int32 × MS) := fX11_goesBack_0  M a1
def fX11_appendInput_47 (M : MS) : Option (Int32 × MS) := some ((M.1 9), M)
def fX11_appendInput_41 (M : MS) (x5 : Int32) : Option (Int32 × MS) := (fX11_appendWord M x5).bind fun q => fX11_appendInput_47 q
def fX11_appendInput_35 (M : MS) (x4 : Int32) (x5 : Int32) : Option (Int32 × MS) := (fX11_appendWord M x4).bind fun q => fX11_appendInput_41 q x5
def fX11_appendInput_30 (M : MS) (x3 : Int32) (x4 : Int32) (x5 : Int32) : Option (Int32 × MS) := (fX11_appendWord M x3).bind fun q => fX11_appendInput_35 q x4 x5
def fX11_appendInput_25 (M : MS) (x2 : Int32) (x3 : Int32) (x4 : Int32) (x5 : Int32) : Option (Int32 × MS) := (fX11_appendWord M x2).bind fun q => fX11_appendInput_30 q x3 x4 x5
def fX11_appendInput_20 (M : MS) (x1 : Int32) (x2 : Int32) (x3 : Int32) (x4 : Int32) (x5 : Int32) : Option (Int32 × MS) := (fX11_appendWord M x1).bind fun q => fX11_appendInput_25 q x2 x3 x4 x5
def fX11_appendInput_18 (M : MS) : Option (Int32 × MS) := some ((-1), M)
def fX11_appendInput_5 (M : MS) (x1 : Int32) (x2 : Int32) (x3 : Int32) (x4 : Int32) (x5 : Int32) : Option (Int32 × MS) := if ((M.1 9) + 20) ≤ 600 then fX11_appendInput_20 M x1 x2 x3 x4 x5 else fX11_appendInput_18 M
def fX11_appendInput_0 (M : MS) (a1 : Int32) (a2 : Int32) (a3 : Int32) (a4 : Int32) (a5 : Int32) : Option (Int32 × MS) := fX11_appendInput_5 (va_up M.1 7 0, M.2) a1 a2 a3 a4 a5
def fX11_appendInput (M : MS) (a1 : Int32) (a2 : Int32) (a3 : Int32) (a4 : Int32) (a5 : Int32) : Option (Int32 × MS) := fX11_appendInput_0  M a1 a2 a3 a4 a5
def fX11_truncateInput_24 (M : MS) : Option (Int32 × MS) := some (1, M)
def fX11_truncateInput_19 (M : MS) (x1 : Int32) : Option (Int32 × MS) := fX11_truncateInput_24 (va_up M.1 9 x1, M.2)
def fX11_truncateInput_17 (M : MS) : Option (Int32 × MS) := some (0, M)
def fX11_truncateInput_14 (M : MS) (x1 : Int32) (s0 : Int32) : Option (Int32 × MS) := if s0 = 0 then fX11_truncateInput_17 M else fX11_truncateInput_19 M x1
def fX11_truncateInput_5 (M : MS) (x1 : Int32) : Option (Int32 × MS) := (fX11_inRange M x1 0 (M.1 9)).bind fun q => fX11_truncateInput_14 M x1 q
def fX11_truncateInput_0 (M : MS) (a1 : Int32) : Option (Int32 × MS) := fX11_truncateInput_5 (va_up M.1 7 0, M.2) a1
def fX11_truncateInput (M : MS) (a1 : Int32) : Option (Int32 × MS) := bz (fX11_truncateInput_0  M a1)
def fX11_isLetter_12 (M : MS) (s0 : Int32) : Option (Int32) := some s0
def fX11_isLetter_5 (M : MS) (s0 : Int32) : Option (Int32) := (fX11_inRange M s0 97 122).bind fun q => fX11_isLetter_12 M q
def fX11_isLetter_0 (M : MS) (a1 : Int32) : Option (Int32) := (fX11_byteAt M a1).bind fun q => fX11_isLetter_5 M q
def fX11_isLetter (M : MS) (a1 : Int32) : Option (Int32) := bq (fX11_isLetter_0  M a1)
def fX11_seesNumber_40 (M : MS) : Option (Int32 × MS) := some (1, M)
def fX11_seesNumber_32 (M : MS) : Option (Int32 × MS) := fX11_seesNumber_40 (va_up M.1 18 (M.1 16), M.2)
def fX11_seesNumber_31 (M : MS) (s0 : Int32) : Option (Int32 × MS) := some (s0, M)
def fX11_seesNumber_26 (M : MS) : Option (Int32 × MS) := (fX11_failsAt M 2).bind fun q => fX11_seesNumber_31 q.2 q.1
def fX11_seesNumber_23 (M : MS) (s0 : Int32) : Option (Int32 × MS) := if s0 = 0 then fX11_seesNumber_26 M else fX11_seesNumber_32 M
def fX11_seesNumber_14 (M : MS) (x1 : Int32) (x2 : Int32) : Option (Int32 × MS) := (fX11_inRange M (M.1 16) x1 x2).bind fun q => fX11_seesNumber_23 M q
def fX11_seesNumber_13 (M : MS) (s0 : Int32) : Option (Int32 × MS) := some (s0, M)
def fX11_seesNumber_8 (M : MS) : Option (Int32 × MS) := (fX11_failsAt M 1).bind fun q => fX11_seesNumber_13 q.2 q.1
def fX11_seesNumber_0 (M : MS) (a1 : Int32) (a2 : Int32) : Option (Int32 × MS) := if (M.1 17) = 2 then fX11_seesNumber_14 M a1 a2 else fX11_seesNumber_8 M
def fX11_seesNumber (M : MS) (a1 : Int32) (a2 : Int32) : Option (Int32 × MS) := bz (fX11_seesNumber_0  M a1 a2)
def fX11_seesName_35 (M : MS) (s0 : Int32) : Option (Int32 × MS) := some (s0, M)
def fX11_seesName_34 (M : MS) : Option (Int32 × MS) := fX11_seesName_35 M 0
def fX11_seesName_30 (M : MS) : Option (Int32 × MS) := fX11_seesName_35 M 1
def fX11_seesName_27 (M : MS) (s0 : Int32) : Option (Int32 × MS) := if s0 = 0 then fX11_seesName_34 M else fX11_seesName_30 M
def fX11_seesName_22 (M : MS) : Option (Int32 × MS) := (fX11_failsAt M 1).bind fun q => fX11_seesName_27 q.2 q.1
def fX11_seesName_8 (M : MS) : Option (Int32 × MS) := if ((M.1 14) - (M.1 15)) ≤ 6 then fX11_seesName_30 M else fX11_seesName_22 M
def fX11_seesName_0 (M : MS) : Option (Int32 × MS) := if (M.1 17) = 1 then fX11_seesName_8 M else fX11_seesName_22 M
def fX11_seesName (M : MS) : Option (Int32 × MS) := bz (fX11_seesName_0  M)
def fX11_nameHere_33 (M : MS) : Option (Int32) := some (-1)
def fX11_nameHere_27 (K2 : MS → Int32 → Int32 → Int32 → Option (Int32)) (M : MS) (x1 : Int32) (x2 : Int32) (x3 : Int32) : Option (Int32) := K2 M x1 x2 (x3 + 1)
def fX11_nameHere_25 (M : MS) (x3 : Int32) : Option (Int32) := some x3
def fX11_nameHere_22 (K2 : MS → Int32 → Int32 → Int32 → Option (Int32)) (M : MS) (x1 : Int32) (x2 : Int32) (x3 : Int32) (s0 : Int32) : Option (Int32) := if s0 = 0 then fX11_nameHere_27 K2 M x1 x2 x3 else fX11_nameHere_25 M x3
def fX11_nameHere_12 (K2 : MS → Int32 → Int32 → Int32 → Option (Int32)) (M : MS) (x1 : Int32) (x2 : Int32) (x3 : Int32) : Option (Int32) := (fX11_isNameAt M (x1 + (12 * x3))).bind fun q => fX11_nameHere_22 K2 M x1 x2 x3 q
def fX11_nameHere_2 : Nat → MS → Int32 → Int32 → Int32 → Option (Int32)
  | 0 => fun _ _ _ _ => none
  | k + 1 => fun M x1 x2 x3 => if gIn x2 257 then if (M.2 0 x2.toNatClampNeg) ≤ x3 then fX11_nameHere_33 M else fX11_nameHere_12 (fX11_nameHere_2 k) M x1 x2 x3 else none
def fX11_nameHere_0 (M : MS) (a1 : Int32) (a2 : Int32) : Option (Int32) := fX11_nameHere_2 FU M a1 a2 0
def fX11_nameHere (M : MS) (a1 : Int32) (a2 : Int32) : Option (Int32) := fX11_nameHere_0  M a1 a2
def fX11_noCat_26 (M : MS) (s0 : Int32) : Option (Int32 × MS) := some (s0, M)
def fX11_noCat_22 (M : MS) (s0 : Int32) : Option (Int32 × MS) := (fX11_fails M s0 1).bind fun q => fX11_noCat_26 q.2 q.1
def fX11_noCat_21 (M : MS) : Option (Int32 × MS) := fX11_noCat_22 M 0
def fX11_noCat_17 (M : MS) : Option (Int32 × MS) := fX11_noCat_22 M 1
def fX11_noCat_14 (M : MS) (s0 : Int32) : Option (Int32 × MS) := if s0 = 0 then fX11_noCat_17 M else fX11_noCat_21 M
def fX11_noCat_0 (M : MS) (a1 : Int32) : Option (Int32 × MS) := if gIn 0 257 then (fX11_inRange M a1 0 ((M.2 0 (0 : Int32).toNatClampNeg) - 1)).bind fun q => fX11_noCat_14 M q else none
def fX11_noCat (M : MS) (a1 : Int32) : Option (Int32 × MS) := bz (fX11_noCat_0  M a1)
def fX11_noSack_26 (M : MS) (s0 : Int32) : Option (Int32 × MS) := some (s0, M)
def fX11_noSack_22 (M : MS) (s0 : Int32) : Option (Int32 × MS) := (fX11_fails M s0 1).bind fun q => fX11_noSack_26 q.2 q.1
def fX11_noSack_21 (M : MS) : Option (Int32 × MS) := fX11_noSack_22 M 0
def fX11_noSack_17 (M : MS) : Option (Int32 × MS) := fX11_noSack_22 M 1
def fX11_noSack_14 (M : MS) (s0 : Int32) : Option (Int32 × MS) := if s0 = 0 then fX11_noSack_17 M else fX11_noSack_21 M
def fX11_noSack_0 (M : MS) (a1 : Int32) : Option (Int32 × MS) := if gIn 1 257 then (fX11_inRange M a1 0 ((M.2 0 (1 : Int32).toNatClampNeg) - 1)).bind fun q => fX11_noSack_14 M q else none
def fX11_noSack (M : MS) (a1 : Int32) : Option (Int32 × MS) := bz (fX11_noSack_0  M a1)
def fX11_noShift_26 (M : MS) (s0 : Int32) : Option (Int32 × MS) := some (s0, M)
def fX11_noShift_22 (M : MS) (s0 : Int32) : Option (Int32 × MS) := (fX11_fails M s0 1).bind fun q => fX11_noShift_26 q.2 q.1
def fX11_noShift_21 (M : MS) : Option (Int32 × MS) := fX11_noShift_22 M 0
def fX11_noShift_17 (M : MS) : Option (Int32 × MS) := fX11_noShift_22 M 1
def fX11_noShift_14 (M : MS) (s0 : Int32) : Option (Int32 × MS) := if s0 = 0 then fX11_noShift_17 M else fX11_noShift_21 M
def fX11_noShift_0 (M : MS) (a1 : Int32) : Option (Int32 × MS) := if gIn 2 257 then (fX11_inRange M a1 0 ((M.2 0 (2 : Int32).toNatClampNeg) - 1)).bind fun q => fX11_noShift_14 M q else none
def fX11_noShift (M : MS) (a1 : Int32) : Option (Int32 × MS) := bz (fX11_noShift_0  M a1)
def fX11_noHours_21 (M : MS) (s0 : Int32) : Option (Int32 × MS) := some (s0, M)
def fX11_noHours_17 (M : MS) (x2 : Int32) (s0 : Int32) : Option (Int32 × MS) := (fX11_fails M s0 x2).bind fun q => fX11_noHours_21 q.2 q.1
def fX11_noHours_16 (M : MS) (x2 : Int32) : Option (Int32 × MS) := fX11_noHours_17 M x2 0
def fX11_noHours_12 (M : MS) (x2 : Int32) : Option (Int32 × MS) := fX11_noHours_17 M x2 1
def fX11_noHours_9 (M : MS) (x2 : Int32) (s0 : Int32) : Option (Int32 × MS) := if s0 = 0 then fX11_noHours_12 M x2 else fX11_noHours_16 M x2
def fX11_noHours_0 (M : MS) (a1 : Int32) (a2 : Int32) : Option (Int32 × MS) := (fX11_inRange M a1 0 200).bind fun q => fX11_noHours_9 M a2 q
def fX11_noHours (M : MS) (a1 : Int32) (a2 : Int32) : Option (Int32 × MS) := bz (fX11_noHours_0  M a1 a2)
def fX11_logged_34 (M : MS) (s0 : Int32) : Option (Int32) := some s0
def fX11_logged_33 (M : MS) : Option (Int32) := fX11_logged_34 M (-1)
def fX11_logged_17 (M : MS) (x1 : Int32) (x2 : Int32) : Option (Int32) := if gIn ((17 + (3 * x1)) + x2) 257 then fX11_logged_34 M (M.2 0 ((17 + (3 * x1)) + x2).toNatClampNeg) else none
def fX11_logged_14 (M : MS) (x1 : Int32) (x2 : Int32) (s0 : Int32) : Option (Int32) := if s0 = 0 then fX11_logged_33 M else fX11_logged_17 M x1 x2
def fX11_logged_0 (M : MS) (a1 : Int32) (a2 : Int32) : Option (Int32) := if gIn 16 257 then (fX11_inRange M a1 0 ((M.2 0 (16 : Int32).toNatClampNeg) - 1)).bind fun q => fX11_logged_14 M a1 a2 q else none
def fX11_logged (M : MS) (a1 : Int32) (a2 : Int32) : Option (Int32) := fX11_logged_0  M a1 a2
def fX11_miceBackwards_31 (M : MS) (x1 : Int32) : Option (Int32) := some x1
def fX11_miceBackwards_23 (K11 : MS → Int32 → Int32 → Option (Int32)) (M : MS) (x2 : Int32) (s0 : Int32) (s1 : Int32) : Option (Int32) := K11 M (s1 + s0) (x2 + (-1))
def fX11_miceBackwards_15 (K11 : MS → Int32 → Int32 → Option (Int32)) (M : MS) (x1 : Int32) (x2 : Int32) : Option (Int32) := (fX11_ofSack M x2 8).bind fun q => fX11_miceBackwards_23 K11 M x2 q x1
def fX11_miceBackwards_11 : Nat → MS → Int32 → Int32 → Option (Int32)
  | 0 => fun _ _ _ => none
  | k + 1 => fun M x1 x2 => if x2 < 0 then fX11_miceBackwards_31 M x1 else fX11_miceBackwards_15 (fX11_miceBackwards_11 k) M x1 x2
def fX11_miceBackwards_0 (M : MS) : Option (Int32) := if gIn 1 257 then fX11_miceBackwards_11 FU M 0 ((M.2 0 (1 : Int32).toNatClampNeg) - 1) else none
def fX11_miceBackwards (M : MS) : Option (Int32) := fX11_miceBackwards_0  M
def fX11_undo_57 (M : MS) : Option (Int32 × MS) := some ((M.1 5), M)
def fX11_undo_37 (M : MS) : Option (Int32 × MS) := (fX11_copies M 4 (257 * (M.1 5)) 0 0).bind fun q => fX11_undo_57 q
def fX11_undo_27 (M : MS) : Option (Int32 × MS) := fX11_undo_37 (va_up M.1 5 ((M.1 5) - 1), M.2)
def fX11_undo_25 (M : MS) : Option (Int32 × MS) := some (0, M)
def fX11_undo_22 (M : MS) (s0 : Int32) : Option (Int32 × MS) := if s0 = 0 then fX11_undo_27 M else fX11_undo_25 M
def fX11_undo_18 (M : MS) (s0 : Int32) : Option (Int32 × MS) := (fX11_fails M s0 1).bind fun q => fX11_undo_22 q.2 q.1
def fX11_undo_17 (M : MS) : Option (Int32 × MS) := fX11_undo_18 M 0
def fX11_undo_13 (M : MS) : Option (Int32 × MS) := fX11_undo_18 M 1
def fX11_undo_5 (M : MS) : Option (Int32 × MS) := if (M.1 5) = 0 then fX11_undo_13 M else fX11_undo_17 M
def fX11_undo_0 (M : MS) : Option (Int32 × MS) := fX11_undo_5 (va_up M.1 7 0, M.2)
def fX11_undo (M : MS) : Option (Int32 × MS) := fX11_undo_0  M
def fX11_outputByte_29 (M : MS) (s0 : Int32) : Option (Int32 × MS) := some (s0, M)
def fX11_outputByte_28 (M : MS) : Option (Int32 × MS) := fX11_outputByte_29 M (-1)
def fX11_outputByte_19 (M : MS) (x1 : Int32) : Option (Int32 × MS) := if gIn x1 200 then fX11_outputByte_29 M (M.2 23 x1.toNatClampNeg) else none
def fX11_outputByte_16 (M : MS) (x1 : Int32) (s0 : Int32) : Option (Int32 × MS) := if s0 = 0 then fX11_outputByte_28 M else fX11_outputByte_19 M x1
def fX11_outputByte_5 (M : MS) (x1 : Int32) : Option (Int32 × MS) := (fX11_inRange M x1 0 ((M.1 24) - 1)).bind fun q => fX11_outputByte_16 M x1 q
def fX11_outputByte_0 (M : MS) (a1 : Int32) : Option (Int32 × MS) := fX11_outputByte_5 (va_up M.1 7 0, M.2) a1
def fX11_outputByte (M : MS) (a1 : Int32) : Option (Int32 × MS) := fX11_outputByte_0  M a1
def fX11_saveState_23 (M : MS) : Option (Int32 × MS) := if gIn 3 257 then some ((M.2 0 (3 : Int32).toNatClampNeg), M) else none
def fX11_saveState_18 (M : MS) : Option (Int32 × MS) := fX11_saveState_23 (va_up M.1 6 1, M.2)
def fX11_saveState_5 (M : MS) : Option (Int32 × MS) := (fX11_copies M 0 0 3 0).bind fun q => fX11_saveState_18 q
def fX11_saveState_0 (M : MS) : Option (Int32 × MS) := fX11_saveState_5 (va_up M.1 7 0, M.2)
def fX11_saveState (M : MS) : Option (Int32 × MS) := fX11_saveState_0  M
def fX11_restoreState_45 (M : MS) : Option (Int32 × MS) := if gIn 3 257 then some ((M.2 0 (3 : Int32).toNatClampNeg), M) else none
def fX11_restoreState_40 (M : MS) : Option (Int32 × MS) := fX11_restoreState_45 (va_up M.1 5 0, M.2)
def fX11_restoreState_27 (M : MS) : Option (Int32 × MS) := (fX11_copies M 3 0 0 0).bind fun q => fX11_restoreState_40 q
def fX11_restoreState_25 (M : MS) : Option (Int32 × MS) := some (0, M)
def fX11_restoreState_22 (M : MS) (s0 : Int32) : Option (Int32 × MS) := if s0 = 0 then fX11_restoreState_27 M else fX11_restoreState_25 M
def fX11_restoreState_18 (M : MS) (s0 : Int32) : Option (Int32 × MS) := (fX11_fails M s0 1).bind fun q => fX11_restoreState_22 q.2 q.1
def fX11_restoreState_17 (M : MS) : Option (Int32 × MS) := fX11_restoreState_18 M 0
def fX11_restoreState_13 (M : MS) : Option (Int32 × MS) := fX11_restoreState_18 M 1
def fX11_restoreState_5 (M : MS) : Option (Int32 × MS) := if (M.1 6) = 0 then fX11_restoreState_13 M else fX11_restoreState_17 M
def fX11_restoreState_0 (M : MS) : Option (Int32 × MS) := fX11_restoreState_5 (va_up M.1 7 0, M.2)
def fX11_restoreState (M : MS) : Option (Int32 × MS) := fX11_restoreState_0  M
def fX11_starts_55 (M : MS) : Option (MS) := some M
def fX11_starts_52 (M : MS) (s0 : Int32) : Option (MS) := (fX11_swearsIn M s0).bind fun q => fX11_starts_55 q
def fX11_starts_46 (M : MS) : Option (MS) := (fX11_shiftCat M 0).bind fun q => fX11_starts_52 M q
def fX11_starts_45 (M : MS) (s0 : Int32) (s1 : Int32) : Option (MS) := if gIn s1 257 then fX11_starts_46 (M.1, va_up M.2 0 (upd (M.2 0) s1.toNatClampNeg s0)) else none
def fX11_starts_34 (M : MS) : Option (MS) := (fX11_shiftHours M 0).bind fun q => fX11_starts_45 M q 7
def fX11_starts_33 (M : MS) (s0 : Int32) (s1 : Int32) : Option (MS) := if gIn s1 257 then fX11_starts_34 (M.1, va_up M.2 0 (upd (M.2 0) s1.toNatClampNeg s0)) else none
def fX11_starts_17 (M : MS) : Option (MS) := (fX11_sumOf M 161 1 7).bind fun q => fX11_starts_33 M q 15
def fX11_starts_16 (M : MS) (s0 : Int32) (s1 : Int32) : Option (MS) := if gIn s1 257 then fX11_starts_17 (M.1, va_up M.2 0 (upd (M.2 0) s1.toNatClampNeg s0)) else none
def fX11_starts_0 (M : MS) : Option (MS) := (fX11_sumOf M 161 1 8).bind fun q => fX11_starts_16 M q 14
def fX11_starts (M : MS) : Option (MS) := fX11_starts_0  M
def fX11_nextOpen_46 (M : MS) : Option (Int32) := some (-1)
def fX11_nextOpen_40 (K2 : MS → Int32 → Int32 → Option (Int32)) (M : MS) (x1 : Int32) (x2 : Int32) : Option (Int32) := K2 M x1 (x2 + 1)
def fX11_nextOpen_29 (M : MS) (x1 : Int32) (x2 : Int32) : Option (Int32) := if gIn 1 257 then if ¬ (M.2 0 (1 : Int32).toNatClampNeg) = 0 then some ((x1 + x2) - (x1 + x2) / (M.2 0 (1 : Int32).toNatClampNeg) * (M.2 0 (1 : Int32).toNatClampNeg)) else none else none
def fX11_nextOpen_26 (K2 : MS → Int32 → Int32 → Option (Int32)) (M : MS) (x1 : Int32) (x2 : Int32) (s0 : Int32) : Option (Int32) := if s0 = 0 then fX11_nextOpen_40 K2 M x1 x2 else fX11_nextOpen_29 M x1 x2
def fX11_nextOpen_12 (K2 : MS → Int32 → Int32 → Option (Int32)) (M : MS) (x1 : Int32) (x2 : Int32) : Option (Int32) := if gIn 1 257 then if ¬ (M.2 0 (1 : Int32).toNatClampNeg) = 0 then (fX11_isOpenSack M ((x1 + x2) - (x1 + x2) / (M.2 0 (1 : Int32).toNatClampNeg) * (M.2 0 (1 : Int32).toNatClampNeg))).bind fun q => fX11_nextOpen_26 K2 M x1 x2 q else none else none
def fX11_nextOpen_2 : Nat → MS → Int32 → Int32 → Option (Int32)
  | 0 => fun _ _ _ => none
  | k + 1 => fun M x1 x2 => if gIn 1 257 then if (M.2 0 (1 : Int32).toNatClampNeg) ≤ x2 then fX11_nextOpen_46 M else fX11_nextOpen_12 (fX11_nextOpen_2 k) M x1 x2 else none
def fX11_nextOpen_0 (M : MS) (a1 : Int32) : Option (Int32) := fX11_nextOpen_2 FU M a1 1
def fX11_nextOpen (M : MS) (a1 : Int32) : Option (Int32) := fX11_nextOpen_0  M a1
def fX11_moves_57 (M : MS) : Option (MS) := some M
def fX11_moves_51 (M : MS) (s0 : Int32) (s1 : Int32) : Option (MS) := (fX11_starve M s1 (s0 - 99)).bind fun q => fX11_moves_57 q
def fX11_moves_42 (M : MS) (x2 : Int32) : Option (MS) := (fX11_ofSack M x2 8).bind fun q => fX11_moves_51 M q x2
def fX11_moves_37 (M : MS) (x2 : Int32) (s0 : Int32) : Option (MS) := if s0 ≤ 99 then fX11_moves_57 M else fX11_moves_42 M x2
def fX11_moves_30 (M : MS) (x2 : Int32) : Option (MS) := (fX11_ofSack M x2 8).bind fun q => fX11_moves_37 M x2 q
def fX11_moves_22 (M : MS) (x1 : Int32) (x2 : Int32) : Option (MS) := (fX11_putsSack M x1 8 0).bind fun q => fX11_moves_30 q x2
def fX11_moves_18 (M : MS) (x1 : Int32) (x2 : Int32) (s0 : Int32) (s1 : Int32) (s2 : Int32) (s3 : Int32) : Option (MS) := (fX11_putsSack M s3 s2 (s1 + s0)).bind fun q => fX11_moves_22 q x1 x2
def fX11_moves_11 (M : MS) (x1 : Int32) (x2 : Int32) (s0 : Int32) (s1 : Int32) (s2 : Int32) : Option (MS) := (fX11_ofSack M x1 8).bind fun q => fX11_moves_18 M x1 x2 q s0 s1 s2
def fX11_moves_0 (M : MS) (a1 : Int32) (a2 : Int32) : Option (MS) := (fX11_ofSack M a2 8).bind fun q => fX11_moves_11 M a1 a2 q 8 a2
def fX11_moves (M : MS) (a1 : Int32) (a2 : Int32) : Option (MS) := fX11_moves_0  M a1 a2
def fX11_hunted_65 (M : MS) (x1 : Int32) : Option (Int32) := some x1
def fX11_hunted_59 (K4 : MS → Int32 → Int32 → Option (Int32)) (M : MS) (x1 : Int32) (x2 : Int32) : Option (Int32) := K4 M x1 (x2 + 1)
def fX11_hunted_57 (K4 : MS → Int32 → Int32 → Option (Int32)) (M : MS) (x2 : Int32) : Option (Int32) := fX11_hunted_59 K4 M x2 x2
def fX11_hunted_54 (K4 : MS → Int32 → Int32 → Option (Int32)) (M : MS) (x1 : Int32) (x2 : Int32) (s0 : Int32) (s1 : Int32) : Option (Int32) := if s1 ≤ s0 then fX11_hunted_59 K4 M x1 x2 else fX11_hunted_57 K4 M x2
def fX11_hunted_47 (K4 : MS → Int32 → Int32 → Option (Int32)) (M : MS) (x1 : Int32) (x2 : Int32) (s0 : Int32) : Option (Int32) := (fX11_ofSack M x1 8).bind fun q => fX11_hunted_54 K4 M x1 x2 q s0
def fX11_hunted_40 (K4 : MS → Int32 → Int32 → Option (Int32)) (M : MS) (x1 : Int32) (x2 : Int32) : Option (Int32) := (fX11_ofSack M x2 8).bind fun q => fX11_hunted_47 K4 M x1 x2 q
def fX11_hunted_35 (K4 : MS → Int32 → Int32 → Option (Int32)) (M : MS) (x1 : Int32) (x2 : Int32) : Option (Int32) := if x1 = (-1) then fX11_hunted_57 K4 M x2 else fX11_hunted_40 K4 M x1 x2
def fX11_hunted_32 (K4 : MS → Int32 → Int32 → Option (Int32)) (M : MS) (x1 : Int32) (x2 : Int32) : Option (Int32) := fX11_hunted_59 K4 M x1 x2
def fX11_hunted_29 (K4 : MS → Int32 → Int32 → Option (Int32)) (M : MS) (x1 : Int32) (x2 : Int32) (s0 : Int32) : Option (Int32) := if s0 = 0 then fX11_hunted_32 K4 M x1 x2 else fX11_hunted_35 K4 M x1 x2
def fX11_hunted_22 (K4 : MS → Int32 → Int32 → Option (Int32)) (M : MS) (x1 : Int32) (x2 : Int32) : Option (Int32) := (fX11_ofSack M x2 8).bind fun q => fX11_hunted_29 K4 M x1 x2 q
def fX11_hunted_19 (K4 : MS → Int32 → Int32 → Option (Int32)) (M : MS) (x1 : Int32) (x2 : Int32) (s0 : Int32) : Option (Int32) := if s0 = 0 then fX11_hunted_59 K4 M x1 x2 else fX11_hunted_22 K4 M x1 x2
def fX11_hunted_14 (K4 : MS → Int32 → Int32 → Option (Int32)) (M : MS) (x1 : Int32) (x2 : Int32) : Option (Int32) := (fX11_isOpenSack M x2).bind fun q => fX11_hunted_19 K4 M x1 x2 q
def fX11_hunted_4 : Nat → MS → Int32 → Int32 → Option (Int32)
  | 0 => fun _ _ _ => none
  | k + 1 => fun M x1 x2 => if gIn 1 257 then if (M.2 0 (1 : Int32).toNatClampNeg) ≤ x2 then fX11_hunted_65 M x1 else fX11_hunted_14 (fX11_hunted_4 k) M x1 x2 else none
def fX11_hunted_0 (M : MS) : Option (Int32) := fX11_hunted_4 FU M (-1) 0
def fX11_hunted (M : MS) : Option (Int32) := fX11_hunted_0  M
def fX11_swears_67 (M : MS) : Option (MS) := some M
def fX11_swears_60 (M : MS) (x1 : Int32) (x2 : Int32) : Option (MS) := (fX11_logs M 3 x1 x2).bind fun q => fX11_swears_67 q
def fX11_swears_49 (M : MS) (x1 : Int32) (x2 : Int32) : Option (MS) := if gIn 13 257 then if gIn 13 257 then fX11_swears_60 (M.1, va_up M.2 0 (upd (M.2 0) (13 : Int32).toNatClampNeg ((M.2 0 (13 : Int32).toNatClampNeg) + 1))) x1 x2 else none else none
def fX11_swears_42 (M : MS) (x1 : Int32) (x2 : Int32) : Option (MS) := if gIn 5 257 then fX11_swears_49 (M.1, va_up M.2 0 (upd (M.2 0) (5 : Int32).toNatClampNeg (-1))) x1 x2 else none
def fX11_swears_41 (M : MS) : Option (MS) := some M
def fX11_swears_34 (M : MS) (x1 : Int32) (x2 : Int32) : Option (MS) := (fX11_logs M 2 x1 x2).bind fun q => fX11_swears_41 q
def fX11_swears_29 (M : MS) (x1 : Int32) (x2 : Int32) : Option (MS) := (fX11_swearsIn M x1).bind fun q => fX11_swears_34 q x1 x2
def fX11_swears_26 (M : MS) (x1 : Int32) (x2 : Int32) (s0 : Int32) : Option (MS) := if s0 = 0 then fX11_swears_42 M x1 x2 else fX11_swears_29 M x1 x2
def fX11_swears_21 (M : MS) (x1 : Int32) (x2 : Int32) : Option (MS) := (fX11_isPawRight M x1).bind fun q => fX11_swears_26 M x1 x2 q
def fX11_swears_18 (M : MS) (x1 : Int32) (x2 : Int32) (s0 : Int32) : Option (MS) := if s0 = 0 then fX11_swears_42 M x1 x2 else fX11_swears_21 M x1 x2
def fX11_swears_13 (M : MS) (x1 : Int32) (x2 : Int32) : Option (MS) := (fX11_isAble M x1).bind fun q => fX11_swears_18 M x1 x2 q
def fX11_swears_12 (M : MS) : Option (MS) := some M
def fX11_swears_0 (M : MS) (a1 : Int32) : Option (MS) := if gIn 5 257 then if (M.2 0 (5 : Int32).toNatClampNeg) = (-1) then fX11_swears_12 M else fX11_swears_13 M a1 (M.2 0 (5 : Int32).toNatClampNeg) else none
def fX11_swears (M : MS) (a1 : Int32) : Option (MS) := fX11_swears_0  M a1
set_option maxRecDepth 10000 in
theorem kX11_rests_20 {S1 : MS} {M : MS} {H : Heap} {locs : List Loc} {ls : Array Slot} (X : gX p s m args c cX11_rests 3 RX11 (kR kTab kA)) (hret : gRetV p l e (rmL 2 0 0) s m args below meth c cX11_rests (mΩ ad) (mP dC dI cI kA ad) Q S1) (hf : fX11_rests_20 M = some S1) (hP : (mP dC dI cI kA ad) M s H) (hS : va_S (Fr (mΩ ad) s.heap.size) s.heap H locs) (hl : lv_has ls 3 [(0, .ref (ad 25))]) : W p l e (rmL 2 0 0) s m args below meth c H locs 0 0 Q (F0 m 20 ls []) := by
  have hx := X.hx
  have hb := X.hb
  have hown := X.hown
  have hts := X.hts
  rw [fX11_rests_20] at hf
  cases hf
  exact hret _ _ _ _ dX11_rests_20 hP hS
set_option maxRecDepth 10000 in
theorem kX11_rests_12 {S1 : MS} {M : MS} {x2 : Int32} {s0 : Int32} {s1 : Int32} {s2 : Int32} {s3 : Int32} {H : Heap} {locs : List Loc} {ls : Array Slot} (X : gX p s m args c cX11_rests 3 RX11 (kR kTab kA)) (hret : gRetV p l e (rmL 2 0 0) s m args below meth c cX11_rests (mΩ ad) (mP dC dI cI kA ad) Q S1) (hf : fX11_rests_12 M x2 s0 s1 s2 s3 = some S1) (hP : (mP dC dI cI kA ad) M s H) (hS : va_S (Fr (mΩ ad) s.heap.size) s.heap H locs) (hl : lv_has ls 3 [(0, .ref (ad 25)), (2, .int x2)]) : W p l e (rmL 2 0 0) s m args below meth c H locs 0 0 Q (F0 m 12 ls [.int s0, .int s1, .int s2, .int s3, .ref (ad 25)]) := by
  have hx := X.hx
  have hb := X.hb
  have hown := X.hown
  have hts := X.hts
  rw [fX11_rests_12] at hf
  refine lv_iload_n hx hb dX11_rests_12 rfl (lv_at hl 1 rfl) ?_
  refine lv_isub hx hb dX11_rests_13 ?_
  refine gMax X rfl tw1950 tw574 tw24 tw575 (by decide) hl.1 (Nat.le_of_ble_eq_true rfl) ⟨Nat.zero_le _, Nat.zero_le _⟩ dX11_rests_14 ?_
  obtain ⟨q, hc, hf⟩ := bd hf
  refine gCallVV X mOK rfl (vX11_putsCat hc) gRX11_X11_putsCat hdX11_putsCat rfl ⟨by decide, by decide⟩ hP hS (mrec hP) hl.1 (Nat.le_of_ble_eq_true rfl) ⟨Nat.le_refl _, Nat.le_refl _⟩ dX11_rests_17 (As := [.int s3, .int s2, .int (if s1 < (s0 - x2) then (s0 - x2) else s1)]) (rest := []) rfl (fun H locs hP hS => ?_)
  exact kX11_rests_20 X hret hf hP hS (lv_sub hl [0] rfl)
set_option maxRecDepth 10000 in
theorem kX11_rests_0 {S1 : MS} {M : MS} {a1 : Int32} {a2 : Int32} {H : Heap} {locs : List Loc} {ls : Array Slot} (X : gX p s m args c cX11_rests 3 RX11 (kR kTab kA)) (hret : gRetV p l e (rmL 2 0 0) s m args below meth c cX11_rests (mΩ ad) (mP dC dI cI kA ad) Q S1) (hf : fX11_rests_0 M a1 a2 = some S1) (hP : (mP dC dI cI kA ad) M s H) (hS : va_S (Fr (mΩ ad) s.heap.size) s.heap H locs) (hl : lv_has ls 3 [(0, .ref (ad 25)), (1, .int a1), (2, .int a2)]) : W p l e (rmL 2 0 0) s m args below meth c H locs 0 0 Q (F0 m 0 ls []) := by
  have hx := X.hx
  have hb := X.hb
  have hown := X.hown
  have hts := X.hts
  rw [fX11_rests_0] at hf
  refine lv_aload_n hx hb dX11_rests_0 rfl (lv_at hl 0 rfl) ?_
  refine lv_iload_n hx hb dX11_rests_1 rfl (lv_at hl 1 rfl) ?_
  refine lv_bipush (v := 9) hx hb dX11_rests_2 (by decide) ?_
  refine lv_iconst (v := 0) hx hb dX11_rests_4 (by decide) ?_
  refine lv_aload_n hx hb dX11_rests_5 rfl (lv_at hl 0 rfl) ?_
  refine lv_iload_n hx hb dX11_rests_6 rfl (lv_at hl 1 rfl) ?_
  refine lv_bipush (v := 9) hx hb dX11_rests_7 (by decide) ?_
  obtain ⟨q, hc, hf⟩ := bd hf
  refine gCallVR X rfl (vX11_ofCat hc) gRX11_X11_ofCat hdX11_ofCat rfl ⟨by decide, by decide⟩ (gB_blind mOK) (gB_at mOK X hP) (mrec hP) hl.1 (Nat.le_of_ble_eq_true rfl) ⟨Nat.le_refl _, Nat.le_refl _⟩ dX11_rests_9 (As := [.int a1, .int 9]) (rest := [.int 0, .int 9, .int a1, .ref (ad 25)]) rfl ?_
  exact kX11_rests_12 X hret hf hP hS (lv_sub hl [0, 2] rfl)
theorem vX11_rests {l : Launch} {dC : Nat → ClassId} {dI : Nat → Nat → Nat} {cI : ClassId} {kA : String → Nat → Nat} {ad : Nat → Nat} {M S1 : MS} {a1 : Int32} {a2 : Int32} (hf : fX11_rests M a1 a2 = some S1) : gMetV l yX11_rests cX11_rests 3 2 (mΩ ad) (mP dC dI cI kA ad) (kR kTab kA) [.ref (ad 25), .int a1, .int a2] M S1 := gEntryV (by decide) mOK (Nat.le_of_ble_eq_true rfl) (fun p e s m args below meth c Q ls X hP hS hret hl => 
  kX11_rests_0 X hret hf hP hS (lv_sub hl [0, 1, 2] rfl))
set_option maxRecDepth 10000 in
theorem kX11_isOpenSack_16 {r : Int32} {M : MS} {s0 : Int32} (X : gX p s m args c cX11_isOpenSack 2 RX11 (kR kTab kA)) (hret : gRetR p l e (rmL 2 0 0) s m args below meth c cX11_isOpenSack Q r) (hf : fX11_isOpenSack_16 M s0 = some r) {ls : Array Slot} (hP : (mP dC dI cI kA ad) M s s.heap) (hl : lv_has ls 2 [(0, .ref (ad 25))]) : W p l e (rmL 2 0 0) s m args below meth c s.heap [] 0 0 Q (F0 m 16 ls [.int s0]) := by
  have hx := X.hx
  have hb := X.hb
  have hown := X.hown
  have hts := X.hts
  rw [fX11_isOpenSack_16] at hf
  cases hf
  exact hret _ _ dX11_isOpenSack_16
set_option maxRecDepth 10000 in
theorem kX11_isOpenSack_15 {r : Int32} {M : MS} (X : gX p s m args c cX11_isOpenSack 2 RX11 (kR kTab kA)) (hret : gRetR p l e (rmL 2 0 0) s m args below meth c cX11_isOpenSack Q r) (hf : fX11_isOpenSack_15 M = some r) {ls : Array Slot} (hP : (mP dC dI cI kA ad) M s s.heap) (hl : lv_has ls 2 [(0, .ref (ad 25))]) : W p l e (rmL 2 0 0) s m args below meth c s.heap [] 0 0 Q (F0 m 15 ls []) := by
  have hx := X.hx
  have hb := X.hb
  have hown := X.hown
  have hts := X.hts
  rw [fX11_isOpenSack_15] at hf
  refine lv_iconst (v := 0) hx hb dX11_isOpenSack_15 (by decide) ?_
  exact kX11_isOpenSack_16 X hret hf hP (lv_sub hl [0] rfl)
set_option maxRecDepth 10000 in
theorem kX11_isOpenSack_11 {r : Int32} {M : MS} (X : gX p s m args c cX11_isOpenSack 2 RX11 (kR kTab kA)) (hret : gRetR p l e (rmL 2 0 0) s m args below meth c cX11_isOpenSack Q r) (hf : fX11_isOpenSack_11 M = some r) {ls : Array Slot} (hP : (mP dC dI cI kA ad) M s s.heap) (hl : lv_has ls 2 [(0, .ref (ad 25))]) : W p l e (rmL 2 0 0) s m args below meth c s.heap [] 0 0 Q (F0 m 11 ls []) := by
  have hx := X.hx
  have hb := X.hb
  have hown := X.hown
  have hts := X.hts
  rw [fX11_isOpenSack_11] at hf
  refine lv_iconst (v := 1) hx hb dX11_isOpenSack_11 (by decide) ?_
  refine lv_goto (tgt := 16) hx hb dX11_isOpenSack_12 (by decide) ?_
  exact kX11_isOpenSack_16 X hret hf hP (lv_sub hl [0] rfl)
set_option maxRecDepth 10000 in
theorem kX11_isOpenSack_7 {r : Int32} {M : MS} {s0 : Int32} (X : gX p s m args c cX11_isOpenSack 2 RX11 (kR kTab kA)) (hret : gRetR p l e (rmL 2 0 0) s m args below meth c cX11_isOpenSack Q r) (hf : fX11_isOpenSack_7 M s0 = some r) {ls : Array Slot} (hP : (mP dC dI cI kA ad) M s s.heap) (hl : lv_has ls 2 [(0, .ref (ad 25))]) : W p l e (rmL 2 0 0) s m args below meth c s.heap [] 0 0 Q (F0 m 7 ls [.int s0]) := by
  have hx := X.hx
  have hb := X.hb
  have hown := X.hown
  have hts := X.hts
  rw [fX11_isOpenSack_7] at hf
  refine lv_iconst (v := 1) hx hb dX11_isOpenSack_7 (by decide) ?_
  refine lv_icmp_ne (tgt := 15) hx hb dX11_isOpenSack_8 (by decide) (fun c1 => ?_) (fun c1 => ?_)
  · exact kX11_isOpenSack_15 X hret (ifn c1 hf) hP (lv_sub hl [0] rfl)
  · exact kX11_isOpenSack_11 X hret (ifp c1 hf) hP (lv_sub hl [0] rfl)
set_option maxRecDepth 10000 in
theorem kX11_isOpenSack_0 {r : Int32} {M : MS} {a1 : Int32} (X : gX p s m args c cX11_isOpenSack 2 RX11 (kR kTab kA)) (hret : gRetR p l e (rmL 2 0 0) s m args below meth c cX11_isOpenSack Q r) (hf : fX11_isOpenSack_0 M a1 = some r) {ls : Array Slot} (hP : (mP dC dI cI kA ad) M s s.heap) (hl : lv_has ls 2 [(0, .ref (ad 25)), (1, .int a1)]) : W p l e (rmL 2 0 0) s m args below meth c s.heap [] 0 0 Q (F0 m 0 ls []) := by
  have hx := X.hx
  have hb := X.hb
  have hown := X.hown
  have hts := X.hts
  rw [fX11_isOpenSack_0] at hf
  refine lv_aload_n hx hb dX11_isOpenSack_0 rfl (lv_at hl 0 rfl) ?_
  refine lv_iload_n hx hb dX11_isOpenSack_1 rfl (lv_at hl 1 rfl) ?_
  refine lv_bipush (v := 9) hx hb dX11_isOpenSack_2 (by decide) ?_
  obtain ⟨q, hc, hf⟩ := bd hf
  refine gCallVR X rfl (vX11_ofSack hc) gRX11_X11_ofSack hdX11_ofSack rfl ⟨by decide, by decide⟩ (gB_blind mOK) (gB_at mOK X hP) (mrec hP) hl.1 (Nat.le_of_ble_eq_true rfl) ⟨Nat.le_refl _, Nat.le_refl _⟩ dX11_isOpenSack_4 (As := [.int a1, .int 9]) (rest := []) rfl ?_
  exact kX11_isOpenSack_7 X hret hf hP (lv_sub hl [0] rfl)
theorem vX11_isOpenSack {l : Launch} {dC : Nat → ClassId} {dI : Nat → Nat → Nat} {cI : ClassId} {kA : String → Nat → Nat} {ad : Nat → Nat} {M : MS} {r : Int32} {a1 : Int32} (hf : fX11_isOpenSack M a1 = some r) : gMetR l yX11_isOpenSack cX11_isOpenSack 2 (some .boolean) 2 (gB (mP dC dI cI kA ad) (kR kTab kA) M) [.ref (ad 25), .int a1] r := gEntryR (ty := .boolean) (by decide) rfl (bq_n hf) (Nat.le_of_ble_eq_true rfl) (fun _ h => h.2) (fun p e s m args below meth c Q ls X hB hret hl => 
  kX11_isOpenSack_0 X hret (bq_f hf) hB.1 (lv_sub hl [0, 1] rfl))
set_option maxRecDepth 10000 in
theorem kX11_starve_27 {S1 : MS} {M : MS} {H : Heap} {locs : List Loc} {ls : Array Slot} (X : gX p s m args c cX11_starve 3 RX11 (kR kTab kA)) (hret : gRetV p l e (rmL 2 0 0) s m args below meth c cX11_starve (mΩ ad) (mP dC dI cI kA ad) Q S1) (hf : fX11_starve_27 M = some S1) (hP : (mP dC dI cI kA ad) M s H) (hS : va_S (Fr (mΩ ad) s.heap.size) s.heap H locs) (hl : lv_has ls 3 [(0, .ref (ad 25))]) : W p l e (rmL 2 0 0) s m args below meth c H locs 0 0 Q (F0 m 27 ls []) := by
  have hx := X.hx
  have hb := X.hb
  have hown := X.hown
  have hts := X.hts
  rw [fX11_starve_27] at hf
  cases hf
  exact hret _ _ _ _ dX11_starve_27 hP hS
set_option maxRecDepth 10000 in
theorem kX11_starve_16 {S1 : MS} {M : MS} {x2 : Int32} {H : Heap} {locs : List Loc} {ls : Array Slot} (X : gX p s m args c cX11_starve 3 RX11 (kR kTab kA)) (hret : gRetV p l e (rmL 2 0 0) s m args below meth c cX11_starve (mΩ ad) (mP dC dI cI kA ad) Q S1) (hf : fX11_starve_16 M x2 = some S1) (hP : (mP dC dI cI kA ad) M s H) (hS : va_S (Fr (mΩ ad) s.heap.size) s.heap H locs) (hl : lv_has ls 3 [(0, .ref (ad 25)), (2, .int x2)]) : W p l e (rmL 2 0 0) s m args below meth c H locs 0 0 Q (F0 m 16 ls []) := by
  have hx := X.hx
  have hb := X.hb
  have hown := X.hown
  have hts := X.hts
  rw [fX11_starve_16] at hf
  refine lv_aload_n hx hb dX11_starve_16 rfl (lv_at hl 0 rfl) ?_
  refine mr_get (k := 0) X hP (by decide) rfl rfl tw1665 dX11_starve_17 ?_
  refine lv_bipush (v := 11) hx hb dX11_starve_20 (by decide) ?_
  refine lv_dup2_11 hx hb dX11_starve_22 rfl rfl ?_
  obtain ⟨g1, hf⟩ := gd hf
  refine mr_ald (a := 0) X hP rfl g1 dX11_starve_23 ?_
  refine lv_iload_n hx hb dX11_starve_24 rfl (lv_at hl 1 rfl) ?_
  refine lv_iadd hx hb dX11_starve_25 ?_
  obtain ⟨g2, hf⟩ := gd hf
  refine mr_ast (a := 0) X hP hS rfl g2 dX11_starve_26 (fun H locs hP hS => ?_)
  exact kX11_starve_27 X hret hf hP hS (lv_sub hl [0] rfl)
set_option maxRecDepth 10000 in
theorem kX11_starve_11 {S1 : MS} {M : MS} {x2 : Int32} {s0 : Int32} {s1 : Int32} {s2 : Int32} {H : Heap} {locs : List Loc} {ls : Array Slot} (X : gX p s m args c cX11_starve 3 RX11 (kR kTab kA)) (hret : gRetV p l e (rmL 2 0 0) s m args below meth c cX11_starve (mΩ ad) (mP dC dI cI kA ad) Q S1) (hf : fX11_starve_11 M x2 s0 s1 s2 = some S1) (hP : (mP dC dI cI kA ad) M s H) (hS : va_S (Fr (mΩ ad) s.heap.size) s.heap H locs) (hl : lv_has ls 3 [(0, .ref (ad 25)), (2, .int x2)]) : W p l e (rmL 2 0 0) s m args below meth c H locs 0 0 Q (F0 m 11 ls [.int s0, .int s1, .int s2, .ref (ad 25)]) := by
  have hx := X.hx
  have hb := X.hb
  have hown := X.hown
  have hts := X.hts
  rw [fX11_starve_11] at hf
  refine lv_iload_n hx hb dX11_starve_11 rfl (lv_at hl 1 rfl) ?_
  refine lv_isub hx hb dX11_starve_12 ?_
  obtain ⟨q, hc, hf⟩ := bd hf
  refine gCallVV X mOK rfl (vX11_putsSack hc) gRX11_X11_putsSack hdX11_putsSack rfl ⟨by decide, by decide⟩ hP hS (mrec hP) hl.1 (Nat.le_of_ble_eq_true rfl) ⟨Nat.le_refl _, Nat.le_refl _⟩ dX11_starve_13 (As := [.int s2, .int s1, .int (s0 - x2)]) (rest := []) rfl (fun H locs hP hS => ?_)
  exact kX11_starve_16 X hret hf hP hS (lv_sub hl [0, 1] rfl)
set_option maxRecDepth 10000 in
theorem kX11_starve_0 {S1 : MS} {M : MS} {a1 : Int32} {a2 : Int32} {H : Heap} {locs : List Loc} {ls : Array Slot} (X : gX p s m args c cX11_starve 3 RX11 (kR kTab kA)) (hret : gRetV p l e (rmL 2 0 0) s m args below meth c cX11_starve (mΩ ad) (mP dC dI cI kA ad) Q S1) (hf : fX11_starve_0 M a1 a2 = some S1) (hP : (mP dC dI cI kA ad) M s H) (hS : va_S (Fr (mΩ ad) s.heap.size) s.heap H locs) (hl : lv_has ls 3 [(0, .ref (ad 25)), (1, .int a1), (2, .int a2)]) : W p l e (rmL 2 0 0) s m args below meth c H locs 0 0 Q (F0 m 0 ls []) := by
  have hx := X.hx
  have hb := X.hb
  have hown := X.hown
  have hts := X.hts
  rw [fX11_starve_0] at hf
  refine lv_aload_n hx hb dX11_starve_0 rfl (lv_at hl 0 rfl) ?_
  refine lv_iload_n hx hb dX11_starve_1 rfl (lv_at hl 1 rfl) ?_
  refine lv_bipush (v := 8) hx hb dX11_starve_2 (by decide) ?_
  refine lv_aload_n hx hb dX11_starve_4 rfl (lv_at hl 0 rfl) ?_
  refine lv_iload_n hx hb dX11_starve_5 rfl (lv_at hl 1 rfl) ?_
  refine lv_bipush (v := 8) hx hb dX11_starve_6 (by decide) ?_
  obtain ⟨q, hc, hf⟩ := bd hf
  refine gCallVR X rfl (vX11_ofSack hc) gRX11_X11_ofSack hdX11_ofSack rfl ⟨by decide, by decide⟩ (gB_blind mOK) (gB_at mOK X hP) (mrec hP) hl.1 (Nat.le_of_ble_eq_true rfl) ⟨Nat.le_refl _, Nat.le_refl _⟩ dX11_starve_8 (As := [.int a1, .int 8]) (rest := [.int 8, .int a1, .ref (ad 25)]) rfl ?_
  exact kX11_starve_11 X hret hf hP hS (lv_sub hl [0, 2] rfl)
theorem vX11_starve {l : Launch} {dC : Nat → ClassId} {dI : Nat → Nat → Nat} {cI : ClassId} {kA : String → Nat → Nat} {ad : Nat → Nat} {M S1 : MS} {a1 : Int32} {a2 : Int32} (hf : fX11_starve M a1 a2 = some S1) : gMetV l yX11_starve cX11_starve 3 2 (mΩ ad) (mP dC dI cI kA ad) (kR kTab kA) [.ref (ad 25), .int a1, .int a2] M S1 := gEntryV (by decide) mOK (Nat.le_of_ble_eq_true rfl) (fun p e s m args below meth c Q ls X hP hS hret hl => 
  kX11_starve_0 X hret hf hP hS (lv_sub hl [0, 1, 2] rfl))
set_option maxRecDepth 10000 in
theorem kX11_breeds_50 {S1 : MS} {M : MS} {H : Heap} {locs : List Loc} {ls : Array Slot} (X : gX p s m args c cX11_breeds 3 RX11 (kR kTab kA)) (hret : gRetV p l e (rmL 2 0 0) s m args below meth c cX11_breeds (mΩ ad) (mP dC dI cI kA ad) Q S1) (hf : fX11_breeds_50 M = some S1) (hP : (mP dC dI cI kA ad) M s H) (hS : va_S (Fr (mΩ ad) s.heap.size) s.heap H locs) (hl : lv_has ls 3 [(0, .ref (ad 25))]) : W p l e (rmL 2 0 0) s m args below meth c H locs 0 0 Q (F0 m 50 ls []) := by
  have hx := X.hx
  have hb := X.hb
  have hown := X.hown
  have hts := X.hts
  rw [fX11_breeds_50] at hf
  cases hf
  exact hret _ _ _ _ dX11_breeds_50 hP hS
set_option maxRecDepth 10000 in
theorem kX11_breeds_39 {S1 : MS} {M : MS} {x2 : Int32} {H : Heap} {locs : List Loc} {ls : Array Slot} (X : gX p s m args c cX11_breeds 3 RX11 (kR kTab kA)) (hret : gRetV p l e (rmL 2 0 0) s m args below meth c cX11_breeds (mΩ ad) (mP dC dI cI kA ad) Q S1) (hf : fX11_breeds_39 M x2 = some S1) (hP : (mP dC dI cI kA ad) M s H) (hS : va_S (Fr (mΩ ad) s.heap.size) s.heap H locs) (hl : lv_has ls 3 [(0, .ref (ad 25)), (2, .int x2)]) : W p l e (rmL 2 0 0) s m args below meth c H locs 0 0 Q (F0 m 39 ls []) := by
  have hx := X.hx
  have hb := X.hb
  have hown := X.hown
  have hts := X.hts
  rw [fX11_breeds_39] at hf
  refine lv_aload_n hx hb dX11_breeds_39 rfl (lv_at hl 0 rfl) ?_
  refine mr_get (k := 0) X hP (by decide) rfl rfl tw1665 dX11_breeds_40 ?_
  refine lv_bipush (v := 10) hx hb dX11_breeds_43 (by decide) ?_
  refine lv_dup2_11 hx hb dX11_breeds_45 rfl rfl ?_
  obtain ⟨g1, hf⟩ := gd hf
  refine mr_ald (a := 0) X hP rfl g1 dX11_breeds_46 ?_
  refine lv_iload_n hx hb dX11_breeds_47 rfl (lv_at hl 1 rfl) ?_
  refine lv_iadd hx hb dX11_breeds_48 ?_
  obtain ⟨g2, hf⟩ := gd hf
  refine mr_ast (a := 0) X hP hS rfl g2 dX11_breeds_49 (fun H locs hP hS => ?_)
  exact kX11_breeds_50 X hret hf hP hS (lv_sub hl [0] rfl)
set_option maxRecDepth 10000 in
theorem kX11_breeds_34 {S1 : MS} {M : MS} {x2 : Int32} {s0 : Int32} {s1 : Int32} {s2 : Int32} {H : Heap} {locs : List Loc} {ls : Array Slot} (X : gX p s m args c cX11_breeds 3 RX11 (kR kTab kA)) (hret : gRetV p l e (rmL 2 0 0) s m args below meth c cX11_breeds (mΩ ad) (mP dC dI cI kA ad) Q S1) (hf : fX11_breeds_34 M x2 s0 s1 s2 = some S1) (hP : (mP dC dI cI kA ad) M s H) (hS : va_S (Fr (mΩ ad) s.heap.size) s.heap H locs) (hl : lv_has ls 3 [(0, .ref (ad 25)), (2, .int x2)]) : W p l e (rmL 2 0 0) s m args below meth c H locs 0 0 Q (F0 m 34 ls [.int s0, .int s1, .int s2, .ref (ad 25)]) := by
  have hx := X.hx
  have hb := X.hb
  have hown := X.hown
  have hts := X.hts
  rw [fX11_breeds_34] at hf
  refine lv_iload_n hx hb dX11_breeds_34 rfl (lv_at hl 1 rfl) ?_
  refine lv_iadd hx hb dX11_breeds_35 ?_
  obtain ⟨q, hc, hf⟩ := bd hf
  refine gCallVV X mOK rfl (vX11_putsSack hc) gRX11_X11_putsSack hdX11_putsSack rfl ⟨by decide, by decide⟩ hP hS (mrec hP) hl.1 (Nat.le_of_ble_eq_true rfl) ⟨Nat.le_refl _, Nat.le_refl _⟩ dX11_breeds_36 (As := [.int s2, .int s1, .int (s0 + x2)]) (rest := []) rfl (fun H locs hP hS => ?_)
  exact kX11_breeds_39 X hret hf hP hS (lv_sub hl [0, 1] rfl)
set_option maxRecDepth 10000 in
theorem kX11_breeds_18 {S1 : MS} {M : MS} {x1 : Int32} {s0 : Int32} {s1 : Int32} {s2 : Int32} {H : Heap} {locs : List Loc} {ls : Array Slot} (X : gX p s m args c cX11_breeds 3 RX11 (kR kTab kA)) (hret : gRetV p l e (rmL 2 0 0) s m args below meth c cX11_breeds (mΩ ad) (mP dC dI cI kA ad) Q S1) (hf : fX11_breeds_18 M x1 s0 s1 s2 = some S1) (hP : (mP dC dI cI kA ad) M s H) (hS : va_S (Fr (mΩ ad) s.heap.size) s.heap H locs) (hl : lv_has ls 3 [(0, .ref (ad 25)), (1, .int x1)]) : W p l e (rmL 2 0 0) s m args below meth c H locs 0 0 Q (F0 m 18 ls [.int s0, .int s1, .int s2]) := by
  have hx := X.hx
  have hb := X.hb
  have hown := X.hown
  have hts := X.hts
  rw [fX11_breeds_18] at hf
  refine lv_isub hx hb dX11_breeds_18 ?_
  refine gMin X rfl tw1917 tw592 tw24 tw593 (by decide) hl.1 (Nat.le_of_ble_eq_true rfl) ⟨Nat.zero_le _, Nat.zero_le _⟩ dX11_breeds_19 ?_
  refine lv_istore_n (lv' := [(2, .int (if (s1 - s0) < s2 then (s1 - s0) else s2)), (0, .ref (ad 25)), (1, .int x1)]) hx hb dX11_breeds_22 rfl hl (by decide) rfl (fun ls hl => ?_)
  refine lv_aload_n hx hb dX11_breeds_23 rfl (lv_at hl 1 rfl) ?_
  refine lv_iload_n hx hb dX11_breeds_24 rfl (lv_at hl 2 rfl) ?_
  refine lv_bipush (v := 8) hx hb dX11_breeds_25 (by decide) ?_
  refine lv_aload_n hx hb dX11_breeds_27 rfl (lv_at hl 1 rfl) ?_
  refine lv_iload_n hx hb dX11_breeds_28 rfl (lv_at hl 2 rfl) ?_
  refine lv_bipush (v := 8) hx hb dX11_breeds_29 (by decide) ?_
  obtain ⟨q, hc, hf⟩ := bd hf
  refine gCallVR X rfl (vX11_ofSack hc) gRX11_X11_ofSack hdX11_ofSack rfl ⟨by decide, by decide⟩ (gB_blind mOK) (gB_at mOK X hP) (mrec hP) hl.1 (Nat.le_of_ble_eq_true rfl) ⟨Nat.le_refl _, Nat.le_refl _⟩ dX11_breeds_31 (As := [.int x1, .int 8]) (rest := [.int 8, .int x1, .ref (ad 25)]) rfl ?_
  exact kX11_breeds_34 X hret hf hP hS (lv_sub hl [1, 0] rfl)
set_option maxRecDepth 10000 in
theorem kX11_breeds_7 {S1 : MS} {M : MS} {x1 : Int32} {s0 : Int32} {H : Heap} {locs : List Loc} {ls : Array Slot} (X : gX p s m args c cX11_breeds 3 RX11 (kR kTab kA)) (hret : gRetV p l e (rmL 2 0 0) s m args below meth c cX11_breeds (mΩ ad) (mP dC dI cI kA ad) Q S1) (hf : fX11_breeds_7 M x1 s0 = some S1) (hP : (mP dC dI cI kA ad) M s H) (hS : va_S (Fr (mΩ ad) s.heap.size) s.heap H locs) (hl : lv_has ls 3 [(0, .ref (ad 25)), (1, .int x1)]) : W p l e (rmL 2 0 0) s m args below meth c H locs 0 0 Q (F0 m 7 ls [.int s0]) := by
  have hx := X.hx
  have hb := X.hb
  have hown := X.hown
  have hts := X.hts
  rw [fX11_breeds_7] at hf
  refine lv_iconst (v := 2) hx hb dX11_breeds_7 (by decide) ?_
  refine lv_idiv hx hb dX11_breeds_8 (by decide) ?_
  refine lv_bipush (v := 99) hx hb dX11_breeds_9 (by decide) ?_
  refine lv_aload_n hx hb dX11_breeds_11 rfl (lv_at hl 0 rfl) ?_
  refine lv_iload_n hx hb dX11_breeds_12 rfl (lv_at hl 1 rfl) ?_
  refine lv_bipush (v := 8) hx hb dX11_breeds_13 (by decide) ?_
  obtain ⟨q, hc, hf⟩ := bd hf
  refine gCallVR X rfl (vX11_ofSack hc) gRX11_X11_ofSack hdX11_ofSack rfl ⟨by decide, by decide⟩ (gB_blind mOK) (gB_at mOK X hP) (mrec hP) hl.1 (Nat.le_of_ble_eq_true rfl) ⟨Nat.le_refl _, Nat.le_refl _⟩ dX11_breeds_15 (As := [.int x1, .int 8]) (rest := [.int 99, .int (s0 / 2)]) rfl ?_
  exact kX11_breeds_18 X hret hf hP hS (lv_sub hl [0, 1] rfl)
set_option maxRecDepth 10000 in
theorem kX11_breeds_0 {S1 : MS} {M : MS} {a1 : Int32} {H : Heap} {locs : List Loc} {ls : Array Slot} (X : gX p s m args c cX11_breeds 3 RX11 (kR kTab kA)) (hret : gRetV p l e (rmL 2 0 0) s m args below meth c cX11_breeds (mΩ ad) (mP dC dI cI kA ad) Q S1) (hf : fX11_breeds_0 M a1 = some S1) (hP : (mP dC dI cI kA ad) M s H) (hS : va_S (Fr (mΩ ad) s.heap.size) s.heap H locs) (hl : lv_has ls 3 [(0, .ref (ad 25)), (1, .int a1)]) : W p l e (rmL 2 0 0) s m args below meth c H locs 0 0 Q (F0 m 0 ls []) := by
  have hx := X.hx
  have hb := X.hb
  have hown := X.hown
  have hts := X.hts
  rw [fX11_breeds_0] at hf
  refine lv_aload_n hx hb dX11_breeds_0 rfl (lv_at hl 0 rfl) ?_
  refine lv_iload_n hx hb dX11_breeds_1 rfl (lv_at hl 1 rfl) ?_
  refine lv_bipush (v := 8) hx hb dX11_breeds_2 (by decide) ?_
  obtain ⟨q, hc, hf⟩ := bd hf
  refine gCallVR X rfl (vX11_ofSack hc) gRX11_X11_ofSack hdX11_ofSack rfl ⟨by decide, by decide⟩ (gB_blind mOK) (gB_at mOK X hP) (mrec hP) hl.1 (Nat.le_of_ble_eq_true rfl) ⟨Nat.le_refl _, Nat.le_refl _⟩ dX11_breeds_4 (As := [.int a1, .int 8]) (rest := []) rfl ?_
  exact kX11_breeds_7 X hret hf hP hS (lv_sub hl [0, 1] rfl)
theorem vX11_breeds {l : Launch} {dC : Nat → ClassId} {dI : Nat → Nat → Nat} {cI : ClassId} {kA : String → Nat → Nat} {ad : Nat → Nat} {M S1 : MS} {a1 : Int32} (hf : fX11_breeds M a1 = some S1) : gMetV l yX11_breeds cX11_breeds 3 2 (mΩ ad) (mP dC dI cI kA ad) (kR kTab kA) [.ref (ad 25), .int a1] M S1 := gEntryV (by decide) mOK (Nat.le_of_ble_eq_true rfl) (fun p e s m args below meth c Q ls X hP hS hret hl => 
  kX11_breeds_0 X hret hf hP hS (lv_sub hl [0, 1] rfl))
set_option maxRecDepth 10000 in
theorem kX11_openMany_10 {r : Int32} {M : MS} {s0 : Int32} (X : gX p s m args c cX11_openMany 1 RX11 (kR kTab kA)) (hret : gRetR p l e (rmL 2 0 0) s m args below meth c cX11_openMany Q r) (hf : fX11_openMany_10 M s0 = some r) {ls : Array Slot} (hP : (mP dC dI cI kA ad) M s s.heap) (hl : lv_has ls 1 [(0, .ref (ad 25))]) : W p l e (rmL 2 0 0) s m args below meth c s.heap [] 0 0 Q (F0 m 10 ls [.int s0]) := by
  have hx := X.hx
  have hb := X.hb
  have hown := X.hown
  have hts := X.hts
  rw [fX11_openMany_10] at hf
  cases hf
  exact hret _ _ dX11_openMany_10
set_option maxRecDepth 10000 in
theorem kX11_openMany_0 {r : Int32} {M : MS} (X : gX p s m args c cX11_openMany 1 RX11 (kR kTab kA)) (hret : gRetR p l e (rmL 2 0 0) s m args below meth c cX11_openMany Q r) (hf : fX11_openMany_0 M = some r) {ls : Array Slot} (hP : (mP dC dI cI kA ad) M s s.heap) (hl : lv_has ls 1 [(0, .ref (ad 25))]) : W p l e (rmL 2 0 0) s m args below meth c s.heap [] 0 0 Q (F0 m 0 ls []) := by
  have hx := X.hx
  have hb := X.hb
  have hown := X.hown
  have hts := X.hts
  rw [fX11_openMany_0] at hf
  refine lv_aload_n hx hb dX11_openMany_0 rfl (lv_at hl 0 rfl) ?_
  refine lv_sipush (v := 161) hx hb dX11_openMany_1 (by decide) ?_
  refine lv_iconst (v := 1) hx hb dX11_openMany_4 (by decide) ?_
  refine lv_bipush (v := 9) hx hb dX11_openMany_5 (by decide) ?_
  obtain ⟨q, hc, hf⟩ := bd hf
  refine gCallVR X rfl (vX11_sumOf hc) gRX11_X11_sumOf hdX11_sumOf rfl ⟨by decide, by decide⟩ (gB_blind mOK) (gB_at mOK X hP) (mrec hP) hl.1 (Nat.le_of_ble_eq_true rfl) ⟨Nat.le_refl _, Nat.le_refl _⟩ dX11_openMany_7 (As := [.int 161, .int 1, .int 9]) (rest := []) rfl ?_
  exact kX11_openMany_10 X hret hf hP (lv_sub hl [0] rfl)
theorem vX11_openMany {l : Launch} {dC : Nat → ClassId} {dI : Nat → Nat → Nat} {cI : ClassId} {kA : String → Nat → Nat} {ad : Nat → Nat} {M : MS} {r : Int32} (hf : fX11_openMany M  = some r) : gMetR l yX11_openMany cX11_openMany 1 (some .int) 2 (gB (mP dC dI cI kA ad) (kR kTab kA) M) [.ref (ad 25)] r := gEntryR (ty := .int) (by decide) rfl rfl (Nat.le_of_ble_eq_true rfl) (fun _ h => h.2) (fun p e s m args below meth c Q ls X hB hret hl => 
  kX11_openMany_0 X hret hf hB.1 (lv_sub hl [0] rfl))
set_option maxRecDepth 10000 in
theorem kX11_mayAddMice_19 {r : Int32} {M : MS} {s0 : Int32} (X : gX p s m args c cX11_mayAddMice 3 RX11 (kR kTab kA)) (hret : gRetR p l e (rmL 2 0 0) s m args below meth c cX11_mayAddMice Q r) (hf : fX11_mayAddMice_19 M s0 = some r) {ls : Array Slot} (hP : (mP dC dI cI kA ad) M s s.heap) (hl : lv_has ls 3 [(0, .ref (ad 25))]) : W p l e (rmL 2 0 0) s m args below meth c s.heap [] 0 0 Q (F0 m 19 ls [.int s0]) := by
  have hx := X.hx
  have hb := X.hb
  have hown := X.hown
  have hts := X.hts
  rw [fX11_mayAddMice_19] at hf
  cases hf
  exact hret _ _ dX11_mayAddMice_19
set_option maxRecDepth 10000 in
theorem kX11_mayAddMice_18 {r : Int32} {M : MS} (X : gX p s m args c cX11_mayAddMice 3 RX11 (kR kTab kA)) (hret : gRetR p l e (rmL 2 0 0) s m args below meth c cX11_mayAddMice Q r) (hf : fX11_mayAddMice_18 M = some r) {ls : Array Slot} (hP : (mP dC dI cI kA ad) M s s.heap) (hl : lv_has ls 3 [(0, .ref (ad 25))]) : W p l e (rmL 2 0 0) s m args below meth c s.heap [] 0 0 Q (F0 m 18 ls []) := by
  have hx := X.hx
  have hb := X.hb
  have hown := X.hown
  have hts := X.hts
  rw [fX11_mayAddMice_18] at hf
  refine lv_iconst (v := 0) hx hb dX11_mayAddMice_18 (by decide) ?_
  exact kX11_mayAddMice_19 X hret hf hP (lv_sub hl [0] rfl)
set_option maxRecDepth 10000 in
theorem kX11_mayAddMice_14 {r : Int32} {M : MS} (X : gX p s m args c cX11_mayAddMice 3 RX11 (kR kTab kA)) (hret : gRetR p l e (rmL 2 0 0) s m args below meth c cX11_mayAddMice Q r) (hf : fX11_mayAddMice_14 M = some r) {ls : Array Slot} (hP : (mP dC dI cI kA ad) M s s.heap) (hl : lv_has ls 3 [(0, .ref (ad 25))]) : W p l e (rmL 2 0 0) s m args below meth c s.heap [] 0 0 Q (F0 m 14 ls []) := by
  have hx := X.hx
  have hb := X.hb
  have hown := X.hown
  have hts := X.hts
  rw [fX11_mayAddMice_14] at hf
  refine lv_iconst (v := 1) hx hb dX11_mayAddMice_14 (by decide) ?_
  refine lv_goto (tgt := 19) hx hb dX11_mayAddMice_15 (by decide) ?_
  exact kX11_mayAddMice_19 X hret hf hP (lv_sub hl [0] rfl)
set_option maxRecDepth 10000 in
theorem kX11_mayAddMice_7 {r : Int32} {M : MS} {x2 : Int32} {s0 : Int32} (X : gX p s m args c cX11_mayAddMice 3 RX11 (kR kTab kA)) (hret : gRetR p l e (rmL 2 0 0) s m args below meth c cX11_mayAddMice Q r) (hf : fX11_mayAddMice_7 M x2 s0 = some r) {ls : Array Slot} (hP : (mP dC dI cI kA ad) M s s.heap) (hl : lv_has ls 3 [(0, .ref (ad 25)), (2, .int x2)]) : W p l e (rmL 2 0 0) s m args below meth c s.heap [] 0 0 Q (F0 m 7 ls [.int s0]) := by
  have hx := X.hx
  have hb := X.hb
  have hown := X.hown
  have hts := X.hts
  rw [fX11_mayAddMice_7] at hf
  refine lv_iload_n hx hb dX11_mayAddMice_7 rfl (lv_at hl 1 rfl) ?_
  refine lv_iadd hx hb dX11_mayAddMice_8 ?_
  refine lv_bipush (v := 99) hx hb dX11_mayAddMice_9 (by decide) ?_
  refine lv_icmp_gt (tgt := 18) hx hb dX11_mayAddMice_11 (by decide) (fun c1 => ?_) (fun c1 => ?_)
  · exact kX11_mayAddMice_18 X hret (ifp c1 hf) hP (lv_sub hl [0] rfl)
  · exact kX11_mayAddMice_14 X hret (ifn c1 hf) hP (lv_sub hl [0] rfl)
set_option maxRecDepth 10000 in
theorem kX11_mayAddMice_0 {r : Int32} {M : MS} {a1 : Int32} {a2 : Int32} (X : gX p s m args c cX11_mayAddMice 3 RX11 (kR kTab kA)) (hret : gRetR p l e (rmL 2 0 0) s m args below meth c cX11_mayAddMice Q r) (hf : fX11_mayAddMice_0 M a1 a2 = some r) {ls : Array Slot} (hP : (mP dC dI cI kA ad) M s s.heap) (hl : lv_has ls 3 [(0, .ref (ad 25)), (1, .int a1), (2, .int a2)]) : W p l e (rmL 2 0 0) s m args below meth c s.heap [] 0 0 Q (F0 m 0 ls []) := by
  have hx := X.hx
  have hb := X.hb
  have hown := X.hown
  have hts := X.hts
  rw [fX11_mayAddMice_0] at hf
  refine lv_aload_n hx hb dX11_mayAddMice_0 rfl (lv_at hl 0 rfl) ?_
  refine lv_iload_n hx hb dX11_mayAddMice_1 rfl (lv_at hl 1 rfl) ?_
  refine lv_bipush (v := 8) hx hb dX11_mayAddMice_2 (by decide) ?_
  obtain ⟨q, hc, hf⟩ := bd hf
  refine gCallVR X rfl (vX11_ofSack hc) gRX11_X11_ofSack hdX11_ofSack rfl ⟨by decide, by decide⟩ (gB_blind mOK) (gB_at mOK X hP) (mrec hP) hl.1 (Nat.le_of_ble_eq_true rfl) ⟨Nat.le_refl _, Nat.le_refl _⟩ dX11_mayAddMice_4 (As := [.int a1, .int 8]) (rest := []) rfl ?_
  exact kX11_mayAddMice_7 X hret hf hP (lv_sub hl [0, 2] rfl)
theorem vX11_mayAddMice {l : Launch} {dC : Nat → ClassId} {dI : Nat → Nat → Nat} {cI : ClassId} {kA : String → Nat → Nat} {ad : Nat → Nat} {M : MS} {r : Int32} {a1 : Int32} {a2 : Int32} (hf : fX11_mayAddMice M a1 a2 = some r) : gMetR l yX11_mayAddMice cX11_mayAddMice 3 (some .boolean) 2 (gB (mP dC dI cI kA ad) (kR kTab kA) M) [.ref (ad 25), .int a1, .int a2] r := gEntryR (ty := .boolean) (by decide) rfl (bq_n hf) (Nat.le_of_ble_eq_true rfl) (fun _ h => h.2) (fun p e s m args below meth c Q ls X hB hret hl => 
  kX11_mayAddMice_0 X hret (bq_f hf) hB.1 (lv_sub hl [0, 1, 2] rfl))
set_option maxRecDepth 10000 in
theorem kX11_addsMice_34 {r : Int32} {S1 : MS} {M : MS} {s0 : Int32} {H : Heap} {locs : List Loc} {ls : Array Slot} (X : gX p s m args c cX11_addsMice 3 RX11 (kR kTab kA)) (hret : gRetI p l e (rmL 2 0 0) s m args below meth c cX11_addsMice (mΩ ad) (mP dC dI cI kA ad) Q r S1) (hf : fX11_addsMice_34 M s0 = some (r, S1)) (hP : (mP dC dI cI kA ad) M s H) (hS : va_S (Fr (mΩ ad) s.heap.size) s.heap H locs) (hl : lv_has ls 3 [(0, .ref (ad 25))]) : W p l e (rmL 2 0 0) s m args below meth c H locs 0 0 Q (F0 m 34 ls [.int s0]) := by
  have hx := X.hx
  have hb := X.hb
  have hown := X.hown
  have hts := X.hts
  rw [fX11_addsMice_34] at hf
  cases hf
  exact hret _ _ _ _ dX11_addsMice_34 hP hS
set_option maxRecDepth 10000 in
theorem kX11_addsMice_27 {r : Int32} {S1 : MS} {M : MS} {x1 : Int32} {H : Heap} {locs : List Loc} {ls : Array Slot} (X : gX p s m args c cX11_addsMice 3 RX11 (kR kTab kA)) (hret : gRetI p l e (rmL 2 0 0) s m args below meth c cX11_addsMice (mΩ ad) (mP dC dI cI kA ad) Q r S1) (hf : fX11_addsMice_27 M x1 = some (r, S1)) (hP : (mP dC dI cI kA ad) M s H) (hS : va_S (Fr (mΩ ad) s.heap.size) s.heap H locs) (hl : lv_has ls 3 [(0, .ref (ad 25)), (1, .int x1)]) : W p l e (rmL 2 0 0) s m args below meth c H locs 0 0 Q (F0 m 27 ls []) := by
  have hx := X.hx
  have hb := X.hb
  have hown := X.hown
  have hts := X.hts
  rw [fX11_addsMice_27] at hf
  refine lv_aload_n hx hb dX11_addsMice_27 rfl (lv_at hl 0 rfl) ?_
  refine lv_iload_n hx hb dX11_addsMice_28 rfl (lv_at hl 1 rfl) ?_
  refine lv_bipush (v := 8) hx hb dX11_addsMice_29 (by decide) ?_
  obtain ⟨q, hc, hf⟩ := bd hf
  refine gCallVR X rfl (vX11_ofSack hc) gRX11_X11_ofSack hdX11_ofSack rfl ⟨by decide, by decide⟩ (gB_blind mOK) (gB_at mOK X hP) (mrec hP) hl.1 (Nat.le_of_ble_eq_true rfl) ⟨Nat.le_refl _, Nat.le_refl _⟩ dX11_addsMice_31 (As := [.int x1, .int 8]) (rest := []) rfl ?_
  exact kX11_addsMice_34 X hret hf hP hS (lv_sub hl [0] rfl)
set_option maxRecDepth 10000 in
theorem kX11_addsMice_16 {r : Int32} {S1 : MS} {M : MS} {x1 : Int32} {x2 : Int32} {H : Heap} {locs : List Loc} {ls : Array Slot} (X : gX p s m args c cX11_addsMice 3 RX11 (kR kTab kA)) (hret : gRetI p l e (rmL 2 0 0) s m args below meth c cX11_addsMice (mΩ ad) (mP dC dI cI kA ad) Q r S1) (hf : fX11_addsMice_16 M x1 x2 = some (r, S1)) (hP : (mP dC dI cI kA ad) M s H) (hS : va_S (Fr (mΩ ad) s.heap.size) s.heap H locs) (hl : lv_has ls 3 [(0, .ref (ad 25)), (1, .int x1), (2, .int x2)]) : W p l e (rmL 2 0 0) s m args below meth c H locs 0 0 Q (F0 m 16 ls []) := by
  have hx := X.hx
  have hb := X.hb
  have hown := X.hown
  have hts := X.hts
  rw [fX11_addsMice_16] at hf
  refine lv_aload_n hx hb dX11_addsMice_16 rfl (lv_at hl 0 rfl) ?_
  refine mr_get (k := 0) X hP (by decide) rfl rfl tw1665 dX11_addsMice_17 ?_
  refine lv_bipush (v := 14) hx hb dX11_addsMice_20 (by decide) ?_
  refine lv_dup2_11 hx hb dX11_addsMice_22 rfl rfl ?_
  obtain ⟨g1, hf⟩ := gd hf
  refine mr_ald (a := 0) X hP rfl g1 dX11_addsMice_23 ?_
  refine lv_iload_n hx hb dX11_addsMice_24 rfl (lv_at hl 2 rfl) ?_
  refine lv_iadd hx hb dX11_addsMice_25 ?_
  obtain ⟨g2, hf⟩ := gd hf
  refine mr_ast (a := 0) X hP hS rfl g2 dX11_addsMice_26 (fun H locs hP hS => ?_)
  exact kX11_addsMice_27 X hret hf hP hS (lv_sub hl [0, 1] rfl)
set_option maxRecDepth 10000 in
theorem kX11_addsMice_11 {r : Int32} {S1 : MS} {M : MS} {x1 : Int32} {x2 : Int32} {s0 : Int32} {s1 : Int32} {s2 : Int32} {H : Heap} {locs : List Loc} {ls : Array Slot} (X : gX p s m args c cX11_addsMice 3 RX11 (kR kTab kA)) (hret : gRetI p l e (rmL 2 0 0) s m args below meth c cX11_addsMice (mΩ ad) (mP dC dI cI kA ad) Q r S1) (hf : fX11_addsMice_11 M x1 x2 s0 s1 s2 = some (r, S1)) (hP : (mP dC dI cI kA ad) M s H) (hS : va_S (Fr (mΩ ad) s.heap.size) s.heap H locs) (hl : lv_has ls 3 [(0, .ref (ad 25)), (1, .int x1), (2, .int x2)]) : W p l e (rmL 2 0 0) s m args below meth c H locs 0 0 Q (F0 m 11 ls [.int s0, .int s1, .int s2, .ref (ad 25)]) := by
  have hx := X.hx
  have hb := X.hb
  have hown := X.hown
  have hts := X.hts
  rw [fX11_addsMice_11] at hf
  refine lv_iload_n hx hb dX11_addsMice_11 rfl (lv_at hl 2 rfl) ?_
  refine lv_iadd hx hb dX11_addsMice_12 ?_
  obtain ⟨q, hc, hf⟩ := bd hf
  refine gCallVV X mOK rfl (vX11_putsSack hc) gRX11_X11_putsSack hdX11_putsSack rfl ⟨by decide, by decide⟩ hP hS (mrec hP) hl.1 (Nat.le_of_ble_eq_true rfl) ⟨Nat.le_refl _, Nat.le_refl _⟩ dX11_addsMice_13 (As := [.int s2, .int s1, .int (s0 + x2)]) (rest := []) rfl (fun H locs hP hS => ?_)
  exact kX11_addsMice_16 X hret hf hP hS (lv_sub hl [0, 1, 2] rfl)
set_option maxRecDepth 10000 in
theorem kX11_addsMice_0 {r : Int32} {S1 : MS} {M : MS} {a1 : Int32} {a2 : Int32} {H : Heap} {locs : List Loc} {ls : Array Slot} (X : gX p s m args c cX11_addsMice 3 RX11 (kR kTab kA)) (hret : gRetI p l e (rmL 2 0 0) s m args below meth c cX11_addsMice (mΩ ad) (mP dC dI cI kA ad) Q r S1) (hf : fX11_addsMice_0 M a1 a2 = some (r, S1)) (hP : (mP dC dI cI kA ad) M s H) (hS : va_S (Fr (mΩ ad) s.heap.size) s.heap H locs) (hl : lv_has ls 3 [(0, .ref (ad 25)), (1, .int a1), (2, .int a2)]) : W p l e (rmL 2 0 0) s m args below meth c H locs 0 0 Q (F0 m 0 ls []) := by
  have hx := X.hx
  have hb := X.hb
  have hown := X.hown
  have hts := X.hts
  rw [fX11_addsMice_0] at hf
  refine lv_aload_n hx hb dX11_addsMice_0 rfl (lv_at hl 0 rfl) ?_
  refine lv_iload_n hx hb dX11_addsMice_1 rfl (lv_at hl 1 rfl) ?_
  refine lv_bipush (v := 8) hx hb dX11_addsMice_2 (by decide) ?_
  refine lv_aload_n hx hb dX11_addsMice_4 rfl (lv_at hl 0 rfl) ?_
  refine lv_iload_n hx hb dX11_addsMice_5 rfl (lv_at hl 1 rfl) ?_
  refine lv_bipush (v := 8) hx hb dX11_addsMice_6 (by decide) ?_
  obtain ⟨q, hc, hf⟩ := bd hf
  refine gCallVR X rfl (vX11_ofSack hc) gRX11_X11_ofSack hdX11_ofSack rfl ⟨by decide, by decide⟩ (gB_blind mOK) (gB_at mOK X hP) (mrec hP) hl.1 (Nat.le_of_ble_eq_true rfl) ⟨Nat.le_refl _, Nat.le_refl _⟩ dX11_addsMice_8 (As := [.int a1, .int 8]) (rest := [.int 8, .int a1, .ref (ad 25)]) rfl ?_
  exact kX11_addsMice_11 X hret hf hP hS (lv_sub hl [0, 1, 2] rfl)
theorem vX11_addsMice {l : Launch} {dC : Nat → ClassId} {dI : Nat → Nat → Nat} {cI : ClassId} {kA : String → Nat → Nat} {ad : Nat → Nat} {M S1 : MS} {r : Int32} {a1 : Int32} {a2 : Int32} (hf : fX11_addsMice M a1 a2 = some (r, S1)) : gMetI l yX11_addsMice cX11_addsMice 3 (some .int) 2 (mΩ ad) (mP dC dI cI kA ad) (kR kTab kA) [.ref (ad 25), .int a1, .int a2] M r S1 := gEntryI (ty := .int) (by decide) rfl rfl mOK (Nat.le_of_ble_eq_true rfl) (fun p e s m args below meth c Q ls X hP hS hret hl => 
  kX11_addsMice_0 X hret hf hP hS (lv_sub hl [0, 1, 2] rfl))
set_option maxRecDepth 10000 in
theorem kX11_mayAddGrain_20 {r : Int32} {M : MS} {s0 : Int32} (X : gX p s m args c cX11_mayAddGrain 3 RX11 (kR kTab kA)) (hret : gRetR p l e (rmL 2 0 0) s m args below meth c cX11_mayAddGrain Q r) (hf : fX11_mayAddGrain_20 M s0 = some r) {ls : Array Slot} (hP : (mP dC dI cI kA ad) M s s.heap) (hl : lv_has ls 3 [(0, .ref (ad 25))]) : W p l e (rmL 2 0 0) s m args below meth c s.heap [] 0 0 Q (F0 m 20 ls [.int s0]) := by
  have hx := X.hx
  have hb := X.hb
  have hown := X.hown
  have hts := X.hts
  rw [fX11_mayAddGrain_20] at hf
  cases hf
  exact hret _ _ dX11_mayAddGrain_20
set_option maxRecDepth 10000 in
theorem kX11_mayAddGrain_19 {r : Int32} {M : MS} (X : gX p s m args c cX11_mayAddGrain 3 RX11 (kR kTab kA)) (hret : gRetR p l e (rmL 2 0 0) s m args below meth c cX11_mayAddGrain Q r) (hf : fX11_mayAddGrain_19 M = some r) {ls : Array Slot} (hP : (mP dC dI cI kA ad) M s s.heap) (hl : lv_has ls 3 [(0, .ref (ad 25))]) : W p l e (rmL 2 0 0) s m args below meth c s.heap [] 0 0 Q (F0 m 19 ls []) := by
  have hx := X.hx
  have hb := X.hb
  have hown := X.hown
  have hts := X.hts
  rw [fX11_mayAddGrain_19] at hf
  refine lv_iconst (v := 0) hx hb dX11_mayAddGrain_19 (by decide) ?_
  exact kX11_mayAddGrain_20 X hret hf hP (lv_sub hl [0] rfl)
set_option maxRecDepth 10000 in
theorem kX11_mayAddGrain_15 {r : Int32} {M : MS} (X : gX p s m args c cX11_mayAddGrain 3 RX11 (kR kTab kA)) (hret : gRetR p l e (rmL 2 0 0) s m args below meth c cX11_mayAddGrain Q r) (hf : fX11_mayAddGrain_15 M = some r) {ls : Array Slot} (hP : (mP dC dI cI kA ad) M s s.heap) (hl : lv_has ls 3 [(0, .ref (ad 25))]) : W p l e (rmL 2 0 0) s m args below meth c s.heap [] 0 0 Q (F0 m 15 ls []) := by
  have hx := X.hx
  have hb := X.hb
  have hown := X.hown
  have hts := X.hts
  rw [fX11_mayAddGrain_15] at hf
  refine lv_iconst (v := 1) hx hb dX11_mayAddGrain_15 (by decide) ?_
  refine lv_goto (tgt := 20) hx hb dX11_mayAddGrain_16 (by decide) ?_
  exact kX11_mayAddGrain_20 X hret hf hP (lv_sub hl [0] rfl)
set_option maxRecDepth 10000 in
theorem kX11_mayAddGrain_7 {r : Int32} {M : MS} {x2 : Int32} {s0 : Int32} (X : gX p s m args c cX11_mayAddGrain 3 RX11 (kR kTab kA)) (hret : gRetR p l e (rmL 2 0 0) s m args below meth c cX11_mayAddGrain Q r) (hf : fX11_mayAddGrain_7 M x2 s0 = some r) {ls : Array Slot} (hP : (mP dC dI cI kA ad) M s s.heap) (hl : lv_has ls 3 [(0, .ref (ad 25)), (2, .int x2)]) : W p l e (rmL 2 0 0) s m args below meth c s.heap [] 0 0 Q (F0 m 7 ls [.int s0]) := by
  have hx := X.hx
  have hb := X.hb
  have hown := X.hown
  have hts := X.hts
  rw [fX11_mayAddGrain_7] at hf
  refine lv_iload_n hx hb dX11_mayAddGrain_7 rfl (lv_at hl 1 rfl) ?_
  refine lv_iadd hx hb dX11_mayAddGrain_8 ?_
  refine lv_sipush (v := 9999) hx hb dX11_mayAddGrain_9 (by decide) ?_
  refine lv_icmp_gt (tgt := 19) hx hb dX11_mayAddGrain_12 (by decide) (fun c1 => ?_) (fun c1 => ?_)
  · exact kX11_mayAddGrain_19 X hret (ifp c1 hf) hP (lv_sub hl [0] rfl)
  · exact kX11_mayAddGrain_15 X hret (ifn c1 hf) hP (lv_sub hl [0] rfl)
set_option maxRecDepth 10000 in
theorem kX11_mayAddGrain_0 {r : Int32} {M : MS} {a1 : Int32} {a2 : Int32} (X : gX p s m args c cX11_mayAddGrain 3 RX11 (kR kTab kA)) (hret : gRetR p l e (rmL 2 0 0) s m args below meth c cX11_mayAddGrain Q r) (hf : fX11_mayAddGrain_0 M a1 a2 = some r) {ls : Array Slot} (hP : (mP dC dI cI kA ad) M s s.heap) (hl : lv_has ls 3 [(0, .ref (ad 25)), (1, .int a1), (2, .int a2)]) : W p l e (rmL 2 0 0) s m args below meth c s.heap [] 0 0 Q (F0 m 0 ls []) := by
  have hx := X.hx
  have hb := X.hb
  have hown := X.hown
  have hts := X.hts
  rw [fX11_mayAddGrain_0] at hf
  refine lv_aload_n hx hb dX11_mayAddGrain_0 rfl (lv_at hl 0 rfl) ?_
  refine lv_iload_n hx hb dX11_mayAddGrain_1 rfl (lv_at hl 1 rfl) ?_
  refine lv_bipush (v := 7) hx hb dX11_mayAddGrain_2 (by decide) ?_
  obtain ⟨q, hc, hf⟩ := bd hf
  refine gCallVR X rfl (vX11_ofSack hc) gRX11_X11_ofSack hdX11_ofSack rfl ⟨by decide, by decide⟩ (gB_blind mOK) (gB_at mOK X hP) (mrec hP) hl.1 (Nat.le_of_ble_eq_true rfl) ⟨Nat.le_refl _, Nat.le_refl _⟩ dX11_mayAddGrain_4 (As := [.int a1, .int 7]) (rest := []) rfl ?_
  exact kX11_mayAddGrain_7 X hret hf hP (lv_sub hl [0, 2] rfl)
theorem vX11_mayAddGrain {l : Launch} {dC : Nat → ClassId} {dI : Nat → Nat → Nat} {cI : ClassId} {kA : String → Nat → Nat} {ad : Nat → Nat} {M : MS} {r : Int32} {a1 : Int32} {a2 : Int32} (hf : fX11_mayAddGrain M a1 a2 = some r) : gMetR l yX11_mayAddGrain cX11_mayAddGrain 3 (some .boolean) 2 (gB (mP dC dI cI kA ad) (kR kTab kA) M) [.ref (ad 25), .int a1, .int a2] r := gEntryR (ty := .boolean) (by decide) rfl (bq_n hf) (Nat.le_of_ble_eq_true rfl) (fun _ h => h.2) (fun p e s m args below meth c Q ls X hB hret hl => 
  kX11_mayAddGrain_0 X hret (bq_f hf) hB.1 (lv_sub hl [0, 1, 2] rfl))
set_option maxRecDepth 10000 in
theorem kX11_addsGrain_34 {r : Int32} {S1 : MS} {M : MS} {s0 : Int32} {H : Heap} {locs : List Loc} {ls : Array Slot} (X : gX p s m args c cX11_addsGrain 3 RX11 (kR kTab kA)) (hret : gRetI p l e (rmL 2 0 0) s m args below meth c cX11_addsGrain (mΩ ad) (mP dC dI cI kA ad) Q r S1) (hf : fX11_addsGrain_34 M s0 = some (r, S1)) (hP : (mP dC dI cI kA ad) M s H) (hS : va_S (Fr (mΩ ad) s.heap.size) s.heap H locs) (hl : lv_has ls 3 [(0, .ref (ad 25))]) : W p l e (rmL 2 0 0) s m args below meth c H locs 0 0 Q (F0 m 34 ls [.int s0]) := by
  have hx := X.hx
  have hb := X.hb
  have hown := X.hown
  have hts := X.hts
  rw [fX11_addsGrain_34] at hf
  cases hf
  exact hret _ _ _ _ dX11_addsGrain_34 hP hS
set_option maxRecDepth 10000 in
theorem kX11_addsGrain_27 {r : Int32} {S1 : MS} {M : MS} {x1 : Int32} {H : Heap} {locs : List Loc} {ls : Array Slot} (X : gX p s m args c cX11_addsGrain 3 RX11 (kR kTab kA)) (hret : gRetI p l e (rmL 2 0 0) s m args below meth c cX11_addsGrain (mΩ ad) (mP dC dI cI kA ad) Q r S1) (hf : fX11_addsGrain_27 M x1 = some (r, S1)) (hP : (mP dC dI cI kA ad) M s H) (hS : va_S (Fr (mΩ ad) s.heap.size) s.heap H locs) (hl : lv_has ls 3 [(0, .ref (ad 25)), (1, .int x1)]) : W p l e (rmL 2 0 0) s m args below meth c H locs 0 0 Q (F0 m 27 ls []) := by
  have hx := X.hx
  have hb := X.hb
  have hown := X.hown
  have hts := X.hts
  rw [fX11_addsGrain_27] at hf
  refine lv_aload_n hx hb dX11_addsGrain_27 rfl (lv_at hl 0 rfl) ?_
  refine lv_iload_n hx hb dX11_addsGrain_28 rfl (lv_at hl 1 rfl) ?_
  refine lv_bipush (v := 7) hx hb dX11_addsGrain_29 (by decide) ?_
  obtain ⟨q, hc, hf⟩ := bd hf
  refine gCallVR X rfl (vX11_ofSack hc) gRX11_X11_ofSack hdX11_ofSack rfl ⟨by decide, by decide⟩ (gB_blind mOK) (gB_at mOK X hP) (mrec hP) hl.1 (Nat.le_of_ble_eq_true rfl) ⟨Nat.le_refl _, Nat.le_refl _⟩ dX11_addsGrain_31 (As := [.int x1, .int 7]) (rest := []) rfl ?_
  exact kX11_addsGrain_34 X hret hf hP hS (lv_sub hl [0] rfl)
set_option maxRecDepth 10000 in
theorem kX11_addsGrain_16 {r : Int32} {S1 : MS} {M : MS} {x1 : Int32} {x2 : Int32} {H : Heap} {locs : List Loc} {ls : Array Slot} (X : gX p s m args c cX11_addsGrain 3 RX11 (kR kTab kA)) (hret : gRetI p l e (rmL 2 0 0) s m args below meth c cX11_addsGrain (mΩ ad) (mP dC dI cI kA ad) Q r S1) (hf : fX11_addsGrain_16 M x1 x2 = some (r, S1)) (hP : (mP dC dI cI kA ad) M s H) (hS : va_S (Fr (mΩ ad) s.heap.size) s.heap H locs) (hl : lv_has ls 3 [(0, .ref (ad 25)), (1, .int x1), (2, .int x2)]) : W p l e (rmL 2 0 0) s m args below meth c H locs 0 0 Q (F0 m 16 ls []) := by
  have hx := X.hx
  have hb := X.hb
  have hown := X.hown
  have hts := X.hts
  rw [fX11_addsGrain_16] at hf
  refine lv_aload_n hx hb dX11_addsGrain_16 rfl (lv_at hl 0 rfl) ?_
  refine mr_get (k := 0) X hP (by decide) rfl rfl tw1665 dX11_addsGrain_17 ?_
  refine lv_bipush (v := 15) hx hb dX11_addsGrain_20 (by decide) ?_
  refine lv_dup2_11 hx hb dX11_addsGrain_22 rfl rfl ?_
  obtain ⟨g1, hf⟩ := gd hf
  refine mr_ald (a := 0) X hP rfl g1 dX11_addsGrain_23 ?_
  refine lv_iload_n hx hb dX11_addsGrain_24 rfl (lv_at hl 2 rfl) ?_
  refine lv_iadd hx hb dX11_addsGrain_25 ?_
  obtain ⟨g2, hf⟩ := gd hf
  refine mr_ast (a := 0) X hP hS rfl g2 dX11_addsGrain_26 (fun H locs hP hS => ?_)
  exact kX11_addsGrain_27 X hret hf hP hS (lv_sub hl [0, 1] rfl)
set_option maxRecDepth 10000 in
theorem kX11_addsGrain_11 {r : Int32} {S1 : MS} {M : MS} {x1 : Int32} {x2 : Int32} {s0 : Int32} {s1 : Int32} {s2 : Int32} {H : Heap} {locs : List Loc} {ls : Array Slot} (X : gX p s m args c cX11_addsGrain 3 RX11 (kR kTab kA)) (hret : gRetI p l e (rmL 2 0 0) s m args below meth c cX11_addsGrain (mΩ ad) (mP dC dI cI kA ad) Q r S1) (hf : fX11_addsGrain_11 M x1 x2 s0 s1 s2 = some (r, S1)) (hP : (mP dC dI cI kA ad) M s H) (hS : va_S (Fr (mΩ ad) s.heap.size) s.heap H locs) (hl : lv_has ls 3 [(0, .ref (ad 25)), (1, .int x1), (2, .int x2)]) : W p l e (rmL 2 0 0) s m args below meth c H locs 0 0 Q (F0 m 11 ls [.int s0, .int s1, .int s2, .ref (ad 25)]) := by
  have hx := X.hx
  have hb := X.hb
  have hown := X.hown
  have hts := X.hts
  rw [fX11_addsGrain_11] at hf
  refine lv_iload_n hx hb dX11_addsGrain_11 rfl (lv_at hl 2 rfl) ?_
  refine lv_iadd hx hb dX11_addsGrain_12 ?_
  obtain ⟨q, hc, hf⟩ := bd hf
  refine gCallVV X mOK rfl (vX11_putsSack hc) gRX11_X11_putsSack hdX11_putsSack rfl ⟨by decide, by decide⟩ hP hS (mrec hP) hl.1 (Nat.le_of_ble_eq_true rfl) ⟨Nat.le_refl _, Nat.le_refl _⟩ dX11_addsGrain_13 (As := [.int s2, .int s1, .int (s0 + x2)]) (rest := []) rfl (fun H locs hP hS => ?_)
  exact kX11_addsGrain_16 X hret hf hP hS (lv_sub hl [0, 1, 2] rfl)
set_option maxRecDepth 10000 in
theorem kX11_addsGrain_0 {r : Int32} {S1 : MS} {M : MS} {a1 : Int32} {a2 : Int32} {H : Heap} {locs : List Loc} {ls : Array Slot} (X : gX p s m args c cX11_addsGrain 3 RX11 (kR kTab kA)) (hret : gRetI p l e (rmL 2 0 0) s m args below meth c cX11_addsGrain (mΩ ad) (mP dC dI cI kA ad) Q r S1) (hf : fX11_addsGrain_0 M a1 a2 = some (r, S1)) (hP : (mP dC dI cI kA ad) M s H) (hS : va_S (Fr (mΩ ad) s.heap.size) s.heap H locs) (hl : lv_has ls 3 [(0, .ref (ad 25)), (1, .int a1), (2, .int a2)]) : W p l e (rmL 2 0 0) s m args below meth c H locs 0 0 Q (F0 m 0 ls []) := by
  have hx := X.hx
  have hb := X.hb
  have hown := X.hown
  have hts := X.hts
  rw [fX11_addsGrain_0] at hf
  refine lv_aload_n hx hb dX11_addsGrain_0 rfl (lv_at hl 0 rfl) ?_
  refine lv_iload_n hx hb dX11_addsGrain_1 rfl (lv_at hl 1 rfl) ?_
  refine lv_bipush (v := 7) hx hb dX11_addsGrain_2 (by decide) ?_
  refine lv_aload_n hx hb dX11_addsGrain_4 rfl (lv_at hl 0 rfl) ?_
  refine lv_iload_n hx hb dX11_addsGrain_5 rfl (lv_at hl 1 rfl) ?_
  refine lv_bipush (v := 7) hx hb dX11_addsGrain_6 (by decide) ?_
  obtain ⟨q, hc, hf⟩ := bd hf
  refine gCallVR X rfl (vX11_ofSack hc) gRX11_X11_ofSack hdX11_ofSack rfl ⟨by decide, by decide⟩ (gB_blind mOK) (gB_at mOK X hP) (mrec hP) hl.1 (Nat.le_of_ble_eq_true rfl) ⟨Nat.le_refl _, Nat.le_refl _⟩ dX11_addsGrain_8 (As := [.int a1, .int 7]) (rest := [.int 7, .int a1, .ref (ad 25)]) rfl ?_
  exact kX11_addsGrain_11 X hret hf hP hS (lv_sub hl [0, 1, 2] rfl)
theorem vX11_addsGrain {l : Launch} {dC : Nat → ClassId} {dI : Nat → Nat → Nat} {cI : ClassId} {kA : String → Nat → Nat} {ad : Nat → Nat} {M S1 : MS} {r : Int32} {a1 : Int32} {a2 : Int32} (hf : fX11_addsGrain M a1 a2 = some (r, S1)) : gMetI l yX11_addsGrain cX11_addsGrain 3 (some .int) 2 (mΩ ad) (mP dC dI cI kA ad) (kR kTab kA) [.ref (ad 25), .int a1, .int a2] M r S1 := gEntryI (ty := .int) (by decide) rfl rfl mOK (Nat.le_of_ble_eq_true rfl) (fun p e s m args below meth c Q ls X hP hS hret hl => 
  kX11_addsGrain_0 X hret hf hP hS (lv_sub hl [0, 1, 2] rfl))
set_option maxRecDepth 10000 in
theorem kX11_remembers_80 {S1 : MS} {M : MS} {H : Heap} {locs : List Loc} {ls : Array Slot} (X : gX p s m args c cX11_remembers 2 RX11 (kR kTab kA)) (hret : gRetV p l e (rmL 2 0 0) s m args below meth c cX11_remembers (mΩ ad) (mP dC dI cI kA ad) Q S1) (hf : fX11_remembers_80 M = some S1) (hP : (mP dC dI cI kA ad) M s H) (hS : va_S (Fr (mΩ ad) s.heap.size) s.heap H locs) (hl : lv_has ls 2 [(0, .ref (ad 25))]) : W p l e (rmL 2 0 0) s m args below meth c H locs 0 0 Q (F0 m 80 ls []) := by
  have hx := X.hx
  have hb := X.hb
  have hown := X.hown
  have hts := X.hts
  rw [fX11_remembers_80] at hf
  cases hf
  exact hret _ _ _ _ dX11_remembers_80 hP hS
set_option maxRecDepth 10000 in
theorem kX11_remembers_70 {S1 : MS} {M : MS} {H : Heap} {locs : List Loc} {ls : Array Slot} (X : gX p s m args c cX11_remembers 2 RX11 (kR kTab kA)) (hret : gRetV p l e (rmL 2 0 0) s m args below meth c cX11_remembers (mΩ ad) (mP dC dI cI kA ad) Q S1) (hf : fX11_remembers_70 M = some S1) (hP : (mP dC dI cI kA ad) M s H) (hS : va_S (Fr (mΩ ad) s.heap.size) s.heap H locs) (hl : lv_has ls 2 [(0, .ref (ad 25))]) : W p l e (rmL 2 0 0) s m args below meth c H locs 0 0 Q (F0 m 70 ls []) := by
  have hx := X.hx
  have hb := X.hb
  have hown := X.hown
  have hts := X.hts
  rw [fX11_remembers_70] at hf
  refine lv_aload_n hx hb dX11_remembers_70 rfl (lv_at hl 0 rfl) ?_
  refine lv_dup hx hb dX11_remembers_71 rfl ?_
  refine mr_get (k := 5) X hP (by decide) rfl rfl tw1670 dX11_remembers_72 ?_
  refine lv_iconst (v := 1) hx hb dX11_remembers_75 (by decide) ?_
  refine lv_iadd hx hb dX11_remembers_76 ?_
  refine mr_put (k := 5) X hP hS (by decide) rfl rfl rfl rfl tw1670 dX11_remembers_77 (fun H locs hP hS => ?_)
  exact kX11_remembers_80 X hret hf hP hS (lv_sub hl [0] rfl)
set_option maxRecDepth 10000 in
theorem kX11_remembers_50 {S1 : MS} {M : MS} {H : Heap} {locs : List Loc} {ls : Array Slot} (X : gX p s m args c cX11_remembers 2 RX11 (kR kTab kA)) (hret : gRetV p l e (rmL 2 0 0) s m args below meth c cX11_remembers (mΩ ad) (mP dC dI cI kA ad) Q S1) (hf : fX11_remembers_50 M = some S1) (hP : (mP dC dI cI kA ad) M s H) (hS : va_S (Fr (mΩ ad) s.heap.size) s.heap H locs) (hl : lv_has ls 2 [(0, .ref (ad 25))]) : W p l e (rmL 2 0 0) s m args below meth c H locs 0 0 Q (F0 m 50 ls []) := by
  have hx := X.hx
  have hb := X.hb
  have hown := X.hown
  have hts := X.hts
  rw [fX11_remembers_50] at hf
  refine lv_aload_n hx hb dX11_remembers_50 rfl (lv_at hl 0 rfl) ?_
  refine mr_get (k := 0) X hP (by decide) rfl rfl tw1665 dX11_remembers_51 ?_
  refine lv_iconst (v := 0) hx hb dX11_remembers_54 (by decide) ?_
  refine lv_aload_n hx hb dX11_remembers_55 rfl (lv_at hl 0 rfl) ?_
  refine mr_get (k := 4) X hP (by decide) rfl rfl tw1669 dX11_remembers_56 ?_
  refine lv_sipush (v := 257) hx hb dX11_remembers_59 (by decide) ?_
  refine lv_aload_n hx hb dX11_remembers_62 rfl (lv_at hl 0 rfl) ?_
  refine mr_get (k := 5) X hP (by decide) rfl rfl tw1670 dX11_remembers_63 ?_
  refine lv_imul hx hb dX11_remembers_66 ?_
  obtain ⟨q, hc, hf⟩ := bd hf
  refine gCallSV X mOK rfl (vX11_copies hc) gRX11_X11_copies hdX11_copies rfl ⟨by decide, by decide⟩ hP hS hl.1 (Nat.le_of_ble_eq_true rfl) ⟨Nat.le_refl _, Nat.le_refl _⟩ dX11_remembers_67 (As := [.ref (ad 0), .int 0, .ref (ad 4), .int (257 * (M.1 5))]) (rest := []) rfl (fun H locs hP hS => ?_)
  exact kX11_remembers_70 X hret hf hP hS (lv_sub hl [0] rfl)
set_option maxRecDepth 10000 in
theorem kX11_remembers_40 {S1 : MS} {M : MS} {H : Heap} {locs : List Loc} {ls : Array Slot} (X : gX p s m args c cX11_remembers 2 RX11 (kR kTab kA)) (hret : gRetV p l e (rmL 2 0 0) s m args below meth c cX11_remembers (mΩ ad) (mP dC dI cI kA ad) Q S1) (hf : fX11_remembers_40 M = some S1) (hP : (mP dC dI cI kA ad) M s H) (hS : va_S (Fr (mΩ ad) s.heap.size) s.heap H locs) (hl : lv_has ls 2 [(0, .ref (ad 25))]) : W p l e (rmL 2 0 0) s m args below meth c H locs 0 0 Q (F0 m 40 ls []) := by
  have hx := X.hx
  have hb := X.hb
  have hown := X.hown
  have hts := X.hts
  rw [fX11_remembers_40] at hf
  refine lv_aload_n hx hb dX11_remembers_40 rfl (lv_at hl 0 rfl) ?_
  refine lv_dup hx hb dX11_remembers_41 rfl ?_
  refine mr_get (k := 5) X hP (by decide) rfl rfl tw1670 dX11_remembers_42 ?_
  refine lv_iconst (v := 1) hx hb dX11_remembers_45 (by decide) ?_
  refine lv_isub hx hb dX11_remembers_46 ?_
  refine mr_put (k := 5) X hP hS (by decide) rfl rfl rfl rfl tw1670 dX11_remembers_47 (fun H locs hP hS => ?_)
  exact kX11_remembers_50 X hret hf hP hS (lv_sub hl [0] rfl)
set_option maxRecDepth 10000 in
theorem kX11_remembers_34 {S1 : MS} {K11 : MS → Int32 → Option (MS)} {M : MS} {x1 : Int32} {H : Heap} {locs : List Loc} {ls : Array Slot} (X : gX p s m args c cX11_remembers 2 RX11 (kR kTab kA)) (hret : gRetV p l e (rmL 2 0 0) s m args below meth c cX11_remembers (mΩ ad) (mP dC dI cI kA ad) Q S1) (hK11 : ∀ (M : MS) (x1 : Int32) (H : Heap) (locs : List Loc) (ls : Array Slot), K11 M x1 = some S1 → (mP dC dI cI kA ad) M s H → va_S (Fr (mΩ ad) s.heap.size) s.heap H locs → lv_has ls 2 [(0, .ref (ad 25)), (1, .int x1)] → W p l e (rmL 2 0 0) s m args below meth c H locs 0 0 Q (F0 m 11 ls [])) (hf : fX11_remembers_34 K11 M x1 = some S1) (hP : (mP dC dI cI kA ad) M s H) (hS : va_S (Fr (mΩ ad) s.heap.size) s.heap H locs) (hl : lv_has ls 2 [(0, .ref (ad 25)), (1, .int x1)]) : W p l e (rmL 2 0 0) s m args below meth c H locs 0 0 Q (F0 m 34 ls []) := by
  have hx := X.hx
  have hb := X.hb
  have hown := X.hown
  have hts := X.hts
  rw [fX11_remembers_34] at hf
  refine lv_iinc (v := (x1 + 1)) (lv' := [(1, .int (x1 + 1)), (0, .ref (ad 25))]) hx hb dX11_remembers_34 hl (k := 1) rfl (by rfl) (by decide) rfl (fun ls hl => ?_)
  refine lv_goto (tgt := 11) hx hb dX11_remembers_37 (by decide) ?_
  exact hK11 _ _ _ _ _ hf hP hS (lv_sub hl [1, 0] rfl)
set_option maxRecDepth 10000 in
theorem kX11_remembers_18 {S1 : MS} {K11 : MS → Int32 → Option (MS)} {M : MS} {x1 : Int32} {H : Heap} {locs : List Loc} {ls : Array Slot} (X : gX p s m args c cX11_remembers 2 RX11 (kR kTab kA)) (hret : gRetV p l e (rmL 2 0 0) s m args below meth c cX11_remembers (mΩ ad) (mP dC dI cI kA ad) Q S1) (hK11 : ∀ (M : MS) (x1 : Int32) (H : Heap) (locs : List Loc) (ls : Array Slot), K11 M x1 = some S1 → (mP dC dI cI kA ad) M s H → va_S (Fr (mΩ ad) s.heap.size) s.heap H locs → lv_has ls 2 [(0, .ref (ad 25)), (1, .int x1)] → W p l e (rmL 2 0 0) s m args below meth c H locs 0 0 Q (F0 m 11 ls [])) (hf : fX11_remembers_18 K11 M x1 = some S1) (hP : (mP dC dI cI kA ad) M s H) (hS : va_S (Fr (mΩ ad) s.heap.size) s.heap H locs) (hl : lv_has ls 2 [(0, .ref (ad 25)), (1, .int x1)]) : W p l e (rmL 2 0 0) s m args below meth c H locs 0 0 Q (F0 m 18 ls []) := by
  have hx := X.hx
  have hb := X.hb
  have hown := X.hown
  have hts := X.hts
  rw [fX11_remembers_18] at hf
  refine lv_aload_n hx hb dX11_remembers_18 rfl (lv_at hl 0 rfl) ?_
  refine mr_get (k := 4) X hP (by decide) rfl rfl tw1669 dX11_remembers_19 ?_
  refine lv_iload_n hx hb dX11_remembers_22 rfl (lv_at hl 1 rfl) ?_
  refine lv_aload_n hx hb dX11_remembers_23 rfl (lv_at hl 0 rfl) ?_
  refine mr_get (k := 4) X hP (by decide) rfl rfl tw1669 dX11_remembers_24 ?_
  refine lv_iload_n hx hb dX11_remembers_27 rfl (lv_at hl 1 rfl) ?_
  refine lv_sipush (v := 257) hx hb dX11_remembers_28 (by decide) ?_
  refine lv_iadd hx hb dX11_remembers_31 ?_
  obtain ⟨g1, hf⟩ := gd hf
  refine mr_ald (a := 4) X hP rfl g1 dX11_remembers_32 ?_
  obtain ⟨g2, hf⟩ := gd hf
  refine mr_ast (a := 4) X hP hS rfl g2 dX11_remembers_33 (fun H locs hP hS => ?_)
  exact kX11_remembers_34 X hret hK11 hf hP hS (lv_sub hl [0, 1] rfl)
set_option maxRecDepth 10000 in
theorem kX11_remembers_11 {S1 : MS} (X : gX p s m args c cX11_remembers 2 RX11 (kR kTab kA)) (hret : gRetV p l e (rmL 2 0 0) s m args below meth c cX11_remembers (mΩ ad) (mP dC dI cI kA ad) Q S1) : ∀ (n : Nat) (M : MS) (x1 : Int32) (H : Heap) (locs : List Loc) (ls : Array Slot), fX11_remembers_11 n M x1 = some S1 → (mP dC dI cI kA ad) M s H → va_S (Fr (mΩ ad) s.heap.size) s.heap H locs → lv_has ls 2 [(0, .ref (ad 25)), (1, .int x1)] → W p l e (rmL 2 0 0) s m args below meth c H locs 0 0 Q (F0 m 11 ls []) := by
  intro n
  induction n with
  | zero => intro M x1 H locs ls hf; cases hf
  | succ k ih =>
    intro M x1 H locs ls hf hP hS hl
    have hx := X.hx
    have hb := X.hb
    have hown := X.hown
    have hts := X.hts
    rw [fX11_remembers_11] at hf
    try dsimp only at hf
    refine lv_iload_n hx hb dX11_remembers_11 rfl (lv_at hl 1 rfl) ?_
    refine lv_sipush (v := 1799) hx hb dX11_remembers_12 (by decide) ?_
    refine lv_icmp_ge (tgt := 40) hx hb dX11_remembers_15 (by decide) (fun c1 => ?_) (fun c1 => ?_)
    · exact kX11_remembers_40 X hret (ifp c1 hf) hP hS (lv_sub hl [0] rfl)
    · exact kX11_remembers_18 X hret ih (ifn c1 hf) hP hS (lv_sub hl [0, 1] rfl)
set_option maxRecDepth 10000 in
theorem kX11_remembers_9 {S1 : MS} {M : MS} {H : Heap} {locs : List Loc} {ls : Array Slot} (X : gX p s m args c cX11_remembers 2 RX11 (kR kTab kA)) (hret : gRetV p l e (rmL 2 0 0) s m args below meth c cX11_remembers (mΩ ad) (mP dC dI cI kA ad) Q S1) (hf : fX11_remembers_9 M = some S1) (hP : (mP dC dI cI kA ad) M s H) (hS : va_S (Fr (mΩ ad) s.heap.size) s.heap H locs) (hl : lv_has ls 2 [(0, .ref (ad 25))]) : W p l e (rmL 2 0 0) s m args below meth c H locs 0 0 Q (F0 m 9 ls []) := by
  have hx := X.hx
  have hb := X.hb
  have hown := X.hown
  have hts := X.hts
  rw [fX11_remembers_9] at hf
  refine lv_iconst (v := 0) hx hb dX11_remembers_9 (by decide) ?_
  refine lv_istore_n (lv' := [(1, .int 0), (0, .ref (ad 25))]) hx hb dX11_remembers_10 rfl hl (by decide) rfl (fun ls hl => ?_)
  exact kX11_remembers_11 X hret FU _ _ _ _ _ hf hP hS (lv_sub hl [1, 0] rfl)
set_option maxRecDepth 10000 in
theorem kX11_remembers_0 {S1 : MS} {M : MS} {H : Heap} {locs : List Loc} {ls : Array Slot} (X : gX p s m args c cX11_remembers 2 RX11 (kR kTab kA)) (hret : gRetV p l e (rmL 2 0 0) s m args below meth c cX11_remembers (mΩ ad) (mP dC dI cI kA ad) Q S1) (hf : fX11_remembers_0 M = some S1) (hP : (mP dC dI cI kA ad) M s H) (hS : va_S (Fr (mΩ ad) s.heap.size) s.heap H locs) (hl : lv_has ls 2 [(0, .ref (ad 25))]) : W p l e (rmL 2 0 0) s m args below meth c H locs 0 0 Q (F0 m 0 ls []) := by
  have hx := X.hx
  have hb := X.hb
  have hown := X.hown
  have hts := X.hts
  rw [fX11_remembers_0] at hf
  refine lv_aload_n hx hb dX11_remembers_0 rfl (lv_at hl 0 rfl) ?_
  refine mr_get (k := 5) X hP (by decide) rfl rfl tw1670 dX11_remembers_1 ?_
  refine lv_bipush (v := 8) hx hb dX11_remembers_4 (by decide) ?_
  refine lv_icmp_ne (tgt := 50) hx hb dX11_remembers_6 (by decide) (fun c1 => ?_) (fun c1 => ?_)
  · exact kX11_remembers_50 X hret (ifn c1 hf) hP hS (lv_sub hl [0] rfl)
  · exact kX11_remembers_9 X hret (ifp c1 hf) hP hS (lv_sub hl [0] rfl)
theorem vX11_remembers {l : Launch} {dC : Nat → ClassId} {dI : Nat → Nat → Nat} {cI : ClassId} {kA : String → Nat → Nat} {ad : Nat → Nat} {M S1 : MS} (hf : fX11_remembers M  = some S1) : gMetV l yX11_remembers cX11_remembers 2 2 (mΩ ad) (mP dC dI cI kA ad) (kR kTab kA) [.ref (ad 25)] M S1 := gEntryV (by decide) mOK (Nat.le_of_ble_eq_true rfl) (fun p e s m args below meth c Q ls X hP hS hret hl => 
  kX11_remembers_0 X hret hf hP hS (lv_sub hl [0] rfl))
set_option maxRecDepth 10000 in
theorem kX11_goesAside_13 {S1 : MS} {M : MS} {H : Heap} {locs : List Loc} {ls : Array Slot} (X : gX p s m args c cX11_goesAside 1 RX11 (kR kTab kA)) (hret : gRetV p l e (rmL 2 0 0) s m args below meth c cX11_goesAside (mΩ ad) (mP dC dI cI kA ad) Q S1) (hf : fX11_goesAside_13 M = some S1) (hP : (mP dC dI cI kA ad) M s H) (hS : va_S (Fr (mΩ ad) s.heap.size) s.heap H locs) (hl : lv_has ls 1 [(0, .ref (ad 25))]) : W p l e (rmL 2 0 0) s m args below meth c H locs 0 0 Q (F0 m 13 ls []) := by
  have hx := X.hx
  have hb := X.hb
  have hown := X.hown
  have hts := X.hts
  rw [fX11_goesAside_13] at hf
  cases hf
  exact hret _ _ _ _ dX11_goesAside_13 hP hS
set_option maxRecDepth 10000 in
theorem kX11_goesAside_0 {S1 : MS} {M : MS} {H : Heap} {locs : List Loc} {ls : Array Slot} (X : gX p s m args c cX11_goesAside 1 RX11 (kR kTab kA)) (hret : gRetV p l e (rmL 2 0 0) s m args below meth c cX11_goesAside (mΩ ad) (mP dC dI cI kA ad) Q S1) (hf : fX11_goesAside_0 M = some S1) (hP : (mP dC dI cI kA ad) M s H) (hS : va_S (Fr (mΩ ad) s.heap.size) s.heap H locs) (hl : lv_has ls 1 [(0, .ref (ad 25))]) : W p l e (rmL 2 0 0) s m args below meth c H locs 0 0 Q (F0 m 0 ls []) := by
  have hx := X.hx
  have hb := X.hb
  have hown := X.hown
  have hts := X.hts
  rw [fX11_goesAside_0] at hf
  refine lv_aload_n hx hb dX11_goesAside_0 rfl (lv_at hl 0 rfl) ?_
  refine mr_get (k := 0) X hP (by decide) rfl rfl tw1665 dX11_goesAside_1 ?_
  refine lv_iconst (v := 0) hx hb dX11_goesAside_4 (by decide) ?_
  refine lv_aload_n hx hb dX11_goesAside_5 rfl (lv_at hl 0 rfl) ?_
  refine mr_get (k := 2) X hP (by decide) rfl rfl tw1667 dX11_goesAside_6 ?_
  refine lv_iconst (v := 0) hx hb dX11_goesAside_9 (by decide) ?_
  obtain ⟨q, hc, hf⟩ := bd hf
  refine gCallSV X mOK rfl (vX11_copies hc) gRX11_X11_copies hdX11_copies rfl ⟨by decide, by decide⟩ hP hS hl.1 (Nat.le_of_ble_eq_true rfl) ⟨Nat.le_refl _, Nat.le_refl _⟩ dX11_goesAside_10 (As := [.ref (ad 0), .int 0, .ref (ad 2), .int 0]) (rest := []) rfl (fun H locs hP hS => ?_)
  exact kX11_goesAside_13 X hret hf hP hS (lv_sub hl [0] rfl)
theorem vX11_goesAside {l : Launch} {dC : Nat → ClassId} {dI : Nat → Nat → Nat} {cI : ClassId} {kA : String → Nat → Nat} {ad : Nat → Nat} {M S1 : MS} (hf : fX11_goesAside M  = some S1) : gMetV l yX11_goesAside cX11_goesAside 1 2 (mΩ ad) (mP dC dI cI kA ad) (kR kTab kA) [.ref (ad 25)] M S1 := gEntryV (by decide) mOK (Nat.le_of_ble_eq_true rfl) (fun p e s m args below meth c Q ls X hP hS hret hl => 
  kX11_goesAside_0 X hret hf hP hS (lv_sub hl [0] rfl))
set_option maxRecDepth 10000 in
theorem kX11_goesBack_13 {r : Int32} {S1 : MS} {M : MS} {x1 : Int32} {H : Heap} {locs : List Loc} {ls : Array Slot} (X : gX p s m args c cX11_goesBack 2 RX11 (kR kTab kA)) (hret : gRetI p l e (rmL 2 0 0) s m args below meth c cX11_goesBack (mΩ ad) (mP dC dI cI kA ad) Q r S1) (hf : fX11_goesBack_13 M x1 = some (r, S1)) (hP : (mP dC dI cI kA ad) M s H) (hS : va_S (Fr (mΩ ad) s.heap.size) s.heap H locs) (hl : lv_has ls 2 [(0, .ref (ad 25)), (1, .int x1)]) : W p l e (rmL 2 0 0) s m args below meth c H locs 0 0 Q (F0 m 13 ls []) := by
  have hx := X.hx
  have hb := X.hb
  have hown := X.hown
  have hts := X.hts
  rw [fX11_goesBack_13] at hf
  refine lv_iload_n hx hb dX11_goesBack_13 rfl (lv_at hl 1 rfl) ?_
  cases hf
  exact hret _ _ _ _ dX11_goesBack_14 hP hS
set_option maxRecDepth 10000 in
theorem kX11_goesBack_0 {r : Int32} {S1 : MS} {M : MS} {a1 : Int32} {H : Heap} {locs : List Loc} {ls : Array Slot} (X : gX p s m args c cX11_goesBack 2 RX11 (kR kTab kA)) (hret : gRetI p l e (rmL 2 0 0) s m args below meth c cX11_goesBack (mΩ ad) (mP dC dI cI kA ad) Q r S1) (hf : fX11_goesBack_0 M a1 = some (r, S1)) (hP : (mP dC dI cI kA ad) M s H) (hS : va_S (Fr (mΩ ad) s.heap.size) s.heap H locs) (hl : lv_has ls 2 [(0, .ref (ad 25)), (1, .int a1)]) : W p l e (rmL 2 0 0) s m args below meth c H locs 0 0 Q (F0 m 0 ls []) := by
  have hx := X.hx
  have hb := X.hb
  have hown := X.hown
  have hts := X.hts
  rw [fX11_goesBack_0] at hf
  refine lv_aload_n hx hb dX11_goesBack_0 rfl (lv_at hl 0 rfl) ?_
  refine mr_get (k := 2) X hP (by decide) rfl rfl tw1667 dX11_goesBack_1 ?_
  refine lv_iconst (v := 0) hx hb dX11_goesBack_4 (by decide) ?_
  refine lv_aload_n hx hb dX11_goesBack_5 rfl (lv_at hl 0 rfl) ?_
  refine mr_get (k := 0) X hP (by decide) rfl rfl tw1665 dX11_goesBack_6 ?_
  refine lv_iconst (v := 0) hx hb dX11_goesBack_9 (by decide) ?_
  obtain ⟨q, hc, hf⟩ := bd hf
  refine gCallSV X mOK rfl (vX11_copies hc) gRX11_X11_copies hdX11_copies rfl ⟨by decide, by decide⟩ hP hS hl.1 (Nat.le_of_ble_eq_true rfl) ⟨Nat.le_refl _, Nat.le_refl _⟩ dX11_goesBack_10 (As := [.ref (ad 2), .int 0, .ref (ad 0), .int 0]) (rest := []) rfl (fun H locs hP hS => ?_)
  exact kX11_goesBack_13 X hret hf hP hS (lv_sub hl [0, 1] rfl)
theorem vX11_goesBack {l : Launch} {dC : Nat → ClassId} {dI : Nat → Nat → Nat} {cI : ClassId} {kA : String → Nat → Nat} {ad : Nat → Nat} {M S1 : MS} {r : Int32} {a1 : Int32} (hf : fX11_goesBack M a1 = some (r, S1)) : gMetI l yX11_goesBack cX11_goesBack 2 (some .int) 2 (mΩ ad) (mP dC dI cI kA ad) (kR kTab kA) [.ref (ad 25), .int a1] M r S1 := gEntryI (ty := .int) (by decide) rfl rfl mOK (Nat.le_of_ble_eq_true rfl) (fun p e s m args below meth c Q ls X hP hS hret hl => 
  kX11_goesBack_0 X hret hf hP hS (lv_sub hl [0, 1] rfl))
set_option maxRecDepth 10000 in
theorem kX11_appendInput_47 {r : Int32} {S1 : MS} {M : MS} {H : Heap} {locs : List Loc} {ls : Array Slot} (X : gX p s m args c cX11_appendInput 6 RX11 (kR kTab kA)) (hret : gRetI p l e (rmL 2 0 0) s m args below meth c cX11_appendInput (mΩ ad) (mP dC dI cI kA ad) Q r S1) (hf : fX11_appendInput_47 M = some (r, S1)) (hP : (mP dC dI cI kA ad) M s H) (hS : va_S (Fr (mΩ ad) s.heap.size) s.heap H locs) (hl : lv_has ls 6 [(0, .ref (ad 25))]) : W p l e (rmL 2 0 0) s m args below meth c H locs 0 0 Q (F0 m 47 ls []) := by
  have hx := X.hx
  have hb := X.hb
  have hown := X.hown
  have hts := X.hts
  rw [fX11_appendInput_47] at hf
  refine lv_aload_n hx hb dX11_appendInput_47 rfl (lv_at hl 0 rfl) ?_
  refine mr_get (k := 9) X hP (by decide) rfl rfl tw1674 dX11_appendInput_48 ?_
  cases hf
  exact hret _ _ _ _ dX11_appendInput_51 hP hS
set_option maxRecDepth 10000 in
theorem kX11_appendInput_41 {r : Int32} {S1 : MS} {M : MS} {x5 : Int32} {H : Heap} {locs : List Loc} {ls : Array Slot} (X : gX p s m args c cX11_appendInput 6 RX11 (kR kTab kA)) (hret : gRetI p l e (rmL 2 0 0) s m args below meth c cX11_appendInput (mΩ ad) (mP dC dI cI kA ad) Q r S1) (hf : fX11_appendInput_41 M x5 = some (r, S1)) (hP : (mP dC dI cI kA ad) M s H) (hS : va_S (Fr (mΩ ad) s.heap.size) s.heap H locs) (hl : lv_has ls 6 [(0, .ref (ad 25)), (5, .int x5)]) : W p l e (rmL 2 0 0) s m args below meth c H locs 0 0 Q (F0 m 41 ls []) := by
  have hx := X.hx
  have hb := X.hb
  have hown := X.hown
  have hts := X.hts
  rw [fX11_appendInput_41] at hf
  refine lv_aload_n hx hb dX11_appendInput_41 rfl (lv_at hl 0 rfl) ?_
  refine lv_iload hx hb dX11_appendInput_42 (lv_at hl 1 rfl) ?_
  obtain ⟨q, hc, hf⟩ := bd hf
  refine gCallVV X mOK rfl (vX11_appendWord hc) gRX11_X11_appendWord hdX11_appendWord rfl ⟨by decide, by decide⟩ hP hS (mrec hP) hl.1 (Nat.le_of_ble_eq_true rfl) ⟨Nat.le_refl _, Nat.le_refl _⟩ dX11_appendInput_44 (As := [.int x5]) (rest := []) rfl (fun H locs hP hS => ?_)
  exact kX11_appendInput_47 X hret hf hP hS (lv_sub hl [0] rfl)
set_option maxRecDepth 10000 in
theorem kX11_appendInput_35 {r : Int32} {S1 : MS} {M : MS} {x4 : Int32} {x5 : Int32} {H : Heap} {locs : List Loc} {ls : Array Slot} (X : gX p s m args c cX11_appendInput 6 RX11 (kR kTab kA)) (hret : gRetI p l e (rmL 2 0 0) s m args below meth c cX11_appendInput (mΩ ad) (mP dC dI cI kA ad) Q r S1) (hf : fX11_appendInput_35 M x4 x5 = some (r, S1)) (hP : (mP dC dI cI kA ad) M s H) (hS : va_S (Fr (mΩ ad) s.heap.size) s.heap H locs) (hl : lv_has ls 6 [(0, .ref (ad 25)), (4, .int x4), (5, .int x5)]) : W p l e (rmL 2 0 0) s m args below meth c H locs 0 0 Q (F0 m 35 ls []) := by
  have hx := X.hx
  have hb := X.hb
  have hown := X.hown
  have hts := X.hts
  rw [fX11_appendInput_35] at hf
  refine lv_aload_n hx hb dX11_appendInput_35 rfl (lv_at hl 0 rfl) ?_
  refine lv_iload hx hb dX11_appendInput_36 (lv_at hl 1 rfl) ?_
  obtain ⟨q, hc, hf⟩ := bd hf
  refine gCallVV X mOK rfl (vX11_appendWord hc) gRX11_X11_appendWord hdX11_appendWord rfl ⟨by decide, by decide⟩ hP hS (mrec hP) hl.1 (Nat.le_of_ble_eq_true rfl) ⟨Nat.le_refl _, Nat.le_refl _⟩ dX11_appendInput_38 (As := [.int x4]) (rest := []) rfl (fun H locs hP hS => ?_)
  exact kX11_appendInput_41 X hret hf hP hS (lv_sub hl [0, 2] rfl)
set_option maxRecDepth 10000 in
theorem kX11_appendInput_30 {r : Int32} {S1 : MS} {M : MS} {x3 : Int32} {x4 : Int32} {x5 : Int32} {H : Heap} {locs : List Loc} {ls : Array Slot} (X : gX p s m args c cX11_appendInput 6 RX11 (kR kTab kA)) (hret : gRetI p l e (rmL 2 0 0) s m args below meth c cX11_appendInput (mΩ ad) (mP dC dI cI kA ad) Q r S1) (hf : fX11_appendInput_30 M x3 x4 x5 = some (r, S1)) (hP : (mP dC dI cI kA ad) M s H) (hS : va_S (Fr (mΩ ad) s.heap.size) s.heap H locs) (hl : lv_has ls 6 [(0, .ref (ad 25)), (3, .int x3), (4, .int x4), (5, .int x5)]) : W p l e (rmL 2 0 0) s m args below meth c H locs 0 0 Q (F0 m 30 ls []) := by
  have hx := X.hx
  have hb := X.hb
  have hown := X.hown
  have hts := X.hts
  rw [fX11_appendInput_30] at hf
  refine lv_aload_n hx hb dX11_appendInput_30 rfl (lv_at hl 0 rfl) ?_
  refine lv_iload_n hx hb dX11_appendInput_31 rfl (lv_at hl 1 rfl) ?_
  obtain ⟨q, hc, hf⟩ := bd hf
  refine gCallVV X mOK rfl (vX11_appendWord hc) gRX11_X11_appendWord hdX11_appendWord rfl ⟨by decide, by decide⟩ hP hS (mrec hP) hl.1 (Nat.le_of_ble_eq_true rfl) ⟨Nat.le_refl _, Nat.le_refl _⟩ dX11_appendInput_32 (As := [.int x3]) (rest := []) rfl (fun H locs hP hS => ?_)
  exact kX11_appendInput_35 X hret hf hP hS (lv_sub hl [0, 2, 3] rfl)
set_option maxRecDepth 10000 in
theorem kX11_appendInput_25 {r : Int32} {S1 : MS} {M : MS} {x2 : Int32} {x3 : Int32} {x4 : Int32} {x5 : Int32} {H : Heap} {locs : List Loc} {ls : Array Slot} (X : gX p s m args c cX11_appendInput 6 RX11 (kR kTab kA)) (hret : gRetI p l e (rmL 2 0 0) s m args below meth c cX11_appendInput (mΩ ad) (mP dC dI cI kA ad) Q r S1) (hf : fX11_appendInput_25 M x2 x3 x4 x5 = some (r, S1)) (hP : (mP dC dI cI kA ad) M s H) (hS : va_S (Fr (mΩ ad) s.heap.size) s.heap H locs) (hl : lv_has ls 6 [(0, .ref (ad 25)), (2, .int x2), (3, .int x3), (4, .int x4), (5, .int x5)]) : W p l e (rmL 2 0 0) s m args below meth c H locs 0 0 Q (F0 m 25 ls []) := by
  have hx := X.hx
  have hb := X.hb
  have hown := X.hown
  have hts := X.hts
  rw [fX11_appendInput_25] at hf
  refine lv_aload_n hx hb dX11_appendInput_25 rfl (lv_at hl 0 rfl) ?_
  refine lv_iload_n hx hb dX11_appendInput_26 rfl (lv_at hl 1 rfl) ?_
  obtain ⟨q, hc, hf⟩ := bd hf
  refine gCallVV X mOK rfl (vX11_appendWord hc) gRX11_X11_appendWord hdX11_appendWord rfl ⟨by decide, by decide⟩ hP hS (mrec hP) hl.1 (Nat.le_of_ble_eq_true rfl) ⟨Nat.le_refl _, Nat.le_refl _⟩ dX11_appendInput_27 (As := [.int x2]) (rest := []) rfl (fun H locs hP hS => ?_)
  exact kX11_appendInput_30 X hret hf hP hS (lv_sub hl [0, 2, 3, 4] rfl)
set_option maxRecDepth 10000 in
theorem kX11_appendInput_20 {r : Int32} {S1 : MS} {M : MS} {x1 : Int32} {x2 : Int32} {x3 : Int32} {x4 : Int32} {x5 : Int32} {H : Heap} {locs : List Loc} {ls : Array Slot} (X : gX p s m args c cX11_appendInput 6 RX11 (kR kTab kA)) (hret : gRetI p l e (rmL 2 0 0) s m args below meth c cX11_appendInput (mΩ ad) (mP dC dI cI kA ad) Q r S1) (hf : fX11_appendInput_20 M x1 x2 x3 x4 x5 = some (r, S1)) (hP : (mP dC dI cI kA ad) M s H) (hS : va_S (Fr (mΩ ad) s.heap.size) s.heap H locs) (hl : lv_has ls 6 [(0, .ref (ad 25)), (1, .int x1), (2, .int x2), (3, .int x3), (4, .int x4), (5, .int x5)]) : W p l e (rmL 2 0 0) s m args below meth c H locs 0 0 Q (F0 m 20 ls []) := by
  have hx := X.hx
  have hb := X.hb
  have hown := X.hown
  have hts := X.hts
  rw [fX11_appendInput_20] at hf
  refine lv_aload_n hx hb dX11_appendInput_20 rfl (lv_at hl 0 rfl) ?_
  refine lv_iload_n hx hb dX11_appendInput_21 rfl (lv_at hl 1 rfl) ?_
  obtain ⟨q, hc, hf⟩ := bd hf
  refine gCallVV X mOK rfl (vX11_appendWord hc) gRX11_X11_appendWord hdX11_appendWord rfl ⟨by decide, by decide⟩ hP hS (mrec hP) hl.1 (Nat.le_of_ble_eq_true rfl) ⟨Nat.le_refl _, Nat.le_refl _⟩ dX11_appendInput_22 (As := [.int x1]) (rest := []) rfl (fun H locs hP hS => ?_)
  exact kX11_appendInput_25 X hret hf hP hS (lv_sub hl [0, 2, 3, 4, 5] rfl)
set_option maxRecDepth 10000 in
theorem kX11_appendInput_18 {r : Int32} {S1 : MS} {M : MS} {H : Heap} {locs : List Loc} {ls : Array Slot} (X : gX p s m args c cX11_appendInput 6 RX11 (kR kTab kA)) (hret : gRetI p l e (rmL 2 0 0) s m args below meth c cX11_appendInput (mΩ ad) (mP dC dI cI kA ad) Q r S1) (hf : fX11_appendInput_18 M = some (r, S1)) (hP : (mP dC dI cI kA ad) M s H) (hS : va_S (Fr (mΩ ad) s.heap.size) s.heap H locs) (hl : lv_has ls 6 [(0, .ref (ad 25))]) : W p l e (rmL 2 0 0) s m args below meth c H locs 0 0 Q (F0 m 18 ls []) := by
  have hx := X.hx
  have hb := X.hb
  have hown := X.hown
  have hts := X.hts
  rw [fX11_appendInput_18] at hf
  refine lv_iconst (v := (-1)) hx hb dX11_appendInput_18 (by decide) ?_
  cases hf
  exact hret _ _ _ _ dX11_appendInput_19 hP hS
set_option maxRecDepth 10000 in
theorem kX11_appendInput_5 {r : Int32} {S1 : MS} {M : MS} {x1 : Int32} {x2 : Int32} {x3 : Int32} {x4 : Int32} {x5 : Int32} {H : Heap} {locs : List Loc} {ls : Array Slot} (X : gX p s m args c cX11_appendInput 6 RX11 (kR kTab kA)) (hret : gRetI p l e (rmL 2 0 0) s m args below meth c cX11_appendInput (mΩ ad) (mP dC dI cI kA ad) Q r S1) (hf : fX11_appendInput_5 M x1 x2 x3 x4 x5 = some (r, S1)) (hP : (mP dC dI cI kA ad) M s H) (hS : va_S (Fr (mΩ ad) s.heap.size) s.heap H locs) (hl : lv_has ls 6 [(0, .ref (ad 25)), (1, .int x1), (2, .int x2), (3, .int x3), (4, .int x4), (5, .int x5)]) : W p l e (rmL 2 0 0) s m args below meth c H locs 0 0 Q (F0 m 5 ls []) := by
  have hx := X.hx
  have hb := X.hb
  have hown := X.hown
  have hts := X.hts
  rw [fX11_appendInput_5] at hf
  refine lv_aload_n hx hb dX11_appendInput_5 rfl (lv_at hl 0 rfl) ?_
  refine mr_get (k := 9) X hP (by decide) rfl rfl tw1674 dX11_appendInput_6 ?_
  refine lv_bipush (v := 20) hx hb dX11_appendInput_9 (by decide) ?_
  refine lv_iadd hx hb dX11_appendInput_11 ?_
  refine lv_sipush (v := 600) hx hb dX11_appendInput_12 (by decide) ?_
  refine lv_icmp_le (tgt := 20) hx hb dX11_appendInput_15 (by decide) (fun c1 => ?_) (fun c1 => ?_)
  · exact kX11_appendInput_20 X hret (ifp c1 hf) hP hS (lv_sub hl [0, 1, 2, 3, 4, 5] rfl)
  · exact kX11_appendInput_18 X hret (ifn c1 hf) hP hS (lv_sub hl [0] rfl)
set_option maxRecDepth 10000 in
theorem kX11_appendInput_0 {r : Int32} {S1 : MS} {M : MS} {a1 : Int32} {a2 : Int32} {a3 : Int32} {a4 : Int32} {a5 : Int32} {H : Heap} {locs : List Loc} {ls : Array Slot} (X : gX p s m args c cX11_appendInput 6 RX11 (kR kTab kA)) (hret : gRetI p l e (rmL 2 0 0) s m args below meth c cX11_appendInput (mΩ ad) (mP dC dI cI kA ad) Q r S1) (hf : fX11_appendInput_0 M a1 a2 a3 a4 a5 = some (r, S1)) (hP : (mP dC dI cI kA ad) M s H) (hS : va_S (Fr (mΩ ad) s.heap.size) s.heap H locs) (hl : lv_has ls 6 [(0, .ref (ad 25)), (1, .int a1), (2, .int a2), (3, .int a3), (4, .int a4), (5, .int a5)]) : W p l e (rmL 2 0 0) s m args below meth c H locs 0 0 Q (F0 m 0 ls []) := by
  have hx := X.hx
  have hb := X.hb
  have hown := X.hown
  have hts := X.hts
  rw [fX11_appendInput_0] at hf
  refine lv_aload_n hx hb dX11_appendInput_0 rfl (lv_at hl 0 rfl) ?_
  refine lv_iconst (v := 0) hx hb dX11_appendInput_1 (by decide) ?_
  refine mr_put (k := 7) X hP hS (by decide) rfl rfl rfl rfl tw1672 dX11_appendInput_2 (fun H locs hP hS => ?_)
  exact kX11_appendInput_5 X hret hf hP hS (lv_sub hl [0, 1, 2, 3, 4, 5] rfl)
theorem vX11_appendInput {l : Launch} {dC : Nat → ClassId} {dI : Nat → Nat → Nat} {cI : ClassId} {kA : String → Nat → Nat} {ad : Nat → Nat} {M S1 : MS} {r : Int32} {a1 : Int32} {a2 : Int32} {a3 : Int32} {a4 : Int32} {a5 : Int32} (hf : fX11_appendInput M a1 a2 a3 a4 a5 = some (r, S1)) : gMetI l yX11_appendInput cX11_appendInput 6 (some .int) 2 (mΩ ad) (mP dC dI cI kA ad) (kR kTab kA) [.ref (ad 25), .int a1, .int a2, .int a3, .int a4, .int a5] M r S1 := gEntryI (ty := .int) (by decide) rfl rfl mOK (Nat.le_of_ble_eq_true rfl) (fun p e s m args below meth c Q ls X hP hS hret hl => 
  kX11_appendInput_0 X hret hf hP hS (lv_sub hl [0, 1, 2, 3, 4, 5] rfl))
set_option maxRecDepth 10000 in
theorem kX11_truncateInput_24 {r : Int32} {S1 : MS} {M : MS} {H : Heap} {locs : List Loc} {ls : Array Slot} (X : gX p s m args c cX11_truncateInput 2 RX11 (kR kTab kA)) (hret : gRetI p l e (rmL 2 0 0) s m args below meth c cX11_truncateInput (mΩ ad) (mP dC dI cI kA ad) Q r S1) (hf : fX11_truncateInput_24 M = some (r, S1)) (hP : (mP dC dI cI kA ad) M s H) (hS : va_S (Fr (mΩ ad) s.heap.size) s.heap H locs) (hl : lv_has ls 2 [(0, .ref (ad 25))]) : W p l e (rmL 2 0 0) s m args below meth c H locs 0 0 Q (F0 m 24 ls []) := by
  have hx := X.hx
  have hb := X.hb
  have hown := X.hown
  have hts := X.hts
  rw [fX11_truncateInput_24] at hf
  refine lv_iconst (v := 1) hx hb dX11_truncateInput_24 (by decide) ?_
  cases hf
  exact hret _ _ _ _ dX11_truncateInput_25 hP hS
set_option maxRecDepth 10000 in
theorem kX11_truncateInput_19 {r : Int32} {S1 : MS} {M : MS} {x1 : Int32} {H : Heap} {locs : List Loc} {ls : Array Slot} (X : gX p s m args c cX11_truncateInput 2 RX11 (kR kTab kA)) (hret : gRetI p l e (rmL 2 0 0) s m args below meth c cX11_truncateInput (mΩ ad) (mP dC dI cI kA ad) Q r S1) (hf : fX11_truncateInput_19 M x1 = some (r, S1)) (hP : (mP dC dI cI kA ad) M s H) (hS : va_S (Fr (mΩ ad) s.heap.size) s.heap H locs) (hl : lv_has ls 2 [(0, .ref (ad 25)), (1, .int x1)]) : W p l e (rmL 2 0 0) s m args below meth c H locs 0 0 Q (F0 m 19 ls []) := by
  have hx := X.hx
  have hb := X.hb
  have hown := X.hown
  have hts := X.hts
  rw [fX11_truncateInput_19] at hf
  refine lv_aload_n hx hb dX11_truncateInput_19 rfl (lv_at hl 0 rfl) ?_
  refine lv_iload_n hx hb dX11_truncateInput_20 rfl (lv_at hl 1 rfl) ?_
  refine mr_put (k := 9) X hP hS (by decide) rfl rfl rfl rfl tw1674 dX11_truncateInput_21 (fun H locs hP hS => ?_)
  exact kX11_truncateInput_24 X hret hf hP hS (lv_sub hl [0] rfl)
set_option maxRecDepth 10000 in
theorem kX11_truncateInput_17 {r : Int32} {S1 : MS} {M : MS} {H : Heap} {locs : List Loc} {ls : Array Slot} (X : gX p s m args c cX11_truncateInput 2 RX11 (kR kTab kA)) (hret : gRetI p l e (rmL 2 0 0) s m args below meth c cX11_truncateInput (mΩ ad) (mP dC dI cI kA ad) Q r S1) (hf : fX11_truncateInput_17 M = some (r, S1)) (hP : (mP dC dI cI kA ad) M s H) (hS : va_S (Fr (mΩ ad) s.heap.size) s.heap H locs) (hl : lv_has ls 2 [(0, .ref (ad 25))]) : W p l e (rmL 2 0 0) s m args below meth c H locs 0 0 Q (F0 m 17 ls []) := by
  have hx := X.hx
  have hb := X.hb
  have hown := X.hown
  have hts := X.hts
  rw [fX11_truncateInput_17] at hf
  refine lv_iconst (v := 0) hx hb dX11_truncateInput_17 (by decide) ?_
  cases hf
  exact hret _ _ _ _ dX11_truncateInput_18 hP hS
set_option maxRecDepth 10000 in
theorem kX11_truncateInput_14 {r : Int32} {S1 : MS} {M : MS} {x1 : Int32} {s0 : Int32} {H : Heap} {locs : List Loc} {ls : Array Slot} (X : gX p s m args c cX11_truncateInput 2 RX11 (kR kTab kA)) (hret : gRetI p l e (rmL 2 0 0) s m args below meth c cX11_truncateInput (mΩ ad) (mP dC dI cI kA ad) Q r S1) (hf : fX11_truncateInput_14 M x1 s0 = some (r, S1)) (hP : (mP dC dI cI kA ad) M s H) (hS : va_S (Fr (mΩ ad) s.heap.size) s.heap H locs) (hl : lv_has ls 2 [(0, .ref (ad 25)), (1, .int x1)]) : W p l e (rmL 2 0 0) s m args below meth c H locs 0 0 Q (F0 m 14 ls [.int s0]) := by
  have hx := X.hx
  have hb := X.hb
  have hown := X.hown
  have hts := X.hts
  rw [fX11_truncateInput_14] at hf
  refine lv_if_ne (tgt := 19) hx hb dX11_truncateInput_14 (by decide) (fun c1 => ?_) (fun c1 => ?_)
  · exact kX11_truncateInput_19 X hret (ifn c1 hf) hP hS (lv_sub hl [0, 1] rfl)
  · exact kX11_truncateInput_17 X hret (ifp c1 hf) hP hS (lv_sub hl [0] rfl)
set_option maxRecDepth 10000 in
theorem kX11_truncateInput_5 {r : Int32} {S1 : MS} {M : MS} {x1 : Int32} {H : Heap} {locs : List Loc} {ls : Array Slot} (X : gX p s m args c cX11_truncateInput 2 RX11 (kR kTab kA)) (hret : gRetI p l e (rmL 2 0 0) s m args below meth c cX11_truncateInput (mΩ ad) (mP dC dI cI kA ad) Q r S1) (hf : fX11_truncateInput_5 M x1 = some (r, S1)) (hP : (mP dC dI cI kA ad) M s H) (hS : va_S (Fr (mΩ ad) s.heap.size) s.heap H locs) (hl : lv_has ls 2 [(0, .ref (ad 25)), (1, .int x1)]) : W p l e (rmL 2 0 0) s m args below meth c H locs 0 0 Q (F0 m 5 ls []) := by
  have hx := X.hx
  have hb := X.hb
  have hown := X.hown
  have hts := X.hts
  rw [fX11_truncateInput_5] at hf
  refine lv_iload_n hx hb dX11_truncateInput_5 rfl (lv_at hl 1 rfl) ?_
  refine lv_iconst (v := 0) hx hb dX11_truncateInput_6 (by decide) ?_
  refine lv_aload_n hx hb dX11_truncateInput_7 rfl (lv_at hl 0 rfl) ?_
  refine mr_get (k := 9) X hP (by decide) rfl rfl tw1674 dX11_truncateInput_8 ?_
  obtain ⟨q, hc, hf⟩ := bd hf
  refine gCallSR X rfl (vX11_inRange hc) gRX11_X11_inRange hdX11_inRange rfl ⟨by decide, by decide⟩ (gB_blind mOK) (gB_at mOK X hP) hl.1 (Nat.le_of_ble_eq_true rfl) ⟨Nat.le_refl _, Nat.le_refl _⟩ dX11_truncateInput_11 (As := [.int x1, .int 0, .int (M.1 9)]) (rest := []) rfl ?_
  exact kX11_truncateInput_14 X hret hf hP hS (lv_sub hl [0, 1] rfl)
set_option maxRecDepth 10000 in
theorem kX11_truncateInput_0 {r : Int32} {S1 : MS} {M : MS} {a1 : Int32} {H : Heap} {locs : List Loc} {ls : Array Slot} (X : gX p s m args c cX11_truncateInput 2 RX11 (kR kTab kA)) (hret : gRetI p l e (rmL 2 0 0) s m args below meth c cX11_truncateInput (mΩ ad) (mP dC dI cI kA ad) Q r S1) (hf : fX11_truncateInput_0 M a1 = some (r, S1)) (hP : (mP dC dI cI kA ad) M s H) (hS : va_S (Fr (mΩ ad) s.heap.size) s.heap H locs) (hl : lv_has ls 2 [(0, .ref (ad 25)), (1, .int a1)]) : W p l e (rmL 2 0 0) s m args below meth c H locs 0 0 Q (F0 m 0 ls []) := by
  have hx := X.hx
  have hb := X.hb
  have hown := X.hown
  have hts := X.hts
  rw [fX11_truncateInput_0] at hf
  refine lv_aload_n hx hb dX11_truncateInput_0 rfl (lv_at hl 0 rfl) ?_
  refine lv_iconst (v := 0) hx hb dX11_truncateInput_1 (by decide) ?_
  refine mr_put (k := 7) X hP hS (by decide) rfl rfl rfl rfl tw1672 dX11_truncateInput_2 (fun H locs hP hS => ?_)
  exact kX11_truncateInput_5 X hret hf hP hS (lv_sub hl [0, 1] rfl)
theorem vX11_truncateInput {l : Launch} {dC : Nat → ClassId} {dI : Nat → Nat → Nat} {cI : ClassId} {kA : String → Nat → Nat} {ad : Nat → Nat} {M S1 : MS} {r : Int32} {a1 : Int32} (hf : fX11_truncateInput M a1 = some (r, S1)) : gMetI l yX11_truncateInput cX11_truncateInput 2 (some .boolean) 2 (mΩ ad) (mP dC dI cI kA ad) (kR kTab kA) [.ref (ad 25), .int a1] M r S1 := gEntryI (ty := .boolean) (by decide) rfl (bz_n hf) mOK (Nat.le_of_ble_eq_true rfl) (fun p e s m args below meth c Q ls X hP hS hret hl => 
  kX11_truncateInput_0 X hret (bz_f hf) hP hS (lv_sub hl [0, 1] rfl))
set_option maxRecDepth 10000 in
theorem kX11_isLetter_12 {r : Int32} {M : MS} {s0 : Int32} (X : gX p s m args c cX11_isLetter 2 RX11 (kR kTab kA)) (hret : gRetR p l e (rmL 2 0 0) s m args below meth c cX11_isLetter Q r) (hf : fX11_isLetter_12 M s0 = some r) {ls : Array Slot} (hP : (mP dC dI cI kA ad) M s s.heap) (hl : lv_has ls 2 [(0, .ref (ad 25))]) : W p l e (rmL 2 0 0) s m args below meth c s.heap [] 0 0 Q (F0 m 12 ls [.int s0]) := by
  have hx := X.hx
  have hb := X.hb
  have hown := X.hown
  have hts := X.hts
  rw [fX11_isLetter_12] at hf
  cases hf
  exact hret _ _ dX11_isLetter_12
set_option maxRecDepth 10000 in
theorem kX11_isLetter_5 {r : Int32} {M : MS} {s0 : Int32} (X : gX p s m args c cX11_isLetter 2 RX11 (kR kTab kA)) (hret : gRetR p l e (rmL 2 0 0) s m args below meth c cX11_isLetter Q r) (hf : fX11_isLetter_5 M s0 = some r) {ls : Array Slot} (hP : (mP dC dI cI kA ad) M s s.heap) (hl : lv_has ls 2 [(0, .ref (ad 25))]) : W p l e (rmL 2 0 0) s m args below meth c s.heap [] 0 0 Q (F0 m 5 ls [.int s0]) := by
  have hx := X.hx
  have hb := X.hb
  have hown := X.hown
  have hts := X.hts
  rw [fX11_isLetter_5] at hf
  refine lv_bipush (v := 97) hx hb dX11_isLetter_5 (by decide) ?_
  refine lv_bipush (v := 122) hx hb dX11_isLetter_7 (by decide) ?_
  obtain ⟨q, hc, hf⟩ := bd hf
  refine gCallSR X rfl (vX11_inRange hc) gRX11_X11_inRange hdX11_inRange rfl ⟨by decide, by decide⟩ (gB_blind mOK) (gB_at mOK X hP) hl.1 (Nat.le_of_ble_eq_true rfl) ⟨Nat.le_refl _, Nat.le_refl _⟩ dX11_isLetter_9 (As := [.int s0, .int 97, .int 122]) (rest := []) rfl ?_
  exact kX11_isLetter_12 X hret hf hP (lv_sub hl [0] rfl)
set_option maxRecDepth 10000 in
theorem kX11_isLetter_0 {r : Int32} {M : MS} {a1 : Int32} (X : gX p s m args c cX11_isLetter 2 RX11 (kR kTab kA)) (hret : gRetR p l e (rmL 2 0 0) s m args below meth c cX11_isLetter Q r) (hf : fX11_isLetter_0 M a1 = some r) {ls : Array Slot} (hP : (mP dC dI cI kA ad) M s s.heap) (hl : lv_has ls 2 [(0, .ref (ad 25)), (1, .int a1)]) : W p l e (rmL 2 0 0) s m args below meth c s.heap [] 0 0 Q (F0 m 0 ls []) := by
  have hx := X.hx
  have hb := X.hb
  have hown := X.hown
  have hts := X.hts
  rw [fX11_isLetter_0] at hf
  refine lv_aload_n hx hb dX11_isLetter_0 rfl (lv_at hl 0 rfl) ?_
  refine lv_iload_n hx hb dX11_isLetter_1 rfl (lv_at hl 1 rfl) ?_
  obtain ⟨q, hc, hf⟩ := bd hf
  refine gCallVR X rfl (vX11_byteAt hc) gRX11_X11_byteAt hdX11_byteAt rfl ⟨by decide, by decide⟩ (gB_blind mOK) (gB_at mOK X hP) (mrec hP) hl.1 (Nat.le_of_ble_eq_true rfl) ⟨Nat.le_refl _, Nat.le_refl _⟩ dX11_isLetter_2 (As := [.int a1]) (rest := []) rfl ?_
  exact kX11_isLetter_5 X hret hf hP (lv_sub hl [0] rfl)
theorem vX11_isLetter {l : Launch} {dC : Nat → ClassId} {dI : Nat → Nat → Nat} {cI : ClassId} {kA : String → Nat → Nat} {ad : Nat → Nat} {M : MS} {r : Int32} {a1 : Int32} (hf : fX11_isLetter M a1 = some r) : gMetR l yX11_isLetter cX11_isLetter 2 (some .boolean) 2 (gB (mP dC dI cI kA ad) (kR kTab kA) M) [.ref (ad 25), .int a1] r := gEntryR (ty := .boolean) (by decide) rfl (bq_n hf) (Nat.le_of_ble_eq_true rfl) (fun _ h => h.2) (fun p e s m args below meth c Q ls X hB hret hl => 
  kX11_isLetter_0 X hret (bq_f hf) hB.1 (lv_sub hl [0, 1] rfl))
set_option maxRecDepth 10000 in
theorem kX11_seesNumber_40 {r : Int32} {S1 : MS} {M : MS} {H : Heap} {locs : List Loc} {ls : Array Slot} (X : gX p s m args c cX11_seesNumber 3 RX11 (kR kTab kA)) (hret : gRetI p l e (rmL 2 0 0) s m args below meth c cX11_seesNumber (mΩ ad) (mP dC dI cI kA ad) Q r S1) (hf : fX11_seesNumber_40 M = some (r, S1)) (hP : (mP dC dI cI kA ad) M s H) (hS : va_S (Fr (mΩ ad) s.heap.size) s.heap H locs) (hl : lv_has ls 3 [(0, .ref (ad 25))]) : W p l e (rmL 2 0 0) s m args below meth c H locs 0 0 Q (F0 m 40 ls []) := by
  have hx := X.hx
  have hb := X.hb
  have hown := X.hown
  have hts := X.hts
  rw [fX11_seesNumber_40] at hf
  refine lv_iconst (v := 1) hx hb dX11_seesNumber_40 (by decide) ?_
  cases hf
  exact hret _ _ _ _ dX11_seesNumber_41 hP hS
set_option maxRecDepth 10000 in
theorem kX11_seesNumber_32 {r : Int32} {S1 : MS} {M : MS} {H : Heap} {locs : List Loc} {ls : Array Slot} (X : gX p s m args c cX11_seesNumber 3 RX11 (kR kTab kA)) (hret : gRetI p l e (rmL 2 0 0) s m args below meth c cX11_seesNumber (mΩ ad) (mP dC dI cI kA ad) Q r S1) (hf : fX11_seesNumber_32 M = some (r, S1)) (hP : (mP dC dI cI kA ad) M s H) (hS : va_S (Fr (mΩ ad) s.heap.size) s.heap H locs) (hl : lv_has ls 3 [(0, .ref (ad 25))]) : W p l e (rmL 2 0 0) s m args below meth c H locs 0 0 Q (F0 m 32 ls []) := by
  have hx := X.hx
  have hb := X.hb
  have hown := X.hown
  have hts := X.hts
  rw [fX11_seesNumber_32] at hf
  refine lv_aload_n hx hb dX11_seesNumber_32 rfl (lv_at hl 0 rfl) ?_
  refine lv_aload_n hx hb dX11_seesNumber_33 rfl (lv_at hl 0 rfl) ?_
  refine mr_get (k := 16) X hP (by decide) rfl rfl tw1681 dX11_seesNumber_34 ?_
  refine mr_put (k := 18) X hP hS (by decide) rfl rfl rfl rfl tw1683 dX11_seesNumber_37 (fun H locs hP hS => ?_)
  exact kX11_seesNumber_40 X hret hf hP hS (lv_sub hl [0] rfl)
set_option maxRecDepth 10000 in
theorem kX11_seesNumber_31 {r : Int32} {S1 : MS} {M : MS} {s0 : Int32} {H : Heap} {locs : List Loc} {ls : Array Slot} (X : gX p s m args c cX11_seesNumber 3 RX11 (kR kTab kA)) (hret : gRetI p l e (rmL 2 0 0) s m args below meth c cX11_seesNumber (mΩ ad) (mP dC dI cI kA ad) Q r S1) (hf : fX11_seesNumber_31 M s0 = some (r, S1)) (hP : (mP dC dI cI kA ad) M s H) (hS : va_S (Fr (mΩ ad) s.heap.size) s.heap H locs) (hl : lv_has ls 3 [(0, .ref (ad 25))]) : W p l e (rmL 2 0 0) s m args below meth c H locs 0 0 Q (F0 m 31 ls [.int s0]) := by
  have hx := X.hx
  have hb := X.hb
  have hown := X.hown
  have hts := X.hts
  rw [fX11_seesNumber_31] at hf
  cases hf
  exact hret _ _ _ _ dX11_seesNumber_31 hP hS
set_option maxRecDepth 10000 in
theorem kX11_seesNumber_26 {r : Int32} {S1 : MS} {M : MS} {H : Heap} {locs : List Loc} {ls : Array Slot} (X : gX p s m args c cX11_seesNumber 3 RX11 (kR kTab kA)) (hret : gRetI p l e (rmL 2 0 0) s m args below meth c cX11_seesNumber (mΩ ad) (mP dC dI cI kA ad) Q r S1) (hf : fX11_seesNumber_26 M = some (r, S1)) (hP : (mP dC dI cI kA ad) M s H) (hS : va_S (Fr (mΩ ad) s.heap.size) s.heap H locs) (hl : lv_has ls 3 [(0, .ref (ad 25))]) : W p l e (rmL 2 0 0) s m args below meth c H locs 0 0 Q (F0 m 26 ls []) := by
  have hx := X.hx
  have hb := X.hb
  have hown := X.hown
  have hts := X.hts
  rw [fX11_seesNumber_26] at hf
  refine lv_aload_n hx hb dX11_seesNumber_26 rfl (lv_at hl 0 rfl) ?_
  refine lv_iconst (v := 2) hx hb dX11_seesNumber_27 (by decide) ?_
  obtain ⟨q, hc, hf⟩ := bd hf
  refine gCallVI X mOK rfl (vX11_failsAt hc) gRX11_X11_failsAt hdX11_failsAt rfl ⟨by decide, by decide⟩ hP hS (mrec hP) hl.1 (Nat.le_of_ble_eq_true rfl) ⟨Nat.le_refl _, Nat.le_refl _⟩ dX11_seesNumber_28 (As := [.int 2]) (rest := []) rfl (fun H locs hP hS => ?_)
  exact kX11_seesNumber_31 X hret hf hP hS (lv_sub hl [0] rfl)
set_option maxRecDepth 10000 in
theorem kX11_seesNumber_23 {r : Int32} {S1 : MS} {M : MS} {s0 : Int32} {H : Heap} {locs : List Loc} {ls : Array Slot} (X : gX p s m args c cX11_seesNumber 3 RX11 (kR kTab kA)) (hret : gRetI p l e (rmL 2 0 0) s m args below meth c cX11_seesNumber (mΩ ad) (mP dC dI cI kA ad) Q r S1) (hf : fX11_seesNumber_23 M s0 = some (r, S1)) (hP : (mP dC dI cI kA ad) M s H) (hS : va_S (Fr (mΩ ad) s.heap.size) s.heap H locs) (hl : lv_has ls 3 [(0, .ref (ad 25))]) : W p l e (rmL 2 0 0) s m args below meth c H locs 0 0 Q (F0 m 23 ls [.int s0]) := by
  have hx := X.hx
  have hb := X.hb
  have hown := X.hown
  have hts := X.hts
  rw [fX11_seesNumber_23] at hf
  refine lv_if_ne (tgt := 32) hx hb dX11_seesNumber_23 (by decide) (fun c1 => ?_) (fun c1 => ?_)
  · exact kX11_seesNumber_32 X hret (ifn c1 hf) hP hS (lv_sub hl [0] rfl)
  · exact kX11_seesNumber_26 X hret (ifp c1 hf) hP hS (lv_sub hl [0] rfl)
set_option maxRecDepth 10000 in
theorem kX11_seesNumber_14 {r : Int32} {S1 : MS} {M : MS} {x1 : Int32} {x2 : Int32} {H : Heap} {locs : List Loc} {ls : Array Slot} (X : gX p s m args c cX11_seesNumber 3 RX11 (kR kTab kA)) (hret : gRetI p l e (rmL 2 0 0) s m args below meth c cX11_seesNumber (mΩ ad) (mP dC dI cI kA ad) Q r S1) (hf : fX11_seesNumber_14 M x1 x2 = some (r, S1)) (hP : (mP dC dI cI kA ad) M s H) (hS : va_S (Fr (mΩ ad) s.heap.size) s.heap H locs) (hl : lv_has ls 3 [(0, .ref (ad 25)), (1, .int x1), (2, .int x2)]) : W p l e (rmL 2 0 0) s m args below meth c H locs 0 0 Q (F0 m 14 ls []) := by
  have hx := X.hx
  have hb := X.hb
  have hown := X.hown
  have hts := X.hts
  rw [fX11_seesNumber_14] at hf
  refine lv_aload_n hx hb dX11_seesNumber_14 rfl (lv_at hl 0 rfl) ?_
  refine mr_get (k := 16) X hP (by decide) rfl rfl tw1681 dX11_seesNumber_15 ?_
  refine lv_iload_n hx hb dX11_seesNumber_18 rfl (lv_at hl 1 rfl) ?_
  refine lv_iload_n hx hb dX11_seesNumber_19 rfl (lv_at hl 2 rfl) ?_
  obtain ⟨q, hc, hf⟩ := bd hf
  refine gCallSR X rfl (vX11_inRange hc) gRX11_X11_inRange hdX11_inRange rfl ⟨by decide, by decide⟩ (gB_blind mOK) (gB_at mOK X hP) hl.1 (Nat.le_of_ble_eq_true rfl) ⟨Nat.le_refl _, Nat.le_refl _⟩ dX11_seesNumber_20 (As := [.int (M.1 16), .int x1, .int x2]) (rest := []) rfl ?_
  exact kX11_seesNumber_23 X hret hf hP hS (lv_sub hl [0] rfl)
set_option maxRecDepth 10000 in
theorem kX11_seesNumber_13 {r : Int32} {S1 : MS} {M : MS} {s0 : Int32} {H : Heap} {locs : List Loc} {ls : Array Slot} (X : gX p s m args c cX11_seesNumber 3 RX11 (kR kTab kA)) (hret : gRetI p l e (rmL 2 0 0) s m args below meth c cX11_seesNumber (mΩ ad) (mP dC dI cI kA ad) Q r S1) (hf : fX11_seesNumber_13 M s0 = some (r, S1)) (hP : (mP dC dI cI kA ad) M s H) (hS : va_S (Fr (mΩ ad) s.heap.size) s.heap H locs) (hl : lv_has ls 3 [(0, .ref (ad 25))]) : W p l e (rmL 2 0 0) s m args below meth c H locs 0 0 Q (F0 m 13 ls [.int s0]) := by
  have hx := X.hx
  have hb := X.hb
  have hown := X.hown
  have hts := X.hts
  rw [fX11_seesNumber_13] at hf
  cases hf
  exact hret _ _ _ _ dX11_seesNumber_13 hP hS
set_option maxRecDepth 10000 in
theorem kX11_seesNumber_8 {r : Int32} {S1 : MS} {M : MS} {H : Heap} {locs : List Loc} {ls : Array Slot} (X : gX p s m args c cX11_seesNumber 3 RX11 (kR kTab kA)) (hret : gRetI p l e (rmL 2 0 0) s m args below meth c cX11_seesNumber (mΩ ad) (mP dC dI cI kA ad) Q r S1) (hf : fX11_seesNumber_8 M = some (r, S1)) (hP : (mP dC dI cI kA ad) M s H) (hS : va_S (Fr (mΩ ad) s.heap.size) s.heap H locs) (hl : lv_has ls 3 [(0, .ref (ad 25))]) : W p l e (rmL 2 0 0) s m args below meth c H locs 0 0 Q (F0 m 8 ls []) := by
  have hx := X.hx
  have hb := X.hb
  have hown := X.hown
  have hts := X.hts
  rw [fX11_seesNumber_8] at hf
  refine lv_aload_n hx hb dX11_seesNumber_8 rfl (lv_at hl 0 rfl) ?_
  refine lv_iconst (v := 1) hx hb dX11_seesNumber_9 (by decide) ?_
  obtain ⟨q, hc, hf⟩ := bd hf
  refine gCallVI X mOK rfl (vX11_failsAt hc) gRX11_X11_failsAt hdX11_failsAt rfl ⟨by decide, by decide⟩ hP hS (mrec hP) hl.1 (Nat.le_of_ble_eq_true rfl) ⟨Nat.le_refl _, Nat.le_refl _⟩ dX11_seesNumber_10 (As := [.int 1]) (rest := []) rfl (fun H locs hP hS => ?_)
  exact kX11_seesNumber_13 X hret hf hP hS (lv_sub hl [0] rfl)
set_option maxRecDepth 10000 in
theorem kX11_seesNumber_0 {r : Int32} {S1 : MS} {M : MS} {a1 : Int32} {a2 : Int32} {H : Heap} {locs : List Loc} {ls : Array Slot} (X : gX p s m args c cX11_seesNumber 3 RX11 (kR kTab kA)) (hret : gRetI p l e (rmL 2 0 0) s m args below meth c cX11_seesNumber (mΩ ad) (mP dC dI cI kA ad) Q r S1) (hf : fX11_seesNumber_0 M a1 a2 = some (r, S1)) (hP : (mP dC dI cI kA ad) M s H) (hS : va_S (Fr (mΩ ad) s.heap.size) s.heap H locs) (hl : lv_has ls 3 [(0, .ref (ad 25)), (1, .int a1), (2, .int a2)]) : W p l e (rmL 2 0 0) s m args below meth c H locs 0 0 Q (F0 m 0 ls []) := by
  have hx := X.hx
  have hb := X.hb
  have hown := X.hown
  have hts := X.hts
  rw [fX11_seesNumber_0] at hf
  refine lv_aload_n hx hb dX11_seesNumber_0 rfl (lv_at hl 0 rfl) ?_
  refine mr_get (k := 17) X hP (by decide) rfl rfl tw1682 dX11_seesNumber_1 ?_
  refine lv_iconst (v := 2) hx hb dX11_seesNumber_4 (by decide) ?_
  refine lv_icmp_eq (tgt := 14) hx hb dX11_seesNumber_5 (by decide) (fun c1 => ?_) (fun c1 => ?_)
  · exact kX11_seesNumber_14 X hret (ifp c1 hf) hP hS (lv_sub hl [0, 1, 2] rfl)
  · exact kX11_seesNumber_8 X hret (ifn c1 hf) hP hS (lv_sub hl [0] rfl)
theorem vX11_seesNumber {l : Launch} {dC : Nat → ClassId} {dI : Nat → Nat → Nat} {cI : ClassId} {kA : String → Nat → Nat} {ad : Nat → Nat} {M S1 : MS} {r : Int32} {a1 : Int32} {a2 : Int32} (hf : fX11_seesNumber M a1 a2 = some (r, S1)) : gMetI l yX11_seesNumber cX11_seesNumber 3 (some .boolean) 2 (mΩ ad) (mP dC dI cI kA ad) (kR kTab kA) [.ref (ad 25), .int a1, .int a2] M r S1 := gEntryI (ty := .boolean) (by decide) rfl (bz_n hf) mOK (Nat.le_of_ble_eq_true rfl) (fun p e s m args below meth c Q ls X hP hS hret hl => 
  kX11_seesNumber_0 X hret (bz_f hf) hP hS (lv_sub hl [0, 1, 2] rfl))
set_option maxRecDepth 10000 in
theorem kX11_seesName_35 {r : Int32} {S1 : MS} {M : MS} {s0 : Int32} {H : Heap} {locs : List Loc} {ls : Array Slot} (X : gX p s m args c cX11_seesName 1 RX11 (kR kTab kA)) (hret : gRetI p l e (rmL 2 0 0) s m args below meth c cX11_seesName (mΩ ad) (mP dC dI cI kA ad) Q r S1) (hf : fX11_seesName_35 M s0 = some (r, S1)) (hP : (mP dC dI cI kA ad) M s H) (hS : va_S (Fr (mΩ ad) s.heap.size) s.heap H locs) (hl : lv_has ls 1 [(0, .ref (ad 25))]) : W p l e (rmL 2 0 0) s m args below meth c H locs 0 0 Q (F0 m 35 ls [.int s0]) := by
  have hx := X.hx
  have hb := X.hb
  have hown := X.hown
  have hts := X.hts
  rw [fX11_seesName_35] at hf
  cases hf
  exact hret _ _ _ _ dX11_seesName_35 hP hS
set_option maxRecDepth 10000 in
theorem kX11_seesName_34 {r : Int32} {S1 : MS} {M : MS} {H : Heap} {locs : List Loc} {ls : Array Slot} (X : gX p s m args c cX11_seesName 1 RX11 (kR kTab kA)) (hret : gRetI p l e (rmL 2 0 0) s m args below meth c cX11_seesName (mΩ ad) (mP dC dI cI kA ad) Q r S1) (hf : fX11_seesName_34 M = some (r, S1)) (hP : (mP dC dI cI kA ad) M s H) (hS : va_S (Fr (mΩ ad) s.heap.size) s.heap H locs) (hl : lv_has ls 1 [(0, .ref (ad 25))]) : W p l e (rmL 2 0 0) s m args below meth c H locs 0 0 Q (F0 m 34 ls []) := by
  have hx := X.hx
  have hb := X.hb
  have hown := X.hown
  have hts := X.hts
  rw [fX11_seesName_34] at hf
  refine lv_iconst (v := 0) hx hb dX11_seesName_34 (by decide) ?_
  exact kX11_seesName_35 X hret hf hP hS (lv_sub hl [0] rfl)
set_option maxRecDepth 10000 in
theorem kX11_seesName_30 {r : Int32} {S1 : MS} {M : MS} {H : Heap} {locs : List Loc} {ls : Array Slot} (X : gX p s m args c cX11_seesName 1 RX11 (kR kTab kA)) (hret : gRetI p l e (rmL 2 0 0) s m args below meth c cX11_seesName (mΩ ad) (mP dC dI cI kA ad) Q r S1) (hf : fX11_seesName_30 M = some (r, S1)) (hP : (mP dC dI cI kA ad) M s H) (hS : va_S (Fr (mΩ ad) s.heap.size) s.heap H locs) (hl : lv_has ls 1 [(0, .ref (ad 25))]) : W p l e (rmL 2 0 0) s m args below meth c H locs 0 0 Q (F0 m 30 ls []) := by
  have hx := X.hx
  have hb := X.hb
  have hown := X.hown
  have hts := X.hts
  rw [fX11_seesName_30] at hf
  refine lv_iconst (v := 1) hx hb dX11_seesName_30 (by decide) ?_
  refine lv_goto (tgt := 35) hx hb dX11_seesName_31 (by decide) ?_
  exact kX11_seesName_35 X hret hf hP hS (lv_sub hl [0] rfl)
set_option maxRecDepth 10000 in
theorem kX11_seesName_27 {r : Int32} {S1 : MS} {M : MS} {s0 : Int32} {H : Heap} {locs : List Loc} {ls : Array Slot} (X : gX p s m args c cX11_seesName 1 RX11 (kR kTab kA)) (hret : gRetI p l e (rmL 2 0 0) s m args below meth c cX11_seesName (mΩ ad) (mP dC dI cI kA ad) Q r S1) (hf : fX11_seesName_27 M s0 = some (r, S1)) (hP : (mP dC dI cI kA ad) M s H) (hS : va_S (Fr (mΩ ad) s.heap.size) s.heap H locs) (hl : lv_has ls 1 [(0, .ref (ad 25))]) : W p l e (rmL 2 0 0) s m args below meth c H locs 0 0 Q (F0 m 27 ls [.int s0]) := by
  have hx := X.hx
  have hb := X.hb
  have hown := X.hown
  have hts := X.hts
  rw [fX11_seesName_27] at hf
  refine lv_if_eq (tgt := 34) hx hb dX11_seesName_27 (by decide) (fun c1 => ?_) (fun c1 => ?_)
  · exact kX11_seesName_34 X hret (ifp c1 hf) hP hS (lv_sub hl [0] rfl)
  · exact kX11_seesName_30 X hret (ifn c1 hf) hP hS (lv_sub hl [0] rfl)
set_option maxRecDepth 10000 in
theorem kX11_seesName_22 {r : Int32} {S1 : MS} {M : MS} {H : Heap} {locs : List Loc} {ls : Array Slot} (X : gX p s m args c cX11_seesName 1 RX11 (kR kTab kA)) (hret : gRetI p l e (rmL 2 0 0) s m args below meth c cX11_seesName (mΩ ad) (mP dC dI cI kA ad) Q r S1) (hf : fX11_seesName_22 M = some (r, S1)) (hP : (mP dC dI cI kA ad) M s H) (hS : va_S (Fr (mΩ ad) s.heap.size) s.heap H locs) (hl : lv_has ls 1 [(0, .ref (ad 25))]) : W p l e (rmL 2 0 0) s m args below meth c H locs 0 0 Q (F0 m 22 ls []) := by
  have hx := X.hx
  have hb := X.hb
  have hown := X.hown
  have hts := X.hts
  rw [fX11_seesName_22] at hf
  refine lv_aload_n hx hb dX11_seesName_22 rfl (lv_at hl 0 rfl) ?_
  refine lv_iconst (v := 1) hx hb dX11_seesName_23 (by decide) ?_
  obtain ⟨q, hc, hf⟩ := bd hf
  refine gCallVI X mOK rfl (vX11_failsAt hc) gRX11_X11_failsAt hdX11_failsAt rfl ⟨by decide, by decide⟩ hP hS (mrec hP) hl.1 (Nat.le_of_ble_eq_true rfl) ⟨Nat.le_refl _, Nat.le_refl _⟩ dX11_seesName_24 (As := [.int 1]) (rest := []) rfl (fun H locs hP hS => ?_)
  exact kX11_seesName_27 X hret hf hP hS (lv_sub hl [0] rfl)
set_option maxRecDepth 10000 in
theorem kX11_seesName_8 {r : Int32} {S1 : MS} {M : MS} {H : Heap} {locs : List Loc} {ls : Array Slot} (X : gX p s m args c cX11_seesName 1 RX11 (kR kTab kA)) (hret : gRetI p l e (rmL 2 0 0) s m args below meth c cX11_seesName (mΩ ad) (mP dC dI cI kA ad) Q r S1) (hf : fX11_seesName_8 M = some (r, S1)) (hP : (mP dC dI cI kA ad) M s H) (hS : va_S (Fr (mΩ ad) s.heap.size) s.heap H locs) (hl : lv_has ls 1 [(0, .ref (ad 25))]) : W p l e (rmL 2 0 0) s m args below meth c H locs 0 0 Q (F0 m 8 ls []) := by
  have hx := X.hx
  have hb := X.hb
  have hown := X.hown
  have hts := X.hts
  rw [fX11_seesName_8] at hf
  refine lv_aload_n hx hb dX11_seesName_8 rfl (lv_at hl 0 rfl) ?_
  refine mr_get (k := 14) X hP (by decide) rfl rfl tw1679 dX11_seesName_9 ?_
  refine lv_aload_n hx hb dX11_seesName_12 rfl (lv_at hl 0 rfl) ?_
  refine mr_get (k := 15) X hP (by decide) rfl rfl tw1680 dX11_seesName_13 ?_
  refine lv_isub hx hb dX11_seesName_16 ?_
  refine lv_bipush (v := 6) hx hb dX11_seesName_17 (by decide) ?_
  refine lv_icmp_le (tgt := 30) hx hb dX11_seesName_19 (by decide) (fun c1 => ?_) (fun c1 => ?_)
  · exact kX11_seesName_30 X hret (ifp c1 hf) hP hS (lv_sub hl [0] rfl)
  · exact kX11_seesName_22 X hret (ifn c1 hf) hP hS (lv_sub hl [0] rfl)
set_option maxRecDepth 10000 in
theorem kX11_seesName_0 {r : Int32} {S1 : MS} {M : MS} {H : Heap} {locs : List Loc} {ls : Array Slot} (X : gX p s m args c cX11_seesName 1 RX11 (kR kTab kA)) (hret : gRetI p l e (rmL 2 0 0) s m args below meth c cX11_seesName (mΩ ad) (mP dC dI cI kA ad) Q r S1) (hf : fX11_seesName_0 M = some (r, S1)) (hP : (mP dC dI cI kA ad) M s H) (hS : va_S (Fr (mΩ ad) s.heap.size) s.heap H locs) (hl : lv_has ls 1 [(0, .ref (ad 25))]) : W p l e (rmL 2 0 0) s m args below meth c H locs 0 0 Q (F0 m 0 ls []) := by
  have hx := X.hx
  have hb := X.hb
  have hown := X.hown
  have hts := X.hts
  rw [fX11_seesName_0] at hf
  refine lv_aload_n hx hb dX11_seesName_0 rfl (lv_at hl 0 rfl) ?_
  refine mr_get (k := 17) X hP (by decide) rfl rfl tw1682 dX11_seesName_1 ?_
  refine lv_iconst (v := 1) hx hb dX11_seesName_4 (by decide) ?_
  refine lv_icmp_ne (tgt := 22) hx hb dX11_seesName_5 (by decide) (fun c1 => ?_) (fun c1 => ?_)
  · exact kX11_seesName_22 X hret (ifn c1 hf) hP hS (lv_sub hl [0] rfl)
  · exact kX11_seesName_8 X hret (ifp c1 hf) hP hS (lv_sub hl [0] rfl)
theorem vX11_seesName {l : Launch} {dC : Nat → ClassId} {dI : Nat → Nat → Nat} {cI : ClassId} {kA : String → Nat → Nat} {ad : Nat → Nat} {M S1 : MS} {r : Int32} (hf : fX11_seesName M  = some (r, S1)) : gMetI l yX11_seesName cX11_seesName 1 (some .boolean) 2 (mΩ ad) (mP dC dI cI kA ad) (kR kTab kA) [.ref (ad 25)] M r S1 := gEntryI (ty := .boolean) (by decide) rfl (bz_n hf) mOK (Nat.le_of_ble_eq_true rfl) (fun p e s m args below meth c Q ls X hP hS hret hl => 
  kX11_seesName_0 X hret (bz_f hf) hP hS (lv_sub hl [0] rfl))
set_option maxRecDepth 10000 in
theorem kX11_nameHere_33 {r : Int32} {M : MS} (X : gX p s m args c cX11_nameHere 4 RX11 (kR kTab kA)) (hret : gRetR p l e (rmL 2 0 0) s m args below meth c cX11_nameHere Q r) (hf : fX11_nameHere_33 M = some r) {ls : Array Slot} (hP : (mP dC dI cI kA ad) M s s.heap) (hl : lv_has ls 4 [(0, .ref (ad 25))]) : W p l e (rmL 2 0 0) s m args below meth c s.heap [] 0 0 Q (F0 m 33 ls []) := by
  have hx := X.hx
  have hb := X.hb
  have hown := X.hown
  have hts := X.hts
  rw [fX11_nameHere_33] at hf
  refine lv_iconst (v := (-1)) hx hb dX11_nameHere_33 (by decide) ?_
  cases hf
  exact hret _ _ dX11_nameHere_34
set_option maxRecDepth 10000 in
theorem kX11_nameHere_27 {r : Int32} {K2 : MS → Int32 → Int32 → Int32 → Option (Int32)} {M : MS} {x1 : Int32} {x2 : Int32} {x3 : Int32} (X : gX p s m args c cX11_nameHere 4 RX11 (kR kTab kA)) (hret : gRetR p l e (rmL 2 0 0) s m args below meth c cX11_nameHere Q r) (hK2 : ∀ (M : MS) (x1 : Int32) (x2 : Int32) (x3 : Int32) (ls : Array Slot), K2 M x1 x2 x3 = some r → (mP dC dI cI kA ad) M s s.heap → lv_has ls 4 [(0, .ref (ad 25)), (1, .int x1), (2, .int x2), (3, .int x3)] → W p l e (rmL 2 0 0) s m args below meth c s.heap [] 0 0 Q (F0 m 2 ls [])) (hf : fX11_nameHere_27 K2 M x1 x2 x3 = some r) {ls : Array Slot} (hP : (mP dC dI cI kA ad) M s s.heap) (hl : lv_has ls 4 [(0, .ref (ad 25)), (1, .int x1), (2, .int x2), (3, .int x3)]) : W p l e (rmL 2 0 0) s m args below meth c s.heap [] 0 0 Q (F0 m 27 ls []) := by
  have hx := X.hx
  have hb := X.hb
  have hown := X.hown
  have hts := X.hts
  rw [fX11_nameHere_27] at hf
  refine lv_iinc (v := (x3 + 1)) (lv' := [(3, .int (x3 + 1)), (0, .ref (ad 25)), (1, .int x1), (2, .int x2)]) hx hb dX11_nameHere_27 hl (k := 3) rfl (by rfl) (by decide) rfl (fun ls hl => ?_)
  refine lv_goto (tgt := 2) hx hb dX11_nameHere_30 (by decide) ?_
  exact hK2 _ _ _ _ _ hf hP (lv_sub hl [1, 2, 3, 0] rfl)
set_option maxRecDepth 10000 in
theorem kX11_nameHere_25 {r : Int32} {M : MS} {x3 : Int32} (X : gX p s m args c cX11_nameHere 4 RX11 (kR kTab kA)) (hret : gRetR p l e (rmL 2 0 0) s m args below meth c cX11_nameHere Q r) (hf : fX11_nameHere_25 M x3 = some r) {ls : Array Slot} (hP : (mP dC dI cI kA ad) M s s.heap) (hl : lv_has ls 4 [(0, .ref (ad 25)), (3, .int x3)]) : W p l e (rmL 2 0 0) s m args below meth c s.heap [] 0 0 Q (F0 m 25 ls []) := by
  have hx := X.hx
  have hb := X.hb
  have hown := X.hown
  have hts := X.hts
  rw [fX11_nameHere_25] at hf
  refine lv_iload_n hx hb dX11_nameHere_25 rfl (lv_at hl 1 rfl) ?_
  cases hf
  exact hret _ _ dX11_nameHere_26
set_option maxRecDepth 10000 in
theorem kX11_nameHere_22 {r : Int32} {K2 : MS → Int32 → Int32 → Int32 → Option (Int32)} {M : MS} {x1 : Int32} {x2 : Int32} {x3 : Int32} {s0 : Int32} (X : gX p s m args c cX11_nameHere 4 RX11 (kR kTab kA)) (hret : gRetR p l e (rmL 2 0 0) s m args below meth c cX11_nameHere Q r) (hK2 : ∀ (M : MS) (x1 : Int32) (x2 : Int32) (x3 : Int32) (ls : Array Slot), K2 M x1 x2 x3 = some r → (mP dC dI cI kA ad) M s s.heap → lv_has ls 4 [(0, .ref (ad 25)), (1, .int x1), (2, .int x2), (3, .int x3)] → W p l e (rmL 2 0 0) s m args below meth c s.heap [] 0 0 Q (F0 m 2 ls [])) (hf : fX11_nameHere_22 K2 M x1 x2 x3 s0 = some r) {ls : Array Slot} (hP : (mP dC dI cI kA ad) M s s.heap) (hl : lv_has ls 4 [(0, .ref (ad 25)), (1, .int x1), (2, .int x2), (3, .int x3)]) : W p l e (rmL 2 0 0) s m args below meth c s.heap [] 0 0 Q (F0 m 22 ls [.int s0]) := by
  have hx := X.hx
  have hb := X.hb
  have hown := X.hown
  have hts := X.hts
  rw [fX11_nameHere_22] at hf
  refine lv_if_eq (tgt := 27) hx hb dX11_nameHere_22 (by decide) (fun c1 => ?_) (fun c1 => ?_)
  · exact kX11_nameHere_27 X hret hK2 (ifp c1 hf) hP (lv_sub hl [0, 1, 2, 3] rfl)
  · exact kX11_nameHere_25 X hret (ifn c1 hf) hP (lv_sub hl [0, 3] rfl)
set_option maxRecDepth 10000 in
theorem kX11_nameHere_12 {r : Int32} {K2 : MS → Int32 → Int32 → Int32 → Option (Int32)} {M : MS} {x1 : Int32} {x2 : Int32} {x3 : Int32} (X : gX p s m args c cX11_nameHere 4 RX11 (kR kTab kA)) (hret : gRetR p l e (rmL 2 0 0) s m args below meth c cX11_nameHere Q r) (hK2 : ∀ (M : MS) (x1 : Int32) (x2 : Int32) (x3 : Int32) (ls : Array Slot), K2 M x1 x2 x3 = some r → (mP dC dI cI kA ad) M s s.heap → lv_has ls 4 [(0, .ref (ad 25)), (1, .int x1), (2, .int x2), (3, .int x3)] → W p l e (rmL 2 0 0) s m args below meth c s.heap [] 0 0 Q (F0 m 2 ls [])) (hf : fX11_nameHere_12 K2 M x1 x2 x3 = some r) {ls : Array Slot} (hP : (mP dC dI cI kA ad) M s s.heap) (hl : lv_has ls 4 [(0, .ref (ad 25)), (1, .int x1), (2, .int x2), (3, .int x3)]) : W p l e (rmL 2 0 0) s m args below meth c s.heap [] 0 0 Q (F0 m 12 ls []) := by
  have hx := X.hx
  have hb := X.hb
  have hown := X.hown
  have hts := X.hts
  rw [fX11_nameHere_12] at hf
  refine lv_aload_n hx hb dX11_nameHere_12 rfl (lv_at hl 0 rfl) ?_
  refine lv_iload_n hx hb dX11_nameHere_13 rfl (lv_at hl 1 rfl) ?_
  refine lv_bipush (v := 12) hx hb dX11_nameHere_14 (by decide) ?_
  refine lv_iload_n hx hb dX11_nameHere_16 rfl (lv_at hl 3 rfl) ?_
  refine lv_imul hx hb dX11_nameHere_17 ?_
  refine lv_iadd hx hb dX11_nameHere_18 ?_
  obtain ⟨q, hc, hf⟩ := bd hf
  refine gCallVR X rfl (vX11_isNameAt hc) gRX11_X11_isNameAt hdX11_isNameAt rfl ⟨by decide, by decide⟩ (gB_blind mOK) (gB_at mOK X hP) (mrec hP) hl.1 (Nat.le_of_ble_eq_true rfl) ⟨Nat.le_refl _, Nat.le_refl _⟩ dX11_nameHere_19 (As := [.int (x1 + (12 * x3))]) (rest := []) rfl ?_
  exact kX11_nameHere_22 X hret hK2 hf hP (lv_sub hl [0, 1, 2, 3] rfl)
set_option maxRecDepth 10000 in
theorem kX11_nameHere_2 {r : Int32} (X : gX p s m args c cX11_nameHere 4 RX11 (kR kTab kA)) (hret : gRetR p l e (rmL 2 0 0) s m args below meth c cX11_nameHere Q r) : ∀ (n : Nat) (M : MS) (x1 : Int32) (x2 : Int32) (x3 : Int32) (ls : Array Slot), fX11_nameHere_2 n M x1 x2 x3 = some r → (mP dC dI cI kA ad) M s s.heap → lv_has ls 4 [(0, .ref (ad 25)), (1, .int x1), (2, .int x2), (3, .int x3)] → W p l e (rmL 2 0 0) s m args below meth c s.heap [] 0 0 Q (F0 m 2 ls []) := by
  intro n
  induction n with
  | zero => intro M x1 x2 x3 ls hf; cases hf
  | succ k ih =>
    intro M x1 x2 x3 ls hf hP hl
    have hx := X.hx
    have hb := X.hb
    have hown := X.hown
    have hts := X.hts
    rw [fX11_nameHere_2] at hf
    try dsimp only at hf
    refine lv_iload_n hx hb dX11_nameHere_2 rfl (lv_at hl 3 rfl) ?_
    refine lv_aload_n hx hb dX11_nameHere_3 rfl (lv_at hl 0 rfl) ?_
    refine mr_get (k := 0) X hP (by decide) rfl rfl tw1665 dX11_nameHere_4 ?_
    refine lv_iload_n hx hb dX11_nameHere_7 rfl (lv_at hl 2 rfl) ?_
    obtain ⟨g1, hf⟩ := gd hf
    refine mr_ald (a := 0) X hP rfl g1 dX11_nameHere_8 ?_
    refine lv_icmp_ge (tgt := 33) hx hb dX11_nameHere_9 (by decide) (fun c1 => ?_) (fun c1 => ?_)
    · exact kX11_nameHere_33 X hret (ifp c1 hf) hP (lv_sub hl [0] rfl)
    · exact kX11_nameHere_12 X hret ih (ifn c1 hf) hP (lv_sub hl [0, 1, 2, 3] rfl)
set_option maxRecDepth 10000 in
theorem kX11_nameHere_0 {r : Int32} {M : MS} {a1 : Int32} {a2 : Int32} (X : gX p s m args c cX11_nameHere 4 RX11 (kR kTab kA)) (hret : gRetR p l e (rmL 2 0 0) s m args below meth c cX11_nameHere Q r) (hf : fX11_nameHere_0 M a1 a2 = some r) {ls : Array Slot} (hP : (mP dC dI cI kA ad) M s s.heap) (hl : lv_has ls 4 [(0, .ref (ad 25)), (1, .int a1), (2, .int a2)]) : W p l e (rmL 2 0 0) s m args below meth c s.heap [] 0 0 Q (F0 m 0 ls []) := by
  have hx := X.hx
  have hb := X.hb
  have hown := X.hown
  have hts := X.hts
  rw [fX11_nameHere_0] at hf
  refine lv_iconst (v := 0) hx hb dX11_nameHere_0 (by decide) ?_
  refine lv_istore_n (lv' := [(3, .int 0), (0, .ref (ad 25)), (1, .int a1), (2, .int a2)]) hx hb dX11_nameHere_1 rfl hl (by decide) rfl (fun ls hl => ?_)
  exact kX11_nameHere_2 X hret FU _ _ _ _ _ hf hP (lv_sub hl [1, 2, 3, 0] rfl)
theorem vX11_nameHere {l : Launch} {dC : Nat → ClassId} {dI : Nat → Nat → Nat} {cI : ClassId} {kA : String → Nat → Nat} {ad : Nat → Nat} {M : MS} {r : Int32} {a1 : Int32} {a2 : Int32} (hf : fX11_nameHere M a1 a2 = some r) : gMetR l yX11_nameHere cX11_nameHere 4 (some .int) 2 (gB (mP dC dI cI kA ad) (kR kTab kA) M) [.ref (ad 25), .int a1, .int a2] r := gEntryR (ty := .int) (by decide) rfl rfl (Nat.le_of_ble_eq_true rfl) (fun _ h => h.2) (fun p e s m args below meth c Q ls X hB hret hl => 
  kX11_nameHere_0 X hret hf hB.1 (lv_sub hl [0, 1, 2] rfl))
set_option maxRecDepth 10000 in
theorem kX11_noCat_26 {r : Int32} {S1 : MS} {M : MS} {s0 : Int32} {H : Heap} {locs : List Loc} {ls : Array Slot} (X : gX p s m args c cX11_noCat 2 RX11 (kR kTab kA)) (hret : gRetI p l e (rmL 2 0 0) s m args below meth c cX11_noCat (mΩ ad) (mP dC dI cI kA ad) Q r S1) (hf : fX11_noCat_26 M s0 = some (r, S1)) (hP : (mP dC dI cI kA ad) M s H) (hS : va_S (Fr (mΩ ad) s.heap.size) s.heap H locs) (hl : lv_has ls 2 [(0, .ref (ad 25))]) : W p l e (rmL 2 0 0) s m args below meth c H locs 0 0 Q (F0 m 26 ls [.int s0]) := by
  have hx := X.hx
  have hb := X.hb
  have hown := X.hown
  have hts := X.hts
  rw [fX11_noCat_26] at hf
  cases hf
  exact hret _ _ _ _ dX11_noCat_26 hP hS
set_option maxRecDepth 10000 in
theorem kX11_noCat_22 {r : Int32} {S1 : MS} {M : MS} {s0 : Int32} {H : Heap} {locs : List Loc} {ls : Array Slot} (X : gX p s m args c cX11_noCat 2 RX11 (kR kTab kA)) (hret : gRetI p l e (rmL 2 0 0) s m args below meth c cX11_noCat (mΩ ad) (mP dC dI cI kA ad) Q r S1) (hf : fX11_noCat_22 M s0 = some (r, S1)) (hP : (mP dC dI cI kA ad) M s H) (hS : va_S (Fr (mΩ ad) s.heap.size) s.heap H locs) (hl : lv_has ls 2 [(0, .ref (ad 25))]) : W p l e (rmL 2 0 0) s m args below meth c H locs 0 0 Q (F0 m 22 ls [.int s0, .ref (ad 25)]) := by
  have hx := X.hx
  have hb := X.hb
  have hown := X.hown
  have hts := X.hts
  rw [fX11_noCat_22] at hf
  refine lv_iconst (v := 1) hx hb dX11_noCat_22 (by decide) ?_
  obtain ⟨q, hc, hf⟩ := bd hf
  refine gCallVI X mOK rfl (vX11_fails hc) gRX11_X11_fails hdX11_fails rfl ⟨by decide, by decide⟩ hP hS (mrec hP) hl.1 (Nat.le_of_ble_eq_true rfl) ⟨Nat.le_refl _, Nat.le_refl _⟩ dX11_noCat_23 (As := [.int s0, .int 1]) (rest := []) rfl (fun H locs hP hS => ?_)
  exact kX11_noCat_26 X hret hf hP hS (lv_sub hl [0] rfl)
set_option maxRecDepth 10000 in
theorem kX11_noCat_21 {r : Int32} {S1 : MS} {M : MS} {H : Heap} {locs : List Loc} {ls : Array Slot} (X : gX p s m args c cX11_noCat 2 RX11 (kR kTab kA)) (hret : gRetI p l e (rmL 2 0 0) s m args below meth c cX11_noCat (mΩ ad) (mP dC dI cI kA ad) Q r S1) (hf : fX11_noCat_21 M = some (r, S1)) (hP : (mP dC dI cI kA ad) M s H) (hS : va_S (Fr (mΩ ad) s.heap.size) s.heap H locs) (hl : lv_has ls 2 [(0, .ref (ad 25))]) : W p l e (rmL 2 0 0) s m args below meth c H locs 0 0 Q (F0 m 21 ls [.ref (ad 25)]) := by
  have hx := X.hx
  have hb := X.hb
  have hown := X.hown
  have hts := X.hts
  rw [fX11_noCat_21] at hf
  refine lv_iconst (v := 0) hx hb dX11_noCat_21 (by decide) ?_
  exact kX11_noCat_22 X hret hf hP hS (lv_sub hl [0] rfl)
set_option maxRecDepth 10000 in
theorem kX11_noCat_17 {r : Int32} {S1 : MS} {M : MS} {H : Heap} {locs : List Loc} {ls : Array Slot} (X : gX p s m args c cX11_noCat 2 RX11 (kR kTab kA)) (hret : gRetI p l e (rmL 2 0 0) s m args below meth c cX11_noCat (mΩ ad) (mP dC dI cI kA ad) Q r S1) (hf : fX11_noCat_17 M = some (r, S1)) (hP : (mP dC dI cI kA ad) M s H) (hS : va_S (Fr (mΩ ad) s.heap.size) s.heap H locs) (hl : lv_has ls 2 [(0, .ref (ad 25))]) : W p l e (rmL 2 0 0) s m args below meth c H locs 0 0 Q (F0 m 17 ls [.ref (ad 25)]) := by
  have hx := X.hx
  have hb := X.hb
  have hown := X.hown
  have hts := X.hts
  rw [fX11_noCat_17] at hf
  refine lv_iconst (v := 1) hx hb dX11_noCat_17 (by decide) ?_
  refine lv_goto (tgt := 22) hx hb dX11_noCat_18 (by decide) ?_
  exact kX11_noCat_22 X hret hf hP hS (lv_sub hl [0] rfl)
set_option maxRecDepth 10000 in
theorem kX11_noCat_14 {r : Int32} {S1 : MS} {M : MS} {s0 : Int32} {H : Heap} {locs : List Loc} {ls : Array Slot} (X : gX p s m args c cX11_noCat 2 RX11 (kR kTab kA)) (hret : gRetI p l e (rmL 2 0 0) s m args below meth c cX11_noCat (mΩ ad) (mP dC dI cI kA ad) Q r S1) (hf : fX11_noCat_14 M s0 = some (r, S1)) (hP : (mP dC dI cI kA ad) M s H) (hS : va_S (Fr (mΩ ad) s.heap.size) s.heap H locs) (hl : lv_has ls 2 [(0, .ref (ad 25))]) : W p l e (rmL 2 0 0) s m args below meth c H locs 0 0 Q (F0 m 14 ls [.int s0, .ref (ad 25)]) := by
  have hx := X.hx
  have hb := X.hb
  have hown := X.hown
  have hts := X.hts
  rw [fX11_noCat_14] at hf
  refine lv_if_ne (tgt := 21) hx hb dX11_noCat_14 (by decide) (fun c1 => ?_) (fun c1 => ?_)
  · exact kX11_noCat_21 X hret (ifn c1 hf) hP hS (lv_sub hl [0] rfl)
  · exact kX11_noCat_17 X hret (ifp c1 hf) hP hS (lv_sub hl [0] rfl)
set_option maxRecDepth 10000 in
theorem kX11_noCat_0 {r : Int32} {S1 : MS} {M : MS} {a1 : Int32} {H : Heap} {locs : List Loc} {ls : Array Slot} (X : gX p s m args c cX11_noCat 2 RX11 (kR kTab kA)) (hret : gRetI p l e (rmL 2 0 0) s m args below meth c cX11_noCat (mΩ ad) (mP dC dI cI kA ad) Q r S1) (hf : fX11_noCat_0 M a1 = some (r, S1)) (hP : (mP dC dI cI kA ad) M s H) (hS : va_S (Fr (mΩ ad) s.heap.size) s.heap H locs) (hl : lv_has ls 2 [(0, .ref (ad 25)), (1, .int a1)]) : W p l e (rmL 2 0 0) s m args below meth c H locs 0 0 Q (F0 m 0 ls []) := by
  have hx := X.hx
  have hb := X.hb
  have hown := X.hown
  have hts := X.hts
  rw [fX11_noCat_0] at hf
  refine lv_aload_n hx hb dX11_noCat_0 rfl (lv_at hl 0 rfl) ?_
  refine lv_iload_n hx hb dX11_noCat_1 rfl (lv_at hl 1 rfl) ?_
  refine lv_iconst (v := 0) hx hb dX11_noCat_2 (by decide) ?_
  refine lv_aload_n hx hb dX11_noCat_3 rfl (lv_at hl 0 rfl) ?_
  refine mr_get (k := 0) X hP (by decide) rfl rfl tw1665 dX11_noCat_4 ?_
  refine lv_iconst (v := 0) hx hb dX11_noCat_7 (by decide) ?_
  obtain ⟨g1, hf⟩ := gd hf
  refine mr_ald (a := 0) X hP rfl g1 dX11_noCat_8 ?_
  refine lv_iconst (v := 1) hx hb dX11_noCat_9 (by decide) ?_
  refine lv_isub hx hb dX11_noCat_10 ?_
  obtain ⟨q, hc, hf⟩ := bd hf
  refine gCallSR X rfl (vX11_inRange hc) gRX11_X11_inRange hdX11_inRange rfl ⟨by decide, by decide⟩ (gB_blind mOK) (gB_at mOK X hP) hl.1 (Nat.le_of_ble_eq_true rfl) ⟨Nat.le_refl _, Nat.le_refl _⟩ dX11_noCat_11 (As := [.int a1, .int 0, .int ((M.2 0 (0 : Int32).toNatClampNeg) - 1)]) (rest := [.ref (ad 25)]) rfl ?_
  exact kX11_noCat_14 X hret hf hP hS (lv_sub hl [0] rfl)
theorem vX11_noCat {l : Launch} {dC : Nat → ClassId} {dI : Nat → Nat → Nat} {cI : ClassId} {kA : String → Nat → Nat} {ad : Nat → Nat} {M S1 : MS} {r : Int32} {a1 : Int32} (hf : fX11_noCat M a1 = some (r, S1)) : gMetI l yX11_noCat cX11_noCat 2 (some .boolean) 2 (mΩ ad) (mP dC dI cI kA ad) (kR kTab kA) [.ref (ad 25), .int a1] M r S1 := gEntryI (ty := .boolean) (by decide) rfl (bz_n hf) mOK (Nat.le_of_ble_eq_true rfl) (fun p e s m args below meth c Q ls X hP hS hret hl => 
  kX11_noCat_0 X hret (bz_f hf) hP hS (lv_sub hl [0, 1] rfl))
set_option maxRecDepth 10000 in
theorem kX11_noSack_26 {r : Int32} {S1 : MS} {M : MS} {s0 : Int32} {H : Heap} {locs : List Loc} {ls : Array Slot} (X : gX p s m args c cX11_noSack 2 RX11 (kR kTab kA)) (hret : gRetI p l e (rmL 2 0 0) s m args below meth c cX11_noSack (mΩ ad) (mP dC dI cI kA ad) Q r S1) (hf : fX11_noSack_26 M s0 = some (r, S1)) (hP : (mP dC dI cI kA ad) M s H) (hS : va_S (Fr (mΩ ad) s.heap.size) s.heap H locs) (hl : lv_has ls 2 [(0, .ref (ad 25))]) : W p l e (rmL 2 0 0) s m args below meth c H locs 0 0 Q (F0 m 26 ls [.int s0]) := by
  have hx := X.hx
  have hb := X.hb
  have hown := X.hown
  have hts := X.hts
  rw [fX11_noSack_26] at hf
  cases hf
  exact hret _ _ _ _ dX11_noSack_26 hP hS
set_option maxRecDepth 10000 in
theorem kX11_noSack_22 {r : Int32} {S1 : MS} {M : MS} {s0 : Int32} {H : Heap} {locs : List Loc} {ls : Array Slot} (X : gX p s m args c cX11_noSack 2 RX11 (kR kTab kA)) (hret : gRetI p l e (rmL 2 0 0) s m args below meth c cX11_noSack (mΩ ad) (mP dC dI cI kA ad) Q r S1) (hf : fX11_noSack_22 M s0 = some (r, S1)) (hP : (mP dC dI cI kA ad) M s H) (hS : va_S (Fr (mΩ ad) s.heap.size) s.heap H locs) (hl : lv_has ls 2 [(0, .ref (ad 25))]) : W p l e (rmL 2 0 0) s m args below meth c H locs 0 0 Q (F0 m 22 ls [.int s0, .ref (ad 25)]) := by
  have hx := X.hx
  have hb := X.hb
  have hown := X.hown
  have hts := X.hts
  rw [fX11_noSack_22] at hf
  refine lv_iconst (v := 1) hx hb dX11_noSack_22 (by decide) ?_
  obtain ⟨q, hc, hf⟩ := bd hf
  refine gCallVI X mOK rfl (vX11_fails hc) gRX11_X11_fails hdX11_fails rfl ⟨by decide, by decide⟩ hP hS (mrec hP) hl.1 (Nat.le_of_ble_eq_true rfl) ⟨Nat.le_refl _, Nat.le_refl _⟩ dX11_noSack_23 (As := [.int s0, .int 1]) (rest := []) rfl (fun H locs hP hS => ?_)
  exact kX11_noSack_26 X hret hf hP hS (lv_sub hl [0] rfl)
set_option maxRecDepth 10000 in
theorem kX11_noSack_21 {r : Int32} {S1 : MS} {M : MS} {H : Heap} {locs : List Loc} {ls : Array Slot} (X : gX p s m args c cX11_noSack 2 RX11 (kR kTab kA)) (hret : gRetI p l e (rmL 2 0 0) s m args below meth c cX11_noSack (mΩ ad) (mP dC dI cI kA ad) Q r S1) (hf : fX11_noSack_21 M = some (r, S1)) (hP : (mP dC dI cI kA ad) M s H) (hS : va_S (Fr (mΩ ad) s.heap.size) s.heap H locs) (hl : lv_has ls 2 [(0, .ref (ad 25))]) : W p l e (rmL 2 0 0) s m args below meth c H locs 0 0 Q (F0 m 21 ls [.ref (ad 25)]) := by
  have hx := X.hx
  have hb := X.hb
  have hown := X.hown
  have hts := X.hts
  rw [fX11_noSack_21] at hf
  refine lv_iconst (v := 0) hx hb dX11_noSack_21 (by decide) ?_
  exact kX11_noSack_22 X hret hf hP hS (lv_sub hl [0] rfl)
set_option maxRecDepth 10000 in
theorem kX11_noSack_17 {r : Int32} {S1 : MS} {M : MS} {H : Heap} {locs : List Loc} {ls : Array Slot} (X : gX p s m args c cX11_noSack 2 RX11 (kR kTab kA)) (hret : gRetI p l e (rmL 2 0 0) s m args below meth c cX11_noSack (mΩ ad) (mP dC dI cI kA ad) Q r S1) (hf : fX11_noSack_17 M = some (r, S1)) (hP : (mP dC dI cI kA ad) M s H) (hS : va_S (Fr (mΩ ad) s.heap.size) s.heap H locs) (hl : lv_has ls 2 [(0, .ref (ad 25))]) : W p l e (rmL 2 0 0) s m args below meth c H locs 0 0 Q (F0 m 17 ls [.ref (ad 25)]) := by
  have hx := X.hx
  have hb := X.hb
  have hown := X.hown
  have hts := X.hts
  rw [fX11_noSack_17] at hf
  refine lv_iconst (v := 1) hx hb dX11_noSack_17 (by decide) ?_
  refine lv_goto (tgt := 22) hx hb dX11_noSack_18 (by decide) ?_
  exact kX11_noSack_22 X hret hf hP hS (lv_sub hl [0] rfl)
set_option maxRecDepth 10000 in
theorem kX11_noSack_14 {r : Int32} {S1 : MS} {M : MS} {s0 : Int32} {H : Heap} {locs : List Loc} {ls : Array Slot} (X : gX p s m args c cX11_noSack 2 RX11 (kR kTab kA)) (hret : gRetI p l e (rmL 2 0 0) s m args below meth c cX11_noSack (mΩ ad) (mP dC dI cI kA ad) Q r S1) (hf : fX11_noSack_14 M s0 = some (r, S1)) (hP : (mP dC dI cI kA ad) M s H) (hS : va_S (Fr (mΩ ad) s.heap.size) s.heap H locs) (hl : lv_has ls 2 [(0, .ref (ad 25))]) : W p l e (rmL 2 0 0) s m args below meth c H locs 0 0 Q (F0 m 14 ls [.int s0, .ref (ad 25)]) := by
  have hx := X.hx
  have hb := X.hb
  have hown := X.hown
  have hts := X.hts
  rw [fX11_noSack_14] at hf
  refine lv_if_ne (tgt := 21) hx hb dX11_noSack_14 (by decide) (fun c1 => ?_) (fun c1 => ?_)
  · exact kX11_noSack_21 X hret (ifn c1 hf) hP hS (lv_sub hl [0] rfl)
  · exact kX11_noSack_17 X hret (ifp c1 hf) hP hS (lv_sub hl [0] rfl)
set_option maxRecDepth 10000 in
theorem kX11_noSack_0 {r : Int32} {S1 : MS} {M : MS} {a1 : Int32} {H : Heap} {locs : List Loc} {ls : Array Slot} (X : gX p s m args c cX11_noSack 2 RX11 (kR kTab kA)) (hret : gRetI p l e (rmL 2 0 0) s m args below meth c cX11_noSack (mΩ ad) (mP dC dI cI kA ad) Q r S1) (hf : fX11_noSack_0 M a1 = some (r, S1)) (hP : (mP dC dI cI kA ad) M s H) (hS : va_S (Fr (mΩ ad) s.heap.size) s.heap H locs) (hl : lv_has ls 2 [(0, .ref (ad 25)), (1, .int a1)]) : W p l e (rmL 2 0 0) s m args below meth c H locs 0 0 Q (F0 m 0 ls []) := by
  have hx := X.hx
  have hb := X.hb
  have hown := X.hown
  have hts := X.hts
  rw [fX11_noSack_0] at hf
  refine lv_aload_n hx hb dX11_noSack_0 rfl (lv_at hl 0 rfl) ?_
  refine lv_iload_n hx hb dX11_noSack_1 rfl (lv_at hl 1 rfl) ?_
  refine lv_iconst (v := 0) hx hb dX11_noSack_2 (by decide) ?_
  refine lv_aload_n hx hb dX11_noSack_3 rfl (lv_at hl 0 rfl) ?_
  refine mr_get (k := 0) X hP (by decide) rfl rfl tw1665 dX11_noSack_4 ?_
  refine lv_iconst (v := 1) hx hb dX11_noSack_7 (by decide) ?_
  obtain ⟨g1, hf⟩ := gd hf
  refine mr_ald (a := 0) X hP rfl g1 dX11_noSack_8 ?_
  refine lv_iconst (v := 1) hx hb dX11_noSack_9 (by decide) ?_
  refine lv_isub hx hb dX11_noSack_10 ?_
  obtain ⟨q, hc, hf⟩ := bd hf
  refine gCallSR X rfl (vX11_inRange hc) gRX11_X11_inRange hdX11_inRange rfl ⟨by decide, by decide⟩ (gB_blind mOK) (gB_at mOK X hP) hl.1 (Nat.le_of_ble_eq_true rfl) ⟨Nat.le_refl _, Nat.le_refl _⟩ dX11_noSack_11 (As := [.int a1, .int 0, .int ((M.2 0 (1 : Int32).toNatClampNeg) - 1)]) (rest := [.ref (ad 25)]) rfl ?_
  exact kX11_noSack_14 X hret hf hP hS (lv_sub hl [0] rfl)
theorem vX11_noSack {l : Launch} {dC : Nat → ClassId} {dI : Nat → Nat → Nat} {cI : ClassId} {kA : String → Nat → Nat} {ad : Nat → Nat} {M S1 : MS} {r : Int32} {a1 : Int32} (hf : fX11_noSack M a1 = some (r, S1)) : gMetI l yX11_noSack cX11_noSack 2 (some .boolean) 2 (mΩ ad) (mP dC dI cI kA ad) (kR kTab kA) [.ref (ad 25), .int a1] M r S1 := gEntryI (ty := .boolean) (by decide) rfl (bz_n hf) mOK (Nat.le_of_ble_eq_true rfl) (fun p e s m args below meth c Q ls X hP hS hret hl => 
  kX11_noSack_0 X hret (bz_f hf) hP hS (lv_sub hl [0, 1] rfl))
set_option maxRecDepth 10000 in
theorem kX11_noShift_26 {r : Int32} {S1 : MS} {M : MS} {s0 : Int32} {H : Heap} {locs : List Loc} {ls : Array Slot} (X : gX p s m args c cX11_noShift 2 RX11 (kR kTab kA)) (hret : gRetI p l e (rmL 2 0 0) s m args below meth c cX11_noShift (mΩ ad) (mP dC dI cI kA ad) Q r S1) (hf : fX11_noShift_26 M s0 = some (r, S1)) (hP : (mP dC dI cI kA ad) M s H) (hS : va_S (Fr (mΩ ad) s.heap.size) s.heap H locs) (hl : lv_has ls 2 [(0, .ref (ad 25))]) : W p l e (rmL 2 0 0) s m args below meth c H locs 0 0 Q (F0 m 26 ls [.int s0]) := by
  have hx := X.hx
  have hb := X.hb
  have hown := X.hown
  have hts := X.hts
  rw [fX11_noShift_26] at hf
  cases hf
  exact hret _ _ _ _ dX11_noShift_26 hP hS
set_option maxRecDepth 10000 in
theorem kX11_noShift_22 {r : Int32} {S1 : MS} {M : MS} {s0 : Int32} {H : Heap} {locs : List Loc} {ls : Array Slot} (X : gX p s m args c cX11_noShift 2 RX11 (kR kTab kA)) (hret : gRetI p l e (rmL 2 0 0) s m args below meth c cX11_noShift (mΩ ad) (mP dC dI cI kA ad) Q r S1) (hf : fX11_noShift_22 M s0 = some (r, S1)) (hP : (mP dC dI cI kA ad) M s H) (hS : va_S (Fr (mΩ ad) s.heap.size) s.heap H locs) (hl : lv_has ls 2 [(0, .ref (ad 25))]) : W p l e (rmL 2 0 0) s m args below meth c H locs 0 0 Q (F0 m 22 ls [.int s0, .ref (ad 25)]) := by
  have hx := X.hx
  have hb := X.hb
  have hown := X.hown
  have hts := X.hts
  rw [fX11_noShift_22] at hf
  refine lv_iconst (v := 1) hx hb dX11_noShift_22 (by decide) ?_
  obtain ⟨q, hc, hf⟩ := bd hf
  refine gCallVI X mOK rfl (vX11_fails hc) gRX11_X11_fails hdX11_fails rfl ⟨by decide, by decide⟩ hP hS (mrec hP) hl.1 (Nat.le_of_ble_eq_true rfl) ⟨Nat.le_refl _, Nat.le_refl _⟩ dX11_noShift_23 (As := [.int s0, .int 1]) (rest := []) rfl (fun H locs hP hS => ?_)
  exact kX11_noShift_26 X hret hf hP hS (lv_sub hl [0] rfl)
set_option maxRecDepth 10000 in
theorem kX11_noShift_21 {r : Int32} {S1 : MS} {M : MS} {H : Heap} {locs : List Loc} {ls : Array Slot} (X : gX p s m args c cX11_noShift 2 RX11 (kR kTab kA)) (hret : gRetI p l e (rmL 2 0 0) s m args below meth c cX11_noShift (mΩ ad) (mP dC dI cI kA ad) Q r S1) (hf : fX11_noShift_21 M = some (r, S1)) (hP : (mP dC dI cI kA ad) M s H) (hS : va_S (Fr (mΩ ad) s.heap.size) s.heap H locs) (hl : lv_has ls 2 [(0, .ref (ad 25))]) : W p l e (rmL 2 0 0) s m args below meth c H locs 0 0 Q (F0 m 21 ls [.ref (ad 25)]) := by
  have hx := X.hx
  have hb := X.hb
  have hown := X.hown
  have hts := X.hts
  rw [fX11_noShift_21] at hf
  refine lv_iconst (v := 0) hx hb dX11_noShift_21 (by decide) ?_
  exact kX11_noShift_22 X hret hf hP hS (lv_sub hl [0] rfl)
set_option maxRecDepth 10000 in
theorem kX11_noShift_17 {r : Int32} {S1 : MS} {M : MS} {H : Heap} {locs : List Loc} {ls : Array Slot} (X : gX p s m args c cX11_noShift 2 RX11 (kR kTab kA)) (hret : gRetI p l e (rmL 2 0 0) s m args below meth c cX11_noShift (mΩ ad) (mP dC dI cI kA ad) Q r S1) (hf : fX11_noShift_17 M = some (r, S1)) (hP : (mP dC dI cI kA ad) M s H) (hS : va_S (Fr (mΩ ad) s.heap.size) s.heap H locs) (hl : lv_has ls 2 [(0, .ref (ad 25))]) : W p l e (rmL 2 0 0) s m args below meth c H locs 0 0 Q (F0 m 17 ls [.ref (ad 25)]) := by
  have hx := X.hx
  have hb := X.hb
  have hown := X.hown
  have hts := X.hts
  rw [fX11_noShift_17] at hf
  refine lv_iconst (v := 1) hx hb dX11_noShift_17 (by decide) ?_
  refine lv_goto (tgt := 22) hx hb dX11_noShift_18 (by decide) ?_
  exact kX11_noShift_22 X hret hf hP hS (lv_sub hl [0] rfl)
set_option maxRecDepth 10000 in
theorem kX11_noShift_14 {r : Int32} {S1 : MS} {M : MS} {s0 : Int32} {H : Heap} {locs : List Loc} {ls : Array Slot} (X : gX p s m args c cX11_noShift 2 RX11 (kR kTab kA)) (hret : gRetI p l e (rmL 2 0 0) s m args below meth c cX11_noShift (mΩ ad) (mP dC dI cI kA ad) Q r S1) (hf : fX11_noShift_14 M s0 = some (r, S1)) (hP : (mP dC dI cI kA ad) M s H) (hS : va_S (Fr (mΩ ad) s.heap.size) s.heap H locs) (hl : lv_has ls 2 [(0, .ref (ad 25))]) : W p l e (rmL 2 0 0) s m args below meth c H locs 0 0 Q (F0 m 14 ls [.int s0, .ref (ad 25)]) := by
  have hx := X.hx
  have hb := X.hb
  have hown := X.hown
  have hts := X.hts
  rw [fX11_noShift_14] at hf
  refine lv_if_ne (tgt := 21) hx hb dX11_noShift_14 (by decide) (fun c1 => ?_) (fun c1 => ?_)
  · exact kX11_noShift_21 X hret (ifn c1 hf) hP hS (lv_sub hl [0] rfl)
  · exact kX11_noShift_17 X hret (ifp c1 hf) hP hS (lv_sub hl [0] rfl)
set_option maxRecDepth 10000 in
theorem kX11_noShift_0 {r : Int32} {S1 : MS} {M : MS} {a1 : Int32} {H : Heap} {locs : List Loc} {ls : Array Slot} (X : gX p s m args c cX11_noShift 2 RX11 (kR kTab kA)) (hret : gRetI p l e (rmL 2 0 0) s m args below meth c cX11_noShift (mΩ ad) (mP dC dI cI kA ad) Q r S1) (hf : fX11_noShift_0 M a1 = some (r, S1)) (hP : (mP dC dI cI kA ad) M s H) (hS : va_S (Fr (mΩ ad) s.heap.size) s.heap H locs) (hl : lv_has ls 2 [(0, .ref (ad 25)), (1, .int a1)]) : W p l e (rmL 2 0 0) s m args below meth c H locs 0 0 Q (F0 m 0 ls []) := by
  have hx := X.hx
  have hb := X.hb
  have hown := X.hown
  have hts := X.hts
  rw [fX11_noShift_0] at hf
  refine lv_aload_n hx hb dX11_noShift_0 rfl (lv_at hl 0 rfl) ?_
  refine lv_iload_n hx hb dX11_noShift_1 rfl (lv_at hl 1 rfl) ?_
  refine lv_iconst (v := 0) hx hb dX11_noShift_2 (by decide) ?_
  refine lv_aload_n hx hb dX11_noShift_3 rfl (lv_at hl 0 rfl) ?_
  refine mr_get (k := 0) X hP (by decide) rfl rfl tw1665 dX11_noShift_4 ?_
  refine lv_iconst (v := 2) hx hb dX11_noShift_7 (by decide) ?_
  obtain ⟨g1, hf⟩ := gd hf
  refine mr_ald (a := 0) X hP rfl g1 dX11_noShift_8 ?_
  refine lv_iconst (v := 1) hx hb dX11_noShift_9 (by decide) ?_
  refine lv_isub hx hb dX11_noShift_10 ?_
  obtain ⟨q, hc, hf⟩ := bd hf
  refine gCallSR X rfl (vX11_inRange hc) gRX11_X11_inRange hdX11_inRange rfl ⟨by decide, by decide⟩ (gB_blind mOK) (gB_at mOK X hP) hl.1 (Nat.le_of_ble_eq_true rfl) ⟨Nat.le_refl _, Nat.le_refl _⟩ dX11_noShift_11 (As := [.int a1, .int 0, .int ((M.2 0 (2 : Int32).toNatClampNeg) - 1)]) (rest := [.ref (ad 25)]) rfl ?_
  exact kX11_noShift_14 X hret hf hP hS (lv_sub hl [0] rfl)
theorem vX11_noShift {l : Launch} {dC : Nat → ClassId} {dI : Nat → Nat → Nat} {cI : ClassId} {kA : String → Nat → Nat} {ad : Nat → Nat} {M S1 : MS} {r : Int32} {a1 : Int32} (hf : fX11_noShift M a1 = some (r, S1)) : gMetI l yX11_noShift cX11_noShift 2 (some .boolean) 2 (mΩ ad) (mP dC dI cI kA ad) (kR kTab kA) [.ref (ad 25), .int a1] M r S1 := gEntryI (ty := .boolean) (by decide) rfl (bz_n hf) mOK (Nat.le_of_ble_eq_true rfl) (fun p e s m args below meth c Q ls X hP hS hret hl => 
  kX11_noShift_0 X hret (bz_f hf) hP hS (lv_sub hl [0, 1] rfl))
set_option maxRecDepth 10000 in
theorem kX11_noHours_21 {r : Int32} {S1 : MS} {M : MS} {s0 : Int32} {H : Heap} {locs : List Loc} {ls : Array Slot} (X : gX p s m args c cX11_noHours 3 RX11 (kR kTab kA)) (hret : gRetI p l e (rmL 2 0 0) s m args below meth c cX11_noHours (mΩ ad) (mP dC dI cI kA ad) Q r S1) (hf : fX11_noHours_21 M s0 = some (r, S1)) (hP : (mP dC dI cI kA ad) M s H) (hS : va_S (Fr (mΩ ad) s.heap.size) s.heap H locs) (hl : lv_has ls 3 [(0, .ref (ad 25))]) : W p l e (rmL 2 0 0) s m args below meth c H locs 0 0 Q (F0 m 21 ls [.int s0]) := by
  have hx := X.hx
  have hb := X.hb
  have hown := X.hown
  have hts := X.hts
  rw [fX11_noHours_21] at hf
  cases hf
  exact hret _ _ _ _ dX11_noHours_21 hP hS
set_option maxRecDepth 10000 in
theorem kX11_noHours_17 {r : Int32} {S1 : MS} {M : MS} {x2 : Int32} {s0 : Int32} {H : Heap} {locs : List Loc} {ls : Array Slot} (X : gX p s m args c cX11_noHours 3 RX11 (kR kTab kA)) (hret : gRetI p l e (rmL 2 0 0) s m args below meth c cX11_noHours (mΩ ad) (mP dC dI cI kA ad) Q r S1) (hf : fX11_noHours_17 M x2 s0 = some (r, S1)) (hP : (mP dC dI cI kA ad) M s H) (hS : va_S (Fr (mΩ ad) s.heap.size) s.heap H locs) (hl : lv_has ls 3 [(0, .ref (ad 25)), (2, .int x2)]) : W p l e (rmL 2 0 0) s m args below meth c H locs 0 0 Q (F0 m 17 ls [.int s0, .ref (ad 25)]) := by
  have hx := X.hx
  have hb := X.hb
  have hown := X.hown
  have hts := X.hts
  rw [fX11_noHours_17] at hf
  refine lv_iload_n hx hb dX11_noHours_17 rfl (lv_at hl 1 rfl) ?_
  obtain ⟨q, hc, hf⟩ := bd hf
  refine gCallVI X mOK rfl (vX11_fails hc) gRX11_X11_fails hdX11_fails rfl ⟨by decide, by decide⟩ hP hS (mrec hP) hl.1 (Nat.le_of_ble_eq_true rfl) ⟨Nat.le_refl _, Nat.le_refl _⟩ dX11_noHours_18 (As := [.int s0, .int x2]) (rest := []) rfl (fun H locs hP hS => ?_)
  exact kX11_noHours_21 X hret hf hP hS (lv_sub hl [0] rfl)
set_option maxRecDepth 10000 in
theorem kX11_noHours_16 {r : Int32} {S1 : MS} {M : MS} {x2 : Int32} {H : Heap} {locs : List Loc} {ls : Array Slot} (X : gX p s m args c cX11_noHours 3 RX11 (kR kTab kA)) (hret : gRetI p l e (rmL 2 0 0) s m args below meth c cX11_noHours (mΩ ad) (mP dC dI cI kA ad) Q r S1) (hf : fX11_noHours_16 M x2 = some (r, S1)) (hP : (mP dC dI cI kA ad) M s H) (hS : va_S (Fr (mΩ ad) s.heap.size) s.heap H locs) (hl : lv_has ls 3 [(0, .ref (ad 25)), (2, .int x2)]) : W p l e (rmL 2 0 0) s m args below meth c H locs 0 0 Q (F0 m 16 ls [.ref (ad 25)]) := by
  have hx := X.hx
  have hb := X.hb
  have hown := X.hown
  have hts := X.hts
  rw [fX11_noHours_16] at hf
  refine lv_iconst (v := 0) hx hb dX11_noHours_16 (by decide) ?_
  exact kX11_noHours_17 X hret hf hP hS (lv_sub hl [0, 1] rfl)
set_option maxRecDepth 10000 in
theorem kX11_noHours_12 {r : Int32} {S1 : MS} {M : MS} {x2 : Int32} {H : Heap} {locs : List Loc} {ls : Array Slot} (X : gX p s m args c cX11_noHours 3 RX11 (kR kTab kA)) (hret : gRetI p l e (rmL 2 0 0) s m args below meth c cX11_noHours (mΩ ad) (mP dC dI cI kA ad) Q r S1) (hf : fX11_noHours_12 M x2 = some (r, S1)) (hP : (mP dC dI cI kA ad) M s H) (hS : va_S (Fr (mΩ ad) s.heap.size) s.heap H locs) (hl : lv_has ls 3 [(0, .ref (ad 25)), (2, .int x2)]) : W p l e (rmL 2 0 0) s m args below meth c H locs 0 0 Q (F0 m 12 ls [.ref (ad 25)]) := by
  have hx := X.hx
  have hb := X.hb
  have hown := X.hown
  have hts := X.hts
  rw [fX11_noHours_12] at hf
  refine lv_iconst (v := 1) hx hb dX11_noHours_12 (by decide) ?_
  refine lv_goto (tgt := 17) hx hb dX11_noHours_13 (by decide) ?_
  exact kX11_noHours_17 X hret hf hP hS (lv_sub hl [0, 1] rfl)
set_option maxRecDepth 10000 in
theorem kX11_noHours_9 {r : Int32} {S1 : MS} {M : MS} {x2 : Int32} {s0 : Int32} {H : Heap} {locs : List Loc} {ls : Array Slot} (X : gX p s m args c cX11_noHours 3 RX11 (kR kTab kA)) (hret : gRetI p l e (rmL 2 0 0) s m args below meth c cX11_noHours (mΩ ad) (mP dC dI cI kA ad) Q r S1) (hf : fX11_noHours_9 M x2 s0 = some (r, S1)) (hP : (mP dC dI cI kA ad) M s H) (hS : va_S (Fr (mΩ ad) s.heap.size) s.heap H locs) (hl : lv_has ls 3 [(0, .ref (ad 25)), (2, .int x2)]) : W p l e (rmL 2 0 0) s m args below meth c H locs 0 0 Q (F0 m 9 ls [.int s0, .ref (ad 25)]) := by
  have hx := X.hx
  have hb := X.hb
  have hown := X.hown
  have hts := X.hts
  rw [fX11_noHours_9] at hf
  refine lv_if_ne (tgt := 16) hx hb dX11_noHours_9 (by decide) (fun c1 => ?_) (fun c1 => ?_)
  · exact kX11_noHours_16 X hret (ifn c1 hf) hP hS (lv_sub hl [0, 1] rfl)
  · exact kX11_noHours_12 X hret (ifp c1 hf) hP hS (lv_sub hl [0, 1] rfl)
set_option maxRecDepth 10000 in
theorem kX11_noHours_0 {r : Int32} {S1 : MS} {M : MS} {a1 : Int32} {a2 : Int32} {H : Heap} {locs : List Loc} {ls : Array Slot} (X : gX p s m args c cX11_noHours 3 RX11 (kR kTab kA)) (hret : gRetI p l e (rmL 2 0 0) s m args below meth c cX11_noHours (mΩ ad) (mP dC dI cI kA ad) Q r S1) (hf : fX11_noHours_0 M a1 a2 = some (r, S1)) (hP : (mP dC dI cI kA ad) M s H) (hS : va_S (Fr (mΩ ad) s.heap.size) s.heap H locs) (hl : lv_has ls 3 [(0, .ref (ad 25)), (1, .int a1), (2, .int a2)]) : W p l e (rmL 2 0 0) s m args below meth c H locs 0 0 Q (F0 m 0 ls []) := by
  have hx := X.hx
  have hb := X.hb
  have hown := X.hown
  have hts := X.hts
  rw [fX11_noHours_0] at hf
  refine lv_aload_n hx hb dX11_noHours_0 rfl (lv_at hl 0 rfl) ?_
  refine lv_iload_n hx hb dX11_noHours_1 rfl (lv_at hl 1 rfl) ?_
  refine lv_iconst (v := 0) hx hb dX11_noHours_2 (by decide) ?_
  refine lv_sipush (v := 200) hx hb dX11_noHours_3 (by decide) ?_
  obtain ⟨q, hc, hf⟩ := bd hf
  refine gCallSR X rfl (vX11_inRange hc) gRX11_X11_inRange hdX11_inRange rfl ⟨by decide, by decide⟩ (gB_blind mOK) (gB_at mOK X hP) hl.1 (Nat.le_of_ble_eq_true rfl) ⟨Nat.le_refl _, Nat.le_refl _⟩ dX11_noHours_6 (As := [.int a1, .int 0, .int 200]) (rest := [.ref (ad 25)]) rfl ?_
  exact kX11_noHours_9 X hret hf hP hS (lv_sub hl [0, 2] rfl)
theorem vX11_noHours {l : Launch} {dC : Nat → ClassId} {dI : Nat → Nat → Nat} {cI : ClassId} {kA : String → Nat → Nat} {ad : Nat → Nat} {M S1 : MS} {r : Int32} {a1 : Int32} {a2 : Int32} (hf : fX11_noHours M a1 a2 = some (r, S1)) : gMetI l yX11_noHours cX11_noHours 3 (some .boolean) 2 (mΩ ad) (mP dC dI cI kA ad) (kR kTab kA) [.ref (ad 25), .int a1, .int a2] M r S1 := gEntryI (ty := .boolean) (by decide) rfl (bz_n hf) mOK (Nat.le_of_ble_eq_true rfl) (fun p e s m args below meth c Q ls X hP hS hret hl => 
  kX11_noHours_0 X hret (bz_f hf) hP hS (lv_sub hl [0, 1, 2] rfl))
set_option maxRecDepth 10000 in
theorem kX11_logged_34 {r : Int32} {M : MS} {s0 : Int32} (X : gX p s m args c cX11_logged 3 RX11 (kR kTab kA)) (hret : gRetR p l e (rmL 2 0 0) s m args below meth c cX11_logged Q r) (hf : fX11_logged_34 M s0 = some r) {ls : Array Slot} (hP : (mP dC dI cI kA ad) M s s.heap) (hl : lv_has ls 3 [(0, .ref (ad 25))]) : W p l e (rmL 2 0 0) s m args below meth c s.heap [] 0 0 Q (F0 m 34 ls [.int s0]) := by
  have hx := X.hx
  have hb := X.hb
  have hown := X.hown
  have hts := X.hts
  rw [fX11_logged_34] at hf
  cases hf
  exact hret _ _ dX11_logged_34
set_option maxRecDepth 10000 in
theorem kX11_logged_33 {r : Int32} {M : MS} (X : gX p s m args c cX11_logged 3 RX11 (kR kTab kA)) (hret : gRetR p l e (rmL 2 0 0) s m args below meth c cX11_logged Q r) (hf : fX11_logged_33 M = some r) {ls : Array Slot} (hP : (mP dC dI cI kA ad) M s s.heap) (hl : lv_has ls 3 [(0, .ref (ad 25))]) : W p l e (rmL 2 0 0) s m args below meth c s.heap [] 0 0 Q (F0 m 33 ls []) := by
  have hx := X.hx
  have hb := X.hb
  have hown := X.hown
  have hts := X.hts
  rw [fX11_logged_33] at hf
  refine lv_iconst (v := (-1)) hx hb dX11_logged_33 (by decide) ?_
  exact kX11_logged_34 X hret hf hP (lv_sub hl [0] rfl)
set_option maxRecDepth 10000 in
theorem kX11_logged_17 {r : Int32} {M : MS} {x1 : Int32} {x2 : Int32} (X : gX p s m args c cX11_logged 3 RX11 (kR kTab kA)) (hret : gRetR p l e (rmL 2 0 0) s m args below meth c cX11_logged Q r) (hf : fX11_logged_17 M x1 x2 = some r) {ls : Array Slot} (hP : (mP dC dI cI kA ad) M s s.heap) (hl : lv_has ls 3 [(0, .ref (ad 25)), (1, .int x1), (2, .int x2)]) : W p l e (rmL 2 0 0) s m args below meth c s.heap [] 0 0 Q (F0 m 17 ls []) := by
  have hx := X.hx
  have hb := X.hb
  have hown := X.hown
  have hts := X.hts
  rw [fX11_logged_17] at hf
  refine lv_aload_n hx hb dX11_logged_17 rfl (lv_at hl 0 rfl) ?_
  refine mr_get (k := 0) X hP (by decide) rfl rfl tw1665 dX11_logged_18 ?_
  refine lv_bipush (v := 17) hx hb dX11_logged_21 (by decide) ?_
  refine lv_iconst (v := 3) hx hb dX11_logged_23 (by decide) ?_
  refine lv_iload_n hx hb dX11_logged_24 rfl (lv_at hl 1 rfl) ?_
  refine lv_imul hx hb dX11_logged_25 ?_
  refine lv_iadd hx hb dX11_logged_26 ?_
  refine lv_iload_n hx hb dX11_logged_27 rfl (lv_at hl 2 rfl) ?_
  refine lv_iadd hx hb dX11_logged_28 ?_
  obtain ⟨g1, hf⟩ := gd hf
  refine mr_ald (a := 0) X hP rfl g1 dX11_logged_29 ?_
  refine lv_goto (tgt := 34) hx hb dX11_logged_30 (by decide) ?_
  exact kX11_logged_34 X hret hf hP (lv_sub hl [0] rfl)
set_option maxRecDepth 10000 in
theorem kX11_logged_14 {r : Int32} {M : MS} {x1 : Int32} {x2 : Int32} {s0 : Int32} (X : gX p s m args c cX11_logged 3 RX11 (kR kTab kA)) (hret : gRetR p l e (rmL 2 0 0) s m args below meth c cX11_logged Q r) (hf : fX11_logged_14 M x1 x2 s0 = some r) {ls : Array Slot} (hP : (mP dC dI cI kA ad) M s s.heap) (hl : lv_has ls 3 [(0, .ref (ad 25)), (1, .int x1), (2, .int x2)]) : W p l e (rmL 2 0 0) s m args below meth c s.heap [] 0 0 Q (F0 m 14 ls [.int s0]) := by
  have hx := X.hx
  have hb := X.hb
  have hown := X.hown
  have hts := X.hts
  rw [fX11_logged_14] at hf
  refine lv_if_eq (tgt := 33) hx hb dX11_logged_14 (by decide) (fun c1 => ?_) (fun c1 => ?_)
  · exact kX11_logged_33 X hret (ifp c1 hf) hP (lv_sub hl [0] rfl)
  · exact kX11_logged_17 X hret (ifn c1 hf) hP (lv_sub hl [0, 1, 2] rfl)
set_option maxRecDepth 10000 in
theorem kX11_logged_0 {r : Int32} {M : MS} {a1 : Int32} {a2 : Int32} (X : gX p s m args c cX11_logged 3 RX11 (kR kTab kA)) (hret : gRetR p l e (rmL 2 0 0) s m args below meth c cX11_logged Q r) (hf : fX11_logged_0 M a1 a2 = some r) {ls : Array Slot} (hP : (mP dC dI cI kA ad) M s s.heap) (hl : lv_has ls 3 [(0, .ref (ad 25)), (1, .int a1), (2, .int a2)]) : W p l e (rmL 2 0 0) s m args below meth c s.heap [] 0 0 Q (F0 m 0 ls []) := by
  have hx := X.hx
  have hb := X.hb
  have hown := X.hown
  have hts := X.hts
  rw [fX11_logged_0] at hf
  refine lv_iload_n hx hb dX11_logged_0 rfl (lv_at hl 1 rfl) ?_
  refine lv_iconst (v := 0) hx hb dX11_logged_1 (by decide) ?_
  refine lv_aload_n hx hb dX11_logged_2 rfl (lv_at hl 0 rfl) ?_
  refine mr_get (k := 0) X hP (by decide) rfl rfl tw1665 dX11_logged_3 ?_
  refine lv_bipush (v := 16) hx hb dX11_logged_6 (by decide) ?_
  obtain ⟨g1, hf⟩ := gd hf
  refine mr_ald (a := 0) X hP rfl g1 dX11_logged_8 ?_
  refine lv_iconst (v := 1) hx hb dX11_logged_9 (by decide) ?_
  refine lv_isub hx hb dX11_logged_10 ?_
  obtain ⟨q, hc, hf⟩ := bd hf
  refine gCallSR X rfl (vX11_inRange hc) gRX11_X11_inRange hdX11_inRange rfl ⟨by decide, by decide⟩ (gB_blind mOK) (gB_at mOK X hP) hl.1 (Nat.le_of_ble_eq_true rfl) ⟨Nat.le_refl _, Nat.le_refl _⟩ dX11_logged_11 (As := [.int a1, .int 0, .int ((M.2 0 (16 : Int32).toNatClampNeg) - 1)]) (rest := []) rfl ?_
  exact kX11_logged_14 X hret hf hP (lv_sub hl [0, 1, 2] rfl)
theorem vX11_logged {l : Launch} {dC : Nat → ClassId} {dI : Nat → Nat → Nat} {cI : ClassId} {kA : String → Nat → Nat} {ad : Nat → Nat} {M : MS} {r : Int32} {a1 : Int32} {a2 : Int32} (hf : fX11_logged M a1 a2 = some r) : gMetR l yX11_logged cX11_logged 3 (some .int) 2 (gB (mP dC dI cI kA ad) (kR kTab kA) M) [.ref (ad 25), .int a1, .int a2] r := gEntryR (ty := .int) (by decide) rfl rfl (Nat.le_of_ble_eq_true rfl) (fun _ h => h.2) (fun p e s m args below meth c Q ls X hB hret hl => 
  kX11_logged_0 X hret hf hB.1 (lv_sub hl [0, 1, 2] rfl))
set_option maxRecDepth 10000 in
theorem kX11_miceBackwards_31 {r : Int32} {M : MS} {x1 : Int32} (X : gX p s m args c cX11_miceBackwards 3 RX11 (kR kTab kA)) (hret : gRetR p l e (rmL 2 0 0) s m args below meth c cX11_miceBackwards Q r) (hf : fX11_miceBackwards_31 M x1 = some r) {ls : Array Slot} (hP : (mP dC dI cI kA ad) M s s.heap) (hl : lv_has ls 3 [(0, .ref (ad 25)), (1, .int x1)]) : W p l e (rmL 2 0 0) s m args below meth c s.heap [] 0 0 Q (F0 m 31 ls []) := by
  have hx := X.hx
  have hb := X.hb
  have hown := X.hown
  have hts := X.hts
  rw [fX11_miceBackwards_31] at hf
  refine lv_iload_n hx hb dX11_miceBackwards_31 rfl (lv_at hl 1 rfl) ?_
  cases hf
  exact hret _ _ dX11_miceBackwards_32
set_option maxRecDepth 10000 in
theorem kX11_miceBackwards_23 {r : Int32} {K11 : MS → Int32 → Int32 → Option (Int32)} {M : MS} {x2 : Int32} {s0 : Int32} {s1 : Int32} (X : gX p s m args c cX11_miceBackwards 3 RX11 (kR kTab kA)) (hret : gRetR p l e (rmL 2 0 0) s m args below meth c cX11_miceBackwards Q r) (hK11 : ∀ (M : MS) (x1 : Int32) (x2 : Int32) (ls : Array Slot), K11 M x1 x2 = some r → (mP dC dI cI kA ad) M s s.heap → lv_has ls 3 [(0, .ref (ad 25)), (1, .int x1), (2, .int x2)] → W p l e (rmL 2 0 0) s m args below meth c s.heap [] 0 0 Q (F0 m 11 ls [])) (hf : fX11_miceBackwards_23 K11 M x2 s0 s1 = some r) {ls : Array Slot} (hP : (mP dC dI cI kA ad) M s s.heap) (hl : lv_has ls 3 [(0, .ref (ad 25)), (2, .int x2)]) : W p l e (rmL 2 0 0) s m args below meth c s.heap [] 0 0 Q (F0 m 23 ls [.int s0, .int s1]) := by
  have hx := X.hx
  have hb := X.hb
  have hown := X.hown
  have hts := X.hts
  rw [fX11_miceBackwards_23] at hf
  refine lv_iadd hx hb dX11_miceBackwards_23 ?_
  refine lv_istore_n (lv' := [(1, .int (s1 + s0)), (0, .ref (ad 25)), (2, .int x2)]) hx hb dX11_miceBackwards_24 rfl hl (by decide) rfl (fun ls hl => ?_)
  refine lv_iinc (v := (x2 + (-1))) (lv' := [(2, .int (x2 + (-1))), (1, .int (s1 + s0)), (0, .ref (ad 25))]) hx hb dX11_miceBackwards_25 hl (k := 2) rfl (by rfl) (by decide) rfl (fun ls hl => ?_)
  refine lv_goto (tgt := 11) hx hb dX11_miceBackwards_28 (by decide) ?_
  exact hK11 _ _ _ _ hf hP (lv_sub hl [2, 1, 0] rfl)
set_option maxRecDepth 10000 in
theorem kX11_miceBackwards_15 {r : Int32} {K11 : MS → Int32 → Int32 → Option (Int32)} {M : MS} {x1 : Int32} {x2 : Int32} (X : gX p s m args c cX11_miceBackwards 3 RX11 (kR kTab kA)) (hret : gRetR p l e (rmL 2 0 0) s m args below meth c cX11_miceBackwards Q r) (hK11 : ∀ (M : MS) (x1 : Int32) (x2 : Int32) (ls : Array Slot), K11 M x1 x2 = some r → (mP dC dI cI kA ad) M s s.heap → lv_has ls 3 [(0, .ref (ad 25)), (1, .int x1), (2, .int x2)] → W p l e (rmL 2 0 0) s m args below meth c s.heap [] 0 0 Q (F0 m 11 ls [])) (hf : fX11_miceBackwards_15 K11 M x1 x2 = some r) {ls : Array Slot} (hP : (mP dC dI cI kA ad) M s s.heap) (hl : lv_has ls 3 [(0, .ref (ad 25)), (1, .int x1), (2, .int x2)]) : W p l e (rmL 2 0 0) s m args below meth c s.heap [] 0 0 Q (F0 m 15 ls []) := by
  have hx := X.hx
  have hb := X.hb
  have hown := X.hown
  have hts := X.hts
  rw [fX11_miceBackwards_15] at hf
  refine lv_iload_n hx hb dX11_miceBackwards_15 rfl (lv_at hl 1 rfl) ?_
  refine lv_aload_n hx hb dX11_miceBackwards_16 rfl (lv_at hl 0 rfl) ?_
  refine lv_iload_n hx hb dX11_miceBackwards_17 rfl (lv_at hl 2 rfl) ?_
  refine lv_bipush (v := 8) hx hb dX11_miceBackwards_18 (by decide) ?_
  obtain ⟨q, hc, hf⟩ := bd hf
  refine gCallVR X rfl (vX11_ofSack hc) gRX11_X11_ofSack hdX11_ofSack rfl ⟨by decide, by decide⟩ (gB_blind mOK) (gB_at mOK X hP) (mrec hP) hl.1 (Nat.le_of_ble_eq_true rfl) ⟨Nat.le_refl _, Nat.le_refl _⟩ dX11_miceBackwards_20 (As := [.int x2, .int 8]) (rest := [.int x1]) rfl ?_
  exact kX11_miceBackwards_23 X hret hK11 hf hP (lv_sub hl [0, 2] rfl)
set_option maxRecDepth 10000 in
theorem kX11_miceBackwards_11 {r : Int32} (X : gX p s m args c cX11_miceBackwards 3 RX11 (kR kTab kA)) (hret : gRetR p l e (rmL 2 0 0) s m args below meth c cX11_miceBackwards Q r) : ∀ (n : Nat) (M : MS) (x1 : Int32) (x2 : Int32) (ls : Array Slot), fX11_miceBackwards_11 n M x1 x2 = some r → (mP dC dI cI kA ad) M s s.heap → lv_has ls 3 [(0, .ref (ad 25)), (1, .int x1), (2, .int x2)] → W p l e (rmL 2 0 0) s m args below meth c s.heap [] 0 0 Q (F0 m 11 ls []) := by
  intro n
  induction n with
  | zero => intro M x1 x2 ls hf; cases hf
  | succ k ih =>
    intro M x1 x2 ls hf hP hl
    have hx := X.hx
    have hb := X.hb
    have hown := X.hown
    have hts := X.hts
    rw [fX11_miceBackwards_11] at hf
    try dsimp only at hf
    refine lv_iload_n hx hb dX11_miceBackwards_11 rfl (lv_at hl 2 rfl) ?_
    refine lv_if_lt (tgt := 31) hx hb dX11_miceBackwards_12 (by decide) (fun c1 => ?_) (fun c1 => ?_)
    · exact kX11_miceBackwards_31 X hret (ifp c1 hf) hP (lv_sub hl [0, 1] rfl)
    · exact kX11_miceBackwards_15 X hret ih (ifn c1 hf) hP (lv_sub hl [0, 1, 2] rfl)
set_option maxRecDepth 10000 in
theorem kX11_miceBackwards_0 {r : Int32} {M : MS} (X : gX p s m args c cX11_miceBackwards 3 RX11 (kR kTab kA)) (hret : gRetR p l e (rmL 2 0 0) s m args below meth c cX11_miceBackwards Q r) (hf : fX11_miceBackwards_0 M = some r) {ls : Array Slot} (hP : (mP dC dI cI kA ad) M s s.heap) (hl : lv_has ls 3 [(0, .ref (ad 25))]) : W p l e (rmL 2 0 0) s m args below meth c s.heap [] 0 0 Q (F0 m 0 ls []) := by
  have hx := X.hx
  have hb := X.hb
  have hown := X.hown
  have hts := X.hts
  rw [fX11_miceBackwards_0] at hf
  refine lv_iconst (v := 0) hx hb dX11_miceBackwards_0 (by decide) ?_
  refine lv_istore_n (lv' := [(1, .int 0), (0, .ref (ad 25))]) hx hb dX11_miceBackwards_1 rfl hl (by decide) rfl (fun ls hl => ?_)
  refine lv_aload_n hx hb dX11_miceBackwards_2 rfl (lv_at hl 1 rfl) ?_
  refine mr_get (k := 0) X hP (by decide) rfl rfl tw1665 dX11_miceBackwards_3 ?_
  refine lv_iconst (v := 1) hx hb dX11_miceBackwards_6 (by decide) ?_
  obtain ⟨g1, hf⟩ := gd hf
  refine mr_ald (a := 0) X hP rfl g1 dX11_miceBackwards_7 ?_
  refine lv_iconst (v := 1) hx hb dX11_miceBackwards_8 (by decide) ?_
  refine lv_isub hx hb dX11_miceBackwards_9 ?_
  refine lv_istore_n (lv' := [(2, .int ((M.2 0 (1 : Int32).toNatClampNeg) - 1)), (1, .int 0), (0, .ref (ad 25))]) hx hb dX11_miceBackwards_10 rfl hl (by decide) rfl (fun ls hl => ?_)
  exact kX11_miceBackwards_11 X hret FU _ _ _ _ hf hP (lv_sub hl [2, 1, 0] rfl)
theorem vX11_miceBackwards {l : Launch} {dC : Nat → ClassId} {dI : Nat → Nat → Nat} {cI : ClassId} {kA : String → Nat → Nat} {ad : Nat → Nat} {M : MS} {r : Int32} (hf : fX11_miceBackwards M  = some r) : gMetR l yX11_miceBackwards cX11_miceBackwards 3 (some .int) 2 (gB (mP dC dI cI kA ad) (kR kTab kA) M) [.ref (ad 25)] r := gEntryR (ty := .int) (by decide) rfl rfl (Nat.le_of_ble_eq_true rfl) (fun _ h => h.2) (fun p e s m args below meth c Q ls X hB hret hl => 
  kX11_miceBackwards_0 X hret hf hB.1 (lv_sub hl [0] rfl))
set_option maxRecDepth 10000 in
theorem kX11_undo_57 {r : Int32} {S1 : MS} {M : MS} {H : Heap} {locs : List Loc} {ls : Array Slot} (X : gX p s m args c cX11_undo 1 RX11 (kR kTab kA)) (hret : gRetI p l e (rmL 2 0 0) s m args below meth c cX11_undo (mΩ ad) (mP dC dI cI kA ad) Q r S1) (hf : fX11_undo_57 M = some (r, S1)) (hP : (mP dC dI cI kA ad) M s H) (hS : va_S (Fr (mΩ ad) s.heap.size) s.heap H locs) (hl : lv_has ls 1 [(0, .ref (ad 25))]) : W p l e (rmL 2 0 0) s m args below meth c H locs 0 0 Q (F0 m 57 ls []) := by
  have hx := X.hx
  have hb := X.hb
  have hown := X.hown
  have hts := X.hts
  rw [fX11_undo_57] at hf
  refine lv_aload_n hx hb dX11_undo_57 rfl (lv_at hl 0 rfl) ?_
  refine mr_get (k := 5) X hP (by decide) rfl rfl tw1670 dX11_undo_58 ?_
  cases hf
  exact hret _ _ _ _ dX11_undo_61 hP hS
set_option maxRecDepth 10000 in
theorem kX11_undo_37 {r : Int32} {S1 : MS} {M : MS} {H : Heap} {locs : List Loc} {ls : Array Slot} (X : gX p s m args c cX11_undo 1 RX11 (kR kTab kA)) (hret : gRetI p l e (rmL 2 0 0) s m args below meth c cX11_undo (mΩ ad) (mP dC dI cI kA ad) Q r S1) (hf : fX11_undo_37 M = some (r, S1)) (hP : (mP dC dI cI kA ad) M s H) (hS : va_S (Fr (mΩ ad) s.heap.size) s.heap H locs) (hl : lv_has ls 1 [(0, .ref (ad 25))]) : W p l e (rmL 2 0 0) s m args below meth c H locs 0 0 Q (F0 m 37 ls []) := by
  have hx := X.hx
  have hb := X.hb
  have hown := X.hown
  have hts := X.hts
  rw [fX11_undo_37] at hf
  refine lv_aload_n hx hb dX11_undo_37 rfl (lv_at hl 0 rfl) ?_
  refine mr_get (k := 4) X hP (by decide) rfl rfl tw1669 dX11_undo_38 ?_
  refine lv_sipush (v := 257) hx hb dX11_undo_41 (by decide) ?_
  refine lv_aload_n hx hb dX11_undo_44 rfl (lv_at hl 0 rfl) ?_
  refine mr_get (k := 5) X hP (by decide) rfl rfl tw1670 dX11_undo_45 ?_
  refine lv_imul hx hb dX11_undo_48 ?_
  refine lv_aload_n hx hb dX11_undo_49 rfl (lv_at hl 0 rfl) ?_
  refine mr_get (k := 0) X hP (by decide) rfl rfl tw1665 dX11_undo_50 ?_
  refine lv_iconst (v := 0) hx hb dX11_undo_53 (by decide) ?_
  obtain ⟨q, hc, hf⟩ := bd hf
  refine gCallSV X mOK rfl (vX11_copies hc) gRX11_X11_copies hdX11_copies rfl ⟨by decide, by decide⟩ hP hS hl.1 (Nat.le_of_ble_eq_true rfl) ⟨Nat.le_refl _, Nat.le_refl _⟩ dX11_undo_54 (As := [.ref (ad 4), .int (257 * (M.1 5)), .ref (ad 0), .int 0]) (rest := []) rfl (fun H locs hP hS => ?_)
  exact kX11_undo_57 X hret hf hP hS (lv_sub hl [0] rfl)
set_option maxRecDepth 10000 in
theorem kX11_undo_27 {r : Int32} {S1 : MS} {M : MS} {H : Heap} {locs : List Loc} {ls : Array Slot} (X : gX p s m args c cX11_undo 1 RX11 (kR kTab kA)) (hret : gRetI p l e (rmL 2 0 0) s m args below meth c cX11_undo (mΩ ad) (mP dC dI cI kA ad) Q r S1) (hf : fX11_undo_27 M = some (r, S1)) (hP : (mP dC dI cI kA ad) M s H) (hS : va_S (Fr (mΩ ad) s.heap.size) s.heap H locs) (hl : lv_has ls 1 [(0, .ref (ad 25))]) : W p l e (rmL 2 0 0) s m args below meth c H locs 0 0 Q (F0 m 27 ls []) := by
  have hx := X.hx
  have hb := X.hb
  have hown := X.hown
  have hts := X.hts
  rw [fX11_undo_27] at hf
  refine lv_aload_n hx hb dX11_undo_27 rfl (lv_at hl 0 rfl) ?_
  refine lv_dup hx hb dX11_undo_28 rfl ?_
  refine mr_get (k := 5) X hP (by decide) rfl rfl tw1670 dX11_undo_29 ?_
  refine lv_iconst (v := 1) hx hb dX11_undo_32 (by decide) ?_
  refine lv_isub hx hb dX11_undo_33 ?_
  refine mr_put (k := 5) X hP hS (by decide) rfl rfl rfl rfl tw1670 dX11_undo_34 (fun H locs hP hS => ?_)
  exact kX11_undo_37 X hret hf hP hS (lv_sub hl [0] rfl)
set_option maxRecDepth 10000 in
theorem kX11_undo_25 {r : Int32} {S1 : MS} {M : MS} {H : Heap} {locs : List Loc} {ls : Array Slot} (X : gX p s m args c cX11_undo 1 RX11 (kR kTab kA)) (hret : gRetI p l e (rmL 2 0 0) s m args below meth c cX11_undo (mΩ ad) (mP dC dI cI kA ad) Q r S1) (hf : fX11_undo_25 M = some (r, S1)) (hP : (mP dC dI cI kA ad) M s H) (hS : va_S (Fr (mΩ ad) s.heap.size) s.heap H locs) (hl : lv_has ls 1 [(0, .ref (ad 25))]) : W p l e (rmL 2 0 0) s m args below meth c H locs 0 0 Q (F0 m 25 ls []) := by
  have hx := X.hx
  have hb := X.hb
  have hown := X.hown
  have hts := X.hts
  rw [fX11_undo_25] at hf
  refine lv_iconst (v := 0) hx hb dX11_undo_25 (by decide) ?_
  cases hf
  exact hret _ _ _ _ dX11_undo_26 hP hS
set_option maxRecDepth 10000 in
theorem kX11_undo_22 {r : Int32} {S1 : MS} {M : MS} {s0 : Int32} {H : Heap} {locs : List Loc} {ls : Array Slot} (X : gX p s m args c cX11_undo 1 RX11 (kR kTab kA)) (hret : gRetI p l e (rmL 2 0 0) s m args below meth c cX11_undo (mΩ ad) (mP dC dI cI kA ad) Q r S1) (hf : fX11_undo_22 M s0 = some (r, S1)) (hP : (mP dC dI cI kA ad) M s H) (hS : va_S (Fr (mΩ ad) s.heap.size) s.heap H locs) (hl : lv_has ls 1 [(0, .ref (ad 25))]) : W p l e (rmL 2 0 0) s m args below meth c H locs 0 0 Q (F0 m 22 ls [.int s0]) := by
  have hx := X.hx
  have hb := X.hb
  have hown := X.hown
  have hts := X.hts
  rw [fX11_undo_22] at hf
  refine lv_if_eq (tgt := 27) hx hb dX11_undo_22 (by decide) (fun c1 => ?_) (fun c1 => ?_)
  · exact kX11_undo_27 X hret (ifp c1 hf) hP hS (lv_sub hl [0] rfl)
  · exact kX11_undo_25 X hret (ifn c1 hf) hP hS (lv_sub hl [0] rfl)
set_option maxRecDepth 10000 in
theorem kX11_undo_18 {r : Int32} {S1 : MS} {M : MS} {s0 : Int32} {H : Heap} {locs : List Loc} {ls : Array Slot} (X : gX p s m args c cX11_undo 1 RX11 (kR kTab kA)) (hret : gRetI p l e (rmL 2 0 0) s m args below meth c cX11_undo (mΩ ad) (mP dC dI cI kA ad) Q r S1) (hf : fX11_undo_18 M s0 = some (r, S1)) (hP : (mP dC dI cI kA ad) M s H) (hS : va_S (Fr (mΩ ad) s.heap.size) s.heap H locs) (hl : lv_has ls 1 [(0, .ref (ad 25))]) : W p l e (rmL 2 0 0) s m args below meth c H locs 0 0 Q (F0 m 18 ls [.int s0, .ref (ad 25)]) := by
  have hx := X.hx
  have hb := X.hb
  have hown := X.hown
  have hts := X.hts
  rw [fX11_undo_18] at hf
  refine lv_iconst (v := 1) hx hb dX11_undo_18 (by decide) ?_
  obtain ⟨q, hc, hf⟩ := bd hf
  refine gCallVI X mOK rfl (vX11_fails hc) gRX11_X11_fails hdX11_fails rfl ⟨by decide, by decide⟩ hP hS (mrec hP) hl.1 (Nat.le_of_ble_eq_true rfl) ⟨Nat.le_refl _, Nat.le_refl _⟩ dX11_undo_19 (As := [.int s0, .int 1]) (rest := []) rfl (fun H locs hP hS => ?_)
  exact kX11_undo_22 X hret hf hP hS (lv_sub hl [0] rfl)
set_option maxRecDepth 10000 in
theorem kX11_undo_17 {r : Int32} {S1 : MS} {M : MS} {H : Heap} {locs : List Loc} {ls : Array Slot} (X : gX p s m args c cX11_undo 1 RX11 (kR kTab kA)) (hret : gRetI p l e (rmL 2 0 0) s m args below meth c cX11_undo (mΩ ad) (mP dC dI cI kA ad) Q r S1) (hf : fX11_undo_17 M = some (r, S1)) (hP : (mP dC dI cI kA ad) M s H) (hS : va_S (Fr (mΩ ad) s.heap.size) s.heap H locs) (hl : lv_has ls 1 [(0, .ref (ad 25))]) : W p l e (rmL 2 0 0) s m args below meth c H locs 0 0 Q (F0 m 17 ls [.ref (ad 25)]) := by
  have hx := X.hx
  have hb := X.hb
  have hown := X.hown
  have hts := X.hts
  rw [fX11_undo_17] at hf
  refine lv_iconst (v := 0) hx hb dX11_undo_17 (by decide) ?_
  exact kX11_undo_18 X hret hf hP hS (lv_sub hl [0] rfl)
set_option maxRecDepth 10000 in
theorem kX11_undo_13 {r : Int32} {S1 : MS} {M : MS} {H : Heap} {locs : List Loc} {ls : Array Slot} (X : gX p s m args c cX11_undo 1 RX11 (kR kTab kA)) (hret : gRetI p l e (rmL 2 0 0) s m args below meth c cX11_undo (mΩ ad) (mP dC dI cI kA ad) Q r S1) (hf : fX11_undo_13 M = some (r, S1)) (hP : (mP dC dI cI kA ad) M s H) (hS : va_S (Fr (mΩ ad) s.heap.size) s.heap H locs) (hl : lv_has ls 1 [(0, .ref (ad 25))]) : W p l e (rmL 2 0 0) s m args below meth c H locs 0 0 Q (F0 m 13 ls [.ref (ad 25)]) := by
  have hx := X.hx
  have hb := X.hb
  have hown := X.hown
  have hts := X.hts
  rw [fX11_undo_13] at hf
  refine lv_iconst (v := 1) hx hb dX11_undo_13 (by decide) ?_
  refine lv_goto (tgt := 18) hx hb dX11_undo_14 (by decide) ?_
  exact kX11_undo_18 X hret hf hP hS (lv_sub hl [0] rfl)
set_option maxRecDepth 10000 in
theorem kX11_undo_5 {r : Int32} {S1 : MS} {M : MS} {H : Heap} {locs : List Loc} {ls : Array Slot} (X : gX p s m args c cX11_undo 1 RX11 (kR kTab kA)) (hret : gRetI p l e (rmL 2 0 0) s m args below meth c cX11_undo (mΩ ad) (mP dC dI cI kA ad) Q r S1) (hf : fX11_undo_5 M = some (r, S1)) (hP : (mP dC dI cI kA ad) M s H) (hS : va_S (Fr (mΩ ad) s.heap.size) s.heap H locs) (hl : lv_has ls 1 [(0, .ref (ad 25))]) : W p l e (rmL 2 0 0) s m args below meth c H locs 0 0 Q (F0 m 5 ls []) := by
  have hx := X.hx
  have hb := X.hb
  have hown := X.hown
  have hts := X.hts
  rw [fX11_undo_5] at hf
  refine lv_aload_n hx hb dX11_undo_5 rfl (lv_at hl 0 rfl) ?_
  refine lv_aload_n hx hb dX11_undo_6 rfl (lv_at hl 0 rfl) ?_
  refine mr_get (k := 5) X hP (by decide) rfl rfl tw1670 dX11_undo_7 ?_
  refine lv_if_ne (tgt := 17) hx hb dX11_undo_10 (by decide) (fun c1 => ?_) (fun c1 => ?_)
  · exact kX11_undo_17 X hret (ifn c1 hf) hP hS (lv_sub hl [0] rfl)
  · exact kX11_undo_13 X hret (ifp c1 hf) hP hS (lv_sub hl [0] rfl)
set_option maxRecDepth 10000 in
theorem kX11_undo_0 {r : Int32} {S1 : MS} {M : MS} {H : Heap} {locs : List Loc} {ls : Array Slot} (X : gX p s m args c cX11_undo 1 RX11 (kR kTab kA)) (hret : gRetI p l e (rmL 2 0 0) s m args below meth c cX11_undo (mΩ ad) (mP dC dI cI kA ad) Q r S1) (hf : fX11_undo_0 M = some (r, S1)) (hP : (mP dC dI cI kA ad) M s H) (hS : va_S (Fr (mΩ ad) s.heap.size) s.heap H locs) (hl : lv_has ls 1 [(0, .ref (ad 25))]) : W p l e (rmL 2 0 0) s m args below meth c H locs 0 0 Q (F0 m 0 ls []) := by
  have hx := X.hx
  have hb := X.hb
  have hown := X.hown
  have hts := X.hts
  rw [fX11_undo_0] at hf
  refine lv_aload_n hx hb dX11_undo_0 rfl (lv_at hl 0 rfl) ?_
  refine lv_iconst (v := 0) hx hb dX11_undo_1 (by decide) ?_
  refine mr_put (k := 7) X hP hS (by decide) rfl rfl rfl rfl tw1672 dX11_undo_2 (fun H locs hP hS => ?_)
  exact kX11_undo_5 X hret hf hP hS (lv_sub hl [0] rfl)
theorem vX11_undo {l : Launch} {dC : Nat → ClassId} {dI : Nat → Nat → Nat} {cI : ClassId} {kA : String → Nat → Nat} {ad : Nat → Nat} {M S1 : MS} {r : Int32} (hf : fX11_undo M  = some (r, S1)) : gMetI l yX11_undo cX11_undo 1 (some .int) 2 (mΩ ad) (mP dC dI cI kA ad) (kR kTab kA) [.ref (ad 25)] M r S1 := gEntryI (ty := .int) (by decide) rfl rfl mOK (Nat.le_of_ble_eq_true rfl) (fun p e s m args below meth c Q ls X hP hS hret hl => 
  kX11_undo_0 X hret hf hP hS (lv_sub hl [0] rfl))
set_option maxRecDepth 10000 in
theorem kX11_outputByte_29 {r : Int32} {S1 : MS} {M : MS} {s0 : Int32} {H : Heap} {locs : List Loc} {ls : Array Slot} (X : gX p s m args c cX11_outputByte 2 RX11 (kR kTab kA)) (hret : gRetI p l e (rmL 2 0 0) s m args below meth c cX11_outputByte (mΩ ad) (mP dC dI cI kA ad) Q r S1) (hf : fX11_outputByte_29 M s0 = some (r, S1)) (hP : (mP dC dI cI kA ad) M s H) (hS : va_S (Fr (mΩ ad) s.heap.size) s.heap H locs) (hl : lv_has ls 2 [(0, .ref (ad 25))]) : W p l e (rmL 2 0 0) s m args below meth c H locs 0 0 Q (F0 m 29 ls [.int s0]) := by
  have hx := X.hx
  have hb := X.hb
  have hown := X.hown
  have hts := X.hts
  rw [fX11_outputByte_29] at hf
  cases hf
  exact hret _ _ _ _ dX11_outputByte_29 hP hS
set_option maxRecDepth 10000 in
theorem kX11_outputByte_28 {r : Int32} {S1 : MS} {M : MS} {H : Heap} {locs : List Loc} {ls : Array Slot} (X : gX p s m args c cX11_outputByte 2 RX11 (kR kTab kA)) (hret : gRetI p l e (rmL 2 0 0) s m args below meth c cX11_outputByte (mΩ ad) (mP dC dI cI kA ad) Q r S1) (hf : fX11_outputByte_28 M = some (r, S1)) (hP : (mP dC dI cI kA ad) M s H) (hS : va_S (Fr (mΩ ad) s.heap.size) s.heap H locs) (hl : lv_has ls 2 [(0, .ref (ad 25))]) : W p l e (rmL 2 0 0) s m args below meth c H locs 0 0 Q (F0 m 28 ls []) := by
  have hx := X.hx
  have hb := X.hb
  have hown := X.hown
  have hts := X.hts
  rw [fX11_outputByte_28] at hf
  refine lv_iconst (v := (-1)) hx hb dX11_outputByte_28 (by decide) ?_
  exact kX11_outputByte_29 X hret hf hP hS (lv_sub hl [0] rfl)
set_option maxRecDepth 10000 in
theorem kX11_outputByte_19 {r : Int32} {S1 : MS} {M : MS} {x1 : Int32} {H : Heap} {locs : List Loc} {ls : Array Slot} (X : gX p s m args c cX11_outputByte 2 RX11 (kR kTab kA)) (hret : gRetI p l e (rmL 2 0 0) s m args below meth c cX11_outputByte (mΩ ad) (mP dC dI cI kA ad) Q r S1) (hf : fX11_outputByte_19 M x1 = some (r, S1)) (hP : (mP dC dI cI kA ad) M s H) (hS : va_S (Fr (mΩ ad) s.heap.size) s.heap H locs) (hl : lv_has ls 2 [(0, .ref (ad 25)), (1, .int x1)]) : W p l e (rmL 2 0 0) s m args below meth c H locs 0 0 Q (F0 m 19 ls []) := by
  have hx := X.hx
  have hb := X.hb
  have hown := X.hown
  have hts := X.hts
  rw [fX11_outputByte_19] at hf
  refine lv_aload_n hx hb dX11_outputByte_19 rfl (lv_at hl 0 rfl) ?_
  refine mr_get (k := 23) X hP (by decide) rfl rfl tw1688 dX11_outputByte_20 ?_
  refine lv_iload_n hx hb dX11_outputByte_23 rfl (lv_at hl 1 rfl) ?_
  obtain ⟨g1, hf⟩ := gd hf
  refine mr_ald (a := 23) X hP rfl g1 dX11_outputByte_24 ?_
  refine lv_goto (tgt := 29) hx hb dX11_outputByte_25 (by decide) ?_
  exact kX11_outputByte_29 X hret hf hP hS (lv_sub hl [0] rfl)
set_option maxRecDepth 10000 in
theorem kX11_outputByte_16 {r : Int32} {S1 : MS} {M : MS} {x1 : Int32} {s0 : Int32} {H : Heap} {locs : List Loc} {ls : Array Slot} (X : gX p s m args c cX11_outputByte 2 RX11 (kR kTab kA)) (hret : gRetI p l e (rmL 2 0 0) s m args below meth c cX11_outputByte (mΩ ad) (mP dC dI cI kA ad) Q r S1) (hf : fX11_outputByte_16 M x1 s0 = some (r, S1)) (hP : (mP dC dI cI kA ad) M s H) (hS : va_S (Fr (mΩ ad) s.heap.size) s.heap H locs) (hl : lv_has ls 2 [(0, .ref (ad 25)), (1, .int x1)]) : W p l e (rmL 2 0 0) s m args below meth c H locs 0 0 Q (F0 m 16 ls [.int s0]) := by
  have hx := X.hx
  have hb := X.hb
  have hown := X.hown
  have hts := X.hts
  rw [fX11_outputByte_16] at hf
  refine lv_if_eq (tgt := 28) hx hb dX11_outputByte_16 (by decide) (fun c1 => ?_) (fun c1 => ?_)
  · exact kX11_outputByte_28 X hret (ifp c1 hf) hP hS (lv_sub hl [0] rfl)
  · exact kX11_outputByte_19 X hret (ifn c1 hf) hP hS (lv_sub hl [0, 1] rfl)
set_option maxRecDepth 10000 in
theorem kX11_outputByte_5 {r : Int32} {S1 : MS} {M : MS} {x1 : Int32} {H : Heap} {locs : List Loc} {ls : Array Slot} (X : gX p s m args c cX11_outputByte 2 RX11 (kR kTab kA)) (hret : gRetI p l e (rmL 2 0 0) s m args below meth c cX11_outputByte (mΩ ad) (mP dC dI cI kA ad) Q r S1) (hf : fX11_outputByte_5 M x1 = some (r, S1)) (hP : (mP dC dI cI kA ad) M s H) (hS : va_S (Fr (mΩ ad) s.heap.size) s.heap H locs) (hl : lv_has ls 2 [(0, .ref (ad 25)), (1, .int x1)]) : W p l e (rmL 2 0 0) s m args below meth c H locs 0 0 Q (F0 m 5 ls []) := by
  have hx := X.hx
  have hb := X.hb
  have hown := X.hown
  have hts := X.hts
  rw [fX11_outputByte_5] at hf
  refine lv_iload_n hx hb dX11_outputByte_5 rfl (lv_at hl 1 rfl) ?_
  refine lv_iconst (v := 0) hx hb dX11_outputByte_6 (by decide) ?_
  refine lv_aload_n hx hb dX11_outputByte_7 rfl (lv_at hl 0 rfl) ?_
  refine mr_get (k := 24) X hP (by decide) rfl rfl tw1689 dX11_outputByte_8 ?_
  refine lv_iconst (v := 1) hx hb dX11_outputByte_11 (by decide) ?_
  refine lv_isub hx hb dX11_outputByte_12 ?_
  obtain ⟨q, hc, hf⟩ := bd hf
  refine gCallSR X rfl (vX11_inRange hc) gRX11_X11_inRange hdX11_inRange rfl ⟨by decide, by decide⟩ (gB_blind mOK) (gB_at mOK X hP) hl.1 (Nat.le_of_ble_eq_true rfl) ⟨Nat.le_refl _, Nat.le_refl _⟩ dX11_outputByte_13 (As := [.int x1, .int 0, .int ((M.1 24) - 1)]) (rest := []) rfl ?_
  exact kX11_outputByte_16 X hret hf hP hS (lv_sub hl [0, 1] rfl)
set_option maxRecDepth 10000 in
theorem kX11_outputByte_0 {r : Int32} {S1 : MS} {M : MS} {a1 : Int32} {H : Heap} {locs : List Loc} {ls : Array Slot} (X : gX p s m args c cX11_outputByte 2 RX11 (kR kTab kA)) (hret : gRetI p l e (rmL 2 0 0) s m args below meth c cX11_outputByte (mΩ ad) (mP dC dI cI kA ad) Q r S1) (hf : fX11_outputByte_0 M a1 = some (r, S1)) (hP : (mP dC dI cI kA ad) M s H) (hS : va_S (Fr (mΩ ad) s.heap.size) s.heap H locs) (hl : lv_has ls 2 [(0, .ref (ad 25)), (1, .int a1)]) : W p l e (rmL 2 0 0) s m args below meth c H locs 0 0 Q (F0 m 0 ls []) := by
  have hx := X.hx
  have hb := X.hb
  have hown := X.hown
  have hts := X.hts
  rw [fX11_outputByte_0] at hf
  refine lv_aload_n hx hb dX11_outputByte_0 rfl (lv_at hl 0 rfl) ?_
  refine lv_iconst (v := 0) hx hb dX11_outputByte_1 (by decide) ?_
  refine mr_put (k := 7) X hP hS (by decide) rfl rfl rfl rfl tw1672 dX11_outputByte_2 (fun H locs hP hS => ?_)
  exact kX11_outputByte_5 X hret hf hP hS (lv_sub hl [0, 1] rfl)
theorem vX11_outputByte {l : Launch} {dC : Nat → ClassId} {dI : Nat → Nat → Nat} {cI : ClassId} {kA : String → Nat → Nat} {ad : Nat → Nat} {M S1 : MS} {r : Int32} {a1 : Int32} (hf : fX11_outputByte M a1 = some (r, S1)) : gMetI l yX11_outputByte cX11_outputByte 2 (some .int) 2 (mΩ ad) (mP dC dI cI kA ad) (kR kTab kA) [.ref (ad 25), .int a1] M r S1 := gEntryI (ty := .int) (by decide) rfl rfl mOK (Nat.le_of_ble_eq_true rfl) (fun p e s m args below meth c Q ls X hP hS hret hl => 
  kX11_outputByte_0 X hret hf hP hS (lv_sub hl [0, 1] rfl))
set_option maxRecDepth 10000 in
theorem kX11_saveState_23 {r : Int32} {S1 : MS} {M : MS} {H : Heap} {locs : List Loc} {ls : Array Slot} (X : gX p s m args c cX11_saveState 1 RX11 (kR kTab kA)) (hret : gRetI p l e (rmL 2 0 0) s m args below meth c cX11_saveState (mΩ ad) (mP dC dI cI kA ad) Q r S1) (hf : fX11_saveState_23 M = some (r, S1)) (hP : (mP dC dI cI kA ad) M s H) (hS : va_S (Fr (mΩ ad) s.heap.size) s.heap H locs) (hl : lv_has ls 1 [(0, .ref (ad 25))]) : W p l e (rmL 2 0 0) s m args below meth c H locs 0 0 Q (F0 m 23 ls []) := by
  have hx := X.hx
  have hb := X.hb
  have hown := X.hown
  have hts := X.hts
  rw [fX11_saveState_23] at hf
  refine lv_aload_n hx hb dX11_saveState_23 rfl (lv_at hl 0 rfl) ?_
  refine mr_get (k := 0) X hP (by decide) rfl rfl tw1665 dX11_saveState_24 ?_
  refine lv_iconst (v := 3) hx hb dX11_saveState_27 (by decide) ?_
  obtain ⟨g1, hf⟩ := gd hf
  refine mr_ald (a := 0) X hP rfl g1 dX11_saveState_28 ?_
  cases hf
  exact hret _ _ _ _ dX11_saveState_29 hP hS
set_option maxRecDepth 10000 in
theorem kX11_saveState_18 {r : Int32} {S1 : MS} {M : MS} {H : Heap} {locs : List Loc} {ls : Array Slot} (X : gX p s m args c cX11_saveState 1 RX11 (kR kTab kA)) (hret : gRetI p l e (rmL 2 0 0) s m args below meth c cX11_saveState (mΩ ad) (mP dC dI cI kA ad) Q r S1) (hf : fX11_saveState_18 M = some (r, S1)) (hP : (mP dC dI cI kA ad) M s H) (hS : va_S (Fr (mΩ ad) s.heap.size) s.heap H locs) (hl : lv_has ls 1 [(0, .ref (ad 25))]) : W p l e (rmL 2 0 0) s m args below meth c H locs 0 0 Q (F0 m 18 ls []) := by
  have hx := X.hx
  have hb := X.hb
  have hown := X.hown
  have hts := X.hts
  rw [fX11_saveState_18] at hf
  refine lv_aload_n hx hb dX11_saveState_18 rfl (lv_at hl 0 rfl) ?_
  refine lv_iconst (v := 1) hx hb dX11_saveState_19 (by decide) ?_
  refine mr_put (k := 6) X hP hS (by decide) (by decide +kernel) (by decide +kernel) rfl rfl tw1671 dX11_saveState_20 (fun H locs hP hS => ?_)
  exact kX11_saveState_23 X hret hf hP hS (lv_sub hl [0] rfl)
set_option maxRecDepth 10000 in
theorem kX11_saveState_5 {r : Int32} {S1 : MS} {M : MS} {H : Heap} {locs : List Loc} {ls : Array Slot} (X : gX p s m args c cX11_saveState 1 RX11 (kR kTab kA)) (hret : gRetI p l e (rmL 2 0 0) s m args below meth c cX11_saveState (mΩ ad) (mP dC dI cI kA ad) Q r S1) (hf : fX11_saveState_5 M = some (r, S1)) (hP : (mP dC dI cI kA ad) M s H) (hS : va_S (Fr (mΩ ad) s.heap.size) s.heap H locs) (hl : lv_has ls 1 [(0, .ref (ad 25))]) : W p l e (rmL 2 0 0) s m args below meth c H locs 0 0 Q (F0 m 5 ls []) := by
  have hx := X.hx
  have hb := X.hb
  have hown := X.hown
  have hts := X.hts
  rw [fX11_saveState_5] at hf
  refine lv_aload_n hx hb dX11_saveState_5 rfl (lv_at hl 0 rfl) ?_
  refine mr_get (k := 0) X hP (by decide) rfl rfl tw1665 dX11_saveState_6 ?_
  refine lv_iconst (v := 0) hx hb dX11_saveState_9 (by decide) ?_
  refine lv_aload_n hx hb dX11_saveState_10 rfl (lv_at hl 0 rfl) ?_
  refine mr_get (k := 3) X hP (by decide) rfl rfl tw1668 dX11_saveState_11 ?_
  refine lv_iconst (v := 0) hx hb dX11_saveState_14 (by decide) ?_
  obtain ⟨q, hc, hf⟩ := bd hf
  refine gCallSV X mOK rfl (vX11_copies hc) gRX11_X11_copies hdX11_copies rfl ⟨by decide, by decide⟩ hP hS hl.1 (Nat.le_of_ble_eq_true rfl) ⟨Nat.le_refl _, Nat.le_refl _⟩ dX11_saveState_15 (As := [.ref (ad 0), .int 0, .ref (ad 3), .int 0]) (rest := []) rfl (fun H locs hP hS => ?_)
  exact kX11_saveState_18 X hret hf hP hS (lv_sub hl [0] rfl)
set_option maxRecDepth 10000 in
theorem kX11_saveState_0 {r : Int32} {S1 : MS} {M : MS} {H : Heap} {locs : List Loc} {ls : Array Slot} (X : gX p s m args c cX11_saveState 1 RX11 (kR kTab kA)) (hret : gRetI p l e (rmL 2 0 0) s m args below meth c cX11_saveState (mΩ ad) (mP dC dI cI kA ad) Q r S1) (hf : fX11_saveState_0 M = some (r, S1)) (hP : (mP dC dI cI kA ad) M s H) (hS : va_S (Fr (mΩ ad) s.heap.size) s.heap H locs) (hl : lv_has ls 1 [(0, .ref (ad 25))]) : W p l e (rmL 2 0 0) s m args below meth c H locs 0 0 Q (F0 m 0 ls []) := by
  have hx := X.hx
  have hb := X.hb
  have hown := X.hown
  have hts := X.hts
  rw [fX11_saveState_0] at hf
  refine lv_aload_n hx hb dX11_saveState_0 rfl (lv_at hl 0 rfl) ?_
  refine lv_iconst (v := 0) hx hb dX11_saveState_1 (by decide) ?_
  refine mr_put (k := 7) X hP hS (by decide) rfl rfl rfl rfl tw1672 dX11_saveState_2 (fun H locs hP hS => ?_)
  exact kX11_saveState_5 X hret hf hP hS (lv_sub hl [0] rfl)
theorem vX11_saveState {l : Launch} {dC : Nat → ClassId} {dI : Nat → Nat → Nat} {cI : ClassId} {kA : String → Nat → Nat} {ad : Nat → Nat} {M S1 : MS} {r : Int32} (hf : fX11_saveState M  = some (r, S1)) : gMetI l yX11_saveState cX11_saveState 1 (some .int) 2 (mΩ ad) (mP dC dI cI kA ad) (kR kTab kA) [.ref (ad 25)] M r S1 := gEntryI (ty := .int) (by decide) rfl rfl mOK (Nat.le_of_ble_eq_true rfl) (fun p e s m args below meth c Q ls X hP hS hret hl => 
  kX11_saveState_0 X hret hf hP hS (lv_sub hl [0] rfl))
set_option maxRecDepth 10000 in
theorem kX11_restoreState_45 {r : Int32} {S1 : MS} {M : MS} {H : Heap} {locs : List Loc} {ls : Array Slot} (X : gX p s m args c cX11_restoreState 1 RX11 (kR kTab kA)) (hret : gRetI p l e (rmL 2 0 0) s m args below meth c cX11_restoreState (mΩ ad) (mP dC dI cI kA ad) Q r S1) (hf : fX11_restoreState_45 M = some (r, S1)) (hP : (mP dC dI cI kA ad) M s H) (hS : va_S (Fr (mΩ ad) s.heap.size) s.heap H locs) (hl : lv_has ls 1 [(0, .ref (ad 25))]) : W p l e (rmL 2 0 0) s m args below meth c H locs 0 0 Q (F0 m 45 ls []) := by
  have hx := X.hx
  have hb := X.hb
  have hown := X.hown
  have hts := X.hts
  rw [fX11_restoreState_45] at hf
  refine lv_aload_n hx hb dX11_restoreState_45 rfl (lv_at hl 0 rfl) ?_
  refine mr_get (k := 0) X hP (by decide) rfl rfl tw1665 dX11_restoreState_46 ?_
  refine lv_iconst (v := 3) hx hb dX11_restoreState_49 (by decide) ?_
  obtain ⟨g1, hf⟩ := gd hf
  refine mr_ald (a := 0) X hP rfl g1 dX11_restoreState_50 ?_
  cases hf
  exact hret _ _ _ _ dX11_restoreState_51 hP hS
set_option maxRecDepth 10000 in
theorem kX11_restoreState_40 {r : Int32} {S1 : MS} {M : MS} {H : Heap} {locs : List Loc} {ls : Array Slot} (X : gX p s m args c cX11_restoreState 1 RX11 (kR kTab kA)) (hret : gRetI p l e (rmL 2 0 0) s m args below meth c cX11_restoreState (mΩ ad) (mP dC dI cI kA ad) Q r S1) (hf : fX11_restoreState_40 M = some (r, S1)) (hP : (mP dC dI cI kA ad) M s H) (hS : va_S (Fr (mΩ ad) s.heap.size) s.heap H locs) (hl : lv_has ls 1 [(0, .ref (ad 25))]) : W p l e (rmL 2 0 0) s m args below meth c H locs 0 0 Q (F0 m 40 ls []) := by
  have hx := X.hx
  have hb := X.hb
  have hown := X.hown
  have hts := X.hts
  rw [fX11_restoreState_40] at hf
  refine lv_aload_n hx hb dX11_restoreState_40 rfl (lv_at hl 0 rfl) ?_
  refine lv_iconst (v := 0) hx hb dX11_restoreState_41 (by decide) ?_
  refine mr_put (k := 5) X hP hS (by decide) rfl rfl rfl rfl tw1670 dX11_restoreState_42 (fun H locs hP hS => ?_)
  exact kX11_restoreState_45 X hret hf hP hS (lv_sub hl [0] rfl)
set_option maxRecDepth 10000 in
theorem kX11_restoreState_27 {r : Int32} {S1 : MS} {M : MS} {H : Heap} {locs : List Loc} {ls : Array Slot} (X : gX p s m args c cX11_restoreState 1 RX11 (kR kTab kA)) (hret : gRetI p l e (rmL 2 0 0) s m args below meth c cX11_restoreState (mΩ ad) (mP dC dI cI kA ad) Q r S1) (hf : fX11_restoreState_27 M = some (r, S1)) (hP : (mP dC dI cI kA ad) M s H) (hS : va_S (Fr (mΩ ad) s.heap.size) s.heap H locs) (hl : lv_has ls 1 [(0, .ref (ad 25))]) : W p l e (rmL 2 0 0) s m args below meth c H locs 0 0 Q (F0 m 27 ls []) := by
  have hx := X.hx
  have hb := X.hb
  have hown := X.hown
  have hts := X.hts
  rw [fX11_restoreState_27] at hf
  refine lv_aload_n hx hb dX11_restoreState_27 rfl (lv_at hl 0 rfl) ?_
  refine mr_get (k := 3) X hP (by decide) rfl rfl tw1668 dX11_restoreState_28 ?_
  refine lv_iconst (v := 0) hx hb dX11_restoreState_31 (by decide) ?_
  refine lv_aload_n hx hb dX11_restoreState_32 rfl (lv_at hl 0 rfl) ?_
  refine mr_get (k := 0) X hP (by decide) rfl rfl tw1665 dX11_restoreState_33 ?_
  refine lv_iconst (v := 0) hx hb dX11_restoreState_36 (by decide) ?_
  obtain ⟨q, hc, hf⟩ := bd hf
  refine gCallSV X mOK rfl (vX11_copies hc) gRX11_X11_copies hdX11_copies rfl ⟨by decide, by decide⟩ hP hS hl.1 (Nat.le_of_ble_eq_true rfl) ⟨Nat.le_refl _, Nat.le_refl _⟩ dX11_restoreState_37 (As := [.ref (ad 3), .int 0, .ref (ad 0), .int 0]) (rest := []) rfl (fun H locs hP hS => ?_)
  exact kX11_restoreState_40 X hret hf hP hS (lv_sub hl [0] rfl)
set_option maxRecDepth 10000 in
theorem kX11_restoreState_25 {r : Int32} {S1 : MS} {M : MS} {H : Heap} {locs : List Loc} {ls : Array Slot} (X : gX p s m args c cX11_restoreState 1 RX11 (kR kTab kA)) (hret : gRetI p l e (rmL 2 0 0) s m args below meth c cX11_restoreState (mΩ ad) (mP dC dI cI kA ad) Q r S1) (hf : fX11_restoreState_25 M = some (r, S1)) (hP : (mP dC dI cI kA ad) M s H) (hS : va_S (Fr (mΩ ad) s.heap.size) s.heap H locs) (hl : lv_has ls 1 [(0, .ref (ad 25))]) : W p l e (rmL 2 0 0) s m args below meth c H locs 0 0 Q (F0 m 25 ls []) := by
  have hx := X.hx
  have hb := X.hb
  have hown := X.hown
  have hts := X.hts
  rw [fX11_restoreState_25] at hf
  refine lv_iconst (v := 0) hx hb dX11_restoreState_25 (by decide) ?_
  cases hf
  exact hret _ _ _ _ dX11_restoreState_26 hP hS
set_option maxRecDepth 10000 in
theorem kX11_restoreState_22 {r : Int32} {S1 : MS} {M : MS} {s0 : Int32} {H : Heap} {locs : List Loc} {ls : Array Slot} (X : gX p s m args c cX11_restoreState 1 RX11 (kR kTab kA)) (hret : gRetI p l e (rmL 2 0 0) s m args below meth c cX11_restoreState (mΩ ad) (mP dC dI cI kA ad) Q r S1) (hf : fX11_restoreState_22 M s0 = some (r, S1)) (hP : (mP dC dI cI kA ad) M s H) (hS : va_S (Fr (mΩ ad) s.heap.size) s.heap H locs) (hl : lv_has ls 1 [(0, .ref (ad 25))]) : W p l e (rmL 2 0 0) s m args below meth c H locs 0 0 Q (F0 m 22 ls [.int s0]) := by
  have hx := X.hx
  have hb := X.hb
  have hown := X.hown
  have hts := X.hts
  rw [fX11_restoreState_22] at hf
  refine lv_if_eq (tgt := 27) hx hb dX11_restoreState_22 (by decide) (fun c1 => ?_) (fun c1 => ?_)
  · exact kX11_restoreState_27 X hret (ifp c1 hf) hP hS (lv_sub hl [0] rfl)
  · exact kX11_restoreState_25 X hret (ifn c1 hf) hP hS (lv_sub hl [0] rfl)
set_option maxRecDepth 10000 in
theorem kX11_restoreState_18 {r : Int32} {S1 : MS} {M : MS} {s0 : Int32} {H : Heap} {locs : List Loc} {ls : Array Slot} (X : gX p s m args c cX11_restoreState 1 RX11 (kR kTab kA)) (hret : gRetI p l e (rmL 2 0 0) s m args below meth c cX11_restoreState (mΩ ad) (mP dC dI cI kA ad) Q r S1) (hf : fX11_restoreState_18 M s0 = some (r, S1)) (hP : (mP dC dI cI kA ad) M s H) (hS : va_S (Fr (mΩ ad) s.heap.size) s.heap H locs) (hl : lv_has ls 1 [(0, .ref (ad 25))]) : W p l e (rmL 2 0 0) s m args below meth c H locs 0 0 Q (F0 m 18 ls [.int s0, .ref (ad 25)]) := by
  have hx := X.hx
  have hb := X.hb
  have hown := X.hown
  have hts := X.hts
  rw [fX11_restoreState_18] at hf
  refine lv_iconst (v := 1) hx hb dX11_restoreState_18 (by decide) ?_
  obtain ⟨q, hc, hf⟩ := bd hf
  refine gCallVI X mOK rfl (vX11_fails hc) gRX11_X11_fails hdX11_fails rfl ⟨by decide, by decide⟩ hP hS (mrec hP) hl.1 (Nat.le_of_ble_eq_true rfl) ⟨Nat.le_refl _, Nat.le_refl _⟩ dX11_restoreState_19 (As := [.int s0, .int 1]) (rest := []) rfl (fun H locs hP hS => ?_)
  exact kX11_restoreState_22 X hret hf hP hS (lv_sub hl [0] rfl)
set_option maxRecDepth 10000 in
theorem kX11_restoreState_17 {r : Int32} {S1 : MS} {M : MS} {H : Heap} {locs : List Loc} {ls : Array Slot} (X : gX p s m args c cX11_restoreState 1 RX11 (kR kTab kA)) (hret : gRetI p l e (rmL 2 0 0) s m args below meth c cX11_restoreState (mΩ ad) (mP dC dI cI kA ad) Q r S1) (hf : fX11_restoreState_17 M = some (r, S1)) (hP : (mP dC dI cI kA ad) M s H) (hS : va_S (Fr (mΩ ad) s.heap.size) s.heap H locs) (hl : lv_has ls 1 [(0, .ref (ad 25))]) : W p l e (rmL 2 0 0) s m args below meth c H locs 0 0 Q (F0 m 17 ls [.ref (ad 25)]) := by
  have hx := X.hx
  have hb := X.hb
  have hown := X.hown
  have hts := X.hts
  rw [fX11_restoreState_17] at hf
  refine lv_iconst (v := 0) hx hb dX11_restoreState_17 (by decide) ?_
  exact kX11_restoreState_18 X hret hf hP hS (lv_sub hl [0] rfl)
set_option maxRecDepth 10000 in
theorem kX11_restoreState_13 {r : Int32} {S1 : MS} {M : MS} {H : Heap} {locs : List Loc} {ls : Array Slot} (X : gX p s m args c cX11_restoreState 1 RX11 (kR kTab kA)) (hret : gRetI p l e (rmL 2 0 0) s m args below meth c cX11_restoreState (mΩ ad) (mP dC dI cI kA ad) Q r S1) (hf : fX11_restoreState_13 M = some (r, S1)) (hP : (mP dC dI cI kA ad) M s H) (hS : va_S (Fr (mΩ ad) s.heap.size) s.heap H locs) (hl : lv_has ls 1 [(0, .ref (ad 25))]) : W p l e (rmL 2 0 0) s m args below meth c H locs 0 0 Q (F0 m 13 ls [.ref (ad 25)]) := by
  have hx := X.hx
  have hb := X.hb
  have hown := X.hown
  have hts := X.hts
  rw [fX11_restoreState_13] at hf
  refine lv_iconst (v := 1) hx hb dX11_restoreState_13 (by decide) ?_
  refine lv_goto (tgt := 18) hx hb dX11_restoreState_14 (by decide) ?_
  exact kX11_restoreState_18 X hret hf hP hS (lv_sub hl [0] rfl)
set_option maxRecDepth 10000 in
theorem kX11_restoreState_5 {r : Int32} {S1 : MS} {M : MS} {H : Heap} {locs : List Loc} {ls : Array Slot} (X : gX p s m args c cX11_restoreState 1 RX11 (kR kTab kA)) (hret : gRetI p l e (rmL 2 0 0) s m args below meth c cX11_restoreState (mΩ ad) (mP dC dI cI kA ad) Q r S1) (hf : fX11_restoreState_5 M = some (r, S1)) (hP : (mP dC dI cI kA ad) M s H) (hS : va_S (Fr (mΩ ad) s.heap.size) s.heap H locs) (hl : lv_has ls 1 [(0, .ref (ad 25))]) : W p l e (rmL 2 0 0) s m args below meth c H locs 0 0 Q (F0 m 5 ls []) := by
  have hx := X.hx
  have hb := X.hb
  have hown := X.hown
  have hts := X.hts
  rw [fX11_restoreState_5] at hf
  refine lv_aload_n hx hb dX11_restoreState_5 rfl (lv_at hl 0 rfl) ?_
  refine lv_aload_n hx hb dX11_restoreState_6 rfl (lv_at hl 0 rfl) ?_
  refine mr_get (k := 6) X hP (by decide) rfl rfl tw1671 dX11_restoreState_7 ?_
  refine lv_if_ne (tgt := 17) hx hb dX11_restoreState_10 (by decide) (fun c1 => ?_) (fun c1 => ?_)
  · exact kX11_restoreState_17 X hret (ifn c1 hf) hP hS (lv_sub hl [0] rfl)
  · exact kX11_restoreState_13 X hret (ifp c1 hf) hP hS (lv_sub hl [0] rfl)
set_option maxRecDepth 10000 in
theorem kX11_restoreState_0 {r : Int32} {S1 : MS} {M : MS} {H : Heap} {locs : List Loc} {ls : Array Slot} (X : gX p s m args c cX11_restoreState 1 RX11 (kR kTab kA)) (hret : gRetI p l e (rmL 2 0 0) s m args below meth c cX11_restoreState (mΩ ad) (mP dC dI cI kA ad) Q r S1) (hf : fX11_restoreState_0 M = some (r, S1)) (hP : (mP dC dI cI kA ad) M s H) (hS : va_S (Fr (mΩ ad) s.heap.size) s.heap H locs) (hl : lv_has ls 1 [(0, .ref (ad 25))]) : W p l e (rmL 2 0 0) s m args below meth c H locs 0 0 Q (F0 m 0 ls []) := by
  have hx := X.hx
  have hb := X.hb
  have hown := X.hown
  have hts := X.hts
  rw [fX11_restoreState_0] at hf
  refine lv_aload_n hx hb dX11_restoreState_0 rfl (lv_at hl 0 rfl) ?_
  refine lv_iconst (v := 0) hx hb dX11_restoreState_1 (by decide) ?_
  refine mr_put (k := 7) X hP hS (by decide) rfl rfl rfl rfl tw1672 dX11_restoreState_2 (fun H locs hP hS => ?_)
  exact kX11_restoreState_5 X hret hf hP hS (lv_sub hl [0] rfl)
theorem vX11_restoreState {l : Launch} {dC : Nat → ClassId} {dI : Nat → Nat → Nat} {cI : ClassId} {kA : String → Nat → Nat} {ad : Nat → Nat} {M S1 : MS} {r : Int32} (hf : fX11_restoreState M  = some (r, S1)) : gMetI l yX11_restoreState cX11_restoreState 1 (some .int) 2 (mΩ ad) (mP dC dI cI kA ad) (kR kTab kA) [.ref (ad 25)] M r S1 := gEntryI (ty := .int) (by decide) rfl rfl mOK (Nat.le_of_ble_eq_true rfl) (fun p e s m args below meth c Q ls X hP hS hret hl => 
  kX11_restoreState_0 X hret hf hP hS (lv_sub hl [0] rfl))
set_option maxRecDepth 10000 in
theorem kX11_starts_55 {S1 : MS} {M : MS} {H : Heap} {locs : List Loc} {ls : Array Slot} (X : gX p s m args c cX11_starts 1 RX11 (kR kTab kA)) (hret : gRetV p l e (rmL 3 0 0) s m args below meth c cX11_starts (mΩ ad) (mP dC dI cI kA ad) Q S1) (hf : fX11_starts_55 M = some S1) (hP : (mP dC dI cI kA ad) M s H) (hS : va_S (Fr (mΩ ad) s.heap.size) s.heap H locs) (hl : lv_has ls 1 [(0, .ref (ad 25))]) : W p l e (rmL 3 0 0) s m args below meth c H locs 0 0 Q (F0 m 55 ls []) := by
  have hx := X.hx
  have hb := X.hb
  have hown := X.hown
  have hts := X.hts
  rw [fX11_starts_55] at hf
  cases hf
  exact hret _ _ _ _ dX11_starts_55 hP hS
set_option maxRecDepth 10000 in
theorem kX11_starts_52 {S1 : MS} {M : MS} {s0 : Int32} {H : Heap} {locs : List Loc} {ls : Array Slot} (X : gX p s m args c cX11_starts 1 RX11 (kR kTab kA)) (hret : gRetV p l e (rmL 3 0 0) s m args below meth c cX11_starts (mΩ ad) (mP dC dI cI kA ad) Q S1) (hf : fX11_starts_52 M s0 = some S1) (hP : (mP dC dI cI kA ad) M s H) (hS : va_S (Fr (mΩ ad) s.heap.size) s.heap H locs) (hl : lv_has ls 1 [(0, .ref (ad 25))]) : W p l e (rmL 3 0 0) s m args below meth c H locs 0 0 Q (F0 m 52 ls [.int s0, .ref (ad 25)]) := by
  have hx := X.hx
  have hb := X.hb
  have hown := X.hown
  have hts := X.hts
  rw [fX11_starts_52] at hf
  obtain ⟨q, hc, hf⟩ := bd hf
  refine gCallVV X mOK rfl (vX11_swearsIn hc) gRX11_X11_swearsIn hdX11_swearsIn rfl ⟨by decide, by decide⟩ hP hS (mrec hP) hl.1 (Nat.le_of_ble_eq_true rfl) ⟨Nat.le_refl _, Nat.le_refl _⟩ dX11_starts_52 (As := [.int s0]) (rest := []) rfl (fun H locs hP hS => ?_)
  exact kX11_starts_55 X hret hf hP hS (lv_sub hl [0] rfl)
set_option maxRecDepth 10000 in
theorem kX11_starts_46 {S1 : MS} {M : MS} {H : Heap} {locs : List Loc} {ls : Array Slot} (X : gX p s m args c cX11_starts 1 RX11 (kR kTab kA)) (hret : gRetV p l e (rmL 3 0 0) s m args below meth c cX11_starts (mΩ ad) (mP dC dI cI kA ad) Q S1) (hf : fX11_starts_46 M = some S1) (hP : (mP dC dI cI kA ad) M s H) (hS : va_S (Fr (mΩ ad) s.heap.size) s.heap H locs) (hl : lv_has ls 1 [(0, .ref (ad 25))]) : W p l e (rmL 3 0 0) s m args below meth c H locs 0 0 Q (F0 m 46 ls []) := by
  have hx := X.hx
  have hb := X.hb
  have hown := X.hown
  have hts := X.hts
  rw [fX11_starts_46] at hf
  refine lv_aload_n hx hb dX11_starts_46 rfl (lv_at hl 0 rfl) ?_
  refine lv_aload_n hx hb dX11_starts_47 rfl (lv_at hl 0 rfl) ?_
  refine lv_iconst (v := 0) hx hb dX11_starts_48 (by decide) ?_
  obtain ⟨q, hc, hf⟩ := bd hf
  refine gCallVR X rfl (vX11_shiftCat hc) gRX11_X11_shiftCat hdX11_shiftCat rfl ⟨by decide, by decide⟩ (gB_blind mOK) (gB_at mOK X hP) (mrec hP) hl.1 (Nat.le_of_ble_eq_true rfl) ⟨Nat.le_refl _, Nat.le_refl _⟩ dX11_starts_49 (As := [.int 0]) (rest := [.ref (ad 25)]) rfl ?_
  exact kX11_starts_52 X hret hf hP hS (lv_sub hl [0] rfl)
set_option maxRecDepth 10000 in
theorem kX11_starts_45 {S1 : MS} {M : MS} {s0 : Int32} {s1 : Int32} {H : Heap} {locs : List Loc} {ls : Array Slot} (X : gX p s m args c cX11_starts 1 RX11 (kR kTab kA)) (hret : gRetV p l e (rmL 3 0 0) s m args below meth c cX11_starts (mΩ ad) (mP dC dI cI kA ad) Q S1) (hf : fX11_starts_45 M s0 s1 = some S1) (hP : (mP dC dI cI kA ad) M s H) (hS : va_S (Fr (mΩ ad) s.heap.size) s.heap H locs) (hl : lv_has ls 1 [(0, .ref (ad 25))]) : W p l e (rmL 3 0 0) s m args below meth c H locs 0 0 Q (F0 m 45 ls [.int s0, .int s1, .ref (ad 0)]) := by
  have hx := X.hx
  have hb := X.hb
  have hown := X.hown
  have hts := X.hts
  rw [fX11_starts_45] at hf
  obtain ⟨g1, hf⟩ := gd hf
  refine mr_ast (a := 0) X hP hS rfl g1 dX11_starts_45 (fun H locs hP hS => ?_)
  exact kX11_starts_46 X hret hf hP hS (lv_sub hl [0] rfl)
set_option maxRecDepth 10000 in
theorem kX11_starts_34 {S1 : MS} {M : MS} {H : Heap} {locs : List Loc} {ls : Array Slot} (X : gX p s m args c cX11_starts 1 RX11 (kR kTab kA)) (hret : gRetV p l e (rmL 3 0 0) s m args below meth c cX11_starts (mΩ ad) (mP dC dI cI kA ad) Q S1) (hf : fX11_starts_34 M = some S1) (hP : (mP dC dI cI kA ad) M s H) (hS : va_S (Fr (mΩ ad) s.heap.size) s.heap H locs) (hl : lv_has ls 1 [(0, .ref (ad 25))]) : W p l e (rmL 3 0 0) s m args below meth c H locs 0 0 Q (F0 m 34 ls []) := by
  have hx := X.hx
  have hb := X.hb
  have hown := X.hown
  have hts := X.hts
  rw [fX11_starts_34] at hf
  refine lv_aload_n hx hb dX11_starts_34 rfl (lv_at hl 0 rfl) ?_
  refine mr_get (k := 0) X hP (by decide) rfl rfl tw1665 dX11_starts_35 ?_
  refine lv_bipush (v := 7) hx hb dX11_starts_38 (by decide) ?_
  refine lv_aload_n hx hb dX11_starts_40 rfl (lv_at hl 0 rfl) ?_
  refine lv_iconst (v := 0) hx hb dX11_starts_41 (by decide) ?_
  obtain ⟨q, hc, hf⟩ := bd hf
  refine gCallVR X rfl (vX11_shiftHours hc) gRX11_X11_shiftHours hdX11_shiftHours rfl ⟨by decide, by decide⟩ (gB_blind mOK) (gB_at mOK X hP) (mrec hP) hl.1 (Nat.le_of_ble_eq_true rfl) ⟨Nat.le_refl _, Nat.le_refl _⟩ dX11_starts_42 (As := [.int 0]) (rest := [.int 7, .ref (ad 0)]) rfl ?_
  exact kX11_starts_45 X hret hf hP hS (lv_sub hl [0] rfl)
set_option maxRecDepth 10000 in
theorem kX11_starts_33 {S1 : MS} {M : MS} {s0 : Int32} {s1 : Int32} {H : Heap} {locs : List Loc} {ls : Array Slot} (X : gX p s m args c cX11_starts 1 RX11 (kR kTab kA)) (hret : gRetV p l e (rmL 3 0 0) s m args below meth c cX11_starts (mΩ ad) (mP dC dI cI kA ad) Q S1) (hf : fX11_starts_33 M s0 s1 = some S1) (hP : (mP dC dI cI kA ad) M s H) (hS : va_S (Fr (mΩ ad) s.heap.size) s.heap H locs) (hl : lv_has ls 1 [(0, .ref (ad 25))]) : W p l e (rmL 3 0 0) s m args below meth c H locs 0 0 Q (F0 m 33 ls [.int s0, .int s1, .ref (ad 0)]) := by
  have hx := X.hx
  have hb := X.hb
  have hown := X.hown
  have hts := X.hts
  rw [fX11_starts_33] at hf
  obtain ⟨g1, hf⟩ := gd hf
  refine mr_ast (a := 0) X hP hS rfl g1 dX11_starts_33 (fun H locs hP hS => ?_)
  exact kX11_starts_34 X hret hf hP hS (lv_sub hl [0] rfl)
set_option maxRecDepth 10000 in
theorem kX11_starts_17 {S1 : MS} {M : MS} {H : Heap} {locs : List Loc} {ls : Array Slot} (X : gX p s m args c cX11_starts 1 RX11 (kR kTab kA)) (hret : gRetV p l e (rmL 3 0 0) s m args below meth c cX11_starts (mΩ ad) (mP dC dI cI kA ad) Q S1) (hf : fX11_starts_17 M = some S1) (hP : (mP dC dI cI kA ad) M s H) (hS : va_S (Fr (mΩ ad) s.heap.size) s.heap H locs) (hl : lv_has ls 1 [(0, .ref (ad 25))]) : W p l e (rmL 3 0 0) s m args below meth c H locs 0 0 Q (F0 m 17 ls []) := by
  have hx := X.hx
  have hb := X.hb
  have hown := X.hown
  have hts := X.hts
  rw [fX11_starts_17] at hf
  refine lv_aload_n hx hb dX11_starts_17 rfl (lv_at hl 0 rfl) ?_
  refine mr_get (k := 0) X hP (by decide) rfl rfl tw1665 dX11_starts_18 ?_
  refine lv_bipush (v := 15) hx hb dX11_starts_21 (by decide) ?_
  refine lv_aload_n hx hb dX11_starts_23 rfl (lv_at hl 0 rfl) ?_
  refine lv_sipush (v := 161) hx hb dX11_starts_24 (by decide) ?_
  refine lv_iconst (v := 1) hx hb dX11_starts_27 (by decide) ?_
  refine lv_bipush (v := 7) hx hb dX11_starts_28 (by decide) ?_
  obtain ⟨q, hc, hf⟩ := bd hf
  refine gCallVR X rfl (vX11_sumOf hc) gRX11_X11_sumOf hdX11_sumOf rfl ⟨by decide, by decide⟩ (gB_blind mOK) (gB_at mOK X hP) (mrec hP) hl.1 (Nat.le_of_ble_eq_true rfl) ⟨Nat.le_refl _, Nat.le_refl _⟩ dX11_starts_30 (As := [.int 161, .int 1, .int 7]) (rest := [.int 15, .ref (ad 0)]) rfl ?_
  exact kX11_starts_33 X hret hf hP hS (lv_sub hl [0] rfl)
set_option maxRecDepth 10000 in
theorem kX11_starts_16 {S1 : MS} {M : MS} {s0 : Int32} {s1 : Int32} {H : Heap} {locs : List Loc} {ls : Array Slot} (X : gX p s m args c cX11_starts 1 RX11 (kR kTab kA)) (hret : gRetV p l e (rmL 3 0 0) s m args below meth c cX11_starts (mΩ ad) (mP dC dI cI kA ad) Q S1) (hf : fX11_starts_16 M s0 s1 = some S1) (hP : (mP dC dI cI kA ad) M s H) (hS : va_S (Fr (mΩ ad) s.heap.size) s.heap H locs) (hl : lv_has ls 1 [(0, .ref (ad 25))]) : W p l e (rmL 3 0 0) s m args below meth c H locs 0 0 Q (F0 m 16 ls [.int s0, .int s1, .ref (ad 0)]) := by
  have hx := X.hx
  have hb := X.hb
  have hown := X.hown
  have hts := X.hts
  rw [fX11_starts_16] at hf
  obtain ⟨g1, hf⟩ := gd hf
  refine mr_ast (a := 0) X hP hS rfl g1 dX11_starts_16 (fun H locs hP hS => ?_)
  exact kX11_starts_17 X hret hf hP hS (lv_sub hl [0] rfl)
set_option maxRecDepth 10000 in
theorem kX11_starts_0 {S1 : MS} {M : MS} {H : Heap} {locs : List Loc} {ls : Array Slot} (X : gX p s m args c cX11_starts 1 RX11 (kR kTab kA)) (hret : gRetV p l e (rmL 3 0 0) s m args below meth c cX11_starts (mΩ ad) (mP dC dI cI kA ad) Q S1) (hf : fX11_starts_0 M = some S1) (hP : (mP dC dI cI kA ad) M s H) (hS : va_S (Fr (mΩ ad) s.heap.size) s.heap H locs) (hl : lv_has ls 1 [(0, .ref (ad 25))]) : W p l e (rmL 3 0 0) s m args below meth c H locs 0 0 Q (F0 m 0 ls []) := by
  have hx := X.hx
  have hb := X.hb
  have hown := X.hown
  have hts := X.hts
  rw [fX11_starts_0] at hf
  refine lv_aload_n hx hb dX11_starts_0 rfl (lv_at hl 0 rfl) ?_
  refine mr_get (k := 0) X hP (by decide) rfl rfl tw1665 dX11_starts_1 ?_
  refine lv_bipush (v := 14) hx hb dX11_starts_4 (by decide) ?_
  refine lv_aload_n hx hb dX11_starts_6 rfl (lv_at hl 0 rfl) ?_
  refine lv_sipush (v := 161) hx hb dX11_starts_7 (by decide) ?_
  refine lv_iconst (v := 1) hx hb dX11_starts_10 (by decide) ?_
  refine lv_bipush (v := 8) hx hb dX11_starts_11 (by decide) ?_
  obtain ⟨q, hc, hf⟩ := bd hf
  refine gCallVR X rfl (vX11_sumOf hc) gRX11_X11_sumOf hdX11_sumOf rfl ⟨by decide, by decide⟩ (gB_blind mOK) (gB_at mOK X hP) (mrec hP) hl.1 (Nat.le_of_ble_eq_true rfl) ⟨Nat.le_refl _, Nat.le_refl _⟩ dX11_starts_13 (As := [.int 161, .int 1, .int 8]) (rest := [.int 14, .ref (ad 0)]) rfl ?_
  exact kX11_starts_16 X hret hf hP hS (lv_sub hl [0] rfl)
theorem vX11_starts {l : Launch} {dC : Nat → ClassId} {dI : Nat → Nat → Nat} {cI : ClassId} {kA : String → Nat → Nat} {ad : Nat → Nat} {M S1 : MS} (hf : fX11_starts M  = some S1) : gMetV l yX11_starts cX11_starts 1 3 (mΩ ad) (mP dC dI cI kA ad) (kR kTab kA) [.ref (ad 25)] M S1 := gEntryV (by decide) mOK (Nat.le_of_ble_eq_true rfl) (fun p e s m args below meth c Q ls X hP hS hret hl => 
  kX11_starts_0 X hret hf hP hS (lv_sub hl [0] rfl))
set_option maxRecDepth 10000 in
theorem kX11_nextOpen_46 {r : Int32} {M : MS} (X : gX p s m args c cX11_nextOpen 3 RX11 (kR kTab kA)) (hret : gRetR p l e (rmL 3 0 0) s m args below meth c cX11_nextOpen Q r) (hf : fX11_nextOpen_46 M = some r) {ls : Array Slot} (hP : (mP dC dI cI kA ad) M s s.heap) (hl : lv_has ls 3 [(0, .ref (ad 25))]) : W p l e (rmL 3 0 0) s m args below meth c s.heap [] 0 0 Q (F0 m 46 ls []) := by
  have hx := X.hx
  have hb := X.hb
  have hown := X.hown
  have hts := X.hts
  rw [fX11_nextOpen_46] at hf
  refine lv_iconst (v := (-1)) hx hb dX11_nextOpen_46 (by decide) ?_
  cases hf
  exact hret _ _ dX11_nextOpen_47
set_option maxRecDepth 10000 in
theorem kX11_nextOpen_40 {r : Int32} {K2 : MS → Int32 → Int32 → Option (Int32)} {M : MS} {x1 : Int32} {x2 : Int32} (X : gX p s m args c cX11_nextOpen 3 RX11 (kR kTab kA)) (hret : gRetR p l e (rmL 3 0 0) s m args below meth c cX11_nextOpen Q r) (hK2 : ∀ (M : MS) (x1 : Int32) (x2 : Int32) (ls : Array Slot), K2 M x1 x2 = some r → (mP dC dI cI kA ad) M s s.heap → lv_has ls 3 [(0, .ref (ad 25)), (1, .int x1), (2, .int x2)] → W p l e (rmL 3 0 0) s m args below meth c s.heap [] 0 0 Q (F0 m 2 ls [])) (hf : fX11_nextOpen_40 K2 M x1 x2 = some r) {ls : Array Slot} (hP : (mP dC dI cI kA ad) M s s.heap) (hl : lv_has ls 3 [(0, .ref (ad 25)), (1, .int x1), (2, .int x2)]) : W p l e (rmL 3 0 0) s m args below meth c s.heap [] 0 0 Q (F0 m 40 ls []) := by
  have hx := X.hx
  have hb := X.hb
  have hown := X.hown
  have hts := X.hts
  rw [fX11_nextOpen_40] at hf
  refine lv_iinc (v := (x2 + 1)) (lv' := [(2, .int (x2 + 1)), (0, .ref (ad 25)), (1, .int x1)]) hx hb dX11_nextOpen_40 hl (k := 2) rfl (by rfl) (by decide) rfl (fun ls hl => ?_)
  refine lv_goto (tgt := 2) hx hb dX11_nextOpen_43 (by decide) ?_
  exact hK2 _ _ _ _ hf hP (lv_sub hl [1, 2, 0] rfl)
set_option maxRecDepth 10000 in
theorem kX11_nextOpen_29 {r : Int32} {M : MS} {x1 : Int32} {x2 : Int32} (X : gX p s m args c cX11_nextOpen 3 RX11 (kR kTab kA)) (hret : gRetR p l e (rmL 3 0 0) s m args below meth c cX11_nextOpen Q r) (hf : fX11_nextOpen_29 M x1 x2 = some r) {ls : Array Slot} (hP : (mP dC dI cI kA ad) M s s.heap) (hl : lv_has ls 3 [(0, .ref (ad 25)), (1, .int x1), (2, .int x2)]) : W p l e (rmL 3 0 0) s m args below meth c s.heap [] 0 0 Q (F0 m 29 ls []) := by
  have hx := X.hx
  have hb := X.hb
  have hown := X.hown
  have hts := X.hts
  rw [fX11_nextOpen_29] at hf
  refine lv_iload_n hx hb dX11_nextOpen_29 rfl (lv_at hl 1 rfl) ?_
  refine lv_iload_n hx hb dX11_nextOpen_30 rfl (lv_at hl 2 rfl) ?_
  refine lv_iadd hx hb dX11_nextOpen_31 ?_
  refine lv_aload_n hx hb dX11_nextOpen_32 rfl (lv_at hl 0 rfl) ?_
  refine mr_get (k := 0) X hP (by decide) rfl rfl tw1665 dX11_nextOpen_33 ?_
  refine lv_iconst (v := 1) hx hb dX11_nextOpen_36 (by decide) ?_
  obtain ⟨g1, hf⟩ := gd hf
  refine mr_ald (a := 0) X hP rfl g1 dX11_nextOpen_37 ?_
  obtain ⟨g2, hf⟩ := gd hf
  refine lv_irem hx hb dX11_nextOpen_38 g2 ?_
  cases hf
  exact hret _ _ dX11_nextOpen_39
set_option maxRecDepth 10000 in
theorem kX11_nextOpen_26 {r : Int32} {K2 : MS → Int32 → Int32 → Option (Int32)} {M : MS} {x1 : Int32} {x2 : Int32} {s0 : Int32} (X : gX p s m args c cX11_nextOpen 3 RX11 (kR kTab kA)) (hret : gRetR p l e (rmL 3 0 0) s m args below meth c cX11_nextOpen Q r) (hK2 : ∀ (M : MS) (x1 : Int32) (x2 : Int32) (ls : Array Slot), K2 M x1 x2 = some r → (mP dC dI cI kA ad) M s s.heap → lv_has ls 3 [(0, .ref (ad 25)), (1, .int x1), (2, .int x2)] → W p l e (rmL 3 0 0) s m args below meth c s.heap [] 0 0 Q (F0 m 2 ls [])) (hf : fX11_nextOpen_26 K2 M x1 x2 s0 = some r) {ls : Array Slot} (hP : (mP dC dI cI kA ad) M s s.heap) (hl : lv_has ls 3 [(0, .ref (ad 25)), (1, .int x1), (2, .int x2)]) : W p l e (rmL 3 0 0) s m args below meth c s.heap [] 0 0 Q (F0 m 26 ls [.int s0]) := by
  have hx := X.hx
  have hb := X.hb
  have hown := X.hown
  have hts := X.hts
  rw [fX11_nextOpen_26] at hf
  refine lv_if_eq (tgt := 40) hx hb dX11_nextOpen_26 (by decide) (fun c1 => ?_) (fun c1 => ?_)
  · exact kX11_nextOpen_40 X hret hK2 (ifp c1 hf) hP (lv_sub hl [0, 1, 2] rfl)
  · exact kX11_nextOpen_29 X hret (ifn c1 hf) hP (lv_sub hl [0, 1, 2] rfl)
set_option maxRecDepth 10000 in
theorem kX11_nextOpen_12 {r : Int32} {K2 : MS → Int32 → Int32 → Option (Int32)} {M : MS} {x1 : Int32} {x2 : Int32} (X : gX p s m args c cX11_nextOpen 3 RX11 (kR kTab kA)) (hret : gRetR p l e (rmL 3 0 0) s m args below meth c cX11_nextOpen Q r) (hK2 : ∀ (M : MS) (x1 : Int32) (x2 : Int32) (ls : Array Slot), K2 M x1 x2 = some r → (mP dC dI cI kA ad) M s s.heap → lv_has ls 3 [(0, .ref (ad 25)), (1, .int x1), (2, .int x2)] → W p l e (rmL 3 0 0) s m args below meth c s.heap [] 0 0 Q (F0 m 2 ls [])) (hf : fX11_nextOpen_12 K2 M x1 x2 = some r) {ls : Array Slot} (hP : (mP dC dI cI kA ad) M s s.heap) (hl : lv_has ls 3 [(0, .ref (ad 25)), (1, .int x1), (2, .int x2)]) : W p l e (rmL 3 0 0) s m args below meth c s.heap [] 0 0 Q (F0 m 12 ls []) := by
  have hx := X.hx
  have hb := X.hb
  have hown := X.hown
  have hts := X.hts
  rw [fX11_nextOpen_12] at hf
  refine lv_aload_n hx hb dX11_nextOpen_12 rfl (lv_at hl 0 rfl) ?_
  refine lv_iload_n hx hb dX11_nextOpen_13 rfl (lv_at hl 1 rfl) ?_
  refine lv_iload_n hx hb dX11_nextOpen_14 rfl (lv_at hl 2 rfl) ?_
  refine lv_iadd hx hb dX11_nextOpen_15 ?_
  refine lv_aload_n hx hb dX11_nextOpen_16 rfl (lv_at hl 0 rfl) ?_
  refine mr_get (k := 0) X hP (by decide) rfl rfl tw1665 dX11_nextOpen_17 ?_
  refine lv_iconst (v := 1) hx hb dX11_nextOpen_20 (by decide) ?_
  obtain ⟨g1, hf⟩ := gd hf
  refine mr_ald (a := 0) X hP rfl g1 dX11_nextOpen_21 ?_
  obtain ⟨g2, hf⟩ := gd hf
  refine lv_irem hx hb dX11_nextOpen_22 g2 ?_
  obtain ⟨q, hc, hf⟩ := bd hf
  refine gCallVR X rfl (vX11_isOpenSack hc) gRX11_X11_isOpenSack hdX11_isOpenSack rfl ⟨by decide, by decide⟩ (gB_blind mOK) (gB_at mOK X hP) (mrec hP) hl.1 (Nat.le_of_ble_eq_true rfl) ⟨Nat.le_refl _, Nat.le_refl _⟩ dX11_nextOpen_23 (As := [.int ((x1 + x2) - (x1 + x2) / (M.2 0 (1 : Int32).toNatClampNeg) * (M.2 0 (1 : Int32).toNatClampNeg))]) (rest := []) rfl ?_
  exact kX11_nextOpen_26 X hret hK2 hf hP (lv_sub hl [0, 1, 2] rfl)
set_option maxRecDepth 10000 in
theorem kX11_nextOpen_2 {r : Int32} (X : gX p s m args c cX11_nextOpen 3 RX11 (kR kTab kA)) (hret : gRetR p l e (rmL 3 0 0) s m args below meth c cX11_nextOpen Q r) : ∀ (n : Nat) (M : MS) (x1 : Int32) (x2 : Int32) (ls : Array Slot), fX11_nextOpen_2 n M x1 x2 = some r → (mP dC dI cI kA ad) M s s.heap → lv_has ls 3 [(0, .ref (ad 25)), (1, .int x1), (2, .int x2)] → W p l e (rmL 3 0 0) s m args below meth c s.heap [] 0 0 Q (F0 m 2 ls []) := by
  intro n
  induction n with
  | zero => intro M x1 x2 ls hf; cases hf
  | succ k ih =>
    intro M x1 x2 ls hf hP hl
    have hx := X.hx
    have hb := X.hb
    have hown := X.hown
    have hts := X.hts
    rw [fX11_nextOpen_2] at hf
    try dsimp only at hf
    refine lv_iload_n hx hb dX11_nextOpen_2 rfl (lv_at hl 2 rfl) ?_
    refine lv_aload_n hx hb dX11_nextOpen_3 rfl (lv_at hl 0 rfl) ?_
    refine mr_get (k := 0) X hP (by decide) rfl rfl tw1665 dX11_nextOpen_4 ?_
    refine lv_iconst (v := 1) hx hb dX11_nextOpen_7 (by decide) ?_
    obtain ⟨g1, hf⟩ := gd hf
    refine mr_ald (a := 0) X hP rfl g1 dX11_nextOpen_8 ?_
    refine lv_icmp_ge (tgt := 46) hx hb dX11_nextOpen_9 (by decide) (fun c1 => ?_) (fun c1 => ?_)
    · exact kX11_nextOpen_46 X hret (ifp c1 hf) hP (lv_sub hl [0] rfl)
    · exact kX11_nextOpen_12 X hret ih (ifn c1 hf) hP (lv_sub hl [0, 1, 2] rfl)
set_option maxRecDepth 10000 in
theorem kX11_nextOpen_0 {r : Int32} {M : MS} {a1 : Int32} (X : gX p s m args c cX11_nextOpen 3 RX11 (kR kTab kA)) (hret : gRetR p l e (rmL 3 0 0) s m args below meth c cX11_nextOpen Q r) (hf : fX11_nextOpen_0 M a1 = some r) {ls : Array Slot} (hP : (mP dC dI cI kA ad) M s s.heap) (hl : lv_has ls 3 [(0, .ref (ad 25)), (1, .int a1)]) : W p l e (rmL 3 0 0) s m args below meth c s.heap [] 0 0 Q (F0 m 0 ls []) := by
  have hx := X.hx
  have hb := X.hb
  have hown := X.hown
  have hts := X.hts
  rw [fX11_nextOpen_0] at hf
  refine lv_iconst (v := 1) hx hb dX11_nextOpen_0 (by decide) ?_
  refine lv_istore_n (lv' := [(2, .int 1), (0, .ref (ad 25)), (1, .int a1)]) hx hb dX11_nextOpen_1 rfl hl (by decide) rfl (fun ls hl => ?_)
  exact kX11_nextOpen_2 X hret FU _ _ _ _ hf hP (lv_sub hl [1, 2, 0] rfl)
theorem vX11_nextOpen {l : Launch} {dC : Nat → ClassId} {dI : Nat → Nat → Nat} {cI : ClassId} {kA : String → Nat → Nat} {ad : Nat → Nat} {M : MS} {r : Int32} {a1 : Int32} (hf : fX11_nextOpen M a1 = some r) : gMetR l yX11_nextOpen cX11_nextOpen 3 (some .int) 3 (gB (mP dC dI cI kA ad) (kR kTab kA) M) [.ref (ad 25), .int a1] r := gEntryR (ty := .int) (by decide) rfl rfl (Nat.le_of_ble_eq_true rfl) (fun _ h => h.2) (fun p e s m args below meth c Q ls X hB hret hl => 
  kX11_nextOpen_0 X hret hf hB.1 (lv_sub hl [0, 1] rfl))
set_option maxRecDepth 10000 in
theorem kX11_moves_57 {S1 : MS} {M : MS} {H : Heap} {locs : List Loc} {ls : Array Slot} (X : gX p s m args c cX11_moves 3 RX11 (kR kTab kA)) (hret : gRetV p l e (rmL 3 0 0) s m args below meth c cX11_moves (mΩ ad) (mP dC dI cI kA ad) Q S1) (hf : fX11_moves_57 M = some S1) (hP : (mP dC dI cI kA ad) M s H) (hS : va_S (Fr (mΩ ad) s.heap.size) s.heap H locs) (hl : lv_has ls 3 [(0, .ref (ad 25))]) : W p l e (rmL 3 0 0) s m args below meth c H locs 0 0 Q (F0 m 57 ls []) := by
  have hx := X.hx
  have hb := X.hb
  have hown := X.hown
  have hts := X.hts
  rw [fX11_moves_57] at hf
  cases hf
  exact hret _ _ _ _ dX11_moves_57 hP hS
set_option maxRecDepth 10000 in
theorem kX11_moves_51 {S1 : MS} {M : MS} {s0 : Int32} {s1 : Int32} {H : Heap} {locs : List Loc} {ls : Array Slot} (X : gX p s m args c cX11_moves 3 RX11 (kR kTab kA)) (hret : gRetV p l e (rmL 3 0 0) s m args below meth c cX11_moves (mΩ ad) (mP dC dI cI kA ad) Q S1) (hf : fX11_moves_51 M s0 s1 = some S1) (hP : (mP dC dI cI kA ad) M s H) (hS : va_S (Fr (mΩ ad) s.heap.size) s.heap H locs) (hl : lv_has ls 3 [(0, .ref (ad 25))]) : W p l e (rmL 3 0 0) s m args below meth c H locs 0 0 Q (F0 m 51 ls [.int s0, .int s1, .ref (ad 25)]) := by
  have hx := X.hx
  have hb := X.hb
  have hown := X.hown
  have hts := X.hts
  rw [fX11_moves_51] at hf
  refine lv_bipush (v := 99) hx hb dX11_moves_51 (by decide) ?_
  refine lv_isub hx hb dX11_moves_53 ?_
  obtain ⟨q, hc, hf⟩ := bd hf
  refine gCallVV X mOK rfl (vX11_starve hc) gRX11_X11_starve hdX11_starve rfl ⟨by decide, by decide⟩ hP hS (mrec hP) hl.1 (Nat.le_of_ble_eq_true rfl) ⟨Nat.le_refl _, Nat.le_refl _⟩ dX11_moves_54 (As := [.int s1, .int (s0 - 99)]) (rest := []) rfl (fun H locs hP hS => ?_)
  exact kX11_moves_57 X hret hf hP hS (lv_sub hl [0] rfl)
set_option maxRecDepth 10000 in
theorem kX11_moves_42 {S1 : MS} {M : MS} {x2 : Int32} {H : Heap} {locs : List Loc} {ls : Array Slot} (X : gX p s m args c cX11_moves 3 RX11 (kR kTab kA)) (hret : gRetV p l e (rmL 3 0 0) s m args below meth c cX11_moves (mΩ ad) (mP dC dI cI kA ad) Q S1) (hf : fX11_moves_42 M x2 = some S1) (hP : (mP dC dI cI kA ad) M s H) (hS : va_S (Fr (mΩ ad) s.heap.size) s.heap H locs) (hl : lv_has ls 3 [(0, .ref (ad 25)), (2, .int x2)]) : W p l e (rmL 3 0 0) s m args below meth c H locs 0 0 Q (F0 m 42 ls []) := by
  have hx := X.hx
  have hb := X.hb
  have hown := X.hown
  have hts := X.hts
  rw [fX11_moves_42] at hf
  refine lv_aload_n hx hb dX11_moves_42 rfl (lv_at hl 0 rfl) ?_
  refine lv_iload_n hx hb dX11_moves_43 rfl (lv_at hl 1 rfl) ?_
  refine lv_aload_n hx hb dX11_moves_44 rfl (lv_at hl 0 rfl) ?_
  refine lv_iload_n hx hb dX11_moves_45 rfl (lv_at hl 1 rfl) ?_
  refine lv_bipush (v := 8) hx hb dX11_moves_46 (by decide) ?_
  obtain ⟨q, hc, hf⟩ := bd hf
  refine gCallVR X rfl (vX11_ofSack hc) gRX11_X11_ofSack hdX11_ofSack rfl ⟨by decide, by decide⟩ (gB_blind mOK) (gB_at mOK X hP) (mrec hP) hl.1 (Nat.le_of_ble_eq_true rfl) ⟨Nat.le_refl _, Nat.le_refl _⟩ dX11_moves_48 (As := [.int x2, .int 8]) (rest := [.int x2, .ref (ad 25)]) rfl ?_
  exact kX11_moves_51 X hret hf hP hS (lv_sub hl [0] rfl)
set_option maxRecDepth 10000 in
theorem kX11_moves_37 {S1 : MS} {M : MS} {x2 : Int32} {s0 : Int32} {H : Heap} {locs : List Loc} {ls : Array Slot} (X : gX p s m args c cX11_moves 3 RX11 (kR kTab kA)) (hret : gRetV p l e (rmL 3 0 0) s m args below meth c cX11_moves (mΩ ad) (mP dC dI cI kA ad) Q S1) (hf : fX11_moves_37 M x2 s0 = some S1) (hP : (mP dC dI cI kA ad) M s H) (hS : va_S (Fr (mΩ ad) s.heap.size) s.heap H locs) (hl : lv_has ls 3 [(0, .ref (ad 25)), (2, .int x2)]) : W p l e (rmL 3 0 0) s m args below meth c H locs 0 0 Q (F0 m 37 ls [.int s0]) := by
  have hx := X.hx
  have hb := X.hb
  have hown := X.hown
  have hts := X.hts
  rw [fX11_moves_37] at hf
  refine lv_bipush (v := 99) hx hb dX11_moves_37 (by decide) ?_
  refine lv_icmp_le (tgt := 57) hx hb dX11_moves_39 (by decide) (fun c1 => ?_) (fun c1 => ?_)
  · exact kX11_moves_57 X hret (ifp c1 hf) hP hS (lv_sub hl [0] rfl)
  · exact kX11_moves_42 X hret (ifn c1 hf) hP hS (lv_sub hl [0, 1] rfl)
set_option maxRecDepth 10000 in
theorem kX11_moves_30 {S1 : MS} {M : MS} {x2 : Int32} {H : Heap} {locs : List Loc} {ls : Array Slot} (X : gX p s m args c cX11_moves 3 RX11 (kR kTab kA)) (hret : gRetV p l e (rmL 3 0 0) s m args below meth c cX11_moves (mΩ ad) (mP dC dI cI kA ad) Q S1) (hf : fX11_moves_30 M x2 = some S1) (hP : (mP dC dI cI kA ad) M s H) (hS : va_S (Fr (mΩ ad) s.heap.size) s.heap H locs) (hl : lv_has ls 3 [(0, .ref (ad 25)), (2, .int x2)]) : W p l e (rmL 3 0 0) s m args below meth c H locs 0 0 Q (F0 m 30 ls []) := by
  have hx := X.hx
  have hb := X.hb
  have hown := X.hown
  have hts := X.hts
  rw [fX11_moves_30] at hf
  refine lv_aload_n hx hb dX11_moves_30 rfl (lv_at hl 0 rfl) ?_
  refine lv_iload_n hx hb dX11_moves_31 rfl (lv_at hl 1 rfl) ?_
  refine lv_bipush (v := 8) hx hb dX11_moves_32 (by decide) ?_
  obtain ⟨q, hc, hf⟩ := bd hf
  refine gCallVR X rfl (vX11_ofSack hc) gRX11_X11_ofSack hdX11_ofSack rfl ⟨by decide, by decide⟩ (gB_blind mOK) (gB_at mOK X hP) (mrec hP) hl.1 (Nat.le_of_ble_eq_true rfl) ⟨Nat.le_refl _, Nat.le_refl _⟩ dX11_moves_34 (As := [.int x2, .int 8]) (rest := []) rfl ?_
  exact kX11_moves_37 X hret hf hP hS (lv_sub hl [0, 1] rfl)
set_option maxRecDepth 10000 in
theorem kX11_moves_22 {S1 : MS} {M : MS} {x1 : Int32} {x2 : Int32} {H : Heap} {locs : List Loc} {ls : Array Slot} (X : gX p s m args c cX11_moves 3 RX11 (kR kTab kA)) (hret : gRetV p l e (rmL 3 0 0) s m args below meth c cX11_moves (mΩ ad) (mP dC dI cI kA ad) Q S1) (hf : fX11_moves_22 M x1 x2 = some S1) (hP : (mP dC dI cI kA ad) M s H) (hS : va_S (Fr (mΩ ad) s.heap.size) s.heap H locs) (hl : lv_has ls 3 [(0, .ref (ad 25)), (1, .int x1), (2, .int x2)]) : W p l e (rmL 3 0 0) s m args below meth c H locs 0 0 Q (F0 m 22 ls []) := by
  have hx := X.hx
  have hb := X.hb
  have hown := X.hown
  have hts := X.hts
  rw [fX11_moves_22] at hf
  refine lv_aload_n hx hb dX11_moves_22 rfl (lv_at hl 0 rfl) ?_
  refine lv_iload_n hx hb dX11_moves_23 rfl (lv_at hl 1 rfl) ?_
  refine lv_bipush (v := 8) hx hb dX11_moves_24 (by decide) ?_
  refine lv_iconst (v := 0) hx hb dX11_moves_26 (by decide) ?_
  obtain ⟨q, hc, hf⟩ := bd hf
  refine gCallVV X mOK rfl (vX11_putsSack hc) gRX11_X11_putsSack hdX11_putsSack rfl ⟨by decide, by decide⟩ hP hS (mrec hP) hl.1 (Nat.le_of_ble_eq_true rfl) ⟨Nat.le_refl _, Nat.le_refl _⟩ dX11_moves_27 (As := [.int x1, .int 8, .int 0]) (rest := []) rfl (fun H locs hP hS => ?_)
  exact kX11_moves_30 X hret hf hP hS (lv_sub hl [0, 2] rfl)
set_option maxRecDepth 10000 in
theorem kX11_moves_18 {S1 : MS} {M : MS} {x1 : Int32} {x2 : Int32} {s0 : Int32} {s1 : Int32} {s2 : Int32} {s3 : Int32} {H : Heap} {locs : List Loc} {ls : Array Slot} (X : gX p s m args c cX11_moves 3 RX11 (kR kTab kA)) (hret : gRetV p l e (rmL 3 0 0) s m args below meth c cX11_moves (mΩ ad) (mP dC dI cI kA ad) Q S1) (hf : fX11_moves_18 M x1 x2 s0 s1 s2 s3 = some S1) (hP : (mP dC dI cI kA ad) M s H) (hS : va_S (Fr (mΩ ad) s.heap.size) s.heap H locs) (hl : lv_has ls 3 [(0, .ref (ad 25)), (1, .int x1), (2, .int x2)]) : W p l e (rmL 3 0 0) s m args below meth c H locs 0 0 Q (F0 m 18 ls [.int s0, .int s1, .int s2, .int s3, .ref (ad 25)]) := by
  have hx := X.hx
  have hb := X.hb
  have hown := X.hown
  have hts := X.hts
  rw [fX11_moves_18] at hf
  refine lv_iadd hx hb dX11_moves_18 ?_
  obtain ⟨q, hc, hf⟩ := bd hf
  refine gCallVV X mOK rfl (vX11_putsSack hc) gRX11_X11_putsSack hdX11_putsSack rfl ⟨by decide, by decide⟩ hP hS (mrec hP) hl.1 (Nat.le_of_ble_eq_true rfl) ⟨Nat.le_refl _, Nat.le_refl _⟩ dX11_moves_19 (As := [.int s3, .int s2, .int (s1 + s0)]) (rest := []) rfl (fun H locs hP hS => ?_)
  exact kX11_moves_22 X hret hf hP hS (lv_sub hl [0, 1, 2] rfl)
set_option maxRecDepth 10000 in
theorem kX11_moves_11 {S1 : MS} {M : MS} {x1 : Int32} {x2 : Int32} {s0 : Int32} {s1 : Int32} {s2 : Int32} {H : Heap} {locs : List Loc} {ls : Array Slot} (X : gX p s m args c cX11_moves 3 RX11 (kR kTab kA)) (hret : gRetV p l e (rmL 3 0 0) s m args below meth c cX11_moves (mΩ ad) (mP dC dI cI kA ad) Q S1) (hf : fX11_moves_11 M x1 x2 s0 s1 s2 = some S1) (hP : (mP dC dI cI kA ad) M s H) (hS : va_S (Fr (mΩ ad) s.heap.size) s.heap H locs) (hl : lv_has ls 3 [(0, .ref (ad 25)), (1, .int x1), (2, .int x2)]) : W p l e (rmL 3 0 0) s m args below meth c H locs 0 0 Q (F0 m 11 ls [.int s0, .int s1, .int s2, .ref (ad 25)]) := by
  have hx := X.hx
  have hb := X.hb
  have hown := X.hown
  have hts := X.hts
  rw [fX11_moves_11] at hf
  refine lv_aload_n hx hb dX11_moves_11 rfl (lv_at hl 0 rfl) ?_
  refine lv_iload_n hx hb dX11_moves_12 rfl (lv_at hl 1 rfl) ?_
  refine lv_bipush (v := 8) hx hb dX11_moves_13 (by decide) ?_
  obtain ⟨q, hc, hf⟩ := bd hf
  refine gCallVR X rfl (vX11_ofSack hc) gRX11_X11_ofSack hdX11_ofSack rfl ⟨by decide, by decide⟩ (gB_blind mOK) (gB_at mOK X hP) (mrec hP) hl.1 (Nat.le_of_ble_eq_true rfl) ⟨Nat.le_refl _, Nat.le_refl _⟩ dX11_moves_15 (As := [.int x1, .int 8]) (rest := [.int s0, .int s1, .int s2, .ref (ad 25)]) rfl ?_
  exact kX11_moves_18 X hret hf hP hS (lv_sub hl [0, 1, 2] rfl)
set_option maxRecDepth 10000 in
theorem kX11_moves_0 {S1 : MS} {M : MS} {a1 : Int32} {a2 : Int32} {H : Heap} {locs : List Loc} {ls : Array Slot} (X : gX p s m args c cX11_moves 3 RX11 (kR kTab kA)) (hret : gRetV p l e (rmL 3 0 0) s m args below meth c cX11_moves (mΩ ad) (mP dC dI cI kA ad) Q S1) (hf : fX11_moves_0 M a1 a2 = some S1) (hP : (mP dC dI cI kA ad) M s H) (hS : va_S (Fr (mΩ ad) s.heap.size) s.heap H locs) (hl : lv_has ls 3 [(0, .ref (ad 25)), (1, .int a1), (2, .int a2)]) : W p l e (rmL 3 0 0) s m args below meth c H locs 0 0 Q (F0 m 0 ls []) := by
  have hx := X.hx
  have hb := X.hb
  have hown := X.hown
  have hts := X.hts
  rw [fX11_moves_0] at hf
  refine lv_aload_n hx hb dX11_moves_0 rfl (lv_at hl 0 rfl) ?_
  refine lv_iload_n hx hb dX11_moves_1 rfl (lv_at hl 2 rfl) ?_
  refine lv_bipush (v := 8) hx hb dX11_moves_2 (by decide) ?_
  refine lv_aload_n hx hb dX11_moves_4 rfl (lv_at hl 0 rfl) ?_
  refine lv_iload_n hx hb dX11_moves_5 rfl (lv_at hl 2 rfl) ?_
  refine lv_bipush (v := 8) hx hb dX11_moves_6 (by decide) ?_
  obtain ⟨q, hc, hf⟩ := bd hf
  refine gCallVR X rfl (vX11_ofSack hc) gRX11_X11_ofSack hdX11_ofSack rfl ⟨by decide, by decide⟩ (gB_blind mOK) (gB_at mOK X hP) (mrec hP) hl.1 (Nat.le_of_ble_eq_true rfl) ⟨Nat.le_refl _, Nat.le_refl _⟩ dX11_moves_8 (As := [.int a2, .int 8]) (rest := [.int 8, .int a2, .ref (ad 25)]) rfl ?_
  exact kX11_moves_11 X hret hf hP hS (lv_sub hl [0, 1, 2] rfl)
theorem vX11_moves {l : Launch} {dC : Nat → ClassId} {dI : Nat → Nat → Nat} {cI : ClassId} {kA : String → Nat → Nat} {ad : Nat → Nat} {M S1 : MS} {a1 : Int32} {a2 : Int32} (hf : fX11_moves M a1 a2 = some S1) : gMetV l yX11_moves cX11_moves 3 3 (mΩ ad) (mP dC dI cI kA ad) (kR kTab kA) [.ref (ad 25), .int a1, .int a2] M S1 := gEntryV (by decide) mOK (Nat.le_of_ble_eq_true rfl) (fun p e s m args below meth c Q ls X hP hS hret hl => 
  kX11_moves_0 X hret hf hP hS (lv_sub hl [0, 1, 2] rfl))
set_option maxRecDepth 10000 in
theorem kX11_hunted_65 {r : Int32} {M : MS} {x1 : Int32} (X : gX p s m args c cX11_hunted 3 RX11 (kR kTab kA)) (hret : gRetR p l e (rmL 3 0 0) s m args below meth c cX11_hunted Q r) (hf : fX11_hunted_65 M x1 = some r) {ls : Array Slot} (hP : (mP dC dI cI kA ad) M s s.heap) (hl : lv_has ls 3 [(0, .ref (ad 25)), (1, .int x1)]) : W p l e (rmL 3 0 0) s m args below meth c s.heap [] 0 0 Q (F0 m 65 ls []) := by
  have hx := X.hx
  have hb := X.hb
  have hown := X.hown
  have hts := X.hts
  rw [fX11_hunted_65] at hf
  refine lv_iload_n hx hb dX11_hunted_65 rfl (lv_at hl 1 rfl) ?_
  cases hf
  exact hret _ _ dX11_hunted_66
set_option maxRecDepth 10000 in
theorem kX11_hunted_59 {r : Int32} {K4 : MS → Int32 → Int32 → Option (Int32)} {M : MS} {x1 : Int32} {x2 : Int32} (X : gX p s m args c cX11_hunted 3 RX11 (kR kTab kA)) (hret : gRetR p l e (rmL 3 0 0) s m args below meth c cX11_hunted Q r) (hK4 : ∀ (M : MS) (x1 : Int32) (x2 : Int32) (ls : Array Slot), K4 M x1 x2 = some r → (mP dC dI cI kA ad) M s s.heap → lv_has ls 3 [(0, .ref (ad 25)), (1, .int x1), (2, .int x2)] → W p l e (rmL 3 0 0) s m args below meth c s.heap [] 0 0 Q (F0 m 4 ls [])) (hf : fX11_hunted_59 K4 M x1 x2 = some r) {ls : Array Slot} (hP : (mP dC dI cI kA ad) M s s.heap) (hl : lv_has ls 3 [(0, .ref (ad 25)), (1, .int x1), (2, .int x2)]) : W p l e (rmL 3 0 0) s m args below meth c s.heap [] 0 0 Q (F0 m 59 ls []) := by
  have hx := X.hx
  have hb := X.hb
  have hown := X.hown
  have hts := X.hts
  rw [fX11_hunted_59] at hf
  refine lv_iinc (v := (x2 + 1)) (lv' := [(2, .int (x2 + 1)), (0, .ref (ad 25)), (1, .int x1)]) hx hb dX11_hunted_59 hl (k := 2) rfl (by rfl) (by decide) rfl (fun ls hl => ?_)
  refine lv_goto (tgt := 4) hx hb dX11_hunted_62 (by decide) ?_
  exact hK4 _ _ _ _ hf hP (lv_sub hl [1, 2, 0] rfl)
set_option maxRecDepth 10000 in
theorem kX11_hunted_57 {r : Int32} {K4 : MS → Int32 → Int32 → Option (Int32)} {M : MS} {x2 : Int32} (X : gX p s m args c cX11_hunted 3 RX11 (kR kTab kA)) (hret : gRetR p l e (rmL 3 0 0) s m args below meth c cX11_hunted Q r) (hK4 : ∀ (M : MS) (x1 : Int32) (x2 : Int32) (ls : Array Slot), K4 M x1 x2 = some r → (mP dC dI cI kA ad) M s s.heap → lv_has ls 3 [(0, .ref (ad 25)), (1, .int x1), (2, .int x2)] → W p l e (rmL 3 0 0) s m args below meth c s.heap [] 0 0 Q (F0 m 4 ls [])) (hf : fX11_hunted_57 K4 M x2 = some r) {ls : Array Slot} (hP : (mP dC dI cI kA ad) M s s.heap) (hl : lv_has ls 3 [(0, .ref (ad 25)), (2, .int x2)]) : W p l e (rmL 3 0 0) s m args below meth c s.heap [] 0 0 Q (F0 m 57 ls []) := by
  have hx := X.hx
  have hb := X.hb
  have hown := X.hown
  have hts := X.hts
  rw [fX11_hunted_57] at hf
  refine lv_iload_n hx hb dX11_hunted_57 rfl (lv_at hl 1 rfl) ?_
  refine lv_istore_n (lv' := [(1, .int x2), (0, .ref (ad 25)), (2, .int x2)]) hx hb dX11_hunted_58 rfl hl (by decide) rfl (fun ls hl => ?_)
  exact kX11_hunted_59 X hret hK4 hf hP (lv_sub hl [1, 0, 2] rfl)
set_option maxRecDepth 10000 in
theorem kX11_hunted_54 {r : Int32} {K4 : MS → Int32 → Int32 → Option (Int32)} {M : MS} {x1 : Int32} {x2 : Int32} {s0 : Int32} {s1 : Int32} (X : gX p s m args c cX11_hunted 3 RX11 (kR kTab kA)) (hret : gRetR p l e (rmL 3 0 0) s m args below meth c cX11_hunted Q r) (hK4 : ∀ (M : MS) (x1 : Int32) (x2 : Int32) (ls : Array Slot), K4 M x1 x2 = some r → (mP dC dI cI kA ad) M s s.heap → lv_has ls 3 [(0, .ref (ad 25)), (1, .int x1), (2, .int x2)] → W p l e (rmL 3 0 0) s m args below meth c s.heap [] 0 0 Q (F0 m 4 ls [])) (hf : fX11_hunted_54 K4 M x1 x2 s0 s1 = some r) {ls : Array Slot} (hP : (mP dC dI cI kA ad) M s s.heap) (hl : lv_has ls 3 [(0, .ref (ad 25)), (1, .int x1), (2, .int x2)]) : W p l e (rmL 3 0 0) s m args below meth c s.heap [] 0 0 Q (F0 m 54 ls [.int s0, .int s1]) := by
  have hx := X.hx
  have hb := X.hb
  have hown := X.hown
  have hts := X.hts
  rw [fX11_hunted_54] at hf
  refine lv_icmp_le (tgt := 59) hx hb dX11_hunted_54 (by decide) (fun c1 => ?_) (fun c1 => ?_)
  · exact kX11_hunted_59 X hret hK4 (ifp c1 hf) hP (lv_sub hl [0, 1, 2] rfl)
  · exact kX11_hunted_57 X hret hK4 (ifn c1 hf) hP (lv_sub hl [0, 2] rfl)
set_option maxRecDepth 10000 in
theorem kX11_hunted_47 {r : Int32} {K4 : MS → Int32 → Int32 → Option (Int32)} {M : MS} {x1 : Int32} {x2 : Int32} {s0 : Int32} (X : gX p s m args c cX11_hunted 3 RX11 (kR kTab kA)) (hret : gRetR p l e (rmL 3 0 0) s m args below meth c cX11_hunted Q r) (hK4 : ∀ (M : MS) (x1 : Int32) (x2 : Int32) (ls : Array Slot), K4 M x1 x2 = some r → (mP dC dI cI kA ad) M s s.heap → lv_has ls 3 [(0, .ref (ad 25)), (1, .int x1), (2, .int x2)] → W p l e (rmL 3 0 0) s m args below meth c s.heap [] 0 0 Q (F0 m 4 ls [])) (hf : fX11_hunted_47 K4 M x1 x2 s0 = some r) {ls : Array Slot} (hP : (mP dC dI cI kA ad) M s s.heap) (hl : lv_has ls 3 [(0, .ref (ad 25)), (1, .int x1), (2, .int x2)]) : W p l e (rmL 3 0 0) s m args below meth c s.heap [] 0 0 Q (F0 m 47 ls [.int s0]) := by
  have hx := X.hx
  have hb := X.hb
  have hown := X.hown
  have hts := X.hts
  rw [fX11_hunted_47] at hf
  refine lv_aload_n hx hb dX11_hunted_47 rfl (lv_at hl 0 rfl) ?_
  refine lv_iload_n hx hb dX11_hunted_48 rfl (lv_at hl 1 rfl) ?_
  refine lv_bipush (v := 8) hx hb dX11_hunted_49 (by decide) ?_
  obtain ⟨q, hc, hf⟩ := bd hf
  refine gCallVR X rfl (vX11_ofSack hc) gRX11_X11_ofSack hdX11_ofSack rfl ⟨by decide, by decide⟩ (gB_blind mOK) (gB_at mOK X hP) (mrec hP) hl.1 (Nat.le_of_ble_eq_true rfl) ⟨Nat.le_refl _, Nat.le_refl _⟩ dX11_hunted_51 (As := [.int x1, .int 8]) (rest := [.int s0]) rfl ?_
  exact kX11_hunted_54 X hret hK4 hf hP (lv_sub hl [0, 1, 2] rfl)
set_option maxRecDepth 10000 in
theorem kX11_hunted_40 {r : Int32} {K4 : MS → Int32 → Int32 → Option (Int32)} {M : MS} {x1 : Int32} {x2 : Int32} (X : gX p s m args c cX11_hunted 3 RX11 (kR kTab kA)) (hret : gRetR p l e (rmL 3 0 0) s m args below meth c cX11_hunted Q r) (hK4 : ∀ (M : MS) (x1 : Int32) (x2 : Int32) (ls : Array Slot), K4 M x1 x2 = some r → (mP dC dI cI kA ad) M s s.heap → lv_has ls 3 [(0, .ref (ad 25)), (1, .int x1), (2, .int x2)] → W p l e (rmL 3 0 0) s m args below meth c s.heap [] 0 0 Q (F0 m 4 ls [])) (hf : fX11_hunted_40 K4 M x1 x2 = some r) {ls : Array Slot} (hP : (mP dC dI cI kA ad) M s s.heap) (hl : lv_has ls 3 [(0, .ref (ad 25)), (1, .int x1), (2, .int x2)]) : W p l e (rmL 3 0 0) s m args below meth c s.heap [] 0 0 Q (F0 m 40 ls []) := by
  have hx := X.hx
  have hb := X.hb
  have hown := X.hown
  have hts := X.hts
  rw [fX11_hunted_40] at hf
  refine lv_aload_n hx hb dX11_hunted_40 rfl (lv_at hl 0 rfl) ?_
  refine lv_iload_n hx hb dX11_hunted_41 rfl (lv_at hl 2 rfl) ?_
  refine lv_bipush (v := 8) hx hb dX11_hunted_42 (by decide) ?_
  obtain ⟨q, hc, hf⟩ := bd hf
  refine gCallVR X rfl (vX11_ofSack hc) gRX11_X11_ofSack hdX11_ofSack rfl ⟨by decide, by decide⟩ (gB_blind mOK) (gB_at mOK X hP) (mrec hP) hl.1 (Nat.le_of_ble_eq_true rfl) ⟨Nat.le_refl _, Nat.le_refl _⟩ dX11_hunted_44 (As := [.int x2, .int 8]) (rest := []) rfl ?_
  exact kX11_hunted_47 X hret hK4 hf hP (lv_sub hl [0, 1, 2] rfl)
set_option maxRecDepth 10000 in
theorem kX11_hunted_35 {r : Int32} {K4 : MS → Int32 → Int32 → Option (Int32)} {M : MS} {x1 : Int32} {x2 : Int32} (X : gX p s m args c cX11_hunted 3 RX11 (kR kTab kA)) (hret : gRetR p l e (rmL 3 0 0) s m args below meth c cX11_hunted Q r) (hK4 : ∀ (M : MS) (x1 : Int32) (x2 : Int32) (ls : Array Slot), K4 M x1 x2 = some r → (mP dC dI cI kA ad) M s s.heap → lv_has ls 3 [(0, .ref (ad 25)), (1, .int x1), (2, .int x2)] → W p l e (rmL 3 0 0) s m args below meth c s.heap [] 0 0 Q (F0 m 4 ls [])) (hf : fX11_hunted_35 K4 M x1 x2 = some r) {ls : Array Slot} (hP : (mP dC dI cI kA ad) M s s.heap) (hl : lv_has ls 3 [(0, .ref (ad 25)), (1, .int x1), (2, .int x2)]) : W p l e (rmL 3 0 0) s m args below meth c s.heap [] 0 0 Q (F0 m 35 ls []) := by
  have hx := X.hx
  have hb := X.hb
  have hown := X.hown
  have hts := X.hts
  rw [fX11_hunted_35] at hf
  refine lv_iload_n hx hb dX11_hunted_35 rfl (lv_at hl 1 rfl) ?_
  refine lv_iconst (v := (-1)) hx hb dX11_hunted_36 (by decide) ?_
  refine lv_icmp_eq (tgt := 57) hx hb dX11_hunted_37 (by decide) (fun c1 => ?_) (fun c1 => ?_)
  · exact kX11_hunted_57 X hret hK4 (ifp c1 hf) hP (lv_sub hl [0, 2] rfl)
  · exact kX11_hunted_40 X hret hK4 (ifn c1 hf) hP (lv_sub hl [0, 1, 2] rfl)
set_option maxRecDepth 10000 in
theorem kX11_hunted_32 {r : Int32} {K4 : MS → Int32 → Int32 → Option (Int32)} {M : MS} {x1 : Int32} {x2 : Int32} (X : gX p s m args c cX11_hunted 3 RX11 (kR kTab kA)) (hret : gRetR p l e (rmL 3 0 0) s m args below meth c cX11_hunted Q r) (hK4 : ∀ (M : MS) (x1 : Int32) (x2 : Int32) (ls : Array Slot), K4 M x1 x2 = some r → (mP dC dI cI kA ad) M s s.heap → lv_has ls 3 [(0, .ref (ad 25)), (1, .int x1), (2, .int x2)] → W p l e (rmL 3 0 0) s m args below meth c s.heap [] 0 0 Q (F0 m 4 ls [])) (hf : fX11_hunted_32 K4 M x1 x2 = some r) {ls : Array Slot} (hP : (mP dC dI cI kA ad) M s s.heap) (hl : lv_has ls 3 [(0, .ref (ad 25)), (1, .int x1), (2, .int x2)]) : W p l e (rmL 3 0 0) s m args below meth c s.heap [] 0 0 Q (F0 m 32 ls []) := by
  have hx := X.hx
  have hb := X.hb
  have hown := X.hown
  have hts := X.hts
  rw [fX11_hunted_32] at hf
  refine lv_goto (tgt := 59) hx hb dX11_hunted_32 (by decide) ?_
  exact kX11_hunted_59 X hret hK4 hf hP (lv_sub hl [0, 1, 2] rfl)
set_option maxRecDepth 10000 in
theorem kX11_hunted_29 {r : Int32} {K4 : MS → Int32 → Int32 → Option (Int32)} {M : MS} {x1 : Int32} {x2 : Int32} {s0 : Int32} (X : gX p s m args c cX11_hunted 3 RX11 (kR kTab kA)) (hret : gRetR p l e (rmL 3 0 0) s m args below meth c cX11_hunted Q r) (hK4 : ∀ (M : MS) (x1 : Int32) (x2 : Int32) (ls : Array Slot), K4 M x1 x2 = some r → (mP dC dI cI kA ad) M s s.heap → lv_has ls 3 [(0, .ref (ad 25)), (1, .int x1), (2, .int x2)] → W p l e (rmL 3 0 0) s m args below meth c s.heap [] 0 0 Q (F0 m 4 ls [])) (hf : fX11_hunted_29 K4 M x1 x2 s0 = some r) {ls : Array Slot} (hP : (mP dC dI cI kA ad) M s s.heap) (hl : lv_has ls 3 [(0, .ref (ad 25)), (1, .int x1), (2, .int x2)]) : W p l e (rmL 3 0 0) s m args below meth c s.heap [] 0 0 Q (F0 m 29 ls [.int s0]) := by
  have hx := X.hx
  have hb := X.hb
  have hown := X.hown
  have hts := X.hts
  rw [fX11_hunted_29] at hf
  refine lv_if_ne (tgt := 35) hx hb dX11_hunted_29 (by decide) (fun c1 => ?_) (fun c1 => ?_)
  · exact kX11_hunted_35 X hret hK4 (ifn c1 hf) hP (lv_sub hl [0, 1, 2] rfl)
  · exact kX11_hunted_32 X hret hK4 (ifp c1 hf) hP (lv_sub hl [0, 1, 2] rfl)
set_option maxRecDepth 10000 in
theorem kX11_hunted_22 {r : Int32} {K4 : MS → Int32 → Int32 → Option (Int32)} {M : MS} {x1 : Int32} {x2 : Int32} (X : gX p s m args c cX11_hunted 3 RX11 (kR kTab kA)) (hret : gRetR p l e (rmL 3 0 0) s m args below meth c cX11_hunted Q r) (hK4 : ∀ (M : MS) (x1 : Int32) (x2 : Int32) (ls : Array Slot), K4 M x1 x2 = some r → (mP dC dI cI kA ad) M s s.heap → lv_has ls 3 [(0, .ref (ad 25)), (1, .int x1), (2, .int x2)] → W p l e (rmL 3 0 0) s m args below meth c s.heap [] 0 0 Q (F0 m 4 ls [])) (hf : fX11_hunted_22 K4 M x1 x2 = some r) {ls : Array Slot} (hP : (mP dC dI cI kA ad) M s s.heap) (hl : lv_has ls 3 [(0, .ref (ad 25)), (1, .int x1), (2, .int x2)]) : W p l e (rmL 3 0 0) s m args below meth c s.heap [] 0 0 Q (F0 m 22 ls []) := by
  have hx := X.hx
  have hb := X.hb
  have hown := X.hown
  have hts := X.hts
  rw [fX11_hunted_22] at hf
  refine lv_aload_n hx hb dX11_hunted_22 rfl (lv_at hl 0 rfl) ?_
  refine lv_iload_n hx hb dX11_hunted_23 rfl (lv_at hl 2 rfl) ?_
  refine lv_bipush (v := 8) hx hb dX11_hunted_24 (by decide) ?_
  obtain ⟨q, hc, hf⟩ := bd hf
  refine gCallVR X rfl (vX11_ofSack hc) gRX11_X11_ofSack hdX11_ofSack rfl ⟨by decide, by decide⟩ (gB_blind mOK) (gB_at mOK X hP) (mrec hP) hl.1 (Nat.le_of_ble_eq_true rfl) ⟨Nat.le_refl _, Nat.le_refl _⟩ dX11_hunted_26 (As := [.int x2, .int 8]) (rest := []) rfl ?_
  exact kX11_hunted_29 X hret hK4 hf hP (lv_sub hl [0, 1, 2] rfl)
set_option maxRecDepth 10000 in
theorem kX11_hunted_19 {r : Int32} {K4 : MS → Int32 → Int32 → Option (Int32)} {M : MS} {x1 : Int32} {x2 : Int32} {s0 : Int32} (X : gX p s m args c cX11_hunted 3 RX11 (kR kTab kA)) (hret : gRetR p l e (rmL 3 0 0) s m args below meth c cX11_hunted Q r) (hK4 : ∀ (M : MS) (x1 : Int32) (x2 : Int32) (ls : Array Slot), K4 M x1 x2 = some r → (mP dC dI cI kA ad) M s s.heap → lv_has ls 3 [(0, .ref (ad 25)), (1, .int x1), (2, .int x2)] → W p l e (rmL 3 0 0) s m args below meth c s.heap [] 0 0 Q (F0 m 4 ls [])) (hf : fX11_hunted_19 K4 M x1 x2 s0 = some r) {ls : Array Slot} (hP : (mP dC dI cI kA ad) M s s.heap) (hl : lv_has ls 3 [(0, .ref (ad 25)), (1, .int x1), (2, .int x2)]) : W p l e (rmL 3 0 0) s m args below meth c s.heap [] 0 0 Q (F0 m 19 ls [.int s0]) := by
  have hx := X.hx
  have hb := X.hb
  have hown := X.hown
  have hts := X.hts
  rw [fX11_hunted_19] at hf
  refine lv_if_eq (tgt := 59) hx hb dX11_hunted_19 (by decide) (fun c1 => ?_) (fun c1 => ?_)
  · exact kX11_hunted_59 X hret hK4 (ifp c1 hf) hP (lv_sub hl [0, 1, 2] rfl)
  · exact kX11_hunted_22 X hret hK4 (ifn c1 hf) hP (lv_sub hl [0, 1, 2] rfl)
set_option maxRecDepth 10000 in
theorem kX11_hunted_14 {r : Int32} {K4 : MS → Int32 → Int32 → Option (Int32)} {M : MS} {x1 : Int32} {x2 : Int32} (X : gX p s m args c cX11_hunted 3 RX11 (kR kTab kA)) (hret : gRetR p l e (rmL 3 0 0) s m args below meth c cX11_hunted Q r) (hK4 : ∀ (M : MS) (x1 : Int32) (x2 : Int32) (ls : Array Slot), K4 M x1 x2 = some r → (mP dC dI cI kA ad) M s s.heap → lv_has ls 3 [(0, .ref (ad 25)), (1, .int x1), (2, .int x2)] → W p l e (rmL 3 0 0) s m args below meth c s.heap [] 0 0 Q (F0 m 4 ls [])) (hf : fX11_hunted_14 K4 M x1 x2 = some r) {ls : Array Slot} (hP : (mP dC dI cI kA ad) M s s.heap) (hl : lv_has ls 3 [(0, .ref (ad 25)), (1, .int x1), (2, .int x2)]) : W p l e (rmL 3 0 0) s m args below meth c s.heap [] 0 0 Q (F0 m 14 ls []) := by
  have hx := X.hx
  have hb := X.hb
  have hown := X.hown
  have hts := X.hts
  rw [fX11_hunted_14] at hf
  refine lv_aload_n hx hb dX11_hunted_14 rfl (lv_at hl 0 rfl) ?_
  refine lv_iload_n hx hb dX11_hunted_15 rfl (lv_at hl 2 rfl) ?_
  obtain ⟨q, hc, hf⟩ := bd hf
  refine gCallVR X rfl (vX11_isOpenSack hc) gRX11_X11_isOpenSack hdX11_isOpenSack rfl ⟨by decide, by decide⟩ (gB_blind mOK) (gB_at mOK X hP) (mrec hP) hl.1 (Nat.le_of_ble_eq_true rfl) ⟨Nat.le_refl _, Nat.le_refl _⟩ dX11_hunted_16 (As := [.int x2]) (rest := []) rfl ?_
  exact kX11_hunted_19 X hret hK4 hf hP (lv_sub hl [0, 1, 2] rfl)
set_option maxRecDepth 10000 in
theorem kX11_hunted_4 {r : Int32} (X : gX p s m args c cX11_hunted 3 RX11 (kR kTab kA)) (hret : gRetR p l e (rmL 3 0 0) s m args below meth c cX11_hunted Q r) : ∀ (n : Nat) (M : MS) (x1 : Int32) (x2 : Int32) (ls : Array Slot), fX11_hunted_4 n M x1 x2 = some r → (mP dC dI cI kA ad) M s s.heap → lv_has ls 3 [(0, .ref (ad 25)), (1, .int x1), (2, .int x2)] → W p l e (rmL 3 0 0) s m args below meth c s.heap [] 0 0 Q (F0 m 4 ls []) := by
  intro n
  induction n with
  | zero => intro M x1 x2 ls hf; cases hf
  | succ k ih =>
    intro M x1 x2 ls hf hP hl
    have hx := X.hx
    have hb := X.hb
    have hown := X.hown
    have hts := X.hts
    rw [fX11_hunted_4] at hf
    try dsimp only at hf
    refine lv_iload_n hx hb dX11_hunted_4 rfl (lv_at hl 2 rfl) ?_
    refine lv_aload_n hx hb dX11_hunted_5 rfl (lv_at hl 0 rfl) ?_
    refine mr_get (k := 0) X hP (by decide) rfl rfl tw1665 dX11_hunted_6 ?_
    refine lv_iconst (v := 1) hx hb dX11_hunted_9 (by decide) ?_
    obtain ⟨g1, hf⟩ := gd hf
    refine mr_ald (a := 0) X hP rfl g1 dX11_hunted_10 ?_
    refine lv_icmp_ge (tgt := 65) hx hb dX11_hunted_11 (by decide) (fun c1 => ?_) (fun c1 => ?_)
    · exact kX11_hunted_65 X hret (ifp c1 hf) hP (lv_sub hl [0, 1] rfl)
    · exact kX11_hunted_14 X hret ih (ifn c1 hf) hP (lv_sub hl [0, 1, 2] rfl)
set_option maxRecDepth 10000 in
theorem kX11_hunted_0 {r : Int32} {M : MS} (X : gX p s m args c cX11_hunted 3 RX11 (kR kTab kA)) (hret : gRetR p l e (rmL 3 0 0) s m args below meth c cX11_hunted Q r) (hf : fX11_hunted_0 M = some r) {ls : Array Slot} (hP : (mP dC dI cI kA ad) M s s.heap) (hl : lv_has ls 3 [(0, .ref (ad 25))]) : W p l e (rmL 3 0 0) s m args below meth c s.heap [] 0 0 Q (F0 m 0 ls []) := by
  have hx := X.hx
  have hb := X.hb
  have hown := X.hown
  have hts := X.hts
  rw [fX11_hunted_0] at hf
  refine lv_iconst (v := (-1)) hx hb dX11_hunted_0 (by decide) ?_
  refine lv_istore_n (lv' := [(1, .int (-1)), (0, .ref (ad 25))]) hx hb dX11_hunted_1 rfl hl (by decide) rfl (fun ls hl => ?_)
  refine lv_iconst (v := 0) hx hb dX11_hunted_2 (by decide) ?_
  refine lv_istore_n (lv' := [(2, .int 0), (1, .int (-1)), (0, .ref (ad 25))]) hx hb dX11_hunted_3 rfl hl (by decide) rfl (fun ls hl => ?_)
  exact kX11_hunted_4 X hret FU _ _ _ _ hf hP (lv_sub hl [2, 1, 0] rfl)
theorem vX11_hunted {l : Launch} {dC : Nat → ClassId} {dI : Nat → Nat → Nat} {cI : ClassId} {kA : String → Nat → Nat} {ad : Nat → Nat} {M : MS} {r : Int32} (hf : fX11_hunted M  = some r) : gMetR l yX11_hunted cX11_hunted 3 (some .int) 3 (gB (mP dC dI cI kA ad) (kR kTab kA) M) [.ref (ad 25)] r := gEntryR (ty := .int) (by decide) rfl rfl (Nat.le_of_ble_eq_true rfl) (fun _ h => h.2) (fun p e s m args below meth c Q ls X hB hret hl => 
  kX11_hunted_0 X hret hf hB.1 (lv_sub hl [0] rfl))
set_option maxRecDepth 10000 in
theorem kX11_swears_67 {S1 : MS} {M : MS} {H : Heap} {locs : List Loc} {ls : Array Slot} (X : gX p s m args c cX11_swears 3 RX11 (kR kTab kA)) (hret : gRetV p l e (rmL 3 0 0) s m args below meth c cX11_swears (mΩ ad) (mP dC dI cI kA ad) Q S1) (hf : fX11_swears_67 M = some S1) (hP : (mP dC dI cI kA ad) M s H) (hS : va_S (Fr (mΩ ad) s.heap.size) s.heap H locs) (hl : lv_has ls 3 [(0, .ref (ad 25))]) : W p l e (rmL 3 0 0) s m args below meth c H locs 0 0 Q (F0 m 67 ls []) := by
  have hx := X.hx
  have hb := X.hb
  have hown := X.hown
  have hts := X.hts
  rw [fX11_swears_67] at hf
  cases hf
  exact hret _ _ _ _ dX11_swears_67 hP hS
set_option maxRecDepth 10000 in
theorem kX11_swears_60 {S1 : MS} {M : MS} {x1 : Int32} {x2 : Int32} {H : Heap} {locs : List Loc} {ls : Array Slot} (X : gX p s m args c cX11_swears 3 RX11 (kR kTab kA)) (hret : gRetV p l e (rmL 3 0 0) s m args below meth c cX11_swears (mΩ ad) (mP dC dI cI kA ad) Q S1) (hf : fX11_swears_60 M x1 x2 = some S1) (hP : (mP dC dI cI kA ad) M s H) (hS : va_S (Fr (mΩ ad) s.heap.size) s.heap H locs) (hl : lv_has ls 3 [(0, .ref (ad 25)), (1, .int x1), (2, .int x2)]) : W p l e (rmL 3 0 0) s m args below meth c H locs 0 0 Q (F0 m 60 ls []) := by
  have hx := X.hx
  have hb := X.hb
  have hown := X.hown
  have hts := X.hts
  rw [fX11_swears_60] at hf
  refine lv_aload_n hx hb dX11_swears_60 rfl (lv_at hl 0 rfl) ?_
  refine lv_iconst (v := 3) hx hb dX11_swears_61 (by decide) ?_
  refine lv_iload_n hx hb dX11_swears_62 rfl (lv_at hl 1 rfl) ?_
  refine lv_iload_n hx hb dX11_swears_63 rfl (lv_at hl 2 rfl) ?_
  obtain ⟨q, hc, hf⟩ := bd hf
  refine gCallVV X mOK rfl (vX11_logs hc) gRX11_X11_logs hdX11_logs rfl ⟨by decide, by decide⟩ hP hS (mrec hP) hl.1 (Nat.le_of_ble_eq_true rfl) ⟨Nat.le_refl _, Nat.le_refl _⟩ dX11_swears_64 (As := [.int 3, .int x1, .int x2]) (rest := []) rfl (fun H locs hP hS => ?_)
  exact kX11_swears_67 X hret hf hP hS (lv_sub hl [0] rfl)
set_option maxRecDepth 10000 in
theorem kX11_swears_49 {S1 : MS} {M : MS} {x1 : Int32} {x2 : Int32} {H : Heap} {locs : List Loc} {ls : Array Slot} (X : gX p s m args c cX11_swears 3 RX11 (kR kTab kA)) (hret : gRetV p l e (rmL 3 0 0) s m args below meth c cX11_swears (mΩ ad) (mP dC dI cI kA ad) Q S1) (hf : fX11_swears_49 M x1 x2 = some S1) (hP : (mP dC dI cI kA ad) M s H) (hS : va_S (Fr (mΩ ad) s.heap.size) s.heap H locs) (hl : lv_has ls 3 [(0, .ref (ad 25)), (1, .int x1), (2, .int x2)]) : W p l e (rmL 3 0 0) s m args below meth c H locs 0 0 Q (F0 m 49 ls []) := by
  have hx := X.hx
  have hb := X.hb
  have hown := X.hown
  have hts := X.hts
  rw [fX11_swears_49] at hf
  refine lv_aload_n hx hb dX11_swears_49 rfl (lv_at hl 0 rfl) ?_
  refine mr_get (k := 0) X hP (by decide) rfl rfl tw1665 dX11_swears_50 ?_
  refine lv_bipush (v := 13) hx hb dX11_swears_53 (by decide) ?_
  refine lv_dup2_11 hx hb dX11_swears_55 rfl rfl ?_
  obtain ⟨g1, hf⟩ := gd hf
  refine mr_ald (a := 0) X hP rfl g1 dX11_swears_56 ?_
  refine lv_iconst (v := 1) hx hb dX11_swears_57 (by decide) ?_
  refine lv_iadd hx hb dX11_swears_58 ?_
  obtain ⟨g2, hf⟩ := gd hf
  refine mr_ast (a := 0) X hP hS rfl g2 dX11_swears_59 (fun H locs hP hS => ?_)
  exact kX11_swears_60 X hret hf hP hS (lv_sub hl [0, 1, 2] rfl)
set_option maxRecDepth 10000 in
theorem kX11_swears_42 {S1 : MS} {M : MS} {x1 : Int32} {x2 : Int32} {H : Heap} {locs : List Loc} {ls : Array Slot} (X : gX p s m args c cX11_swears 3 RX11 (kR kTab kA)) (hret : gRetV p l e (rmL 3 0 0) s m args below meth c cX11_swears (mΩ ad) (mP dC dI cI kA ad) Q S1) (hf : fX11_swears_42 M x1 x2 = some S1) (hP : (mP dC dI cI kA ad) M s H) (hS : va_S (Fr (mΩ ad) s.heap.size) s.heap H locs) (hl : lv_has ls 3 [(0, .ref (ad 25)), (1, .int x1), (2, .int x2)]) : W p l e (rmL 3 0 0) s m args below meth c H locs 0 0 Q (F0 m 42 ls []) := by
  have hx := X.hx
  have hb := X.hb
  have hown := X.hown
  have hts := X.hts
  rw [fX11_swears_42] at hf
  refine lv_aload_n hx hb dX11_swears_42 rfl (lv_at hl 0 rfl) ?_
  refine mr_get (k := 0) X hP (by decide) rfl rfl tw1665 dX11_swears_43 ?_
  refine lv_iconst (v := 5) hx hb dX11_swears_46 (by decide) ?_
  refine lv_iconst (v := (-1)) hx hb dX11_swears_47 (by decide) ?_
  obtain ⟨g1, hf⟩ := gd hf
  refine mr_ast (a := 0) X hP hS rfl g1 dX11_swears_48 (fun H locs hP hS => ?_)
  exact kX11_swears_49 X hret hf hP hS (lv_sub hl [0, 1, 2] rfl)
set_option maxRecDepth 10000 in
theorem kX11_swears_41 {S1 : MS} {M : MS} {H : Heap} {locs : List Loc} {ls : Array Slot} (X : gX p s m args c cX11_swears 3 RX11 (kR kTab kA)) (hret : gRetV p l e (rmL 3 0 0) s m args below meth c cX11_swears (mΩ ad) (mP dC dI cI kA ad) Q S1) (hf : fX11_swears_41 M = some S1) (hP : (mP dC dI cI kA ad) M s H) (hS : va_S (Fr (mΩ ad) s.heap.size) s.heap H locs) (hl : lv_has ls 3 [(0, .ref (ad 25))]) : W p l e (rmL 3 0 0) s m args below meth c H locs 0 0 Q (F0 m 41 ls []) := by
  have hx := X.hx
  have hb := X.hb
  have hown := X.hown
  have hts := X.hts
  rw [fX11_swears_41] at hf
  cases hf
  exact hret _ _ _ _ dX11_swears_41 hP hS
set_option maxRecDepth 10000 in
theorem kX11_swears_34 {S1 : MS} {M : MS} {x1 : Int32} {x2 : Int32} {H : Heap} {locs : List Loc} {ls : Array Slot} (X : gX p s m args c cX11_swears 3 RX11 (kR kTab kA)) (hret : gRetV p l e (rmL 3 0 0) s m args below meth c cX11_swears (mΩ ad) (mP dC dI cI kA ad) Q S1) (hf : fX11_swears_34 M x1 x2 = some S1) (hP : (mP dC dI cI kA ad) M s H) (hS : va_S (Fr (mΩ ad) s.heap.size) s.heap H locs) (hl : lv_has ls 3 [(0, .ref (ad 25)), (1, .int x1), (2, .int x2)]) : W p l e (rmL 3 0 0) s m args below meth c H locs 0 0 Q (F0 m 34 ls []) := by
  have hx := X.hx
  have hb := X.hb
  have hown := X.hown
  have hts := X.hts
  rw [fX11_swears_34] at hf
  refine lv_aload_n hx hb dX11_swears_34 rfl (lv_at hl 0 rfl) ?_
  refine lv_iconst (v := 2) hx hb dX11_swears_35 (by decide) ?_
  refine lv_iload_n hx hb dX11_swears_36 rfl (lv_at hl 1 rfl) ?_
  refine lv_iload_n hx hb dX11_swears_37 rfl (lv_at hl 2 rfl) ?_
  obtain ⟨q, hc, hf⟩ := bd hf
  refine gCallVV X mOK rfl (vX11_logs hc) gRX11_X11_logs hdX11_logs rfl ⟨by decide, by decide⟩ hP hS (mrec hP) hl.1 (Nat.le_of_ble_eq_true rfl) ⟨Nat.le_refl _, Nat.le_refl _⟩ dX11_swears_38 (As := [.int 2, .int x1, .int x2]) (rest := []) rfl (fun H locs hP hS => ?_)
  exact kX11_swears_41 X hret hf hP hS (lv_sub hl [0] rfl)
set_option maxRecDepth 10000 in
theorem kX11_swears_29 {S1 : MS} {M : MS} {x1 : Int32} {x2 : Int32} {H : Heap} {locs : List Loc} {ls : Array Slot} (X : gX p s m args c cX11_swears 3 RX11 (kR kTab kA)) (hret : gRetV p l e (rmL 3 0 0) s m args below meth c cX11_swears (mΩ ad) (mP dC dI cI kA ad) Q S1) (hf : fX11_swears_29 M x1 x2 = some S1) (hP : (mP dC dI cI kA ad) M s H) (hS : va_S (Fr (mΩ ad) s.heap.size) s.heap H locs) (hl : lv_has ls 3 [(0, .ref (ad 25)), (1, .int x1), (2, .int x2)]) : W p l e (rmL 3 0 0) s m args below meth c H locs 0 0 Q (F0 m 29 ls []) := by
  have hx := X.hx
  have hb := X.hb
  have hown := X.hown
  have hts := X.hts
  rw [fX11_swears_29] at hf
  refine lv_aload_n hx hb dX11_swears_29 rfl (lv_at hl 0 rfl) ?_
  refine lv_iload_n hx hb dX11_swears_30 rfl (lv_at hl 1 rfl) ?_
  obtain ⟨q, hc, hf⟩ := bd hf
  refine gCallVV X mOK rfl (vX11_swearsIn hc) gRX11_X11_swearsIn hdX11_swearsIn rfl ⟨by decide, by decide⟩ hP hS (mrec hP) hl.1 (Nat.le_of_ble_eq_true rfl) ⟨Nat.le_refl _, Nat.le_refl _⟩ dX11_swears_31 (As := [.int x1]) (rest := []) rfl (fun H locs hP hS => ?_)
  exact kX11_swears_34 X hret hf hP hS (lv_sub hl [0, 1, 2] rfl)
set_option maxRecDepth 10000 in
theorem kX11_swears_26 {S1 : MS} {M : MS} {x1 : Int32} {x2 : Int32} {s0 : Int32} {H : Heap} {locs : List Loc} {ls : Array Slot} (X : gX p s m args c cX11_swears 3 RX11 (kR kTab kA)) (hret : gRetV p l e (rmL 3 0 0) s m args below meth c cX11_swears (mΩ ad) (mP dC dI cI kA ad) Q S1) (hf : fX11_swears_26 M x1 x2 s0 = some S1) (hP : (mP dC dI cI kA ad) M s H) (hS : va_S (Fr (mΩ ad) s.heap.size) s.heap H locs) (hl : lv_has ls 3 [(0, .ref (ad 25)), (1, .int x1), (2, .int x2)]) : W p l e (rmL 3 0 0) s m args below meth c H locs 0 0 Q (F0 m 26 ls [.int s0]) := by
  have hx := X.hx
  have hb := X.hb
  have hown := X.hown
  have hts := X.hts
  rw [fX11_swears_26] at hf
  refine lv_if_eq (tgt := 42) hx hb dX11_swears_26 (by decide) (fun c1 => ?_) (fun c1 => ?_)
  · exact kX11_swears_42 X hret (ifp c1 hf) hP hS (lv_sub hl [0, 1, 2] rfl)
  · exact kX11_swears_29 X hret (ifn c1 hf) hP hS (lv_sub hl [0, 1, 2] rfl)
set_option maxRecDepth 10000 in
theorem kX11_swears_21 {S1 : MS} {M : MS} {x1 : Int32} {x2 : Int32} {H : Heap} {locs : List Loc} {ls : Array Slot} (X : gX p s m args c cX11_swears 3 RX11 (kR kTab kA)) (hret : gRetV p l e (rmL 3 0 0) s m args below meth c cX11_swears (mΩ ad) (mP dC dI cI kA ad) Q S1) (hf : fX11_swears_21 M x1 x2 = some S1) (hP : (mP dC dI cI kA ad) M s H) (hS : va_S (Fr (mΩ ad) s.heap.size) s.heap H locs) (hl : lv_has ls 3 [(0, .ref (ad 25)), (1, .int x1), (2, .int x2)]) : W p l e (rmL 3 0 0) s m args below meth c H locs 0 0 Q (F0 m 21 ls []) := by
  have hx := X.hx
  have hb := X.hb
  have hown := X.hown
  have hts := X.hts
  rw [fX11_swears_21] at hf
  refine lv_aload_n hx hb dX11_swears_21 rfl (lv_at hl 0 rfl) ?_
  refine lv_iload_n hx hb dX11_swears_22 rfl (lv_at hl 1 rfl) ?_
  obtain ⟨q, hc, hf⟩ := bd hf
  refine gCallVR X rfl (vX11_isPawRight hc) gRX11_X11_isPawRight hdX11_isPawRight rfl ⟨by decide, by decide⟩ (gB_blind mOK) (gB_at mOK X hP) (mrec hP) hl.1 (Nat.le_of_ble_eq_true rfl) ⟨Nat.le_refl _, Nat.le_refl _⟩ dX11_swears_23 (As := [.int x1]) (rest := []) rfl ?_
  exact kX11_swears_26 X hret hf hP hS (lv_sub hl [0, 1, 2] rfl)
set_option maxRecDepth 10000 in
theorem kX11_swears_18 {S1 : MS} {M : MS} {x1 : Int32} {x2 : Int32} {s0 : Int32} {H : Heap} {locs : List Loc} {ls : Array Slot} (X : gX p s m args c cX11_swears 3 RX11 (kR kTab kA)) (hret : gRetV p l e (rmL 3 0 0) s m args below meth c cX11_swears (mΩ ad) (mP dC dI cI kA ad) Q S1) (hf : fX11_swears_18 M x1 x2 s0 = some S1) (hP : (mP dC dI cI kA ad) M s H) (hS : va_S (Fr (mΩ ad) s.heap.size) s.heap H locs) (hl : lv_has ls 3 [(0, .ref (ad 25)), (1, .int x1), (2, .int x2)]) : W p l e (rmL 3 0 0) s m args below meth c H locs 0 0 Q (F0 m 18 ls [.int s0]) := by
  have hx := X.hx
  have hb := X.hb
  have hown := X.hown
  have hts := X.hts
  rw [fX11_swears_18] at hf
  refine lv_if_eq (tgt := 42) hx hb dX11_swears_18 (by decide) (fun c1 => ?_) (fun c1 => ?_)
  · exact kX11_swears_42 X hret (ifp c1 hf) hP hS (lv_sub hl [0, 1, 2] rfl)
  · exact kX11_swears_21 X hret (ifn c1 hf) hP hS (lv_sub hl [0, 1, 2] rfl)
set_option maxRecDepth 10000 in
theorem kX11_swears_13 {S1 : MS} {M : MS} {x1 : Int32} {x2 : Int32} {H : Heap} {locs : List Loc} {ls : Array Slot} (X : gX p s m args c cX11_swears 3 RX11 (kR kTab kA)) (hret : gRetV p l e (rmL 3 0 0) s m args below meth c cX11_swears (mΩ ad) (mP dC dI cI kA ad) Q S1) (hf : fX11_swears_13 M x1 x2 = some S1) (hP : (mP dC dI cI kA ad) M s H) (hS : va_S (Fr (mΩ ad) s.heap.size) s.heap H locs) (hl : lv_has ls 3 [(0, .ref (ad 25)), (1, .int x1), (2, .int x2)]) : W p l e (rmL 3 0 0) s m args below meth c H locs 0 0 Q (F0 m 13 ls []) := by
  have hx := X.hx
  have hb := X.hb
  have hown := X.hown
  have hts := X.hts
  rw [fX11_swears_13] at hf
  refine lv_aload_n hx hb dX11_swears_13 rfl (lv_at hl 0 rfl) ?_
  refine lv_iload_n hx hb dX11_swears_14 rfl (lv_at hl 1 rfl) ?_
  obtain ⟨q, hc, hf⟩ := bd hf
  refine gCallVR X rfl (vX11_isAble hc) gRX11_X11_isAble hdX11_isAble rfl ⟨by decide, by decide⟩ (gB_blind mOK) (gB_at mOK X hP) (mrec hP) hl.1 (Nat.le_of_ble_eq_true rfl) ⟨Nat.le_refl _, Nat.le_refl _⟩ dX11_swears_15 (As := [.int x1]) (rest := []) rfl ?_
  exact kX11_swears_18 X hret hf hP hS (lv_sub hl [0, 1, 2] rfl)
set_option maxRecDepth 10000 in
theorem kX11_swears_12 {S1 : MS} {M : MS} {H : Heap} {locs : List Loc} {ls : Array Slot} (X : gX p s m args c cX11_swears 3 RX11 (kR kTab kA)) (hret : gRetV p l e (rmL 3 0 0) s m args below meth c cX11_swears (mΩ ad) (mP dC dI cI kA ad) Q S1) (hf : fX11_swears_12 M = some S1) (hP : (mP dC dI cI kA ad) M s H) (hS : va_S (Fr (mΩ ad) s.heap.size) s.heap H locs) (hl : lv_has ls 3 [(0, .ref (ad 25))]) : W p l e (rmL 3 0 0) s m args below meth c H locs 0 0 Q (F0 m 12 ls []) := by
  have hx := X.hx
  have hb := X.hb
  have hown := X.hown
  have hts := X.hts
  rw [fX11_swears_12] at hf
  cases hf
  exact hret _ _ _ _ dX11_swears_12 hP hS
set_option maxRecDepth 10000 in
theorem kX11_swears_0 {S1 : MS} {M : MS} {a1 : Int32} {H : Heap} {locs : List Loc} {ls : Array Slot} (X : gX p s m args c cX11_swears 3 RX11 (kR kTab kA)) (hret : gRetV p l e (rmL 3 0 0) s m args below meth c cX11_swears (mΩ ad) (mP dC dI cI kA ad) Q S1) (hf : fX11_swears_0 M a1 = some S1) (hP : (mP dC dI cI kA ad) M s H) (hS : va_S (Fr (mΩ ad) s.heap.size) s.heap H locs) (hl : lv_has ls 3 [(0, .ref (ad 25)), (1, .int a1)]) : W p l e (rmL 3 0 0) s m args below meth c H locs 0 0 Q (F0 m 0 ls []) := by
  have hx := X.hx
  have hb := X.hb
  have hown := X.hown
  have hts := X.hts
  rw [fX11_swears_0] at hf
  refine lv_aload_n hx hb dX11_swears_0 rfl (lv_at hl 0 rfl) ?_
  refine mr_get (k := 0) X hP (by decide) rfl rfl tw1665 dX11_swears_1 ?_
  refine lv_iconst (v := 5) hx hb dX11_swears_4 (by decide) ?_
  obtain ⟨g1, hf⟩ := gd hf
  refine mr_ald (a := 0) X hP rfl g1 dX11_swears_5 ?_
  refine lv_istore_n (lv' := [(2, .int (M.2 0 (5 : Int32).toNatClampNeg)), (0, .ref (ad 25)), (1, .int a1)]) hx hb dX11_swears_6 rfl hl (by decide) rfl (fun ls hl => ?_)
  refine lv_iload_n hx hb dX11_swears_7 rfl (lv_at hl 0 rfl) ?_
  refine lv_iconst (v := (-1)) hx hb dX11_swears_8 (by decide) ?_
  refine lv_icmp_ne (tgt := 13) hx hb dX11_swears_9 (by decide) (fun c1 => ?_) (fun c1 => ?_)
  · exact kX11_swears_13 X hret (ifn c1 hf) hP hS (lv_sub hl [1, 2, 0] rfl)
  · exact kX11_swears_12 X hret (ifp c1 hf) hP hS (lv_sub hl [1] rfl)
theorem vX11_swears {l : Launch} {dC : Nat → ClassId} {dI : Nat → Nat → Nat} {cI : ClassId} {kA : String → Nat → Nat} {ad : Nat → Nat} {M S1 : MS} {a1 : Int32} (hf : fX11_swears M a1 = some S1) : gMetV l yX11_swears cX11_swears 3 3 (mΩ ad) (mP dC dI cI kA ad) (kR kTab kA) [.ref (ad 25), .int a1] M S1 := gEntryV (by decide) mOK (Nat.le_of_ble_eq_true rfl) (fun p e s m args below meth c Q ls X hP hS hret hl => 
  kX11_swears_0 X hret hf hP hS (lv_sub hl [0, 1] rfl))
