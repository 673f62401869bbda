variable {l : Launch} {p : Program} {e : Env} {s : State} {m : MethodId} {args : Array Value} {below : List Frame} {meth : Method} {c : Code} {A : Nat → Prop} {Q : State → Prop}
variable {dC : Nat → ClassId} {dI : Nat → Nat → Nat} {cI : ClassId} {kA : String → Nat → Nat} {ad : Nat → Nat}
def fX11_hunts_22 (M : MS) : Option (Int32 × MS) := some ((-1), M)
def fX11_hunts_111 (M : MS) (x1 : Int32) : Option (Int32 × MS) := some (x1, M)
def fX11_hunts_104 (M : MS) (x1 : Int32) (x3 : Int32) : Option (Int32 × MS) := (fX11_logs M 1 x1 x3).bind fun q => fX11_hunts_111 q x1
def fX11_hunts_96 (M : MS) (x1 : Int32) (x3 : Int32) (s0 : Int32) (s1 : Int32) (s2 : Int32) (s3 : Int32) : Option (Int32 × MS) := (fX11_putsCat M s3 s2 (if (s0 + 1) < s1 then (s0 + 1) else s1)).bind fun q => fX11_hunts_104 q x1 x3
def fX11_hunts_83 (M : MS) (x1 : Int32) (x3 : Int32) : Option (Int32 × MS) := (fX11_ofCat M x1 9).bind fun q => fX11_hunts_96 M x1 x3 q 20 9 x1
def fX11_hunts_72 (M : MS) (x1 : Int32) (x3 : Int32) : Option (Int32 × MS) := if gIn 8 257 then if gIn 8 257 then fX11_hunts_83 (M.1, va_up M.2 0 (upd (M.2 0) (8 : Int32).toNatClampNeg ((M.2 0 (8 : Int32).toNatClampNeg) + x3))) x1 x3 else none else none
def fX11_hunts_67 (M : MS) (x1 : Int32) (x3 : Int32) (s0 : Int32) (s1 : Int32) (s2 : Int32) : Option (Int32 × MS) := (fX11_putsCat M s2 s1 (s0 + x3)).bind fun q => fX11_hunts_72 q x1 x3
def fX11_hunts_56 (M : MS) (x1 : Int32) (x3 : Int32) : Option (Int32 × MS) := (fX11_ofCat M x1 10).bind fun q => fX11_hunts_67 M x1 x3 q 10 x1
def fX11_hunts_51 (M : MS) (x1 : Int32) (x3 : Int32) (s0 : Int32) (s1 : Int32) (s2 : Int32) : Option (Int32 × MS) := (fX11_putsSack M s2 s1 (s0 - x3)).bind fun q => fX11_hunts_56 q x1 x3
def fX11_hunts_36 (M : MS) (x1 : Int32) (x2 : Int32) (s0 : Int32) (s1 : Int32) : Option (Int32 × MS) := (fX11_ofSack M x2 8).bind fun q => fX11_hunts_51 M x1 (if s0 < s1 then s0 else s1) q 8 x2
def fX11_hunts_29 (M : MS) (x1 : Int32) (x2 : Int32) (s0 : Int32) : Option (Int32 × MS) := (fX11_ofSack M x2 8).bind fun q => fX11_hunts_36 M x1 x2 q s0
def fX11_hunts_24 (M : MS) (x1 : Int32) (x2 : Int32) : Option (Int32 × MS) := (fX11_strength M x1).bind fun q => fX11_hunts_29 M x1 x2 q
def fX11_hunts_17 (M : MS) (x1 : Int32) (x2 : Int32) : Option (Int32 × MS) := if x2 = (-1) then fX11_hunts_22 M else fX11_hunts_24 M x1 x2
def fX11_hunts_11 (M : MS) (x1 : Int32) (s0 : Int32) : Option (Int32 × MS) := if x1 = (-1) then fX11_hunts_22 M else fX11_hunts_17 M x1 s0
def fX11_hunts_0 (M : MS) : Option (Int32 × MS) := if gIn 5 257 then (fX11_hunted M ).bind fun q => fX11_hunts_11 M (M.2 0 (5 : Int32).toNatClampNeg) q else none
def fX11_hunts (M : MS) : Option (Int32 × MS) := fX11_hunts_0  M
def fX11_shiftGoes_78 (M : MS) : Option (MS) := some M
def fX11_shiftGoes_75 (M : MS) (s0 : Int32) : Option (MS) := (fX11_swears M s0).bind fun q => fX11_shiftGoes_78 q
def fX11_shiftGoes_63 (M : MS) : Option (MS) := if gIn 6 257 then (fX11_shiftCat M (M.2 0 (6 : Int32).toNatClampNeg)).bind fun q => fX11_shiftGoes_75 M q else none
def fX11_shiftGoes_62 (M : MS) (s0 : Int32) (s1 : Int32) : Option (MS) := if gIn s1 257 then fX11_shiftGoes_63 (M.1, va_up M.2 0 (upd (M.2 0) s1.toNatClampNeg s0)) else none
def fX11_shiftGoes_45 (M : MS) : Option (MS) := if gIn 6 257 then (fX11_shiftHours M (M.2 0 (6 : Int32).toNatClampNeg)).bind fun q => fX11_shiftGoes_62 M q 7 else none
def fX11_shiftGoes_22 (M : MS) : Option (MS) := if gIn 6 257 then if gIn 2 257 then if ¬ (M.2 0 (2 : Int32).toNatClampNeg) = 0 then if gIn 6 257 then fX11_shiftGoes_45 (M.1, va_up M.2 0 (upd (M.2 0) (6 : Int32).toNatClampNeg (((M.2 0 (6 : Int32).toNatClampNeg) + 1) - ((M.2 0 (6 : Int32).toNatClampNeg) + 1) / (M.2 0 (2 : Int32).toNatClampNeg) * (M.2 0 (2 : Int32).toNatClampNeg)))) else none else none else none else none
def fX11_shiftGoes_21 (M : MS) : Option (MS) := some M
def fX11_shiftGoes_11 (M : MS) : Option (MS) := if gIn 7 257 then if (M.2 0 (7 : Int32).toNatClampNeg) ≤ 0 then fX11_shiftGoes_22 M else fX11_shiftGoes_21 M else none
def fX11_shiftGoes_0 (M : MS) : Option (MS) := if gIn 7 257 then if gIn 7 257 then fX11_shiftGoes_11 (M.1, va_up M.2 0 (upd (M.2 0) (7 : Int32).toNatClampNeg ((M.2 0 (7 : Int32).toNatClampNeg) - 1))) else none else none
def fX11_shiftGoes (M : MS) : Option (MS) := fX11_shiftGoes_0  M
def fX11_takesNumber_15 (M : MS) : Option (Int32 × MS) := some (1, M)
def fX11_takesNumber_11 (M : MS) : Option (Int32 × MS) := (fX11_advanceToken M ).bind fun q => fX11_takesNumber_15 q
def fX11_takesNumber_9 (M : MS) : Option (Int32 × MS) := some (0, M)
def fX11_takesNumber_6 (M : MS) (s0 : Int32) : Option (Int32 × MS) := if s0 = 0 then fX11_takesNumber_9 M else fX11_takesNumber_11 M
def fX11_takesNumber_0 (M : MS) (a1 : Int32) (a2 : Int32) : Option (Int32 × MS) := (fX11_seesNumber M a1 a2).bind fun q => fX11_takesNumber_6 q.2 q.1
def fX11_takesNumber (M : MS) (a1 : Int32) (a2 : Int32) : Option (Int32 × MS) := bz (fX11_takesNumber_0  M a1 a2)
def fX11_takesSemicolon_18 (M : MS) : Option (Int32 × MS) := some (1, M)
def fX11_takesSemicolon_14 (M : MS) : Option (Int32 × MS) := (fX11_advanceToken M ).bind fun q => fX11_takesSemicolon_18 q
def fX11_takesSemicolon_13 (M : MS) (s0 : Int32) : Option (Int32 × MS) := some (s0, M)
def fX11_takesSemicolon_8 (M : MS) : Option (Int32 × MS) := (fX11_failsAt M 1).bind fun q => fX11_takesSemicolon_13 q.2 q.1
def fX11_takesSemicolon_0 (M : MS) : Option (Int32 × MS) := if (M.1 17) = 3 then fX11_takesSemicolon_14 M else fX11_takesSemicolon_8 M
def fX11_takesSemicolon (M : MS) : Option (Int32 × MS) := bz (fX11_takesSemicolon_0  M)
def fX11_takesKnown_41 (M : MS) : Option (Int32 × MS) := some (1, M)
def fX11_takesKnown_37 (M : MS) : Option (Int32 × MS) := (fX11_advanceToken M ).bind fun q => fX11_takesKnown_41 q
def fX11_takesKnown_36 (M : MS) (s0 : Int32) : Option (Int32 × MS) := some (s0, M)
def fX11_takesKnown_31 (M : MS) : Option (Int32 × MS) := (fX11_failsAt M 4).bind fun q => fX11_takesKnown_36 q.2 q.1
def fX11_takesKnown_21 (M : MS) : Option (Int32 × MS) := if gIn 0 4 then if (M.2 19 (0 : Int32).toNatClampNeg) = (-1) then fX11_takesKnown_31 M else fX11_takesKnown_37 M else none
def fX11_takesKnown_20 (M : MS) (s0 : Int32) (s1 : Int32) : Option (Int32 × MS) := if gIn s1 4 then fX11_takesKnown_21 (M.1, va_up M.2 19 (upd (M.2 19) s1.toNatClampNeg s0)) else none
def fX11_takesKnown_9 (M : MS) (x1 : Int32) (x2 : Int32) : Option (Int32 × MS) := (fX11_nameHere M x1 x2).bind fun q => fX11_takesKnown_20 M q 0
def fX11_takesKnown_7 (M : MS) : Option (Int32 × MS) := some (0, M)
def fX11_takesKnown_4 (M : MS) (x1 : Int32) (x2 : Int32) (s0 : Int32) : Option (Int32 × MS) := if s0 = 0 then fX11_takesKnown_7 M else fX11_takesKnown_9 M x1 x2
def fX11_takesKnown_0 (M : MS) (a1 : Int32) (a2 : Int32) : Option (Int32 × MS) := (fX11_seesName M ).bind fun q => fX11_takesKnown_4 q.2 a1 a2 q.1
def fX11_takesKnown (M : MS) (a1 : Int32) (a2 : Int32) : Option (Int32 × MS) := bz (fX11_takesKnown_0  M a1 a2)
def fX11_takesNewName_113 (M : MS) : Option (Int32 × MS) := some (1, M)
def fX11_takesNewName_109 (M : MS) : Option (Int32 × MS) := (fX11_advanceToken M ).bind fun q => fX11_takesNewName_113 q
def fX11_takesNewName_94 (M : MS) : Option (Int32 × MS) := if gIn 3 4 then fX11_takesNewName_109 (M.1, va_up M.2 19 (upd (M.2 19) (3 : Int32).toNatClampNeg ((M.1 14) - (M.1 15)))) else none
def fX11_takesNewName_88 (K40 : MS → Int32 → Int32 → Option (Int32 × MS)) (M : MS) (x3 : Int32) (x4 : Int32) : Option (Int32 × MS) := K40 M x3 (x4 + 1)
def fX11_takesNewName_87 (K40 : MS → Int32 → Int32 → Option (Int32 × MS)) (M : MS) (x3 : Int32) (x4 : Int32) (s0 : Int32) (s1 : Int32) : Option (Int32 × MS) := if gIn s1 257 then fX11_takesNewName_88 K40 (M.1, va_up M.2 0 (upd (M.2 0) s1.toNatClampNeg s0)) x3 x4 else none
def fX11_takesNewName_86 (K40 : MS → Int32 → Int32 → Option (Int32 × MS)) (M : MS) (x3 : Int32) (x4 : Int32) (s0 : Int32) : Option (Int32 × MS) := fX11_takesNewName_87 K40 M x3 x4 0 s0
def fX11_takesNewName_71 (K40 : MS → Int32 → Int32 → Option (Int32 × MS)) (M : MS) (x3 : Int32) (x4 : Int32) (s0 : Int32) : Option (Int32 × MS) := if gIn ((M.1 15) + x4) 600 then fX11_takesNewName_87 K40 M x3 x4 (M.2 8 ((M.1 15) + x4).toNatClampNeg) s0 else none
def fX11_takesNewName_47 (K40 : MS → Int32 → Int32 → Option (Int32 × MS)) (M : MS) (x3 : Int32) (x4 : Int32) : Option (Int32 × MS) := if ((M.1 14) - (M.1 15)) ≤ x4 then fX11_takesNewName_86 K40 M x3 x4 ((x3 + 1) + x4) else fX11_takesNewName_71 K40 M x3 x4 ((x3 + 1) + x4)
def fX11_takesNewName_40 : Nat → MS → Int32 → Int32 → Option (Int32 × MS)
  | 0 => fun _ _ _ => none
  | k + 1 => fun M x3 x4 => if 6 ≤ x4 then fX11_takesNewName_94 M else fX11_takesNewName_47 (fX11_takesNewName_40 k) M x3 x4
def fX11_takesNewName_25 (M : MS) (x1 : Int32) (x2 : Int32) : Option (Int32 × MS) := if gIn x2 257 then fX11_takesNewName_40 FU M (x1 + (12 * (M.2 0 x2.toNatClampNeg))) 0 else none
def fX11_takesNewName_24 (M : MS) (s0 : Int32) : Option (Int32 × MS) := some (s0, M)
def fX11_takesNewName_19 (M : MS) : Option (Int32 × MS) := (fX11_failsAt M 3).bind fun q => fX11_takesNewName_24 q.2 q.1
def fX11_takesNewName_15 (M : MS) (x1 : Int32) (x2 : Int32) (s0 : Int32) : Option (Int32 × MS) := if s0 = (-1) then fX11_takesNewName_25 M x1 x2 else fX11_takesNewName_19 M
def fX11_takesNewName_9 (M : MS) (x1 : Int32) (x2 : Int32) : Option (Int32 × MS) := (fX11_nameHere M x1 x2).bind fun q => fX11_takesNewName_15 M x1 x2 q
def fX11_takesNewName_7 (M : MS) : Option (Int32 × MS) := some (0, M)
def fX11_takesNewName_4 (M : MS) (x1 : Int32) (x2 : Int32) (s0 : Int32) : Option (Int32 × MS) := if s0 = 0 then fX11_takesNewName_7 M else fX11_takesNewName_9 M x1 x2
def fX11_takesNewName_0 (M : MS) (a1 : Int32) (a2 : Int32) : Option (Int32 × MS) := (fX11_seesName M ).bind fun q => fX11_takesNewName_4 q.2 a1 a2 q.1
def fX11_takesNewName (M : MS) (a1 : Int32) (a2 : Int32) : Option (Int32 × MS) := bz (fX11_takesNewName_0  M a1 a2)
def fX11_takesChoice_28 (M : MS) : Option (Int32 × MS) := some (1, M)
def fX11_takesChoice_24 (M : MS) : Option (Int32 × MS) := (fX11_advanceToken M ).bind fun q => fX11_takesChoice_28 q
def fX11_takesChoice_23 (M : MS) (s0 : Int32) (s1 : Int32) : Option (Int32 × MS) := if gIn s1 4 then fX11_takesChoice_24 (M.1, va_up M.2 19 (upd (M.2 19) s1.toNatClampNeg s0)) else none
def fX11_takesChoice_14 (M : MS) (x1 : Int32) (x2 : Int32) : Option (Int32 × MS) := (fX11_one M x2).bind fun q => fX11_takesChoice_23 M q x1
def fX11_takesChoice_13 (M : MS) (s0 : Int32) : Option (Int32 × MS) := some (s0, M)
def fX11_takesChoice_8 (M : MS) : Option (Int32 × MS) := (fX11_failsAt M 1).bind fun q => fX11_takesChoice_13 q.2 q.1
def fX11_takesChoice_4 (M : MS) (x1 : Int32) (x2 : Int32) (x3 : Int32) : Option (Int32 × MS) := if x3 = 0 then fX11_takesChoice_8 M else fX11_takesChoice_14 M x1 x2
def fX11_takesChoice_0 (M : MS) (a1 : Int32) (a2 : Int32) (a3 : Int32) : Option (Int32 × MS) := if a2 = 0 then fX11_takesChoice_4 M a1 a2 a3 else fX11_takesChoice_14 M a1 a2
def fX11_takesChoice (M : MS) (a1 : Int32) (a2 : Int32) (a3 : Int32) : Option (Int32 × MS) := bz (fX11_takesChoice_0  M a1 a2 a3)
def fX11_startsText_24 (M : MS) : Option (MS) := some M
def fX11_startsText_20 (M : MS) : Option (MS) := (fX11_advanceToken M ).bind fun q => fX11_startsText_24 q
def fX11_startsText_15 (M : MS) : Option (MS) := fX11_startsText_20 (va_up M.1 14 0, M.2)
def fX11_startsText_10 (M : MS) : Option (MS) := fX11_startsText_15 (va_up M.1 22 0, M.2)
def fX11_startsText_5 (M : MS) : Option (MS) := fX11_startsText_10 (va_up M.1 13 (-1), M.2)
def fX11_startsText_0 (M : MS) : Option (MS) := fX11_startsText_5 (va_up M.1 12 0, M.2)
def fX11_startsText (M : MS) : Option (MS) := fX11_startsText_0  M
def fX11_oathReason_22 (M : MS) (s0 : Int32) : Option (Int32 × MS) := some (s0, M)
def fX11_oathReason_17 (M : MS) (x1 : Int32) : Option (Int32 × MS) := (fX11_reasonOf M x1).bind fun q => fX11_oathReason_22 M q
def fX11_oathReason_13 (M : MS) : Option (Int32 × MS) := fX11_oathReason_22 M 0
def fX11_oathReason_10 (M : MS) (x1 : Int32) (s0 : Int32) : Option (Int32 × MS) := if s0 = 0 then fX11_oathReason_17 M x1 else fX11_oathReason_13 M
def fX11_oathReason_5 (M : MS) (x1 : Int32) : Option (Int32 × MS) := (fX11_noCat M x1).bind fun q => fX11_oathReason_10 q.2 x1 q.1
def fX11_oathReason_0 (M : MS) (a1 : Int32) : Option (Int32 × MS) := fX11_oathReason_5 (va_up M.1 7 0, M.2) a1
def fX11_oathReason (M : MS) (a1 : Int32) : Option (Int32 × MS) := fX11_oathReason_0  M a1
def fX11_huntingSack_9 (M : MS) (s0 : Int32) : Option (Int32 × MS) := some (s0, M)
def fX11_huntingSack_5 (M : MS) : Option (Int32 × MS) := (fX11_hunted M ).bind fun q => fX11_huntingSack_9 M q
def fX11_huntingSack_0 (M : MS) : Option (Int32 × MS) := fX11_huntingSack_5 (va_up M.1 7 0, M.2)
def fX11_huntingSack (M : MS) : Option (Int32 × MS) := fX11_huntingSack_0  M
def fX11_openFlap_26 (M : MS) : Option (Int32 × MS) := some (0, M)
def fX11_openFlap_38 (M : MS) (s0 : Int32) : Option (Int32 × MS) := some (s0, M)
def fX11_openFlap_32 (M : MS) (x1 : Int32) : Option (Int32 × MS) := (fX11_setsFlap M x1 1).bind fun q => fX11_openFlap_38 q.2 q.1
def fX11_openFlap_28 (M : MS) (x1 : Int32) : Option (Int32 × MS) := (fX11_remembers M ).bind fun q => fX11_openFlap_32 q x1
def fX11_openFlap_23 (M : MS) (x1 : Int32) (s0 : Int32) : Option (Int32 × MS) := if s0 = 0 then fX11_openFlap_28 M x1 else fX11_openFlap_26 M
def fX11_openFlap_19 (M : MS) (x1 : Int32) (s0 : Int32) : Option (Int32 × MS) := (fX11_fails M s0 2).bind fun q => fX11_openFlap_23 q.2 x1 q.1
def fX11_openFlap_13 (M : MS) (x1 : Int32) : Option (Int32 × MS) := (fX11_isOpenSack M x1).bind fun q => fX11_openFlap_19 M x1 q
def fX11_openFlap_10 (M : MS) (x1 : Int32) (s0 : Int32) : Option (Int32 × MS) := if s0 = 0 then fX11_openFlap_13 M x1 else fX11_openFlap_26 M
def fX11_openFlap_5 (M : MS) (x1 : Int32) : Option (Int32 × MS) := (fX11_noSack M x1).bind fun q => fX11_openFlap_10 q.2 x1 q.1
def fX11_openFlap_0 (M : MS) (a1 : Int32) : Option (Int32 × MS) := fX11_openFlap_5 (va_up M.1 7 0, M.2) a1
def fX11_openFlap (M : MS) (a1 : Int32) : Option (Int32 × MS) := fX11_openFlap_0  M a1
def fX11_shutFlap_34 (M : MS) : Option (Int32 × MS) := some (0, M)
def fX11_shutFlap_46 (M : MS) (s0 : Int32) : Option (Int32 × MS) := some (s0, M)
def fX11_shutFlap_40 (M : MS) (x1 : Int32) : Option (Int32 × MS) := (fX11_setsFlap M x1 0).bind fun q => fX11_shutFlap_46 q.2 q.1
def fX11_shutFlap_36 (M : MS) (x1 : Int32) : Option (Int32 × MS) := (fX11_remembers M ).bind fun q => fX11_shutFlap_40 q x1
def fX11_shutFlap_31 (M : MS) (x1 : Int32) (s0 : Int32) : Option (Int32 × MS) := if s0 = 0 then fX11_shutFlap_36 M x1 else fX11_shutFlap_34 M
def fX11_shutFlap_27 (M : MS) (x1 : Int32) (s0 : Int32) : Option (Int32 × MS) := (fX11_fails M s0 2).bind fun q => fX11_shutFlap_31 q.2 x1 q.1
def fX11_shutFlap_26 (M : MS) (x1 : Int32) : Option (Int32 × MS) := fX11_shutFlap_27 M x1 0
def fX11_shutFlap_22 (M : MS) (x1 : Int32) : Option (Int32 × MS) := fX11_shutFlap_27 M x1 1
def fX11_shutFlap_19 (M : MS) (x1 : Int32) (s0 : Int32) : Option (Int32 × MS) := if s0 = 0 then fX11_shutFlap_22 M x1 else fX11_shutFlap_26 M x1
def fX11_shutFlap_13 (M : MS) (x1 : Int32) : Option (Int32 × MS) := (fX11_isOpenSack M x1).bind fun q => fX11_shutFlap_19 M x1 q
def fX11_shutFlap_10 (M : MS) (x1 : Int32) (s0 : Int32) : Option (Int32 × MS) := if s0 = 0 then fX11_shutFlap_13 M x1 else fX11_shutFlap_34 M
def fX11_shutFlap_5 (M : MS) (x1 : Int32) : Option (Int32 × MS) := (fX11_noSack M x1).bind fun q => fX11_shutFlap_10 q.2 x1 q.1
def fX11_shutFlap_0 (M : MS) (a1 : Int32) : Option (Int32 × MS) := fX11_shutFlap_5 (va_up M.1 7 0, M.2) a1
def fX11_shutFlap (M : MS) (a1 : Int32) : Option (Int32 × MS) := fX11_shutFlap_0  M a1
def fX11_hourPasses_124 (M : MS) : Option (MS) := some M
def fX11_hourPasses_120 (M : MS) : Option (MS) := (fX11_dawns M ).bind fun q => fX11_hourPasses_124 q
def fX11_hourPasses_106 (M : MS) : Option (MS) := if gIn 3 257 then if ((M.2 0 (3 : Int32).toNatClampNeg) - (M.2 0 (3 : Int32).toNatClampNeg) / 24 * 24) = 6 then fX11_hourPasses_120 M else fX11_hourPasses_124 M else none
def fX11_hourPasses_102 (M : MS) : Option (MS) := (fX11_shiftGoes M ).bind fun q => fX11_hourPasses_106 q
def fX11_hourPasses_96 (K75 : MS → Int32 → Int32 → Option (MS)) (M : MS) (x1 : Int32) (x2 : Int32) : Option (MS) := K75 M x1 (x2 + 1)
def fX11_hourPasses_90 (K75 : MS → Int32 → Int32 → Option (MS)) (M : MS) (x1 : Int32) (x2 : Int32) : Option (MS) := (fX11_rests M x2 1).bind fun q => fX11_hourPasses_96 K75 q x1 x2
def fX11_hourPasses_85 (K75 : MS → Int32 → Int32 → Option (MS)) (M : MS) (x1 : Int32) (x2 : Int32) : Option (MS) := if x2 = x1 then fX11_hourPasses_96 K75 M x1 x2 else fX11_hourPasses_90 K75 M x1 x2
def fX11_hourPasses_75 : Nat → MS → Int32 → Int32 → Option (MS)
  | 0 => fun _ _ _ => none
  | k + 1 => fun M x1 x2 => if gIn 0 257 then if (M.2 0 (0 : Int32).toNatClampNeg) ≤ x2 then fX11_hourPasses_102 M else fX11_hourPasses_85 (fX11_hourPasses_75 k) M x1 x2 else none
def fX11_hourPasses_72 (M : MS) (s0 : Int32) : Option (MS) := fX11_hourPasses_75 FU M s0 0
def fX11_hourPasses_68 (M : MS) : Option (MS) := (fX11_hunts M ).bind fun q => fX11_hourPasses_72 q.2 q.1
def fX11_hourPasses_62 (K35 : MS → Int32 → Option (MS)) (M : MS) (x1 : Int32) : Option (MS) := K35 M (x1 + 1)
def fX11_hourPasses_57 (K35 : MS → Int32 → Option (MS)) (M : MS) (x1 : Int32) : Option (MS) := (fX11_breeds M x1).bind fun q => fX11_hourPasses_62 K35 q x1
def fX11_hourPasses_45 (K35 : MS → Int32 → Option (MS)) (M : MS) (x1 : Int32) : Option (MS) := if gIn 3 257 then if ((M.2 0 (3 : Int32).toNatClampNeg) - (M.2 0 (3 : Int32).toNatClampNeg) / 24 * 24) = 0 then fX11_hourPasses_57 K35 M x1 else fX11_hourPasses_68 M else none
def fX11_hourPasses_35 : Nat → MS → Int32 → Option (MS)
  | 0 => fun _ _ => none
  | k + 1 => fun M x1 => if gIn 1 257 then if (M.2 0 (1 : Int32).toNatClampNeg) ≤ x1 then fX11_hourPasses_68 M else fX11_hourPasses_45 (fX11_hourPasses_35 k) M x1 else none
def fX11_hourPasses_33 (M : MS) : Option (MS) := fX11_hourPasses_35 FU M 0
def fX11_hourPasses_27 (K12 : MS → Int32 → Option (MS)) (M : MS) (x1 : Int32) : Option (MS) := K12 M (x1 + 1)
def fX11_hourPasses_22 (K12 : MS → Int32 → Option (MS)) (M : MS) (x1 : Int32) : Option (MS) := (fX11_eats M x1).bind fun q => fX11_hourPasses_27 K12 q x1
def fX11_hourPasses_12 : Nat → MS → Int32 → Option (MS)
  | 0 => fun _ _ => none
  | k + 1 => fun M x1 => if gIn 1 257 then if (M.2 0 (1 : Int32).toNatClampNeg) ≤ x1 then fX11_hourPasses_33 M else fX11_hourPasses_22 (fX11_hourPasses_12 k) M x1 else none
def fX11_hourPasses_10 (M : MS) : Option (MS) := fX11_hourPasses_12 FU M 0
def fX11_hourPasses_0 (M : MS) : Option (MS) := if gIn 3 257 then if gIn 3 257 then fX11_hourPasses_10 (M.1, va_up M.2 0 (upd (M.2 0) (3 : Int32).toNatClampNeg ((M.2 0 (3 : Int32).toNatClampNeg) + 1))) else none else none
def fX11_hourPasses (M : MS) : Option (MS) := fX11_hourPasses_0  M
def fX11_isWord_24 (M : MS) : Option (Int32) := some 0
def fX11_isWord_63 (M : MS) : Option (Int32) := some 1
def fX11_isWord_57 (a1 : List Int32) (K28 : MS → Int32 → Option (Int32)) (M : MS) (x2 : Int32) : Option (Int32) := K28 M (x2 + 1)
def fX11_isWord_55 (M : MS) : Option (Int32) := some 0
def fX11_isWord_36 (a1 : List Int32) (K28 : MS → Int32 → Option (Int32)) (M : MS) (x2 : Int32) : Option (Int32) := if gIn ((M.1 15) + x2) 600 then if gIn x2 a1.length then if (M.2 8 ((M.1 15) + x2).toNatClampNeg) = (a1.getD x2.toNatClampNeg 0) then fX11_isWord_57 a1 K28 M x2 else fX11_isWord_55 M else none else none
def fX11_isWord_28 (a1 : List Int32) : Nat → MS → Int32 → Option (Int32)
  | 0 => fun _ _ => none
  | k + 1 => fun M x2 => if (Int32.ofNat a1.length) ≤ x2 then fX11_isWord_63 M else fX11_isWord_36 a1 (fX11_isWord_28 a1 k) M x2
def fX11_isWord_26 (a1 : List Int32) (M : MS) : Option (Int32) := fX11_isWord_28 a1 FU M 0
def fX11_isWord_8 (a1 : List Int32) (M : MS) : Option (Int32) := if ((M.1 14) - (M.1 15)) = (Int32.ofNat a1.length) then fX11_isWord_26 a1 M else fX11_isWord_24 M
def fX11_isWord_0 (a1 : List Int32) (M : MS) : Option (Int32) := if (M.1 17) = 1 then fX11_isWord_8 a1 M else fX11_isWord_24 M
def fX11_isWord (M : MS) (a1 : List Int32) : Option (Int32) := bq (fX11_isWord_0 a1  M)
def fX11_takes_21 (M : MS) : Option (Int32 × MS) := some (1, M)
def fX11_takes_11 (M : MS) (x1 : Int32) : Option (Int32 × MS) := if gIn x1 4 then fX11_takes_21 (M.1, va_up M.2 19 (upd (M.2 19) x1.toNatClampNeg (M.1 18))) else none
def fX11_takes_9 (M : MS) : Option (Int32 × MS) := some (0, M)
def fX11_takes_6 (M : MS) (x1 : Int32) (s0 : Int32) : Option (Int32 × MS) := if s0 = 0 then fX11_takes_9 M else fX11_takes_11 M x1
def fX11_takes_0 (M : MS) (a1 : Int32) (a2 : Int32) (a3 : Int32) : Option (Int32 × MS) := (fX11_takesNumber M a2 a3).bind fun q => fX11_takes_6 q.2 a1 q.1
def fX11_takes (M : MS) (a1 : Int32) (a2 : Int32) (a3 : Int32) : Option (Int32 × MS) := bz (fX11_takes_0  M a1 a2 a3)
def fX11_passes_25 (M : MS) (x2 : Int32) : Option (Int32 × MS) := if gIn 8 257 then some (((M.2 0 (8 : Int32).toNatClampNeg) - x2), M) else none
def fX11_passes_19 (K10 : MS → Int32 → Int32 → Int32 → Option (Int32 × MS)) (M : MS) (x1 : Int32) (x2 : Int32) (x3 : Int32) : Option (Int32 × MS) := K10 M x1 x2 (x3 + 1)
def fX11_passes_15 (K10 : MS → Int32 → Int32 → Int32 → Option (Int32 × MS)) (M : MS) (x1 : Int32) (x2 : Int32) (x3 : Int32) : Option (Int32 × MS) := (fX11_hourPasses M ).bind fun q => fX11_passes_19 K10 q x1 x2 x3
def fX11_passes_10 : Nat → MS → Int32 → Int32 → Int32 → Option (Int32 × MS)
  | 0 => fun _ _ _ _ => none
  | k + 1 => fun M x1 x2 x3 => if x1 ≤ x3 then fX11_passes_25 M x2 else fX11_passes_15 (fX11_passes_10 k) M x1 x2 x3
def fX11_passes_0 (M : MS) (a1 : Int32) : Option (Int32 × MS) := if gIn 8 257 then fX11_passes_10 FU M a1 (M.2 0 (8 : Int32).toNatClampNeg) 0 else none
def fX11_passes (M : MS) (a1 : Int32) : Option (Int32 × MS) := fX11_passes_0  M a1
def fX11_readCat_62 (M : MS) : Option (Int32 × MS) := some (0, M)
def fX11_readCat_90 (M : MS) (s0 : Int32) : Option (Int32 × MS) := some (s0, M)
def fX11_readCat_86 (M : MS) : Option (Int32 × MS) := (fX11_takesSemicolon M ).bind fun q => fX11_readCat_90 q.2 q.1
def fX11_readCat_64 (M : MS) : Option (Int32 × MS) := if gIn 3 4 then if gIn 0 4 then if gIn 1 4 then (fX11_addsCat M (M.2 19 (3 : Int32).toNatClampNeg) (M.2 19 (0 : Int32).toNatClampNeg) (M.2 19 (1 : Int32).toNatClampNeg)).bind fun q => fX11_readCat_86 q else none else none else none
def fX11_readCat_59 (M : MS) (s0 : Int32) : Option (Int32 × MS) := if s0 = 0 then fX11_readCat_62 M else fX11_readCat_64 M
def fX11_readCat_56 (M : MS) (s0 : Int32) (s1 : Int32) (s2 : Int32) : Option (Int32 × MS) := (fX11_takesChoice M s2 s1 s0).bind fun q => fX11_readCat_59 q.2 q.1
def fX11_readCat_50 (M : MS) (s0 : Int32) (s1 : Int32) : Option (Int32 × MS) := (fX11_isWord M [114, 105, 103, 104, 116]).bind fun q => fX11_readCat_56 M q s0 s1
def fX11_readCat_42 (M : MS) : Option (Int32 × MS) := (fX11_isWord M [108, 101, 102, 116]).bind fun q => fX11_readCat_50 M q 1
def fX11_readCat_39 (M : MS) (s0 : Int32) : Option (Int32 × MS) := if s0 = 0 then fX11_readCat_62 M else fX11_readCat_42 M
def fX11_readCat_31 (M : MS) : Option (Int32 × MS) := (fX11_takes M 0 1 9).bind fun q => fX11_readCat_39 q.2 q.1
def fX11_readCat_28 (M : MS) (s0 : Int32) : Option (Int32 × MS) := if s0 = 0 then fX11_readCat_62 M else fX11_readCat_31 M
def fX11_readCat_21 (M : MS) : Option (Int32 × MS) := (fX11_takesNewName M 65 0).bind fun q => fX11_readCat_28 q.2 q.1
def fX11_readCat_17 (M : MS) : Option (Int32 × MS) := (fX11_advanceToken M ).bind fun q => fX11_readCat_21 q
def fX11_readCat_16 (M : MS) (s0 : Int32) : Option (Int32 × MS) := some (s0, M)
def fX11_readCat_11 (M : MS) : Option (Int32 × MS) := (fX11_failsAt M 5).bind fun q => fX11_readCat_16 q.2 q.1
def fX11_readCat_0 (M : MS) : Option (Int32 × MS) := if gIn 0 257 then if (M.2 0 (0 : Int32).toNatClampNeg) = 8 then fX11_readCat_11 M else fX11_readCat_17 M else none
def fX11_readCat (M : MS) : Option (Int32 × MS) := bz (fX11_readCat_0  M)
def fX11_readSack_55 (M : MS) : Option (Int32 × MS) := some (0, M)
def fX11_readSack_113 (M : MS) (s0 : Int32) : Option (Int32 × MS) := some (s0, M)
def fX11_readSack_109 (M : MS) : Option (Int32 × MS) := (fX11_takesSemicolon M ).bind fun q => fX11_readSack_113 q.2 q.1
def fX11_readSack_81 (M : MS) : Option (Int32 × MS) := if gIn 3 4 then if gIn 0 4 then if gIn 1 4 then if gIn 2 4 then (fX11_addsSack M (M.2 19 (3 : Int32).toNatClampNeg) (M.2 19 (0 : Int32).toNatClampNeg) (M.2 19 (1 : Int32).toNatClampNeg) (M.2 19 (2 : Int32).toNatClampNeg)).bind fun q => fX11_readSack_109 q else none else none else none else none
def fX11_readSack_79 (M : MS) : Option (Int32 × MS) := some (0, M)
def fX11_readSack_76 (M : MS) (s0 : Int32) : Option (Int32 × MS) := if s0 = 0 then fX11_readSack_79 M else fX11_readSack_81 M
def fX11_readSack_73 (M : MS) (s0 : Int32) (s1 : Int32) (s2 : Int32) : Option (Int32 × MS) := (fX11_takesChoice M s2 s1 s0).bind fun q => fX11_readSack_76 q.2 q.1
def fX11_readSack_66 (M : MS) (s0 : Int32) (s1 : Int32) : Option (Int32 × MS) := (fX11_isWord M [115, 104, 117, 116]).bind fun q => fX11_readSack_73 M q s0 s1
def fX11_readSack_57 (M : MS) : Option (Int32 × MS) := (fX11_isWord M [111, 112, 101, 110]).bind fun q => fX11_readSack_66 M q 2
def fX11_readSack_52 (M : MS) (s0 : Int32) : Option (Int32 × MS) := if s0 = 0 then fX11_readSack_55 M else fX11_readSack_57 M
def fX11_readSack_44 (M : MS) : Option (Int32 × MS) := (fX11_takes M 1 0 99).bind fun q => fX11_readSack_52 q.2 q.1
def fX11_readSack_41 (M : MS) (s0 : Int32) : Option (Int32 × MS) := if s0 = 0 then fX11_readSack_55 M else fX11_readSack_44 M
def fX11_readSack_32 (M : MS) : Option (Int32 × MS) := (fX11_takes M 0 0 999).bind fun q => fX11_readSack_41 q.2 q.1
def fX11_readSack_29 (M : MS) (s0 : Int32) : Option (Int32 × MS) := if s0 = 0 then fX11_readSack_55 M else fX11_readSack_32 M
def fX11_readSack_21 (M : MS) : Option (Int32 × MS) := (fX11_takesNewName M 161 1).bind fun q => fX11_readSack_29 q.2 q.1
def fX11_readSack_17 (M : MS) : Option (Int32 × MS) := (fX11_advanceToken M ).bind fun q => fX11_readSack_21 q
def fX11_readSack_16 (M : MS) (s0 : Int32) : Option (Int32 × MS) := some (s0, M)
def fX11_readSack_11 (M : MS) : Option (Int32 × MS) := (fX11_failsAt M 5).bind fun q => fX11_readSack_16 q.2 q.1
def fX11_readSack_0 (M : MS) : Option (Int32 × MS) := if gIn 1 257 then if (M.2 0 (1 : Int32).toNatClampNeg) = 6 then fX11_readSack_11 M else fX11_readSack_17 M else none
def fX11_readSack (M : MS) : Option (Int32 × MS) := bz (fX11_readSack_0  M)
def fX11_readShift_42 (M : MS) : Option (Int32 × MS) := some (0, M)
def fX11_readShift_64 (M : MS) (s0 : Int32) : Option (Int32 × MS) := some (s0, M)
def fX11_readShift_60 (M : MS) : Option (Int32 × MS) := (fX11_takesSemicolon M ).bind fun q => fX11_readShift_64 q.2 q.1
def fX11_readShift_44 (M : MS) : Option (Int32 × MS) := if gIn 0 4 then if gIn 1 4 then (fX11_addsShift M (M.2 19 (0 : Int32).toNatClampNeg) (M.2 19 (1 : Int32).toNatClampNeg)).bind fun q => fX11_readShift_60 q else none else none
def fX11_readShift_39 (M : MS) (s0 : Int32) : Option (Int32 × MS) := if s0 = 0 then fX11_readShift_42 M else fX11_readShift_44 M
def fX11_readShift_31 (M : MS) : Option (Int32 × MS) := (fX11_takes M 1 1 24).bind fun q => fX11_readShift_39 q.2 q.1
def fX11_readShift_28 (M : MS) (s0 : Int32) : Option (Int32 × MS) := if s0 = 0 then fX11_readShift_42 M else fX11_readShift_31 M
def fX11_readShift_21 (M : MS) : Option (Int32 × MS) := (fX11_takesKnown M 65 0).bind fun q => fX11_readShift_28 q.2 q.1
def fX11_readShift_17 (M : MS) : Option (Int32 × MS) := (fX11_advanceToken M ).bind fun q => fX11_readShift_21 q
def fX11_readShift_16 (M : MS) (s0 : Int32) : Option (Int32 × MS) := some (s0, M)
def fX11_readShift_11 (M : MS) : Option (Int32 × MS) := (fX11_failsAt M 5).bind fun q => fX11_readShift_16 q.2 q.1
def fX11_readShift_0 (M : MS) : Option (Int32 × MS) := if gIn 2 257 then if (M.2 0 (2 : Int32).toNatClampNeg) = 12 then fX11_readShift_11 M else fX11_readShift_17 M else none
def fX11_readShift (M : MS) : Option (Int32 × MS) := bz (fX11_readShift_0  M)
def fX11_readCell_32 (M : MS) (s0 : Int32) : Option (Int32 × MS) := some (s0, M)
def fX11_readCell_28 (M : MS) : Option (Int32 × MS) := (fX11_takesSemicolon M ).bind fun q => fX11_readCell_32 q.2 q.1
def fX11_readCell_16 (M : MS) (x1 : Int32) : Option (Int32 × MS) := if gIn 0 4 then if gIn x1 257 then fX11_readCell_28 (M.1, va_up M.2 0 (upd (M.2 0) x1.toNatClampNeg (M.2 19 (0 : Int32).toNatClampNeg))) else none else none
def fX11_readCell_14 (M : MS) : Option (Int32 × MS) := some (0, M)
def fX11_readCell_11 (M : MS) (x1 : Int32) (s0 : Int32) : Option (Int32 × MS) := if s0 = 0 then fX11_readCell_14 M else fX11_readCell_16 M x1
def fX11_readCell_4 (M : MS) (x1 : Int32) (x2 : Int32) : Option (Int32 × MS) := (fX11_takes M 0 0 x2).bind fun q => fX11_readCell_11 q.2 x1 q.1
def fX11_readCell_0 (M : MS) (a1 : Int32) (a2 : Int32) : Option (Int32 × MS) := (fX11_advanceToken M ).bind fun q => fX11_readCell_4 q a1 a2
def fX11_readCell (M : MS) (a1 : Int32) (a2 : Int32) : Option (Int32 × MS) := bz (fX11_readCell_0  M a1 a2)
def fX11_scriptHere_89 (M : MS) (s0 : Int32) : Option (Int32) := some s0
def fX11_scriptHere_88 (M : MS) : Option (Int32) := fX11_scriptHere_89 M 0
def fX11_scriptHere_83 (M : MS) : Option (Int32) := fX11_scriptHere_89 M 7
def fX11_scriptHere_80 (M : MS) (s0 : Int32) : Option (Int32) := if s0 = 0 then fX11_scriptHere_88 M else fX11_scriptHere_83 M
def fX11_scriptHere_73 (M : MS) : Option (Int32) := (fX11_isWord M [109, 105, 108, 107]).bind fun q => fX11_scriptHere_80 M q
def fX11_scriptHere_70 (M : MS) : Option (Int32) := some 6
def fX11_scriptHere_67 (M : MS) (s0 : Int32) : Option (Int32) := if s0 = 0 then fX11_scriptHere_73 M else fX11_scriptHere_70 M
def fX11_scriptHere_60 (M : MS) : Option (Int32) := (fX11_isWord M [100, 105, 115, 109, 105, 115, 115]).bind fun q => fX11_scriptHere_67 M q
def fX11_scriptHere_58 (M : MS) : Option (Int32) := some 5
def fX11_scriptHere_55 (M : MS) (s0 : Int32) : Option (Int32) := if s0 = 0 then fX11_scriptHere_60 M else fX11_scriptHere_58 M
def fX11_scriptHere_48 (M : MS) : Option (Int32) := (fX11_isWord M [103, 114, 97, 105, 110]).bind fun q => fX11_scriptHere_55 M q
def fX11_scriptHere_46 (M : MS) : Option (Int32) := some 4
def fX11_scriptHere_43 (M : MS) (s0 : Int32) : Option (Int32) := if s0 = 0 then fX11_scriptHere_48 M else fX11_scriptHere_46 M
def fX11_scriptHere_36 (M : MS) : Option (Int32) := (fX11_isWord M [109, 105, 99, 101]).bind fun q => fX11_scriptHere_43 M q
def fX11_scriptHere_34 (M : MS) : Option (Int32) := some 3
def fX11_scriptHere_31 (M : MS) (s0 : Int32) : Option (Int32) := if s0 = 0 then fX11_scriptHere_36 M else fX11_scriptHere_34 M
def fX11_scriptHere_24 (M : MS) : Option (Int32) := (fX11_isWord M [115, 104, 117, 116]).bind fun q => fX11_scriptHere_31 M q
def fX11_scriptHere_22 (M : MS) : Option (Int32) := some 2
def fX11_scriptHere_19 (M : MS) (s0 : Int32) : Option (Int32) := if s0 = 0 then fX11_scriptHere_24 M else fX11_scriptHere_22 M
def fX11_scriptHere_12 (M : MS) : Option (Int32) := (fX11_isWord M [111, 112, 101, 110]).bind fun q => fX11_scriptHere_19 M q
def fX11_scriptHere_10 (M : MS) : Option (Int32) := some 1
def fX11_scriptHere_7 (M : MS) (s0 : Int32) : Option (Int32) := if s0 = 0 then fX11_scriptHere_12 M else fX11_scriptHere_10 M
def fX11_scriptHere_0 (M : MS) : Option (Int32) := (fX11_isWord M [119, 97, 105, 116]).bind fun q => fX11_scriptHere_7 M q
def fX11_scriptHere (M : MS) : Option (Int32) := fX11_scriptHere_0  M
set_option maxRecDepth 10000 in
theorem kX11_hunts_22 {r : Int32} {S1 : MS} {M : MS} {H : Heap} {locs : List Loc} {ls : Array Slot} (X : gX p s m args c cX11_hunts 4 RX11 (kR kTab kA)) (hret : gRetI p l e (rmL 4 0 0) s m args below meth c cX11_hunts (mΩ ad) (mP dC dI cI kA ad) Q r S1) (hf : fX11_hunts_22 M = some (r, S1)) (hP : (mP dC dI cI kA ad) M s H) (hS : va_S (Fr (mΩ ad) s.heap.size) s.heap H locs) (hl : lv_has ls 4 [(0, .ref (ad 25))]) : W p l e (rmL 4 0 0) s m args below meth c H locs 0 0 Q (F0 m 22 ls []) := by
  have hx := X.hx
  have hb := X.hb
  have hown := X.hown
  have hts := X.hts
  rw [fX11_hunts_22] at hf
  refine lv_iconst (v := (-1)) hx hb dX11_hunts_22 (by decide) ?_
  cases hf
  exact hret _ _ _ _ dX11_hunts_23 hP hS
set_option maxRecDepth 10000 in
theorem kX11_hunts_111 {r : Int32} {S1 : MS} {M : MS} {x1 : Int32} {H : Heap} {locs : List Loc} {ls : Array Slot} (X : gX p s m args c cX11_hunts 4 RX11 (kR kTab kA)) (hret : gRetI p l e (rmL 4 0 0) s m args below meth c cX11_hunts (mΩ ad) (mP dC dI cI kA ad) Q r S1) (hf : fX11_hunts_111 M x1 = some (r, S1)) (hP : (mP dC dI cI kA ad) M s H) (hS : va_S (Fr (mΩ ad) s.heap.size) s.heap H locs) (hl : lv_has ls 4 [(0, .ref (ad 25)), (1, .int x1)]) : W p l e (rmL 4 0 0) s m args below meth c H locs 0 0 Q (F0 m 111 ls []) := by
  have hx := X.hx
  have hb := X.hb
  have hown := X.hown
  have hts := X.hts
  rw [fX11_hunts_111] at hf
  refine lv_iload_n hx hb dX11_hunts_111 rfl (lv_at hl 1 rfl) ?_
  cases hf
  exact hret _ _ _ _ dX11_hunts_112 hP hS
set_option maxRecDepth 10000 in
theorem kX11_hunts_104 {r : Int32} {S1 : MS} {M : MS} {x1 : Int32} {x3 : Int32} {H : Heap} {locs : List Loc} {ls : Array Slot} (X : gX p s m args c cX11_hunts 4 RX11 (kR kTab kA)) (hret : gRetI p l e (rmL 4 0 0) s m args below meth c cX11_hunts (mΩ ad) (mP dC dI cI kA ad) Q r S1) (hf : fX11_hunts_104 M x1 x3 = some (r, S1)) (hP : (mP dC dI cI kA ad) M s H) (hS : va_S (Fr (mΩ ad) s.heap.size) s.heap H locs) (hl : lv_has ls 4 [(0, .ref (ad 25)), (1, .int x1), (3, .int x3)]) : W p l e (rmL 4 0 0) s m args below meth c H locs 0 0 Q (F0 m 104 ls []) := by
  have hx := X.hx
  have hb := X.hb
  have hown := X.hown
  have hts := X.hts
  rw [fX11_hunts_104] at hf
  refine lv_aload_n hx hb dX11_hunts_104 rfl (lv_at hl 0 rfl) ?_
  refine lv_iconst (v := 1) hx hb dX11_hunts_105 (by decide) ?_
  refine lv_iload_n hx hb dX11_hunts_106 rfl (lv_at hl 1 rfl) ?_
  refine lv_iload_n hx hb dX11_hunts_107 rfl (lv_at hl 2 rfl) ?_
  obtain ⟨q, hc, hf⟩ := bd hf
  refine gCallVV X mOK rfl (vX11_logs hc) gRX11_X11_logs hdX11_logs rfl ⟨by decide, by decide⟩ hP hS (mrec hP) hl.1 (Nat.le_of_ble_eq_true rfl) ⟨Nat.le_refl _, Nat.le_refl _⟩ dX11_hunts_108 (As := [.int 1, .int x1, .int x3]) (rest := []) rfl (fun H locs hP hS => ?_)
  exact kX11_hunts_111 X hret hf hP hS (lv_sub hl [0, 1] rfl)
set_option maxRecDepth 10000 in
theorem kX11_hunts_96 {r : Int32} {S1 : MS} {M : MS} {x1 : Int32} {x3 : Int32} {s0 : Int32} {s1 : Int32} {s2 : Int32} {s3 : Int32} {H : Heap} {locs : List Loc} {ls : Array Slot} (X : gX p s m args c cX11_hunts 4 RX11 (kR kTab kA)) (hret : gRetI p l e (rmL 4 0 0) s m args below meth c cX11_hunts (mΩ ad) (mP dC dI cI kA ad) Q r S1) (hf : fX11_hunts_96 M x1 x3 s0 s1 s2 s3 = some (r, S1)) (hP : (mP dC dI cI kA ad) M s H) (hS : va_S (Fr (mΩ ad) s.heap.size) s.heap H locs) (hl : lv_has ls 4 [(0, .ref (ad 25)), (1, .int x1), (3, .int x3)]) : W p l e (rmL 4 0 0) s m args below meth c H locs 0 0 Q (F0 m 96 ls [.int s0, .int s1, .int s2, .int s3, .ref (ad 25)]) := by
  have hx := X.hx
  have hb := X.hb
  have hown := X.hown
  have hts := X.hts
  rw [fX11_hunts_96] at hf
  refine lv_iconst (v := 1) hx hb dX11_hunts_96 (by decide) ?_
  refine lv_iadd hx hb dX11_hunts_97 ?_
  refine gMin X rfl tw1917 tw592 tw24 tw593 (by decide) hl.1 (Nat.le_of_ble_eq_true rfl) ⟨Nat.zero_le _, Nat.zero_le _⟩ dX11_hunts_98 ?_
  obtain ⟨q, hc, hf⟩ := bd hf
  refine gCallVV X mOK rfl (vX11_putsCat hc) gRX11_X11_putsCat hdX11_putsCat rfl ⟨by decide, by decide⟩ hP hS (mrec hP) hl.1 (Nat.le_of_ble_eq_true rfl) ⟨Nat.le_refl _, Nat.le_refl _⟩ dX11_hunts_101 (As := [.int s3, .int s2, .int (if (s0 + 1) < s1 then (s0 + 1) else s1)]) (rest := []) rfl (fun H locs hP hS => ?_)
  exact kX11_hunts_104 X hret hf hP hS (lv_sub hl [0, 1, 2] rfl)
set_option maxRecDepth 10000 in
theorem kX11_hunts_83 {r : Int32} {S1 : MS} {M : MS} {x1 : Int32} {x3 : Int32} {H : Heap} {locs : List Loc} {ls : Array Slot} (X : gX p s m args c cX11_hunts 4 RX11 (kR kTab kA)) (hret : gRetI p l e (rmL 4 0 0) s m args below meth c cX11_hunts (mΩ ad) (mP dC dI cI kA ad) Q r S1) (hf : fX11_hunts_83 M x1 x3 = some (r, S1)) (hP : (mP dC dI cI kA ad) M s H) (hS : va_S (Fr (mΩ ad) s.heap.size) s.heap H locs) (hl : lv_has ls 4 [(0, .ref (ad 25)), (1, .int x1), (3, .int x3)]) : W p l e (rmL 4 0 0) s m args below meth c H locs 0 0 Q (F0 m 83 ls []) := by
  have hx := X.hx
  have hb := X.hb
  have hown := X.hown
  have hts := X.hts
  rw [fX11_hunts_83] at hf
  refine lv_aload_n hx hb dX11_hunts_83 rfl (lv_at hl 0 rfl) ?_
  refine lv_iload_n hx hb dX11_hunts_84 rfl (lv_at hl 1 rfl) ?_
  refine lv_bipush (v := 9) hx hb dX11_hunts_85 (by decide) ?_
  refine lv_bipush (v := 20) hx hb dX11_hunts_87 (by decide) ?_
  refine lv_aload_n hx hb dX11_hunts_89 rfl (lv_at hl 0 rfl) ?_
  refine lv_iload_n hx hb dX11_hunts_90 rfl (lv_at hl 1 rfl) ?_
  refine lv_bipush (v := 9) hx hb dX11_hunts_91 (by decide) ?_
  obtain ⟨q, hc, hf⟩ := bd hf
  refine gCallVR X rfl (vX11_ofCat hc) gRX11_X11_ofCat hdX11_ofCat rfl ⟨by decide, by decide⟩ (gB_blind mOK) (gB_at mOK X hP) (mrec hP) hl.1 (Nat.le_of_ble_eq_true rfl) ⟨Nat.le_refl _, Nat.le_refl _⟩ dX11_hunts_93 (As := [.int x1, .int 9]) (rest := [.int 20, .int 9, .int x1, .ref (ad 25)]) rfl ?_
  exact kX11_hunts_96 X hret hf hP hS (lv_sub hl [0, 1, 2] rfl)
set_option maxRecDepth 10000 in
theorem kX11_hunts_72 {r : Int32} {S1 : MS} {M : MS} {x1 : Int32} {x3 : Int32} {H : Heap} {locs : List Loc} {ls : Array Slot} (X : gX p s m args c cX11_hunts 4 RX11 (kR kTab kA)) (hret : gRetI p l e (rmL 4 0 0) s m args below meth c cX11_hunts (mΩ ad) (mP dC dI cI kA ad) Q r S1) (hf : fX11_hunts_72 M x1 x3 = some (r, S1)) (hP : (mP dC dI cI kA ad) M s H) (hS : va_S (Fr (mΩ ad) s.heap.size) s.heap H locs) (hl : lv_has ls 4 [(0, .ref (ad 25)), (1, .int x1), (3, .int x3)]) : W p l e (rmL 4 0 0) s m args below meth c H locs 0 0 Q (F0 m 72 ls []) := by
  have hx := X.hx
  have hb := X.hb
  have hown := X.hown
  have hts := X.hts
  rw [fX11_hunts_72] at hf
  refine lv_aload_n hx hb dX11_hunts_72 rfl (lv_at hl 0 rfl) ?_
  refine mr_get (k := 0) X hP (by decide) rfl rfl tw1665 dX11_hunts_73 ?_
  refine lv_bipush (v := 8) hx hb dX11_hunts_76 (by decide) ?_
  refine lv_dup2_11 hx hb dX11_hunts_78 rfl rfl ?_
  obtain ⟨g1, hf⟩ := gd hf
  refine mr_ald (a := 0) X hP rfl g1 dX11_hunts_79 ?_
  refine lv_iload_n hx hb dX11_hunts_80 rfl (lv_at hl 2 rfl) ?_
  refine lv_iadd hx hb dX11_hunts_81 ?_
  obtain ⟨g2, hf⟩ := gd hf
  refine mr_ast (a := 0) X hP hS rfl g2 dX11_hunts_82 (fun H locs hP hS => ?_)
  exact kX11_hunts_83 X hret hf hP hS (lv_sub hl [0, 1, 2] rfl)
set_option maxRecDepth 10000 in
theorem kX11_hunts_67 {r : Int32} {S1 : MS} {M : MS} {x1 : Int32} {x3 : Int32} {s0 : Int32} {s1 : Int32} {s2 : Int32} {H : Heap} {locs : List Loc} {ls : Array Slot} (X : gX p s m args c cX11_hunts 4 RX11 (kR kTab kA)) (hret : gRetI p l e (rmL 4 0 0) s m args below meth c cX11_hunts (mΩ ad) (mP dC dI cI kA ad) Q r S1) (hf : fX11_hunts_67 M x1 x3 s0 s1 s2 = some (r, S1)) (hP : (mP dC dI cI kA ad) M s H) (hS : va_S (Fr (mΩ ad) s.heap.size) s.heap H locs) (hl : lv_has ls 4 [(0, .ref (ad 25)), (1, .int x1), (3, .int x3)]) : W p l e (rmL 4 0 0) s m args below meth c H locs 0 0 Q (F0 m 67 ls [.int s0, .int s1, .int s2, .ref (ad 25)]) := by
  have hx := X.hx
  have hb := X.hb
  have hown := X.hown
  have hts := X.hts
  rw [fX11_hunts_67] at hf
  refine lv_iload_n hx hb dX11_hunts_67 rfl (lv_at hl 2 rfl) ?_
  refine lv_iadd hx hb dX11_hunts_68 ?_
  obtain ⟨q, hc, hf⟩ := bd hf
  refine gCallVV X mOK rfl (vX11_putsCat hc) gRX11_X11_putsCat hdX11_putsCat rfl ⟨by decide, by decide⟩ hP hS (mrec hP) hl.1 (Nat.le_of_ble_eq_true rfl) ⟨Nat.le_refl _, Nat.le_refl _⟩ dX11_hunts_69 (As := [.int s2, .int s1, .int (s0 + x3)]) (rest := []) rfl (fun H locs hP hS => ?_)
  exact kX11_hunts_72 X hret hf hP hS (lv_sub hl [0, 1, 2] rfl)
set_option maxRecDepth 10000 in
theorem kX11_hunts_56 {r : Int32} {S1 : MS} {M : MS} {x1 : Int32} {x3 : Int32} {H : Heap} {locs : List Loc} {ls : Array Slot} (X : gX p s m args c cX11_hunts 4 RX11 (kR kTab kA)) (hret : gRetI p l e (rmL 4 0 0) s m args below meth c cX11_hunts (mΩ ad) (mP dC dI cI kA ad) Q r S1) (hf : fX11_hunts_56 M x1 x3 = some (r, S1)) (hP : (mP dC dI cI kA ad) M s H) (hS : va_S (Fr (mΩ ad) s.heap.size) s.heap H locs) (hl : lv_has ls 4 [(0, .ref (ad 25)), (1, .int x1), (3, .int x3)]) : W p l e (rmL 4 0 0) s m args below meth c H locs 0 0 Q (F0 m 56 ls []) := by
  have hx := X.hx
  have hb := X.hb
  have hown := X.hown
  have hts := X.hts
  rw [fX11_hunts_56] at hf
  refine lv_aload_n hx hb dX11_hunts_56 rfl (lv_at hl 0 rfl) ?_
  refine lv_iload_n hx hb dX11_hunts_57 rfl (lv_at hl 1 rfl) ?_
  refine lv_bipush (v := 10) hx hb dX11_hunts_58 (by decide) ?_
  refine lv_aload_n hx hb dX11_hunts_60 rfl (lv_at hl 0 rfl) ?_
  refine lv_iload_n hx hb dX11_hunts_61 rfl (lv_at hl 1 rfl) ?_
  refine lv_bipush (v := 10) hx hb dX11_hunts_62 (by decide) ?_
  obtain ⟨q, hc, hf⟩ := bd hf
  refine gCallVR X rfl (vX11_ofCat hc) gRX11_X11_ofCat hdX11_ofCat rfl ⟨by decide, by decide⟩ (gB_blind mOK) (gB_at mOK X hP) (mrec hP) hl.1 (Nat.le_of_ble_eq_true rfl) ⟨Nat.le_refl _, Nat.le_refl _⟩ dX11_hunts_64 (As := [.int x1, .int 10]) (rest := [.int 10, .int x1, .ref (ad 25)]) rfl ?_
  exact kX11_hunts_67 X hret hf hP hS (lv_sub hl [0, 1, 2] rfl)
set_option maxRecDepth 10000 in
theorem kX11_hunts_51 {r : Int32} {S1 : MS} {M : MS} {x1 : Int32} {x3 : Int32} {s0 : Int32} {s1 : Int32} {s2 : Int32} {H : Heap} {locs : List Loc} {ls : Array Slot} (X : gX p s m args c cX11_hunts 4 RX11 (kR kTab kA)) (hret : gRetI p l e (rmL 4 0 0) s m args below meth c cX11_hunts (mΩ ad) (mP dC dI cI kA ad) Q r S1) (hf : fX11_hunts_51 M x1 x3 s0 s1 s2 = some (r, S1)) (hP : (mP dC dI cI kA ad) M s H) (hS : va_S (Fr (mΩ ad) s.heap.size) s.heap H locs) (hl : lv_has ls 4 [(0, .ref (ad 25)), (1, .int x1), (3, .int x3)]) : W p l e (rmL 4 0 0) s m args below meth c H locs 0 0 Q (F0 m 51 ls [.int s0, .int s1, .int s2, .ref (ad 25)]) := by
  have hx := X.hx
  have hb := X.hb
  have hown := X.hown
  have hts := X.hts
  rw [fX11_hunts_51] at hf
  refine lv_iload_n hx hb dX11_hunts_51 rfl (lv_at hl 2 rfl) ?_
  refine lv_isub hx hb dX11_hunts_52 ?_
  obtain ⟨q, hc, hf⟩ := bd hf
  refine gCallVV X mOK rfl (vX11_putsSack hc) gRX11_X11_putsSack hdX11_putsSack rfl ⟨by decide, by decide⟩ hP hS (mrec hP) hl.1 (Nat.le_of_ble_eq_true rfl) ⟨Nat.le_refl _, Nat.le_refl _⟩ dX11_hunts_53 (As := [.int s2, .int s1, .int (s0 - x3)]) (rest := []) rfl (fun H locs hP hS => ?_)
  exact kX11_hunts_56 X hret hf hP hS (lv_sub hl [0, 1, 2] rfl)
set_option maxRecDepth 10000 in
theorem kX11_hunts_36 {r : Int32} {S1 : MS} {M : MS} {x1 : Int32} {x2 : Int32} {s0 : Int32} {s1 : Int32} {H : Heap} {locs : List Loc} {ls : Array Slot} (X : gX p s m args c cX11_hunts 4 RX11 (kR kTab kA)) (hret : gRetI p l e (rmL 4 0 0) s m args below meth c cX11_hunts (mΩ ad) (mP dC dI cI kA ad) Q r S1) (hf : fX11_hunts_36 M x1 x2 s0 s1 = some (r, S1)) (hP : (mP dC dI cI kA ad) M s H) (hS : va_S (Fr (mΩ ad) s.heap.size) s.heap H locs) (hl : lv_has ls 4 [(0, .ref (ad 25)), (1, .int x1), (2, .int x2)]) : W p l e (rmL 4 0 0) s m args below meth c H locs 0 0 Q (F0 m 36 ls [.int s0, .int s1]) := by
  have hx := X.hx
  have hb := X.hb
  have hown := X.hown
  have hts := X.hts
  rw [fX11_hunts_36] at hf
  refine gMin X rfl tw1917 tw592 tw24 tw593 (by decide) hl.1 (Nat.le_of_ble_eq_true rfl) ⟨Nat.zero_le _, Nat.zero_le _⟩ dX11_hunts_36 ?_
  refine lv_istore_n (lv' := [(3, .int (if s0 < s1 then s0 else s1)), (0, .ref (ad 25)), (1, .int x1), (2, .int x2)]) hx hb dX11_hunts_39 rfl hl (by decide) rfl (fun ls hl => ?_)
  refine lv_aload_n hx hb dX11_hunts_40 rfl (lv_at hl 1 rfl) ?_
  refine lv_iload_n hx hb dX11_hunts_41 rfl (lv_at hl 3 rfl) ?_
  refine lv_bipush (v := 8) hx hb dX11_hunts_42 (by decide) ?_
  refine lv_aload_n hx hb dX11_hunts_44 rfl (lv_at hl 1 rfl) ?_
  refine lv_iload_n hx hb dX11_hunts_45 rfl (lv_at hl 3 rfl) ?_
  refine lv_bipush (v := 8) hx hb dX11_hunts_46 (by decide) ?_
  obtain ⟨q, hc, hf⟩ := bd hf
  refine gCallVR X rfl (vX11_ofSack hc) gRX11_X11_ofSack hdX11_ofSack rfl ⟨by decide, by decide⟩ (gB_blind mOK) (gB_at mOK X hP) (mrec hP) hl.1 (Nat.le_of_ble_eq_true rfl) ⟨Nat.le_refl _, Nat.le_refl _⟩ dX11_hunts_48 (As := [.int x2, .int 8]) (rest := [.int 8, .int x2, .ref (ad 25)]) rfl ?_
  exact kX11_hunts_51 X hret hf hP hS (lv_sub hl [1, 2, 0] rfl)
set_option maxRecDepth 10000 in
theorem kX11_hunts_29 {r : Int32} {S1 : MS} {M : MS} {x1 : Int32} {x2 : Int32} {s0 : Int32} {H : Heap} {locs : List Loc} {ls : Array Slot} (X : gX p s m args c cX11_hunts 4 RX11 (kR kTab kA)) (hret : gRetI p l e (rmL 4 0 0) s m args below meth c cX11_hunts (mΩ ad) (mP dC dI cI kA ad) Q r S1) (hf : fX11_hunts_29 M x1 x2 s0 = some (r, S1)) (hP : (mP dC dI cI kA ad) M s H) (hS : va_S (Fr (mΩ ad) s.heap.size) s.heap H locs) (hl : lv_has ls 4 [(0, .ref (ad 25)), (1, .int x1), (2, .int x2)]) : W p l e (rmL 4 0 0) s m args below meth c H locs 0 0 Q (F0 m 29 ls [.int s0]) := by
  have hx := X.hx
  have hb := X.hb
  have hown := X.hown
  have hts := X.hts
  rw [fX11_hunts_29] at hf
  refine lv_aload_n hx hb dX11_hunts_29 rfl (lv_at hl 0 rfl) ?_
  refine lv_iload_n hx hb dX11_hunts_30 rfl (lv_at hl 2 rfl) ?_
  refine lv_bipush (v := 8) hx hb dX11_hunts_31 (by decide) ?_
  obtain ⟨q, hc, hf⟩ := bd hf
  refine gCallVR X rfl (vX11_ofSack hc) gRX11_X11_ofSack hdX11_ofSack rfl ⟨by decide, by decide⟩ (gB_blind mOK) (gB_at mOK X hP) (mrec hP) hl.1 (Nat.le_of_ble_eq_true rfl) ⟨Nat.le_refl _, Nat.le_refl _⟩ dX11_hunts_33 (As := [.int x2, .int 8]) (rest := [.int s0]) rfl ?_
  exact kX11_hunts_36 X hret hf hP hS (lv_sub hl [0, 1, 2] rfl)
set_option maxRecDepth 10000 in
theorem kX11_hunts_24 {r : Int32} {S1 : MS} {M : MS} {x1 : Int32} {x2 : Int32} {H : Heap} {locs : List Loc} {ls : Array Slot} (X : gX p s m args c cX11_hunts 4 RX11 (kR kTab kA)) (hret : gRetI p l e (rmL 4 0 0) s m args below meth c cX11_hunts (mΩ ad) (mP dC dI cI kA ad) Q r S1) (hf : fX11_hunts_24 M x1 x2 = some (r, S1)) (hP : (mP dC dI cI kA ad) M s H) (hS : va_S (Fr (mΩ ad) s.heap.size) s.heap H locs) (hl : lv_has ls 4 [(0, .ref (ad 25)), (1, .int x1), (2, .int x2)]) : W p l e (rmL 4 0 0) s m args below meth c H locs 0 0 Q (F0 m 24 ls []) := by
  have hx := X.hx
  have hb := X.hb
  have hown := X.hown
  have hts := X.hts
  rw [fX11_hunts_24] at hf
  refine lv_aload_n hx hb dX11_hunts_24 rfl (lv_at hl 0 rfl) ?_
  refine lv_iload_n hx hb dX11_hunts_25 rfl (lv_at hl 1 rfl) ?_
  obtain ⟨q, hc, hf⟩ := bd hf
  refine gCallVR X rfl (vX11_strength hc) gRX11_X11_strength hdX11_strength rfl ⟨by decide, by decide⟩ (gB_blind mOK) (gB_at mOK X hP) (mrec hP) hl.1 (Nat.le_of_ble_eq_true rfl) ⟨Nat.le_refl _, Nat.le_refl _⟩ dX11_hunts_26 (As := [.int x1]) (rest := []) rfl ?_
  exact kX11_hunts_29 X hret hf hP hS (lv_sub hl [0, 1, 2] rfl)
set_option maxRecDepth 10000 in
theorem kX11_hunts_17 {r : Int32} {S1 : MS} {M : MS} {x1 : Int32} {x2 : Int32} {H : Heap} {locs : List Loc} {ls : Array Slot} (X : gX p s m args c cX11_hunts 4 RX11 (kR kTab kA)) (hret : gRetI p l e (rmL 4 0 0) s m args below meth c cX11_hunts (mΩ ad) (mP dC dI cI kA ad) Q r S1) (hf : fX11_hunts_17 M x1 x2 = some (r, S1)) (hP : (mP dC dI cI kA ad) M s H) (hS : va_S (Fr (mΩ ad) s.heap.size) s.heap H locs) (hl : lv_has ls 4 [(0, .ref (ad 25)), (1, .int x1), (2, .int x2)]) : W p l e (rmL 4 0 0) s m args below meth c H locs 0 0 Q (F0 m 17 ls []) := by
  have hx := X.hx
  have hb := X.hb
  have hown := X.hown
  have hts := X.hts
  rw [fX11_hunts_17] at hf
  refine lv_iload_n hx hb dX11_hunts_17 rfl (lv_at hl 2 rfl) ?_
  refine lv_iconst (v := (-1)) hx hb dX11_hunts_18 (by decide) ?_
  refine lv_icmp_ne (tgt := 24) hx hb dX11_hunts_19 (by decide) (fun c1 => ?_) (fun c1 => ?_)
  · exact kX11_hunts_24 X hret (ifn c1 hf) hP hS (lv_sub hl [0, 1, 2] rfl)
  · exact kX11_hunts_22 X hret (ifp c1 hf) hP hS (lv_sub hl [0] rfl)
set_option maxRecDepth 10000 in
theorem kX11_hunts_11 {r : Int32} {S1 : MS} {M : MS} {x1 : Int32} {s0 : Int32} {H : Heap} {locs : List Loc} {ls : Array Slot} (X : gX p s m args c cX11_hunts 4 RX11 (kR kTab kA)) (hret : gRetI p l e (rmL 4 0 0) s m args below meth c cX11_hunts (mΩ ad) (mP dC dI cI kA ad) Q r S1) (hf : fX11_hunts_11 M x1 s0 = some (r, S1)) (hP : (mP dC dI cI kA ad) M s H) (hS : va_S (Fr (mΩ ad) s.heap.size) s.heap H locs) (hl : lv_has ls 4 [(0, .ref (ad 25)), (1, .int x1)]) : W p l e (rmL 4 0 0) s m args below meth c H locs 0 0 Q (F0 m 11 ls [.int s0]) := by
  have hx := X.hx
  have hb := X.hb
  have hown := X.hown
  have hts := X.hts
  rw [fX11_hunts_11] at hf
  refine lv_istore_n (lv' := [(2, .int s0), (0, .ref (ad 25)), (1, .int x1)]) hx hb dX11_hunts_11 rfl hl (by decide) rfl (fun ls hl => ?_)
  refine lv_iload_n hx hb dX11_hunts_12 rfl (lv_at hl 2 rfl) ?_
  refine lv_iconst (v := (-1)) hx hb dX11_hunts_13 (by decide) ?_
  refine lv_icmp_eq (tgt := 22) hx hb dX11_hunts_14 (by decide) (fun c1 => ?_) (fun c1 => ?_)
  · exact kX11_hunts_22 X hret (ifp c1 hf) hP hS (lv_sub hl [1] rfl)
  · exact kX11_hunts_17 X hret (ifn c1 hf) hP hS (lv_sub hl [1, 2, 0] rfl)
set_option maxRecDepth 10000 in
theorem kX11_hunts_0 {r : Int32} {S1 : MS} {M : MS} {H : Heap} {locs : List Loc} {ls : Array Slot} (X : gX p s m args c cX11_hunts 4 RX11 (kR kTab kA)) (hret : gRetI p l e (rmL 4 0 0) s m args below meth c cX11_hunts (mΩ ad) (mP dC dI cI kA ad) Q r S1) (hf : fX11_hunts_0 M = some (r, S1)) (hP : (mP dC dI cI kA ad) M s H) (hS : va_S (Fr (mΩ ad) s.heap.size) s.heap H locs) (hl : lv_has ls 4 [(0, .ref (ad 25))]) : W p l e (rmL 4 0 0) s m args below meth c H locs 0 0 Q (F0 m 0 ls []) := by
  have hx := X.hx
  have hb := X.hb
  have hown := X.hown
  have hts := X.hts
  rw [fX11_hunts_0] at hf
  refine lv_aload_n hx hb dX11_hunts_0 rfl (lv_at hl 0 rfl) ?_
  refine mr_get (k := 0) X hP (by decide) rfl rfl tw1665 dX11_hunts_1 ?_
  refine lv_iconst (v := 5) hx hb dX11_hunts_4 (by decide) ?_
  obtain ⟨g1, hf⟩ := gd hf
  refine mr_ald (a := 0) X hP rfl g1 dX11_hunts_5 ?_
  refine lv_istore_n (lv' := [(1, .int (M.2 0 (5 : Int32).toNatClampNeg)), (0, .ref (ad 25))]) hx hb dX11_hunts_6 rfl hl (by decide) rfl (fun ls hl => ?_)
  refine lv_aload_n hx hb dX11_hunts_7 rfl (lv_at hl 1 rfl) ?_
  obtain ⟨q, hc, hf⟩ := bd hf
  refine gCallVR X rfl (vX11_hunted hc) gRX11_X11_hunted hdX11_hunted rfl ⟨by decide, by decide⟩ (gB_blind mOK) (gB_at mOK X hP) (mrec hP) hl.1 (Nat.le_of_ble_eq_true rfl) ⟨Nat.le_refl _, Nat.le_refl _⟩ dX11_hunts_8 (As := []) (rest := []) rfl ?_
  exact kX11_hunts_11 X hret hf hP hS (lv_sub hl [1, 0] rfl)
theorem vX11_hunts {l : Launch} {dC : Nat → ClassId} {dI : Nat → Nat → Nat} {cI : ClassId} {kA : String → Nat → Nat} {ad : Nat → Nat} {M S1 : MS} {r : Int32} (hf : fX11_hunts M  = some (r, S1)) : gMetI l yX11_hunts cX11_hunts 4 (some .int) 4 (mΩ ad) (mP dC dI cI kA ad) (kR kTab kA) [.ref (ad 25)] M r S1 := gEntryI (ty := .int) (by decide) rfl rfl mOK (Nat.le_of_ble_eq_true rfl) (fun p e s m args below meth c Q ls X hP hS hret hl => 
  kX11_hunts_0 X hret hf hP hS (lv_sub hl [0] rfl))
set_option maxRecDepth 10000 in
theorem kX11_shiftGoes_78 {S1 : MS} {M : MS} {H : Heap} {locs : List Loc} {ls : Array Slot} (X : gX p s m args c cX11_shiftGoes 1 RX11 (kR kTab kA)) (hret : gRetV p l e (rmL 4 0 0) s m args below meth c cX11_shiftGoes (mΩ ad) (mP dC dI cI kA ad) Q S1) (hf : fX11_shiftGoes_78 M = some S1) (hP : (mP dC dI cI kA ad) M s H) (hS : va_S (Fr (mΩ ad) s.heap.size) s.heap H locs) (hl : lv_has ls 1 [(0, .ref (ad 25))]) : W p l e (rmL 4 0 0) s m args below meth c H locs 0 0 Q (F0 m 78 ls []) := by
  have hx := X.hx
  have hb := X.hb
  have hown := X.hown
  have hts := X.hts
  rw [fX11_shiftGoes_78] at hf
  cases hf
  exact hret _ _ _ _ dX11_shiftGoes_78 hP hS
set_option maxRecDepth 10000 in
theorem kX11_shiftGoes_75 {S1 : MS} {M : MS} {s0 : Int32} {H : Heap} {locs : List Loc} {ls : Array Slot} (X : gX p s m args c cX11_shiftGoes 1 RX11 (kR kTab kA)) (hret : gRetV p l e (rmL 4 0 0) s m args below meth c cX11_shiftGoes (mΩ ad) (mP dC dI cI kA ad) Q S1) (hf : fX11_shiftGoes_75 M s0 = some S1) (hP : (mP dC dI cI kA ad) M s H) (hS : va_S (Fr (mΩ ad) s.heap.size) s.heap H locs) (hl : lv_has ls 1 [(0, .ref (ad 25))]) : W p l e (rmL 4 0 0) s m args below meth c H locs 0 0 Q (F0 m 75 ls [.int s0, .ref (ad 25)]) := by
  have hx := X.hx
  have hb := X.hb
  have hown := X.hown
  have hts := X.hts
  rw [fX11_shiftGoes_75] at hf
  obtain ⟨q, hc, hf⟩ := bd hf
  refine gCallVV X mOK rfl (vX11_swears hc) gRX11_X11_swears hdX11_swears rfl ⟨by decide, by decide⟩ hP hS (mrec hP) hl.1 (Nat.le_of_ble_eq_true rfl) ⟨Nat.le_refl _, Nat.le_refl _⟩ dX11_shiftGoes_75 (As := [.int s0]) (rest := []) rfl (fun H locs hP hS => ?_)
  exact kX11_shiftGoes_78 X hret hf hP hS (lv_sub hl [0] rfl)
set_option maxRecDepth 10000 in
theorem kX11_shiftGoes_63 {S1 : MS} {M : MS} {H : Heap} {locs : List Loc} {ls : Array Slot} (X : gX p s m args c cX11_shiftGoes 1 RX11 (kR kTab kA)) (hret : gRetV p l e (rmL 4 0 0) s m args below meth c cX11_shiftGoes (mΩ ad) (mP dC dI cI kA ad) Q S1) (hf : fX11_shiftGoes_63 M = some S1) (hP : (mP dC dI cI kA ad) M s H) (hS : va_S (Fr (mΩ ad) s.heap.size) s.heap H locs) (hl : lv_has ls 1 [(0, .ref (ad 25))]) : W p l e (rmL 4 0 0) s m args below meth c H locs 0 0 Q (F0 m 63 ls []) := by
  have hx := X.hx
  have hb := X.hb
  have hown := X.hown
  have hts := X.hts
  rw [fX11_shiftGoes_63] at hf
  refine lv_aload_n hx hb dX11_shiftGoes_63 rfl (lv_at hl 0 rfl) ?_
  refine lv_aload_n hx hb dX11_shiftGoes_64 rfl (lv_at hl 0 rfl) ?_
  refine lv_aload_n hx hb dX11_shiftGoes_65 rfl (lv_at hl 0 rfl) ?_
  refine mr_get (k := 0) X hP (by decide) rfl rfl tw1665 dX11_shiftGoes_66 ?_
  refine lv_bipush (v := 6) hx hb dX11_shiftGoes_69 (by decide) ?_
  obtain ⟨g1, hf⟩ := gd hf
  refine mr_ald (a := 0) X hP rfl g1 dX11_shiftGoes_71 ?_
  obtain ⟨q, hc, hf⟩ := bd hf
  refine gCallVR X rfl (vX11_shiftCat hc) gRX11_X11_shiftCat hdX11_shiftCat rfl ⟨by decide, by decide⟩ (gB_blind mOK) (gB_at mOK X hP) (mrec hP) hl.1 (Nat.le_of_ble_eq_true rfl) ⟨Nat.le_refl _, Nat.le_refl _⟩ dX11_shiftGoes_72 (As := [.int (M.2 0 (6 : Int32).toNatClampNeg)]) (rest := [.ref (ad 25)]) rfl ?_
  exact kX11_shiftGoes_75 X hret hf hP hS (lv_sub hl [0] rfl)
set_option maxRecDepth 10000 in
theorem kX11_shiftGoes_62 {S1 : MS} {M : MS} {s0 : Int32} {s1 : Int32} {H : Heap} {locs : List Loc} {ls : Array Slot} (X : gX p s m args c cX11_shiftGoes 1 RX11 (kR kTab kA)) (hret : gRetV p l e (rmL 4 0 0) s m args below meth c cX11_shiftGoes (mΩ ad) (mP dC dI cI kA ad) Q S1) (hf : fX11_shiftGoes_62 M s0 s1 = some S1) (hP : (mP dC dI cI kA ad) M s H) (hS : va_S (Fr (mΩ ad) s.heap.size) s.heap H locs) (hl : lv_has ls 1 [(0, .ref (ad 25))]) : W p l e (rmL 4 0 0) s m args below meth c H locs 0 0 Q (F0 m 62 ls [.int s0, .int s1, .ref (ad 0)]) := by
  have hx := X.hx
  have hb := X.hb
  have hown := X.hown
  have hts := X.hts
  rw [fX11_shiftGoes_62] at hf
  obtain ⟨g1, hf⟩ := gd hf
  refine mr_ast (a := 0) X hP hS rfl g1 dX11_shiftGoes_62 (fun H locs hP hS => ?_)
  exact kX11_shiftGoes_63 X hret hf hP hS (lv_sub hl [0] rfl)
set_option maxRecDepth 10000 in
theorem kX11_shiftGoes_45 {S1 : MS} {M : MS} {H : Heap} {locs : List Loc} {ls : Array Slot} (X : gX p s m args c cX11_shiftGoes 1 RX11 (kR kTab kA)) (hret : gRetV p l e (rmL 4 0 0) s m args below meth c cX11_shiftGoes (mΩ ad) (mP dC dI cI kA ad) Q S1) (hf : fX11_shiftGoes_45 M = some S1) (hP : (mP dC dI cI kA ad) M s H) (hS : va_S (Fr (mΩ ad) s.heap.size) s.heap H locs) (hl : lv_has ls 1 [(0, .ref (ad 25))]) : W p l e (rmL 4 0 0) s m args below meth c H locs 0 0 Q (F0 m 45 ls []) := by
  have hx := X.hx
  have hb := X.hb
  have hown := X.hown
  have hts := X.hts
  rw [fX11_shiftGoes_45] at hf
  refine lv_aload_n hx hb dX11_shiftGoes_45 rfl (lv_at hl 0 rfl) ?_
  refine mr_get (k := 0) X hP (by decide) rfl rfl tw1665 dX11_shiftGoes_46 ?_
  refine lv_bipush (v := 7) hx hb dX11_shiftGoes_49 (by decide) ?_
  refine lv_aload_n hx hb dX11_shiftGoes_51 rfl (lv_at hl 0 rfl) ?_
  refine lv_aload_n hx hb dX11_shiftGoes_52 rfl (lv_at hl 0 rfl) ?_
  refine mr_get (k := 0) X hP (by decide) rfl rfl tw1665 dX11_shiftGoes_53 ?_
  refine lv_bipush (v := 6) hx hb dX11_shiftGoes_56 (by decide) ?_
  obtain ⟨g1, hf⟩ := gd hf
  refine mr_ald (a := 0) X hP rfl g1 dX11_shiftGoes_58 ?_
  obtain ⟨q, hc, hf⟩ := bd hf
  refine gCallVR X rfl (vX11_shiftHours hc) gRX11_X11_shiftHours hdX11_shiftHours rfl ⟨by decide, by decide⟩ (gB_blind mOK) (gB_at mOK X hP) (mrec hP) hl.1 (Nat.le_of_ble_eq_true rfl) ⟨Nat.le_refl _, Nat.le_refl _⟩ dX11_shiftGoes_59 (As := [.int (M.2 0 (6 : Int32).toNatClampNeg)]) (rest := [.int 7, .ref (ad 0)]) rfl ?_
  exact kX11_shiftGoes_62 X hret hf hP hS (lv_sub hl [0] rfl)
set_option maxRecDepth 10000 in
theorem kX11_shiftGoes_22 {S1 : MS} {M : MS} {H : Heap} {locs : List Loc} {ls : Array Slot} (X : gX p s m args c cX11_shiftGoes 1 RX11 (kR kTab kA)) (hret : gRetV p l e (rmL 4 0 0) s m args below meth c cX11_shiftGoes (mΩ ad) (mP dC dI cI kA ad) Q S1) (hf : fX11_shiftGoes_22 M = some S1) (hP : (mP dC dI cI kA ad) M s H) (hS : va_S (Fr (mΩ ad) s.heap.size) s.heap H locs) (hl : lv_has ls 1 [(0, .ref (ad 25))]) : W p l e (rmL 4 0 0) s m args below meth c H locs 0 0 Q (F0 m 22 ls []) := by
  have hx := X.hx
  have hb := X.hb
  have hown := X.hown
  have hts := X.hts
  rw [fX11_shiftGoes_22] at hf
  refine lv_aload_n hx hb dX11_shiftGoes_22 rfl (lv_at hl 0 rfl) ?_
  refine mr_get (k := 0) X hP (by decide) rfl rfl tw1665 dX11_shiftGoes_23 ?_
  refine lv_bipush (v := 6) hx hb dX11_shiftGoes_26 (by decide) ?_
  refine lv_aload_n hx hb dX11_shiftGoes_28 rfl (lv_at hl 0 rfl) ?_
  refine mr_get (k := 0) X hP (by decide) rfl rfl tw1665 dX11_shiftGoes_29 ?_
  refine lv_bipush (v := 6) hx hb dX11_shiftGoes_32 (by decide) ?_
  obtain ⟨g1, hf⟩ := gd hf
  refine mr_ald (a := 0) X hP rfl g1 dX11_shiftGoes_34 ?_
  refine lv_iconst (v := 1) hx hb dX11_shiftGoes_35 (by decide) ?_
  refine lv_iadd hx hb dX11_shiftGoes_36 ?_
  refine lv_aload_n hx hb dX11_shiftGoes_37 rfl (lv_at hl 0 rfl) ?_
  refine mr_get (k := 0) X hP (by decide) rfl rfl tw1665 dX11_shiftGoes_38 ?_
  refine lv_iconst (v := 2) hx hb dX11_shiftGoes_41 (by decide) ?_
  obtain ⟨g2, hf⟩ := gd hf
  refine mr_ald (a := 0) X hP rfl g2 dX11_shiftGoes_42 ?_
  obtain ⟨g3, hf⟩ := gd hf
  refine lv_irem hx hb dX11_shiftGoes_43 g3 ?_
  obtain ⟨g4, hf⟩ := gd hf
  refine mr_ast (a := 0) X hP hS rfl g4 dX11_shiftGoes_44 (fun H locs hP hS => ?_)
  exact kX11_shiftGoes_45 X hret hf hP hS (lv_sub hl [0] rfl)
set_option maxRecDepth 10000 in
theorem kX11_shiftGoes_21 {S1 : MS} {M : MS} {H : Heap} {locs : List Loc} {ls : Array Slot} (X : gX p s m args c cX11_shiftGoes 1 RX11 (kR kTab kA)) (hret : gRetV p l e (rmL 4 0 0) s m args below meth c cX11_shiftGoes (mΩ ad) (mP dC dI cI kA ad) Q S1) (hf : fX11_shiftGoes_21 M = some S1) (hP : (mP dC dI cI kA ad) M s H) (hS : va_S (Fr (mΩ ad) s.heap.size) s.heap H locs) (hl : lv_has ls 1 [(0, .ref (ad 25))]) : W p l e (rmL 4 0 0) s m args below meth c H locs 0 0 Q (F0 m 21 ls []) := by
  have hx := X.hx
  have hb := X.hb
  have hown := X.hown
  have hts := X.hts
  rw [fX11_shiftGoes_21] at hf
  cases hf
  exact hret _ _ _ _ dX11_shiftGoes_21 hP hS
set_option maxRecDepth 10000 in
theorem kX11_shiftGoes_11 {S1 : MS} {M : MS} {H : Heap} {locs : List Loc} {ls : Array Slot} (X : gX p s m args c cX11_shiftGoes 1 RX11 (kR kTab kA)) (hret : gRetV p l e (rmL 4 0 0) s m args below meth c cX11_shiftGoes (mΩ ad) (mP dC dI cI kA ad) Q S1) (hf : fX11_shiftGoes_11 M = some S1) (hP : (mP dC dI cI kA ad) M s H) (hS : va_S (Fr (mΩ ad) s.heap.size) s.heap H locs) (hl : lv_has ls 1 [(0, .ref (ad 25))]) : W p l e (rmL 4 0 0) s m args below meth c H locs 0 0 Q (F0 m 11 ls []) := by
  have hx := X.hx
  have hb := X.hb
  have hown := X.hown
  have hts := X.hts
  rw [fX11_shiftGoes_11] at hf
  refine lv_aload_n hx hb dX11_shiftGoes_11 rfl (lv_at hl 0 rfl) ?_
  refine mr_get (k := 0) X hP (by decide) rfl rfl tw1665 dX11_shiftGoes_12 ?_
  refine lv_bipush (v := 7) hx hb dX11_shiftGoes_15 (by decide) ?_
  obtain ⟨g1, hf⟩ := gd hf
  refine mr_ald (a := 0) X hP rfl g1 dX11_shiftGoes_17 ?_
  refine lv_if_le (tgt := 22) hx hb dX11_shiftGoes_18 (by decide) (fun c1 => ?_) (fun c1 => ?_)
  · exact kX11_shiftGoes_22 X hret (ifp c1 hf) hP hS (lv_sub hl [0] rfl)
  · exact kX11_shiftGoes_21 X hret (ifn c1 hf) hP hS (lv_sub hl [0] rfl)
set_option maxRecDepth 10000 in
theorem kX11_shiftGoes_0 {S1 : MS} {M : MS} {H : Heap} {locs : List Loc} {ls : Array Slot} (X : gX p s m args c cX11_shiftGoes 1 RX11 (kR kTab kA)) (hret : gRetV p l e (rmL 4 0 0) s m args below meth c cX11_shiftGoes (mΩ ad) (mP dC dI cI kA ad) Q S1) (hf : fX11_shiftGoes_0 M = some S1) (hP : (mP dC dI cI kA ad) M s H) (hS : va_S (Fr (mΩ ad) s.heap.size) s.heap H locs) (hl : lv_has ls 1 [(0, .ref (ad 25))]) : W p l e (rmL 4 0 0) s m args below meth c H locs 0 0 Q (F0 m 0 ls []) := by
  have hx := X.hx
  have hb := X.hb
  have hown := X.hown
  have hts := X.hts
  rw [fX11_shiftGoes_0] at hf
  refine lv_aload_n hx hb dX11_shiftGoes_0 rfl (lv_at hl 0 rfl) ?_
  refine mr_get (k := 0) X hP (by decide) rfl rfl tw1665 dX11_shiftGoes_1 ?_
  refine lv_bipush (v := 7) hx hb dX11_shiftGoes_4 (by decide) ?_
  refine lv_dup2_11 hx hb dX11_shiftGoes_6 rfl rfl ?_
  obtain ⟨g1, hf⟩ := gd hf
  refine mr_ald (a := 0) X hP rfl g1 dX11_shiftGoes_7 ?_
  refine lv_iconst (v := 1) hx hb dX11_shiftGoes_8 (by decide) ?_
  refine lv_isub hx hb dX11_shiftGoes_9 ?_
  obtain ⟨g2, hf⟩ := gd hf
  refine mr_ast (a := 0) X hP hS rfl g2 dX11_shiftGoes_10 (fun H locs hP hS => ?_)
  exact kX11_shiftGoes_11 X hret hf hP hS (lv_sub hl [0] rfl)
theorem vX11_shiftGoes {l : Launch} {dC : Nat → ClassId} {dI : Nat → Nat → Nat} {cI : ClassId} {kA : String → Nat → Nat} {ad : Nat → Nat} {M S1 : MS} (hf : fX11_shiftGoes M  = some S1) : gMetV l yX11_shiftGoes cX11_shiftGoes 1 4 (mΩ ad) (mP dC dI cI kA ad) (kR kTab kA) [.ref (ad 25)] M S1 := gEntryV (by decide) mOK (Nat.le_of_ble_eq_true rfl) (fun p e s m args below meth c Q ls X hP hS hret hl => 
  kX11_shiftGoes_0 X hret hf hP hS (lv_sub hl [0] rfl))
set_option maxRecDepth 10000 in
theorem kX11_takesNumber_15 {r : Int32} {S1 : MS} {M : MS} {H : Heap} {locs : List Loc} {ls : Array Slot} (X : gX p s m args c cX11_takesNumber 3 RX11 (kR kTab kA)) (hret : gRetI p l e (rmL 4 0 0) s m args below meth c cX11_takesNumber (mΩ ad) (mP dC dI cI kA ad) Q r S1) (hf : fX11_takesNumber_15 M = some (r, S1)) (hP : (mP dC dI cI kA ad) M s H) (hS : va_S (Fr (mΩ ad) s.heap.size) s.heap H locs) (hl : lv_has ls 3 [(0, .ref (ad 25))]) : W p l e (rmL 4 0 0) s m args below meth c H locs 0 0 Q (F0 m 15 ls []) := by
  have hx := X.hx
  have hb := X.hb
  have hown := X.hown
  have hts := X.hts
  rw [fX11_takesNumber_15] at hf
  refine lv_iconst (v := 1) hx hb dX11_takesNumber_15 (by decide) ?_
  cases hf
  exact hret _ _ _ _ dX11_takesNumber_16 hP hS
set_option maxRecDepth 10000 in
theorem kX11_takesNumber_11 {r : Int32} {S1 : MS} {M : MS} {H : Heap} {locs : List Loc} {ls : Array Slot} (X : gX p s m args c cX11_takesNumber 3 RX11 (kR kTab kA)) (hret : gRetI p l e (rmL 4 0 0) s m args below meth c cX11_takesNumber (mΩ ad) (mP dC dI cI kA ad) Q r S1) (hf : fX11_takesNumber_11 M = some (r, S1)) (hP : (mP dC dI cI kA ad) M s H) (hS : va_S (Fr (mΩ ad) s.heap.size) s.heap H locs) (hl : lv_has ls 3 [(0, .ref (ad 25))]) : W p l e (rmL 4 0 0) s m args below meth c H locs 0 0 Q (F0 m 11 ls []) := by
  have hx := X.hx
  have hb := X.hb
  have hown := X.hown
  have hts := X.hts
  rw [fX11_takesNumber_11] at hf
  refine lv_aload_n hx hb dX11_takesNumber_11 rfl (lv_at hl 0 rfl) ?_
  obtain ⟨q, hc, hf⟩ := bd hf
  refine gCallVV X mOK rfl (vX11_advanceToken hc) gRX11_X11_advanceToken hdX11_advanceToken rfl ⟨by decide, by decide⟩ hP hS (mrec hP) hl.1 (Nat.le_of_ble_eq_true rfl) ⟨Nat.le_refl _, Nat.le_refl _⟩ dX11_takesNumber_12 (As := []) (rest := []) rfl (fun H locs hP hS => ?_)
  exact kX11_takesNumber_15 X hret hf hP hS (lv_sub hl [0] rfl)
set_option maxRecDepth 10000 in
theorem kX11_takesNumber_9 {r : Int32} {S1 : MS} {M : MS} {H : Heap} {locs : List Loc} {ls : Array Slot} (X : gX p s m args c cX11_takesNumber 3 RX11 (kR kTab kA)) (hret : gRetI p l e (rmL 4 0 0) s m args below meth c cX11_takesNumber (mΩ ad) (mP dC dI cI kA ad) Q r S1) (hf : fX11_takesNumber_9 M = some (r, S1)) (hP : (mP dC dI cI kA ad) M s H) (hS : va_S (Fr (mΩ ad) s.heap.size) s.heap H locs) (hl : lv_has ls 3 [(0, .ref (ad 25))]) : W p l e (rmL 4 0 0) s m args below meth c H locs 0 0 Q (F0 m 9 ls []) := by
  have hx := X.hx
  have hb := X.hb
  have hown := X.hown
  have hts := X.hts
  rw [fX11_takesNumber_9] at hf
  refine lv_iconst (v := 0) hx hb dX11_takesNumber_9 (by decide) ?_
  cases hf
  exact hret _ _ _ _ dX11_takesNumber_10 hP hS
set_option maxRecDepth 10000 in
theorem kX11_takesNumber_6 {r : Int32} {S1 : MS} {M : MS} {s0 : Int32} {H : Heap} {locs : List Loc} {ls : Array Slot} (X : gX p s m args c cX11_takesNumber 3 RX11 (kR kTab kA)) (hret : gRetI p l e (rmL 4 0 0) s m args below meth c cX11_takesNumber (mΩ ad) (mP dC dI cI kA ad) Q r S1) (hf : fX11_takesNumber_6 M s0 = some (r, S1)) (hP : (mP dC dI cI kA ad) M s H) (hS : va_S (Fr (mΩ ad) s.heap.size) s.heap H locs) (hl : lv_has ls 3 [(0, .ref (ad 25))]) : W p l e (rmL 4 0 0) s m args below meth c H locs 0 0 Q (F0 m 6 ls [.int s0]) := by
  have hx := X.hx
  have hb := X.hb
  have hown := X.hown
  have hts := X.hts
  rw [fX11_takesNumber_6] at hf
  refine lv_if_ne (tgt := 11) hx hb dX11_takesNumber_6 (by decide) (fun c1 => ?_) (fun c1 => ?_)
  · exact kX11_takesNumber_11 X hret (ifn c1 hf) hP hS (lv_sub hl [0] rfl)
  · exact kX11_takesNumber_9 X hret (ifp c1 hf) hP hS (lv_sub hl [0] rfl)
set_option maxRecDepth 10000 in
theorem kX11_takesNumber_0 {r : Int32} {S1 : MS} {M : MS} {a1 : Int32} {a2 : Int32} {H : Heap} {locs : List Loc} {ls : Array Slot} (X : gX p s m args c cX11_takesNumber 3 RX11 (kR kTab kA)) (hret : gRetI p l e (rmL 4 0 0) s m args below meth c cX11_takesNumber (mΩ ad) (mP dC dI cI kA ad) Q r S1) (hf : fX11_takesNumber_0 M a1 a2 = some (r, S1)) (hP : (mP dC dI cI kA ad) M s H) (hS : va_S (Fr (mΩ ad) s.heap.size) s.heap H locs) (hl : lv_has ls 3 [(0, .ref (ad 25)), (1, .int a1), (2, .int a2)]) : W p l e (rmL 4 0 0) s m args below meth c H locs 0 0 Q (F0 m 0 ls []) := by
  have hx := X.hx
  have hb := X.hb
  have hown := X.hown
  have hts := X.hts
  rw [fX11_takesNumber_0] at hf
  refine lv_aload_n hx hb dX11_takesNumber_0 rfl (lv_at hl 0 rfl) ?_
  refine lv_iload_n hx hb dX11_takesNumber_1 rfl (lv_at hl 1 rfl) ?_
  refine lv_iload_n hx hb dX11_takesNumber_2 rfl (lv_at hl 2 rfl) ?_
  obtain ⟨q, hc, hf⟩ := bd hf
  refine gCallVI X mOK rfl (vX11_seesNumber hc) gRX11_X11_seesNumber hdX11_seesNumber rfl ⟨by decide, by decide⟩ hP hS (mrec hP) hl.1 (Nat.le_of_ble_eq_true rfl) ⟨Nat.le_refl _, Nat.le_refl _⟩ dX11_takesNumber_3 (As := [.int a1, .int a2]) (rest := []) rfl (fun H locs hP hS => ?_)
  exact kX11_takesNumber_6 X hret hf hP hS (lv_sub hl [0] rfl)
theorem vX11_takesNumber {l : Launch} {dC : Nat → ClassId} {dI : Nat → Nat → Nat} {cI : ClassId} {kA : String → Nat → Nat} {ad : Nat → Nat} {M S1 : MS} {r : Int32} {a1 : Int32} {a2 : Int32} (hf : fX11_takesNumber M a1 a2 = some (r, S1)) : gMetI l yX11_takesNumber cX11_takesNumber 3 (some .boolean) 4 (mΩ ad) (mP dC dI cI kA ad) (kR kTab kA) [.ref (ad 25), .int a1, .int a2] M r S1 := gEntryI (ty := .boolean) (by decide) rfl (bz_n hf) mOK (Nat.le_of_ble_eq_true rfl) (fun p e s m args below meth c Q ls X hP hS hret hl => 
  kX11_takesNumber_0 X hret (bz_f hf) hP hS (lv_sub hl [0, 1, 2] rfl))
set_option maxRecDepth 10000 in
theorem kX11_takesSemicolon_18 {r : Int32} {S1 : MS} {M : MS} {H : Heap} {locs : List Loc} {ls : Array Slot} (X : gX p s m args c cX11_takesSemicolon 1 RX11 (kR kTab kA)) (hret : gRetI p l e (rmL 4 0 0) s m args below meth c cX11_takesSemicolon (mΩ ad) (mP dC dI cI kA ad) Q r S1) (hf : fX11_takesSemicolon_18 M = some (r, S1)) (hP : (mP dC dI cI kA ad) M s H) (hS : va_S (Fr (mΩ ad) s.heap.size) s.heap H locs) (hl : lv_has ls 1 [(0, .ref (ad 25))]) : W p l e (rmL 4 0 0) s m args below meth c H locs 0 0 Q (F0 m 18 ls []) := by
  have hx := X.hx
  have hb := X.hb
  have hown := X.hown
  have hts := X.hts
  rw [fX11_takesSemicolon_18] at hf
  refine lv_iconst (v := 1) hx hb dX11_takesSemicolon_18 (by decide) ?_
  cases hf
  exact hret _ _ _ _ dX11_takesSemicolon_19 hP hS
set_option maxRecDepth 10000 in
theorem kX11_takesSemicolon_14 {r : Int32} {S1 : MS} {M : MS} {H : Heap} {locs : List Loc} {ls : Array Slot} (X : gX p s m args c cX11_takesSemicolon 1 RX11 (kR kTab kA)) (hret : gRetI p l e (rmL 4 0 0) s m args below meth c cX11_takesSemicolon (mΩ ad) (mP dC dI cI kA ad) Q r S1) (hf : fX11_takesSemicolon_14 M = some (r, S1)) (hP : (mP dC dI cI kA ad) M s H) (hS : va_S (Fr (mΩ ad) s.heap.size) s.heap H locs) (hl : lv_has ls 1 [(0, .ref (ad 25))]) : W p l e (rmL 4 0 0) s m args below meth c H locs 0 0 Q (F0 m 14 ls []) := by
  have hx := X.hx
  have hb := X.hb
  have hown := X.hown
  have hts := X.hts
  rw [fX11_takesSemicolon_14] at hf
  refine lv_aload_n hx hb dX11_takesSemicolon_14 rfl (lv_at hl 0 rfl) ?_
  obtain ⟨q, hc, hf⟩ := bd hf
  refine gCallVV X mOK rfl (vX11_advanceToken hc) gRX11_X11_advanceToken hdX11_advanceToken rfl ⟨by decide, by decide⟩ hP hS (mrec hP) hl.1 (Nat.le_of_ble_eq_true rfl) ⟨Nat.le_refl _, Nat.le_refl _⟩ dX11_takesSemicolon_15 (As := []) (rest := []) rfl (fun H locs hP hS => ?_)
  exact kX11_takesSemicolon_18 X hret hf hP hS (lv_sub hl [0] rfl)
set_option maxRecDepth 10000 in
theorem kX11_takesSemicolon_13 {r : Int32} {S1 : MS} {M : MS} {s0 : Int32} {H : Heap} {locs : List Loc} {ls : Array Slot} (X : gX p s m args c cX11_takesSemicolon 1 RX11 (kR kTab kA)) (hret : gRetI p l e (rmL 4 0 0) s m args below meth c cX11_takesSemicolon (mΩ ad) (mP dC dI cI kA ad) Q r S1) (hf : fX11_takesSemicolon_13 M s0 = some (r, S1)) (hP : (mP dC dI cI kA ad) M s H) (hS : va_S (Fr (mΩ ad) s.heap.size) s.heap H locs) (hl : lv_has ls 1 [(0, .ref (ad 25))]) : W p l e (rmL 4 0 0) s m args below meth c H locs 0 0 Q (F0 m 13 ls [.int s0]) := by
  have hx := X.hx
  have hb := X.hb
  have hown := X.hown
  have hts := X.hts
  rw [fX11_takesSemicolon_13] at hf
  cases hf
  exact hret _ _ _ _ dX11_takesSemicolon_13 hP hS
set_option maxRecDepth 10000 in
theorem kX11_takesSemicolon_8 {r : Int32} {S1 : MS} {M : MS} {H : Heap} {locs : List Loc} {ls : Array Slot} (X : gX p s m args c cX11_takesSemicolon 1 RX11 (kR kTab kA)) (hret : gRetI p l e (rmL 4 0 0) s m args below meth c cX11_takesSemicolon (mΩ ad) (mP dC dI cI kA ad) Q r S1) (hf : fX11_takesSemicolon_8 M = some (r, S1)) (hP : (mP dC dI cI kA ad) M s H) (hS : va_S (Fr (mΩ ad) s.heap.size) s.heap H locs) (hl : lv_has ls 1 [(0, .ref (ad 25))]) : W p l e (rmL 4 0 0) s m args below meth c H locs 0 0 Q (F0 m 8 ls []) := by
  have hx := X.hx
  have hb := X.hb
  have hown := X.hown
  have hts := X.hts
  rw [fX11_takesSemicolon_8] at hf
  refine lv_aload_n hx hb dX11_takesSemicolon_8 rfl (lv_at hl 0 rfl) ?_
  refine lv_iconst (v := 1) hx hb dX11_takesSemicolon_9 (by decide) ?_
  obtain ⟨q, hc, hf⟩ := bd hf
  refine gCallVI X mOK rfl (vX11_failsAt hc) gRX11_X11_failsAt hdX11_failsAt rfl ⟨by decide, by decide⟩ hP hS (mrec hP) hl.1 (Nat.le_of_ble_eq_true rfl) ⟨Nat.le_refl _, Nat.le_refl _⟩ dX11_takesSemicolon_10 (As := [.int 1]) (rest := []) rfl (fun H locs hP hS => ?_)
  exact kX11_takesSemicolon_13 X hret hf hP hS (lv_sub hl [0] rfl)
set_option maxRecDepth 10000 in
theorem kX11_takesSemicolon_0 {r : Int32} {S1 : MS} {M : MS} {H : Heap} {locs : List Loc} {ls : Array Slot} (X : gX p s m args c cX11_takesSemicolon 1 RX11 (kR kTab kA)) (hret : gRetI p l e (rmL 4 0 0) s m args below meth c cX11_takesSemicolon (mΩ ad) (mP dC dI cI kA ad) Q r S1) (hf : fX11_takesSemicolon_0 M = some (r, S1)) (hP : (mP dC dI cI kA ad) M s H) (hS : va_S (Fr (mΩ ad) s.heap.size) s.heap H locs) (hl : lv_has ls 1 [(0, .ref (ad 25))]) : W p l e (rmL 4 0 0) s m args below meth c H locs 0 0 Q (F0 m 0 ls []) := by
  have hx := X.hx
  have hb := X.hb
  have hown := X.hown
  have hts := X.hts
  rw [fX11_takesSemicolon_0] at hf
  refine lv_aload_n hx hb dX11_takesSemicolon_0 rfl (lv_at hl 0 rfl) ?_
  refine mr_get (k := 17) X hP (by decide) rfl rfl tw1682 dX11_takesSemicolon_1 ?_
  refine lv_iconst (v := 3) hx hb dX11_takesSemicolon_4 (by decide) ?_
  refine lv_icmp_eq (tgt := 14) hx hb dX11_takesSemicolon_5 (by decide) (fun c1 => ?_) (fun c1 => ?_)
  · exact kX11_takesSemicolon_14 X hret (ifp c1 hf) hP hS (lv_sub hl [0] rfl)
  · exact kX11_takesSemicolon_8 X hret (ifn c1 hf) hP hS (lv_sub hl [0] rfl)
theorem vX11_takesSemicolon {l : Launch} {dC : Nat → ClassId} {dI : Nat → Nat → Nat} {cI : ClassId} {kA : String → Nat → Nat} {ad : Nat → Nat} {M S1 : MS} {r : Int32} (hf : fX11_takesSemicolon M  = some (r, S1)) : gMetI l yX11_takesSemicolon cX11_takesSemicolon 1 (some .boolean) 4 (mΩ ad) (mP dC dI cI kA ad) (kR kTab kA) [.ref (ad 25)] M r S1 := gEntryI (ty := .boolean) (by decide) rfl (bz_n hf) mOK (Nat.le_of_ble_eq_true rfl) (fun p e s m args below meth c Q ls X hP hS hret hl => 
  kX11_takesSemicolon_0 X hret (bz_f hf) hP hS (lv_sub hl [0] rfl))
set_option maxRecDepth 10000 in
theorem kX11_takesKnown_41 {r : Int32} {S1 : MS} {M : MS} {H : Heap} {locs : List Loc} {ls : Array Slot} (X : gX p s m args c cX11_takesKnown 3 RX11 (kR kTab kA)) (hret : gRetI p l e (rmL 4 0 0) s m args below meth c cX11_takesKnown (mΩ ad) (mP dC dI cI kA ad) Q r S1) (hf : fX11_takesKnown_41 M = some (r, S1)) (hP : (mP dC dI cI kA ad) M s H) (hS : va_S (Fr (mΩ ad) s.heap.size) s.heap H locs) (hl : lv_has ls 3 [(0, .ref (ad 25))]) : W p l e (rmL 4 0 0) s m args below meth c H locs 0 0 Q (F0 m 41 ls []) := by
  have hx := X.hx
  have hb := X.hb
  have hown := X.hown
  have hts := X.hts
  rw [fX11_takesKnown_41] at hf
  refine lv_iconst (v := 1) hx hb dX11_takesKnown_41 (by decide) ?_
  cases hf
  exact hret _ _ _ _ dX11_takesKnown_42 hP hS
set_option maxRecDepth 10000 in
theorem kX11_takesKnown_37 {r : Int32} {S1 : MS} {M : MS} {H : Heap} {locs : List Loc} {ls : Array Slot} (X : gX p s m args c cX11_takesKnown 3 RX11 (kR kTab kA)) (hret : gRetI p l e (rmL 4 0 0) s m args below meth c cX11_takesKnown (mΩ ad) (mP dC dI cI kA ad) Q r S1) (hf : fX11_takesKnown_37 M = some (r, S1)) (hP : (mP dC dI cI kA ad) M s H) (hS : va_S (Fr (mΩ ad) s.heap.size) s.heap H locs) (hl : lv_has ls 3 [(0, .ref (ad 25))]) : W p l e (rmL 4 0 0) s m args below meth c H locs 0 0 Q (F0 m 37 ls []) := by
  have hx := X.hx
  have hb := X.hb
  have hown := X.hown
  have hts := X.hts
  rw [fX11_takesKnown_37] at hf
  refine lv_aload_n hx hb dX11_takesKnown_37 rfl (lv_at hl 0 rfl) ?_
  obtain ⟨q, hc, hf⟩ := bd hf
  refine gCallVV X mOK rfl (vX11_advanceToken hc) gRX11_X11_advanceToken hdX11_advanceToken rfl ⟨by decide, by decide⟩ hP hS (mrec hP) hl.1 (Nat.le_of_ble_eq_true rfl) ⟨Nat.le_refl _, Nat.le_refl _⟩ dX11_takesKnown_38 (As := []) (rest := []) rfl (fun H locs hP hS => ?_)
  exact kX11_takesKnown_41 X hret hf hP hS (lv_sub hl [0] rfl)
set_option maxRecDepth 10000 in
theorem kX11_takesKnown_36 {r : Int32} {S1 : MS} {M : MS} {s0 : Int32} {H : Heap} {locs : List Loc} {ls : Array Slot} (X : gX p s m args c cX11_takesKnown 3 RX11 (kR kTab kA)) (hret : gRetI p l e (rmL 4 0 0) s m args below meth c cX11_takesKnown (mΩ ad) (mP dC dI cI kA ad) Q r S1) (hf : fX11_takesKnown_36 M s0 = some (r, S1)) (hP : (mP dC dI cI kA ad) M s H) (hS : va_S (Fr (mΩ ad) s.heap.size) s.heap H locs) (hl : lv_has ls 3 [(0, .ref (ad 25))]) : W p l e (rmL 4 0 0) s m args below meth c H locs 0 0 Q (F0 m 36 ls [.int s0]) := by
  have hx := X.hx
  have hb := X.hb
  have hown := X.hown
  have hts := X.hts
  rw [fX11_takesKnown_36] at hf
  cases hf
  exact hret _ _ _ _ dX11_takesKnown_36 hP hS
set_option maxRecDepth 10000 in
theorem kX11_takesKnown_31 {r : Int32} {S1 : MS} {M : MS} {H : Heap} {locs : List Loc} {ls : Array Slot} (X : gX p s m args c cX11_takesKnown 3 RX11 (kR kTab kA)) (hret : gRetI p l e (rmL 4 0 0) s m args below meth c cX11_takesKnown (mΩ ad) (mP dC dI cI kA ad) Q r S1) (hf : fX11_takesKnown_31 M = some (r, S1)) (hP : (mP dC dI cI kA ad) M s H) (hS : va_S (Fr (mΩ ad) s.heap.size) s.heap H locs) (hl : lv_has ls 3 [(0, .ref (ad 25))]) : W p l e (rmL 4 0 0) s m args below meth c H locs 0 0 Q (F0 m 31 ls []) := by
  have hx := X.hx
  have hb := X.hb
  have hown := X.hown
  have hts := X.hts
  rw [fX11_takesKnown_31] at hf
  refine lv_aload_n hx hb dX11_takesKnown_31 rfl (lv_at hl 0 rfl) ?_
  refine lv_iconst (v := 4) hx hb dX11_takesKnown_32 (by decide) ?_
  obtain ⟨q, hc, hf⟩ := bd hf
  refine gCallVI X mOK rfl (vX11_failsAt hc) gRX11_X11_failsAt hdX11_failsAt rfl ⟨by decide, by decide⟩ hP hS (mrec hP) hl.1 (Nat.le_of_ble_eq_true rfl) ⟨Nat.le_refl _, Nat.le_refl _⟩ dX11_takesKnown_33 (As := [.int 4]) (rest := []) rfl (fun H locs hP hS => ?_)
  exact kX11_takesKnown_36 X hret hf hP hS (lv_sub hl [0] rfl)
set_option maxRecDepth 10000 in
theorem kX11_takesKnown_21 {r : Int32} {S1 : MS} {M : MS} {H : Heap} {locs : List Loc} {ls : Array Slot} (X : gX p s m args c cX11_takesKnown 3 RX11 (kR kTab kA)) (hret : gRetI p l e (rmL 4 0 0) s m args below meth c cX11_takesKnown (mΩ ad) (mP dC dI cI kA ad) Q r S1) (hf : fX11_takesKnown_21 M = some (r, S1)) (hP : (mP dC dI cI kA ad) M s H) (hS : va_S (Fr (mΩ ad) s.heap.size) s.heap H locs) (hl : lv_has ls 3 [(0, .ref (ad 25))]) : W p l e (rmL 4 0 0) s m args below meth c H locs 0 0 Q (F0 m 21 ls []) := by
  have hx := X.hx
  have hb := X.hb
  have hown := X.hown
  have hts := X.hts
  rw [fX11_takesKnown_21] at hf
  refine lv_aload_n hx hb dX11_takesKnown_21 rfl (lv_at hl 0 rfl) ?_
  refine mr_get (k := 19) X hP (by decide) rfl rfl tw1684 dX11_takesKnown_22 ?_
  refine lv_iconst (v := 0) hx hb dX11_takesKnown_25 (by decide) ?_
  obtain ⟨g1, hf⟩ := gd hf
  refine mr_ald (a := 19) X hP rfl g1 dX11_takesKnown_26 ?_
  refine lv_iconst (v := (-1)) hx hb dX11_takesKnown_27 (by decide) ?_
  refine lv_icmp_ne (tgt := 37) hx hb dX11_takesKnown_28 (by decide) (fun c1 => ?_) (fun c1 => ?_)
  · exact kX11_takesKnown_37 X hret (ifn c1 hf) hP hS (lv_sub hl [0] rfl)
  · exact kX11_takesKnown_31 X hret (ifp c1 hf) hP hS (lv_sub hl [0] rfl)
set_option maxRecDepth 10000 in
theorem kX11_takesKnown_20 {r : Int32} {S1 : MS} {M : MS} {s0 : Int32} {s1 : Int32} {H : Heap} {locs : List Loc} {ls : Array Slot} (X : gX p s m args c cX11_takesKnown 3 RX11 (kR kTab kA)) (hret : gRetI p l e (rmL 4 0 0) s m args below meth c cX11_takesKnown (mΩ ad) (mP dC dI cI kA ad) Q r S1) (hf : fX11_takesKnown_20 M s0 s1 = some (r, S1)) (hP : (mP dC dI cI kA ad) M s H) (hS : va_S (Fr (mΩ ad) s.heap.size) s.heap H locs) (hl : lv_has ls 3 [(0, .ref (ad 25))]) : W p l e (rmL 4 0 0) s m args below meth c H locs 0 0 Q (F0 m 20 ls [.int s0, .int s1, .ref (ad 19)]) := by
  have hx := X.hx
  have hb := X.hb
  have hown := X.hown
  have hts := X.hts
  rw [fX11_takesKnown_20] at hf
  obtain ⟨g1, hf⟩ := gd hf
  refine mr_ast (a := 19) X hP hS rfl g1 dX11_takesKnown_20 (fun H locs hP hS => ?_)
  exact kX11_takesKnown_21 X hret hf hP hS (lv_sub hl [0] rfl)
set_option maxRecDepth 10000 in
theorem kX11_takesKnown_9 {r : Int32} {S1 : MS} {M : MS} {x1 : Int32} {x2 : Int32} {H : Heap} {locs : List Loc} {ls : Array Slot} (X : gX p s m args c cX11_takesKnown 3 RX11 (kR kTab kA)) (hret : gRetI p l e (rmL 4 0 0) s m args below meth c cX11_takesKnown (mΩ ad) (mP dC dI cI kA ad) Q r S1) (hf : fX11_takesKnown_9 M x1 x2 = some (r, S1)) (hP : (mP dC dI cI kA ad) M s H) (hS : va_S (Fr (mΩ ad) s.heap.size) s.heap H locs) (hl : lv_has ls 3 [(0, .ref (ad 25)), (1, .int x1), (2, .int x2)]) : W p l e (rmL 4 0 0) s m args below meth c H locs 0 0 Q (F0 m 9 ls []) := by
  have hx := X.hx
  have hb := X.hb
  have hown := X.hown
  have hts := X.hts
  rw [fX11_takesKnown_9] at hf
  refine lv_aload_n hx hb dX11_takesKnown_9 rfl (lv_at hl 0 rfl) ?_
  refine mr_get (k := 19) X hP (by decide) rfl rfl tw1684 dX11_takesKnown_10 ?_
  refine lv_iconst (v := 0) hx hb dX11_takesKnown_13 (by decide) ?_
  refine lv_aload_n hx hb dX11_takesKnown_14 rfl (lv_at hl 0 rfl) ?_
  refine lv_iload_n hx hb dX11_takesKnown_15 rfl (lv_at hl 1 rfl) ?_
  refine lv_iload_n hx hb dX11_takesKnown_16 rfl (lv_at hl 2 rfl) ?_
  obtain ⟨q, hc, hf⟩ := bd hf
  refine gCallVR X rfl (vX11_nameHere hc) gRX11_X11_nameHere hdX11_nameHere rfl ⟨by decide, by decide⟩ (gB_blind mOK) (gB_at mOK X hP) (mrec hP) hl.1 (Nat.le_of_ble_eq_true rfl) ⟨Nat.le_refl _, Nat.le_refl _⟩ dX11_takesKnown_17 (As := [.int x1, .int x2]) (rest := [.int 0, .ref (ad 19)]) rfl ?_
  exact kX11_takesKnown_20 X hret hf hP hS (lv_sub hl [0] rfl)
set_option maxRecDepth 10000 in
theorem kX11_takesKnown_7 {r : Int32} {S1 : MS} {M : MS} {H : Heap} {locs : List Loc} {ls : Array Slot} (X : gX p s m args c cX11_takesKnown 3 RX11 (kR kTab kA)) (hret : gRetI p l e (rmL 4 0 0) s m args below meth c cX11_takesKnown (mΩ ad) (mP dC dI cI kA ad) Q r S1) (hf : fX11_takesKnown_7 M = some (r, S1)) (hP : (mP dC dI cI kA ad) M s H) (hS : va_S (Fr (mΩ ad) s.heap.size) s.heap H locs) (hl : lv_has ls 3 [(0, .ref (ad 25))]) : W p l e (rmL 4 0 0) s m args below meth c H locs 0 0 Q (F0 m 7 ls []) := by
  have hx := X.hx
  have hb := X.hb
  have hown := X.hown
  have hts := X.hts
  rw [fX11_takesKnown_7] at hf
  refine lv_iconst (v := 0) hx hb dX11_takesKnown_7 (by decide) ?_
  cases hf
  exact hret _ _ _ _ dX11_takesKnown_8 hP hS
set_option maxRecDepth 10000 in
theorem kX11_takesKnown_4 {r : Int32} {S1 : MS} {M : MS} {x1 : Int32} {x2 : Int32} {s0 : Int32} {H : Heap} {locs : List Loc} {ls : Array Slot} (X : gX p s m args c cX11_takesKnown 3 RX11 (kR kTab kA)) (hret : gRetI p l e (rmL 4 0 0) s m args below meth c cX11_takesKnown (mΩ ad) (mP dC dI cI kA ad) Q r S1) (hf : fX11_takesKnown_4 M x1 x2 s0 = some (r, S1)) (hP : (mP dC dI cI kA ad) M s H) (hS : va_S (Fr (mΩ ad) s.heap.size) s.heap H locs) (hl : lv_has ls 3 [(0, .ref (ad 25)), (1, .int x1), (2, .int x2)]) : W p l e (rmL 4 0 0) s m args below meth c H locs 0 0 Q (F0 m 4 ls [.int s0]) := by
  have hx := X.hx
  have hb := X.hb
  have hown := X.hown
  have hts := X.hts
  rw [fX11_takesKnown_4] at hf
  refine lv_if_ne (tgt := 9) hx hb dX11_takesKnown_4 (by decide) (fun c1 => ?_) (fun c1 => ?_)
  · exact kX11_takesKnown_9 X hret (ifn c1 hf) hP hS (lv_sub hl [0, 1, 2] rfl)
  · exact kX11_takesKnown_7 X hret (ifp c1 hf) hP hS (lv_sub hl [0] rfl)
set_option maxRecDepth 10000 in
theorem kX11_takesKnown_0 {r : Int32} {S1 : MS} {M : MS} {a1 : Int32} {a2 : Int32} {H : Heap} {locs : List Loc} {ls : Array Slot} (X : gX p s m args c cX11_takesKnown 3 RX11 (kR kTab kA)) (hret : gRetI p l e (rmL 4 0 0) s m args below meth c cX11_takesKnown (mΩ ad) (mP dC dI cI kA ad) Q r S1) (hf : fX11_takesKnown_0 M a1 a2 = some (r, S1)) (hP : (mP dC dI cI kA ad) M s H) (hS : va_S (Fr (mΩ ad) s.heap.size) s.heap H locs) (hl : lv_has ls 3 [(0, .ref (ad 25)), (1, .int a1), (2, .int a2)]) : W p l e (rmL 4 0 0) s m args below meth c H locs 0 0 Q (F0 m 0 ls []) := by
  have hx := X.hx
  have hb := X.hb
  have hown := X.hown
  have hts := X.hts
  rw [fX11_takesKnown_0] at hf
  refine lv_aload_n hx hb dX11_takesKnown_0 rfl (lv_at hl 0 rfl) ?_
  obtain ⟨q, hc, hf⟩ := bd hf
  refine gCallVI X mOK rfl (vX11_seesName hc) gRX11_X11_seesName hdX11_seesName rfl ⟨by decide, by decide⟩ hP hS (mrec hP) hl.1 (Nat.le_of_ble_eq_true rfl) ⟨Nat.le_refl _, Nat.le_refl _⟩ dX11_takesKnown_1 (As := []) (rest := []) rfl (fun H locs hP hS => ?_)
  exact kX11_takesKnown_4 X hret hf hP hS (lv_sub hl [0, 1, 2] rfl)
theorem vX11_takesKnown {l : Launch} {dC : Nat → ClassId} {dI : Nat → Nat → Nat} {cI : ClassId} {kA : String → Nat → Nat} {ad : Nat → Nat} {M S1 : MS} {r : Int32} {a1 : Int32} {a2 : Int32} (hf : fX11_takesKnown M a1 a2 = some (r, S1)) : gMetI l yX11_takesKnown cX11_takesKnown 3 (some .boolean) 4 (mΩ ad) (mP dC dI cI kA ad) (kR kTab kA) [.ref (ad 25), .int a1, .int a2] M r S1 := gEntryI (ty := .boolean) (by decide) rfl (bz_n hf) mOK (Nat.le_of_ble_eq_true rfl) (fun p e s m args below meth c Q ls X hP hS hret hl => 
  kX11_takesKnown_0 X hret (bz_f hf) hP hS (lv_sub hl [0, 1, 2] rfl))
set_option maxRecDepth 10000 in
theorem kX11_takesNewName_113 {r : Int32} {S1 : MS} {M : MS} {H : Heap} {locs : List Loc} {ls : Array Slot} (X : gX p s m args c cX11_takesNewName 5 RX11 (kR kTab kA)) (hret : gRetI p l e (rmL 4 0 0) s m args below meth c cX11_takesNewName (mΩ ad) (mP dC dI cI kA ad) Q r S1) (hf : fX11_takesNewName_113 M = some (r, S1)) (hP : (mP dC dI cI kA ad) M s H) (hS : va_S (Fr (mΩ ad) s.heap.size) s.heap H locs) (hl : lv_has ls 5 [(0, .ref (ad 25))]) : W p l e (rmL 4 0 0) s m args below meth c H locs 0 0 Q (F0 m 113 ls []) := by
  have hx := X.hx
  have hb := X.hb
  have hown := X.hown
  have hts := X.hts
  rw [fX11_takesNewName_113] at hf
  refine lv_iconst (v := 1) hx hb dX11_takesNewName_113 (by decide) ?_
  cases hf
  exact hret _ _ _ _ dX11_takesNewName_114 hP hS
set_option maxRecDepth 10000 in
theorem kX11_takesNewName_109 {r : Int32} {S1 : MS} {M : MS} {H : Heap} {locs : List Loc} {ls : Array Slot} (X : gX p s m args c cX11_takesNewName 5 RX11 (kR kTab kA)) (hret : gRetI p l e (rmL 4 0 0) s m args below meth c cX11_takesNewName (mΩ ad) (mP dC dI cI kA ad) Q r S1) (hf : fX11_takesNewName_109 M = some (r, S1)) (hP : (mP dC dI cI kA ad) M s H) (hS : va_S (Fr (mΩ ad) s.heap.size) s.heap H locs) (hl : lv_has ls 5 [(0, .ref (ad 25))]) : W p l e (rmL 4 0 0) s m args below meth c H locs 0 0 Q (F0 m 109 ls []) := by
  have hx := X.hx
  have hb := X.hb
  have hown := X.hown
  have hts := X.hts
  rw [fX11_takesNewName_109] at hf
  refine lv_aload_n hx hb dX11_takesNewName_109 rfl (lv_at hl 0 rfl) ?_
  obtain ⟨q, hc, hf⟩ := bd hf
  refine gCallVV X mOK rfl (vX11_advanceToken hc) gRX11_X11_advanceToken hdX11_advanceToken rfl ⟨by decide, by decide⟩ hP hS (mrec hP) hl.1 (Nat.le_of_ble_eq_true rfl) ⟨Nat.le_refl _, Nat.le_refl _⟩ dX11_takesNewName_110 (As := []) (rest := []) rfl (fun H locs hP hS => ?_)
  exact kX11_takesNewName_113 X hret hf hP hS (lv_sub hl [0] rfl)
set_option maxRecDepth 10000 in
theorem kX11_takesNewName_94 {r : Int32} {S1 : MS} {M : MS} {H : Heap} {locs : List Loc} {ls : Array Slot} (X : gX p s m args c cX11_takesNewName 5 RX11 (kR kTab kA)) (hret : gRetI p l e (rmL 4 0 0) s m args below meth c cX11_takesNewName (mΩ ad) (mP dC dI cI kA ad) Q r S1) (hf : fX11_takesNewName_94 M = some (r, S1)) (hP : (mP dC dI cI kA ad) M s H) (hS : va_S (Fr (mΩ ad) s.heap.size) s.heap H locs) (hl : lv_has ls 5 [(0, .ref (ad 25))]) : W p l e (rmL 4 0 0) s m args below meth c H locs 0 0 Q (F0 m 94 ls []) := by
  have hx := X.hx
  have hb := X.hb
  have hown := X.hown
  have hts := X.hts
  rw [fX11_takesNewName_94] at hf
  refine lv_aload_n hx hb dX11_takesNewName_94 rfl (lv_at hl 0 rfl) ?_
  refine mr_get (k := 19) X hP (by decide) rfl rfl tw1684 dX11_takesNewName_95 ?_
  refine lv_iconst (v := 3) hx hb dX11_takesNewName_98 (by decide) ?_
  refine lv_aload_n hx hb dX11_takesNewName_99 rfl (lv_at hl 0 rfl) ?_
  refine mr_get (k := 14) X hP (by decide) rfl rfl tw1679 dX11_takesNewName_100 ?_
  refine lv_aload_n hx hb dX11_takesNewName_103 rfl (lv_at hl 0 rfl) ?_
  refine mr_get (k := 15) X hP (by decide) rfl rfl tw1680 dX11_takesNewName_104 ?_
  refine lv_isub hx hb dX11_takesNewName_107 ?_
  obtain ⟨g1, hf⟩ := gd hf
  refine mr_ast (a := 19) X hP hS rfl g1 dX11_takesNewName_108 (fun H locs hP hS => ?_)
  exact kX11_takesNewName_109 X hret hf hP hS (lv_sub hl [0] rfl)
set_option maxRecDepth 10000 in
theorem kX11_takesNewName_88 {r : Int32} {S1 : MS} {K40 : MS → Int32 → Int32 → Option (Int32 × MS)} {M : MS} {x3 : Int32} {x4 : Int32} {H : Heap} {locs : List Loc} {ls : Array Slot} (X : gX p s m args c cX11_takesNewName 5 RX11 (kR kTab kA)) (hret : gRetI p l e (rmL 4 0 0) s m args below meth c cX11_takesNewName (mΩ ad) (mP dC dI cI kA ad) Q r S1) (hK40 : ∀ (M : MS) (x3 : Int32) (x4 : Int32) (H : Heap) (locs : List Loc) (ls : Array Slot), K40 M x3 x4 = some (r, S1) → (mP dC dI cI kA ad) M s H → va_S (Fr (mΩ ad) s.heap.size) s.heap H locs → lv_has ls 5 [(0, .ref (ad 25)), (3, .int x3), (4, .int x4)] → W p l e (rmL 4 0 0) s m args below meth c H locs 0 0 Q (F0 m 40 ls [])) (hf : fX11_takesNewName_88 K40 M x3 x4 = some (r, S1)) (hP : (mP dC dI cI kA ad) M s H) (hS : va_S (Fr (mΩ ad) s.heap.size) s.heap H locs) (hl : lv_has ls 5 [(0, .ref (ad 25)), (3, .int x3), (4, .int x4)]) : W p l e (rmL 4 0 0) s m args below meth c H locs 0 0 Q (F0 m 88 ls []) := by
  have hx := X.hx
  have hb := X.hb
  have hown := X.hown
  have hts := X.hts
  rw [fX11_takesNewName_88] at hf
  refine lv_iinc (v := (x4 + 1)) (lv' := [(4, .int (x4 + 1)), (0, .ref (ad 25)), (3, .int x3)]) hx hb dX11_takesNewName_88 hl (k := 2) rfl (by rfl) (by decide) rfl (fun ls hl => ?_)
  refine lv_goto (tgt := 40) hx hb dX11_takesNewName_91 (by decide) ?_
  exact hK40 _ _ _ _ _ _ hf hP hS (lv_sub hl [1, 2, 0] rfl)
set_option maxRecDepth 10000 in
theorem kX11_takesNewName_87 {r : Int32} {S1 : MS} {K40 : MS → Int32 → Int32 → Option (Int32 × MS)} {M : MS} {x3 : Int32} {x4 : Int32} {s0 : Int32} {s1 : Int32} {H : Heap} {locs : List Loc} {ls : Array Slot} (X : gX p s m args c cX11_takesNewName 5 RX11 (kR kTab kA)) (hret : gRetI p l e (rmL 4 0 0) s m args below meth c cX11_takesNewName (mΩ ad) (mP dC dI cI kA ad) Q r S1) (hK40 : ∀ (M : MS) (x3 : Int32) (x4 : Int32) (H : Heap) (locs : List Loc) (ls : Array Slot), K40 M x3 x4 = some (r, S1) → (mP dC dI cI kA ad) M s H → va_S (Fr (mΩ ad) s.heap.size) s.heap H locs → lv_has ls 5 [(0, .ref (ad 25)), (3, .int x3), (4, .int x4)] → W p l e (rmL 4 0 0) s m args below meth c H locs 0 0 Q (F0 m 40 ls [])) (hf : fX11_takesNewName_87 K40 M x3 x4 s0 s1 = some (r, S1)) (hP : (mP dC dI cI kA ad) M s H) (hS : va_S (Fr (mΩ ad) s.heap.size) s.heap H locs) (hl : lv_has ls 5 [(0, .ref (ad 25)), (3, .int x3), (4, .int x4)]) : W p l e (rmL 4 0 0) s m args below meth c H locs 0 0 Q (F0 m 87 ls [.int s0, .int s1, .ref (ad 0)]) := by
  have hx := X.hx
  have hb := X.hb
  have hown := X.hown
  have hts := X.hts
  rw [fX11_takesNewName_87] at hf
  obtain ⟨g1, hf⟩ := gd hf
  refine mr_ast (a := 0) X hP hS rfl g1 dX11_takesNewName_87 (fun H locs hP hS => ?_)
  exact kX11_takesNewName_88 X hret hK40 hf hP hS (lv_sub hl [0, 1, 2] rfl)
set_option maxRecDepth 10000 in
theorem kX11_takesNewName_86 {r : Int32} {S1 : MS} {K40 : MS → Int32 → Int32 → Option (Int32 × MS)} {M : MS} {x3 : Int32} {x4 : Int32} {s0 : Int32} {H : Heap} {locs : List Loc} {ls : Array Slot} (X : gX p s m args c cX11_takesNewName 5 RX11 (kR kTab kA)) (hret : gRetI p l e (rmL 4 0 0) s m args below meth c cX11_takesNewName (mΩ ad) (mP dC dI cI kA ad) Q r S1) (hK40 : ∀ (M : MS) (x3 : Int32) (x4 : Int32) (H : Heap) (locs : List Loc) (ls : Array Slot), K40 M x3 x4 = some (r, S1) → (mP dC dI cI kA ad) M s H → va_S (Fr (mΩ ad) s.heap.size) s.heap H locs → lv_has ls 5 [(0, .ref (ad 25)), (3, .int x3), (4, .int x4)] → W p l e (rmL 4 0 0) s m args below meth c H locs 0 0 Q (F0 m 40 ls [])) (hf : fX11_takesNewName_86 K40 M x3 x4 s0 = some (r, S1)) (hP : (mP dC dI cI kA ad) M s H) (hS : va_S (Fr (mΩ ad) s.heap.size) s.heap H locs) (hl : lv_has ls 5 [(0, .ref (ad 25)), (3, .int x3), (4, .int x4)]) : W p l e (rmL 4 0 0) s m args below meth c H locs 0 0 Q (F0 m 86 ls [.int s0, .ref (ad 0)]) := by
  have hx := X.hx
  have hb := X.hb
  have hown := X.hown
  have hts := X.hts
  rw [fX11_takesNewName_86] at hf
  refine lv_iconst (v := 0) hx hb dX11_takesNewName_86 (by decide) ?_
  exact kX11_takesNewName_87 X hret hK40 hf hP hS (lv_sub hl [0, 1, 2] rfl)
set_option maxRecDepth 10000 in
theorem kX11_takesNewName_71 {r : Int32} {S1 : MS} {K40 : MS → Int32 → Int32 → Option (Int32 × MS)} {M : MS} {x3 : Int32} {x4 : Int32} {s0 : Int32} {H : Heap} {locs : List Loc} {ls : Array Slot} (X : gX p s m args c cX11_takesNewName 5 RX11 (kR kTab kA)) (hret : gRetI p l e (rmL 4 0 0) s m args below meth c cX11_takesNewName (mΩ ad) (mP dC dI cI kA ad) Q r S1) (hK40 : ∀ (M : MS) (x3 : Int32) (x4 : Int32) (H : Heap) (locs : List Loc) (ls : Array Slot), K40 M x3 x4 = some (r, S1) → (mP dC dI cI kA ad) M s H → va_S (Fr (mΩ ad) s.heap.size) s.heap H locs → lv_has ls 5 [(0, .ref (ad 25)), (3, .int x3), (4, .int x4)] → W p l e (rmL 4 0 0) s m args below meth c H locs 0 0 Q (F0 m 40 ls [])) (hf : fX11_takesNewName_71 K40 M x3 x4 s0 = some (r, S1)) (hP : (mP dC dI cI kA ad) M s H) (hS : va_S (Fr (mΩ ad) s.heap.size) s.heap H locs) (hl : lv_has ls 5 [(0, .ref (ad 25)), (3, .int x3), (4, .int x4)]) : W p l e (rmL 4 0 0) s m args below meth c H locs 0 0 Q (F0 m 71 ls [.int s0, .ref (ad 0)]) := by
  have hx := X.hx
  have hb := X.hb
  have hown := X.hown
  have hts := X.hts
  rw [fX11_takesNewName_71] at hf
  refine lv_aload_n hx hb dX11_takesNewName_71 rfl (lv_at hl 0 rfl) ?_
  refine mr_get (k := 8) X hP (by decide) rfl rfl tw1673 dX11_takesNewName_72 ?_
  refine lv_aload_n hx hb dX11_takesNewName_75 rfl (lv_at hl 0 rfl) ?_
  refine mr_get (k := 15) X hP (by decide) rfl rfl tw1680 dX11_takesNewName_76 ?_
  refine lv_iload hx hb dX11_takesNewName_79 (lv_at hl 2 rfl) ?_
  refine lv_iadd hx hb dX11_takesNewName_81 ?_
  obtain ⟨g1, hf⟩ := gd hf
  refine mr_ald (a := 8) X hP rfl g1 dX11_takesNewName_82 ?_
  refine lv_goto (tgt := 87) hx hb dX11_takesNewName_83 (by decide) ?_
  exact kX11_takesNewName_87 X hret hK40 hf hP hS (lv_sub hl [0, 1, 2] rfl)
set_option maxRecDepth 10000 in
theorem kX11_takesNewName_47 {r : Int32} {S1 : MS} {K40 : MS → Int32 → Int32 → Option (Int32 × MS)} {M : MS} {x3 : Int32} {x4 : Int32} {H : Heap} {locs : List Loc} {ls : Array Slot} (X : gX p s m args c cX11_takesNewName 5 RX11 (kR kTab kA)) (hret : gRetI p l e (rmL 4 0 0) s m args below meth c cX11_takesNewName (mΩ ad) (mP dC dI cI kA ad) Q r S1) (hK40 : ∀ (M : MS) (x3 : Int32) (x4 : Int32) (H : Heap) (locs : List Loc) (ls : Array Slot), K40 M x3 x4 = some (r, S1) → (mP dC dI cI kA ad) M s H → va_S (Fr (mΩ ad) s.heap.size) s.heap H locs → lv_has ls 5 [(0, .ref (ad 25)), (3, .int x3), (4, .int x4)] → W p l e (rmL 4 0 0) s m args below meth c H locs 0 0 Q (F0 m 40 ls [])) (hf : fX11_takesNewName_47 K40 M x3 x4 = some (r, S1)) (hP : (mP dC dI cI kA ad) M s H) (hS : va_S (Fr (mΩ ad) s.heap.size) s.heap H locs) (hl : lv_has ls 5 [(0, .ref (ad 25)), (3, .int x3), (4, .int x4)]) : W p l e (rmL 4 0 0) s m args below meth c H locs 0 0 Q (F0 m 47 ls []) := by
  have hx := X.hx
  have hb := X.hb
  have hown := X.hown
  have hts := X.hts
  rw [fX11_takesNewName_47] at hf
  refine lv_aload_n hx hb dX11_takesNewName_47 rfl (lv_at hl 0 rfl) ?_
  refine mr_get (k := 0) X hP (by decide) rfl rfl tw1665 dX11_takesNewName_48 ?_
  refine lv_iload_n hx hb dX11_takesNewName_51 rfl (lv_at hl 1 rfl) ?_
  refine lv_iconst (v := 1) hx hb dX11_takesNewName_52 (by decide) ?_
  refine lv_iadd hx hb dX11_takesNewName_53 ?_
  refine lv_iload hx hb dX11_takesNewName_54 (lv_at hl 2 rfl) ?_
  refine lv_iadd hx hb dX11_takesNewName_56 ?_
  refine lv_iload hx hb dX11_takesNewName_57 (lv_at hl 2 rfl) ?_
  refine lv_aload_n hx hb dX11_takesNewName_59 rfl (lv_at hl 0 rfl) ?_
  refine mr_get (k := 14) X hP (by decide) rfl rfl tw1679 dX11_takesNewName_60 ?_
  refine lv_aload_n hx hb dX11_takesNewName_63 rfl (lv_at hl 0 rfl) ?_
  refine mr_get (k := 15) X hP (by decide) rfl rfl tw1680 dX11_takesNewName_64 ?_
  refine lv_isub hx hb dX11_takesNewName_67 ?_
  refine lv_icmp_ge (tgt := 86) hx hb dX11_takesNewName_68 (by decide) (fun c1 => ?_) (fun c1 => ?_)
  · exact kX11_takesNewName_86 X hret hK40 (ifp c1 hf) hP hS (lv_sub hl [0, 1, 2] rfl)
  · exact kX11_takesNewName_71 X hret hK40 (ifn c1 hf) hP hS (lv_sub hl [0, 1, 2] rfl)
set_option maxRecDepth 10000 in
theorem kX11_takesNewName_40 {r : Int32} {S1 : MS} (X : gX p s m args c cX11_takesNewName 5 RX11 (kR kTab kA)) (hret : gRetI p l e (rmL 4 0 0) s m args below meth c cX11_takesNewName (mΩ ad) (mP dC dI cI kA ad) Q r S1) : ∀ (n : Nat) (M : MS) (x3 : Int32) (x4 : Int32) (H : Heap) (locs : List Loc) (ls : Array Slot), fX11_takesNewName_40 n M x3 x4 = some (r, S1) → (mP dC dI cI kA ad) M s H → va_S (Fr (mΩ ad) s.heap.size) s.heap H locs → lv_has ls 5 [(0, .ref (ad 25)), (3, .int x3), (4, .int x4)] → W p l e (rmL 4 0 0) s m args below meth c H locs 0 0 Q (F0 m 40 ls []) := by
  intro n
  induction n with
  | zero => intro M x3 x4 H locs ls hf; cases hf
  | succ k ih =>
    intro M x3 x4 H locs ls hf hP hS hl
    have hx := X.hx
    have hb := X.hb
    have hown := X.hown
    have hts := X.hts
    rw [fX11_takesNewName_40] at hf
    try dsimp only at hf
    refine lv_iload hx hb dX11_takesNewName_40 (lv_at hl 2 rfl) ?_
    refine lv_bipush (v := 6) hx hb dX11_takesNewName_42 (by decide) ?_
    refine lv_icmp_ge (tgt := 94) hx hb dX11_takesNewName_44 (by decide) (fun c1 => ?_) (fun c1 => ?_)
    · exact kX11_takesNewName_94 X hret (ifp c1 hf) hP hS (lv_sub hl [0] rfl)
    · exact kX11_takesNewName_47 X hret ih (ifn c1 hf) hP hS (lv_sub hl [0, 1, 2] rfl)
set_option maxRecDepth 10000 in
theorem kX11_takesNewName_25 {r : Int32} {S1 : MS} {M : MS} {x1 : Int32} {x2 : Int32} {H : Heap} {locs : List Loc} {ls : Array Slot} (X : gX p s m args c cX11_takesNewName 5 RX11 (kR kTab kA)) (hret : gRetI p l e (rmL 4 0 0) s m args below meth c cX11_takesNewName (mΩ ad) (mP dC dI cI kA ad) Q r S1) (hf : fX11_takesNewName_25 M x1 x2 = some (r, S1)) (hP : (mP dC dI cI kA ad) M s H) (hS : va_S (Fr (mΩ ad) s.heap.size) s.heap H locs) (hl : lv_has ls 5 [(0, .ref (ad 25)), (1, .int x1), (2, .int x2)]) : W p l e (rmL 4 0 0) s m args below meth c H locs 0 0 Q (F0 m 25 ls []) := by
  have hx := X.hx
  have hb := X.hb
  have hown := X.hown
  have hts := X.hts
  rw [fX11_takesNewName_25] at hf
  refine lv_iload_n hx hb dX11_takesNewName_25 rfl (lv_at hl 1 rfl) ?_
  refine lv_bipush (v := 12) hx hb dX11_takesNewName_26 (by decide) ?_
  refine lv_aload_n hx hb dX11_takesNewName_28 rfl (lv_at hl 0 rfl) ?_
  refine mr_get (k := 0) X hP (by decide) rfl rfl tw1665 dX11_takesNewName_29 ?_
  refine lv_iload_n hx hb dX11_takesNewName_32 rfl (lv_at hl 2 rfl) ?_
  obtain ⟨g1, hf⟩ := gd hf
  refine mr_ald (a := 0) X hP rfl g1 dX11_takesNewName_33 ?_
  refine lv_imul hx hb dX11_takesNewName_34 ?_
  refine lv_iadd hx hb dX11_takesNewName_35 ?_
  refine lv_istore_n (lv' := [(3, .int (x1 + (12 * (M.2 0 x2.toNatClampNeg)))), (0, .ref (ad 25)), (1, .int x1), (2, .int x2)]) hx hb dX11_takesNewName_36 rfl hl (by decide) rfl (fun ls hl => ?_)
  refine lv_iconst (v := 0) hx hb dX11_takesNewName_37 (by decide) ?_
  refine lv_istore (lv' := [(4, .int 0), (3, .int (x1 + (12 * (M.2 0 x2.toNatClampNeg)))), (0, .ref (ad 25)), (1, .int x1), (2, .int x2)]) hx hb dX11_takesNewName_38 hl (by decide) rfl (fun ls hl => ?_)
  exact kX11_takesNewName_40 X hret FU _ _ _ _ _ _ hf hP hS (lv_sub hl [2, 1, 0] rfl)
set_option maxRecDepth 10000 in
theorem kX11_takesNewName_24 {r : Int32} {S1 : MS} {M : MS} {s0 : Int32} {H : Heap} {locs : List Loc} {ls : Array Slot} (X : gX p s m args c cX11_takesNewName 5 RX11 (kR kTab kA)) (hret : gRetI p l e (rmL 4 0 0) s m args below meth c cX11_takesNewName (mΩ ad) (mP dC dI cI kA ad) Q r S1) (hf : fX11_takesNewName_24 M s0 = some (r, S1)) (hP : (mP dC dI cI kA ad) M s H) (hS : va_S (Fr (mΩ ad) s.heap.size) s.heap H locs) (hl : lv_has ls 5 [(0, .ref (ad 25))]) : W p l e (rmL 4 0 0) s m args below meth c H locs 0 0 Q (F0 m 24 ls [.int s0]) := by
  have hx := X.hx
  have hb := X.hb
  have hown := X.hown
  have hts := X.hts
  rw [fX11_takesNewName_24] at hf
  cases hf
  exact hret _ _ _ _ dX11_takesNewName_24 hP hS
set_option maxRecDepth 10000 in
theorem kX11_takesNewName_19 {r : Int32} {S1 : MS} {M : MS} {H : Heap} {locs : List Loc} {ls : Array Slot} (X : gX p s m args c cX11_takesNewName 5 RX11 (kR kTab kA)) (hret : gRetI p l e (rmL 4 0 0) s m args below meth c cX11_takesNewName (mΩ ad) (mP dC dI cI kA ad) Q r S1) (hf : fX11_takesNewName_19 M = some (r, S1)) (hP : (mP dC dI cI kA ad) M s H) (hS : va_S (Fr (mΩ ad) s.heap.size) s.heap H locs) (hl : lv_has ls 5 [(0, .ref (ad 25))]) : W p l e (rmL 4 0 0) s m args below meth c H locs 0 0 Q (F0 m 19 ls []) := by
  have hx := X.hx
  have hb := X.hb
  have hown := X.hown
  have hts := X.hts
  rw [fX11_takesNewName_19] at hf
  refine lv_aload_n hx hb dX11_takesNewName_19 rfl (lv_at hl 0 rfl) ?_
  refine lv_iconst (v := 3) hx hb dX11_takesNewName_20 (by decide) ?_
  obtain ⟨q, hc, hf⟩ := bd hf
  refine gCallVI X mOK rfl (vX11_failsAt hc) gRX11_X11_failsAt hdX11_failsAt rfl ⟨by decide, by decide⟩ hP hS (mrec hP) hl.1 (Nat.le_of_ble_eq_true rfl) ⟨Nat.le_refl _, Nat.le_refl _⟩ dX11_takesNewName_21 (As := [.int 3]) (rest := []) rfl (fun H locs hP hS => ?_)
  exact kX11_takesNewName_24 X hret hf hP hS (lv_sub hl [0] rfl)
set_option maxRecDepth 10000 in
theorem kX11_takesNewName_15 {r : Int32} {S1 : MS} {M : MS} {x1 : Int32} {x2 : Int32} {s0 : Int32} {H : Heap} {locs : List Loc} {ls : Array Slot} (X : gX p s m args c cX11_takesNewName 5 RX11 (kR kTab kA)) (hret : gRetI p l e (rmL 4 0 0) s m args below meth c cX11_takesNewName (mΩ ad) (mP dC dI cI kA ad) Q r S1) (hf : fX11_takesNewName_15 M x1 x2 s0 = some (r, S1)) (hP : (mP dC dI cI kA ad) M s H) (hS : va_S (Fr (mΩ ad) s.heap.size) s.heap H locs) (hl : lv_has ls 5 [(0, .ref (ad 25)), (1, .int x1), (2, .int x2)]) : W p l e (rmL 4 0 0) s m args below meth c H locs 0 0 Q (F0 m 15 ls [.int s0]) := by
  have hx := X.hx
  have hb := X.hb
  have hown := X.hown
  have hts := X.hts
  rw [fX11_takesNewName_15] at hf
  refine lv_iconst (v := (-1)) hx hb dX11_takesNewName_15 (by decide) ?_
  refine lv_icmp_eq (tgt := 25) hx hb dX11_takesNewName_16 (by decide) (fun c1 => ?_) (fun c1 => ?_)
  · exact kX11_takesNewName_25 X hret (ifp c1 hf) hP hS (lv_sub hl [0, 1, 2] rfl)
  · exact kX11_takesNewName_19 X hret (ifn c1 hf) hP hS (lv_sub hl [0] rfl)
set_option maxRecDepth 10000 in
theorem kX11_takesNewName_9 {r : Int32} {S1 : MS} {M : MS} {x1 : Int32} {x2 : Int32} {H : Heap} {locs : List Loc} {ls : Array Slot} (X : gX p s m args c cX11_takesNewName 5 RX11 (kR kTab kA)) (hret : gRetI p l e (rmL 4 0 0) s m args below meth c cX11_takesNewName (mΩ ad) (mP dC dI cI kA ad) Q r S1) (hf : fX11_takesNewName_9 M x1 x2 = some (r, S1)) (hP : (mP dC dI cI kA ad) M s H) (hS : va_S (Fr (mΩ ad) s.heap.size) s.heap H locs) (hl : lv_has ls 5 [(0, .ref (ad 25)), (1, .int x1), (2, .int x2)]) : W p l e (rmL 4 0 0) s m args below meth c H locs 0 0 Q (F0 m 9 ls []) := by
  have hx := X.hx
  have hb := X.hb
  have hown := X.hown
  have hts := X.hts
  rw [fX11_takesNewName_9] at hf
  refine lv_aload_n hx hb dX11_takesNewName_9 rfl (lv_at hl 0 rfl) ?_
  refine lv_iload_n hx hb dX11_takesNewName_10 rfl (lv_at hl 1 rfl) ?_
  refine lv_iload_n hx hb dX11_takesNewName_11 rfl (lv_at hl 2 rfl) ?_
  obtain ⟨q, hc, hf⟩ := bd hf
  refine gCallVR X rfl (vX11_nameHere hc) gRX11_X11_nameHere hdX11_nameHere rfl ⟨by decide, by decide⟩ (gB_blind mOK) (gB_at mOK X hP) (mrec hP) hl.1 (Nat.le_of_ble_eq_true rfl) ⟨Nat.le_refl _, Nat.le_refl _⟩ dX11_takesNewName_12 (As := [.int x1, .int x2]) (rest := []) rfl ?_
  exact kX11_takesNewName_15 X hret hf hP hS (lv_sub hl [0, 1, 2] rfl)
set_option maxRecDepth 10000 in
theorem kX11_takesNewName_7 {r : Int32} {S1 : MS} {M : MS} {H : Heap} {locs : List Loc} {ls : Array Slot} (X : gX p s m args c cX11_takesNewName 5 RX11 (kR kTab kA)) (hret : gRetI p l e (rmL 4 0 0) s m args below meth c cX11_takesNewName (mΩ ad) (mP dC dI cI kA ad) Q r S1) (hf : fX11_takesNewName_7 M = some (r, S1)) (hP : (mP dC dI cI kA ad) M s H) (hS : va_S (Fr (mΩ ad) s.heap.size) s.heap H locs) (hl : lv_has ls 5 [(0, .ref (ad 25))]) : W p l e (rmL 4 0 0) s m args below meth c H locs 0 0 Q (F0 m 7 ls []) := by
  have hx := X.hx
  have hb := X.hb
  have hown := X.hown
  have hts := X.hts
  rw [fX11_takesNewName_7] at hf
  refine lv_iconst (v := 0) hx hb dX11_takesNewName_7 (by decide) ?_
  cases hf
  exact hret _ _ _ _ dX11_takesNewName_8 hP hS
set_option maxRecDepth 10000 in
theorem kX11_takesNewName_4 {r : Int32} {S1 : MS} {M : MS} {x1 : Int32} {x2 : Int32} {s0 : Int32} {H : Heap} {locs : List Loc} {ls : Array Slot} (X : gX p s m args c cX11_takesNewName 5 RX11 (kR kTab kA)) (hret : gRetI p l e (rmL 4 0 0) s m args below meth c cX11_takesNewName (mΩ ad) (mP dC dI cI kA ad) Q r S1) (hf : fX11_takesNewName_4 M x1 x2 s0 = some (r, S1)) (hP : (mP dC dI cI kA ad) M s H) (hS : va_S (Fr (mΩ ad) s.heap.size) s.heap H locs) (hl : lv_has ls 5 [(0, .ref (ad 25)), (1, .int x1), (2, .int x2)]) : W p l e (rmL 4 0 0) s m args below meth c H locs 0 0 Q (F0 m 4 ls [.int s0]) := by
  have hx := X.hx
  have hb := X.hb
  have hown := X.hown
  have hts := X.hts
  rw [fX11_takesNewName_4] at hf
  refine lv_if_ne (tgt := 9) hx hb dX11_takesNewName_4 (by decide) (fun c1 => ?_) (fun c1 => ?_)
  · exact kX11_takesNewName_9 X hret (ifn c1 hf) hP hS (lv_sub hl [0, 1, 2] rfl)
  · exact kX11_takesNewName_7 X hret (ifp c1 hf) hP hS (lv_sub hl [0] rfl)
set_option maxRecDepth 10000 in
theorem kX11_takesNewName_0 {r : Int32} {S1 : MS} {M : MS} {a1 : Int32} {a2 : Int32} {H : Heap} {locs : List Loc} {ls : Array Slot} (X : gX p s m args c cX11_takesNewName 5 RX11 (kR kTab kA)) (hret : gRetI p l e (rmL 4 0 0) s m args below meth c cX11_takesNewName (mΩ ad) (mP dC dI cI kA ad) Q r S1) (hf : fX11_takesNewName_0 M a1 a2 = some (r, S1)) (hP : (mP dC dI cI kA ad) M s H) (hS : va_S (Fr (mΩ ad) s.heap.size) s.heap H locs) (hl : lv_has ls 5 [(0, .ref (ad 25)), (1, .int a1), (2, .int a2)]) : W p l e (rmL 4 0 0) s m args below meth c H locs 0 0 Q (F0 m 0 ls []) := by
  have hx := X.hx
  have hb := X.hb
  have hown := X.hown
  have hts := X.hts
  rw [fX11_takesNewName_0] at hf
  refine lv_aload_n hx hb dX11_takesNewName_0 rfl (lv_at hl 0 rfl) ?_
  obtain ⟨q, hc, hf⟩ := bd hf
  refine gCallVI X mOK rfl (vX11_seesName hc) gRX11_X11_seesName hdX11_seesName rfl ⟨by decide, by decide⟩ hP hS (mrec hP) hl.1 (Nat.le_of_ble_eq_true rfl) ⟨Nat.le_refl _, Nat.le_refl _⟩ dX11_takesNewName_1 (As := []) (rest := []) rfl (fun H locs hP hS => ?_)
  exact kX11_takesNewName_4 X hret hf hP hS (lv_sub hl [0, 1, 2] rfl)
theorem vX11_takesNewName {l : Launch} {dC : Nat → ClassId} {dI : Nat → Nat → Nat} {cI : ClassId} {kA : String → Nat → Nat} {ad : Nat → Nat} {M S1 : MS} {r : Int32} {a1 : Int32} {a2 : Int32} (hf : fX11_takesNewName M a1 a2 = some (r, S1)) : gMetI l yX11_takesNewName cX11_takesNewName 5 (some .boolean) 4 (mΩ ad) (mP dC dI cI kA ad) (kR kTab kA) [.ref (ad 25), .int a1, .int a2] M r S1 := gEntryI (ty := .boolean) (by decide) rfl (bz_n hf) mOK (Nat.le_of_ble_eq_true rfl) (fun p e s m args below meth c Q ls X hP hS hret hl => 
  kX11_takesNewName_0 X hret (bz_f hf) hP hS (lv_sub hl [0, 1, 2] rfl))
set_option maxRecDepth 10000 in
theorem kX11_takesChoice_28 {r : Int32} {S1 : MS} {M : MS} {H : Heap} {locs : List Loc} {ls : Array Slot} (X : gX p s m args c cX11_takesChoice 4 RX11 (kR kTab kA)) (hret : gRetI p l e (rmL 4 0 0) s m args below meth c cX11_takesChoice (mΩ ad) (mP dC dI cI kA ad) Q r S1) (hf : fX11_takesChoice_28 M = some (r, S1)) (hP : (mP dC dI cI kA ad) M s H) (hS : va_S (Fr (mΩ ad) s.heap.size) s.heap H locs) (hl : lv_has ls 4 [(0, .ref (ad 25))]) : W p l e (rmL 4 0 0) s m args below meth c H locs 0 0 Q (F0 m 28 ls []) := by
  have hx := X.hx
  have hb := X.hb
  have hown := X.hown
  have hts := X.hts
  rw [fX11_takesChoice_28] at hf
  refine lv_iconst (v := 1) hx hb dX11_takesChoice_28 (by decide) ?_
  cases hf
  exact hret _ _ _ _ dX11_takesChoice_29 hP hS
set_option maxRecDepth 10000 in
theorem kX11_takesChoice_24 {r : Int32} {S1 : MS} {M : MS} {H : Heap} {locs : List Loc} {ls : Array Slot} (X : gX p s m args c cX11_takesChoice 4 RX11 (kR kTab kA)) (hret : gRetI p l e (rmL 4 0 0) s m args below meth c cX11_takesChoice (mΩ ad) (mP dC dI cI kA ad) Q r S1) (hf : fX11_takesChoice_24 M = some (r, S1)) (hP : (mP dC dI cI kA ad) M s H) (hS : va_S (Fr (mΩ ad) s.heap.size) s.heap H locs) (hl : lv_has ls 4 [(0, .ref (ad 25))]) : W p l e (rmL 4 0 0) s m args below meth c H locs 0 0 Q (F0 m 24 ls []) := by
  have hx := X.hx
  have hb := X.hb
  have hown := X.hown
  have hts := X.hts
  rw [fX11_takesChoice_24] at hf
  refine lv_aload_n hx hb dX11_takesChoice_24 rfl (lv_at hl 0 rfl) ?_
  obtain ⟨q, hc, hf⟩ := bd hf
  refine gCallVV X mOK rfl (vX11_advanceToken hc) gRX11_X11_advanceToken hdX11_advanceToken rfl ⟨by decide, by decide⟩ hP hS (mrec hP) hl.1 (Nat.le_of_ble_eq_true rfl) ⟨Nat.le_refl _, Nat.le_refl _⟩ dX11_takesChoice_25 (As := []) (rest := []) rfl (fun H locs hP hS => ?_)
  exact kX11_takesChoice_28 X hret hf hP hS (lv_sub hl [0] rfl)
set_option maxRecDepth 10000 in
theorem kX11_takesChoice_23 {r : Int32} {S1 : MS} {M : MS} {s0 : Int32} {s1 : Int32} {H : Heap} {locs : List Loc} {ls : Array Slot} (X : gX p s m args c cX11_takesChoice 4 RX11 (kR kTab kA)) (hret : gRetI p l e (rmL 4 0 0) s m args below meth c cX11_takesChoice (mΩ ad) (mP dC dI cI kA ad) Q r S1) (hf : fX11_takesChoice_23 M s0 s1 = some (r, S1)) (hP : (mP dC dI cI kA ad) M s H) (hS : va_S (Fr (mΩ ad) s.heap.size) s.heap H locs) (hl : lv_has ls 4 [(0, .ref (ad 25))]) : W p l e (rmL 4 0 0) s m args below meth c H locs 0 0 Q (F0 m 23 ls [.int s0, .int s1, .ref (ad 19)]) := by
  have hx := X.hx
  have hb := X.hb
  have hown := X.hown
  have hts := X.hts
  rw [fX11_takesChoice_23] at hf
  obtain ⟨g1, hf⟩ := gd hf
  refine mr_ast (a := 19) X hP hS rfl g1 dX11_takesChoice_23 (fun H locs hP hS => ?_)
  exact kX11_takesChoice_24 X hret hf hP hS (lv_sub hl [0] rfl)
set_option maxRecDepth 10000 in
theorem kX11_takesChoice_14 {r : Int32} {S1 : MS} {M : MS} {x1 : Int32} {x2 : Int32} {H : Heap} {locs : List Loc} {ls : Array Slot} (X : gX p s m args c cX11_takesChoice 4 RX11 (kR kTab kA)) (hret : gRetI p l e (rmL 4 0 0) s m args below meth c cX11_takesChoice (mΩ ad) (mP dC dI cI kA ad) Q r S1) (hf : fX11_takesChoice_14 M x1 x2 = some (r, S1)) (hP : (mP dC dI cI kA ad) M s H) (hS : va_S (Fr (mΩ ad) s.heap.size) s.heap H locs) (hl : lv_has ls 4 [(0, .ref (ad 25)), (1, .int x1), (2, .int x2)]) : W p l e (rmL 4 0 0) s m args below meth c H locs 0 0 Q (F0 m 14 ls []) := by
  have hx := X.hx
  have hb := X.hb
  have hown := X.hown
  have hts := X.hts
  rw [fX11_takesChoice_14] at hf
  refine lv_aload_n hx hb dX11_takesChoice_14 rfl (lv_at hl 0 rfl) ?_
  refine mr_get (k := 19) X hP (by decide) rfl rfl tw1684 dX11_takesChoice_15 ?_
  refine lv_iload_n hx hb dX11_takesChoice_18 rfl (lv_at hl 1 rfl) ?_
  refine lv_iload_n hx hb dX11_takesChoice_19 rfl (lv_at hl 2 rfl) ?_
  obtain ⟨q, hc, hf⟩ := bd hf
  refine gCallSR X rfl (vX11_one hc) gRX11_X11_one hdX11_one rfl ⟨by decide, by decide⟩ (gB_blind mOK) (gB_at mOK X hP) hl.1 (Nat.le_of_ble_eq_true rfl) ⟨Nat.le_refl _, Nat.le_refl _⟩ dX11_takesChoice_20 (As := [.int x2]) (rest := [.int x1, .ref (ad 19)]) rfl ?_
  exact kX11_takesChoice_23 X hret hf hP hS (lv_sub hl [0] rfl)
set_option maxRecDepth 10000 in
theorem kX11_takesChoice_13 {r : Int32} {S1 : MS} {M : MS} {s0 : Int32} {H : Heap} {locs : List Loc} {ls : Array Slot} (X : gX p s m args c cX11_takesChoice 4 RX11 (kR kTab kA)) (hret : gRetI p l e (rmL 4 0 0) s m args below meth c cX11_takesChoice (mΩ ad) (mP dC dI cI kA ad) Q r S1) (hf : fX11_takesChoice_13 M s0 = some (r, S1)) (hP : (mP dC dI cI kA ad) M s H) (hS : va_S (Fr (mΩ ad) s.heap.size) s.heap H locs) (hl : lv_has ls 4 [(0, .ref (ad 25))]) : W p l e (rmL 4 0 0) s m args below meth c H locs 0 0 Q (F0 m 13 ls [.int s0]) := by
  have hx := X.hx
  have hb := X.hb
  have hown := X.hown
  have hts := X.hts
  rw [fX11_takesChoice_13] at hf
  cases hf
  exact hret _ _ _ _ dX11_takesChoice_13 hP hS
set_option maxRecDepth 10000 in
theorem kX11_takesChoice_8 {r : Int32} {S1 : MS} {M : MS} {H : Heap} {locs : List Loc} {ls : Array Slot} (X : gX p s m args c cX11_takesChoice 4 RX11 (kR kTab kA)) (hret : gRetI p l e (rmL 4 0 0) s m args below meth c cX11_takesChoice (mΩ ad) (mP dC dI cI kA ad) Q r S1) (hf : fX11_takesChoice_8 M = some (r, S1)) (hP : (mP dC dI cI kA ad) M s H) (hS : va_S (Fr (mΩ ad) s.heap.size) s.heap H locs) (hl : lv_has ls 4 [(0, .ref (ad 25))]) : W p l e (rmL 4 0 0) s m args below meth c H locs 0 0 Q (F0 m 8 ls []) := by
  have hx := X.hx
  have hb := X.hb
  have hown := X.hown
  have hts := X.hts
  rw [fX11_takesChoice_8] at hf
  refine lv_aload_n hx hb dX11_takesChoice_8 rfl (lv_at hl 0 rfl) ?_
  refine lv_iconst (v := 1) hx hb dX11_takesChoice_9 (by decide) ?_
  obtain ⟨q, hc, hf⟩ := bd hf
  refine gCallVI X mOK rfl (vX11_failsAt hc) gRX11_X11_failsAt hdX11_failsAt rfl ⟨by decide, by decide⟩ hP hS (mrec hP) hl.1 (Nat.le_of_ble_eq_true rfl) ⟨Nat.le_refl _, Nat.le_refl _⟩ dX11_takesChoice_10 (As := [.int 1]) (rest := []) rfl (fun H locs hP hS => ?_)
  exact kX11_takesChoice_13 X hret hf hP hS (lv_sub hl [0] rfl)
set_option maxRecDepth 10000 in
theorem kX11_takesChoice_4 {r : Int32} {S1 : MS} {M : MS} {x1 : Int32} {x2 : Int32} {x3 : Int32} {H : Heap} {locs : List Loc} {ls : Array Slot} (X : gX p s m args c cX11_takesChoice 4 RX11 (kR kTab kA)) (hret : gRetI p l e (rmL 4 0 0) s m args below meth c cX11_takesChoice (mΩ ad) (mP dC dI cI kA ad) Q r S1) (hf : fX11_takesChoice_4 M x1 x2 x3 = some (r, S1)) (hP : (mP dC dI cI kA ad) M s H) (hS : va_S (Fr (mΩ ad) s.heap.size) s.heap H locs) (hl : lv_has ls 4 [(0, .ref (ad 25)), (1, .int x1), (2, .int x2), (3, .int x3)]) : W p l e (rmL 4 0 0) s m args below meth c H locs 0 0 Q (F0 m 4 ls []) := by
  have hx := X.hx
  have hb := X.hb
  have hown := X.hown
  have hts := X.hts
  rw [fX11_takesChoice_4] at hf
  refine lv_iload_n hx hb dX11_takesChoice_4 rfl (lv_at hl 3 rfl) ?_
  refine lv_if_ne (tgt := 14) hx hb dX11_takesChoice_5 (by decide) (fun c1 => ?_) (fun c1 => ?_)
  · exact kX11_takesChoice_14 X hret (ifn c1 hf) hP hS (lv_sub hl [0, 1, 2] rfl)
  · exact kX11_takesChoice_8 X hret (ifp c1 hf) hP hS (lv_sub hl [0] rfl)
set_option maxRecDepth 10000 in
theorem kX11_takesChoice_0 {r : Int32} {S1 : MS} {M : MS} {a1 : Int32} {a2 : Int32} {a3 : Int32} {H : Heap} {locs : List Loc} {ls : Array Slot} (X : gX p s m args c cX11_takesChoice 4 RX11 (kR kTab kA)) (hret : gRetI p l e (rmL 4 0 0) s m args below meth c cX11_takesChoice (mΩ ad) (mP dC dI cI kA ad) Q r S1) (hf : fX11_takesChoice_0 M a1 a2 a3 = some (r, S1)) (hP : (mP dC dI cI kA ad) M s H) (hS : va_S (Fr (mΩ ad) s.heap.size) s.heap H locs) (hl : lv_has ls 4 [(0, .ref (ad 25)), (1, .int a1), (2, .int a2), (3, .int a3)]) : W p l e (rmL 4 0 0) s m args below meth c H locs 0 0 Q (F0 m 0 ls []) := by
  have hx := X.hx
  have hb := X.hb
  have hown := X.hown
  have hts := X.hts
  rw [fX11_takesChoice_0] at hf
  refine lv_iload_n hx hb dX11_takesChoice_0 rfl (lv_at hl 2 rfl) ?_
  refine lv_if_ne (tgt := 14) hx hb dX11_takesChoice_1 (by decide) (fun c1 => ?_) (fun c1 => ?_)
  · exact kX11_takesChoice_14 X hret (ifn c1 hf) hP hS (lv_sub hl [0, 1, 2] rfl)
  · exact kX11_takesChoice_4 X hret (ifp c1 hf) hP hS (lv_sub hl [0, 1, 2, 3] rfl)
theorem vX11_takesChoice {l : Launch} {dC : Nat → ClassId} {dI : Nat → Nat → Nat} {cI : ClassId} {kA : String → Nat → Nat} {ad : Nat → Nat} {M S1 : MS} {r : Int32} {a1 : Int32} {a2 : Int32} {a3 : Int32} (hf : fX11_takesChoice M a1 a2 a3 = some (r, S1)) : gMetI l yX11_takesChoice cX11_takesChoice 4 (some .boolean) 4 (mΩ ad) (mP dC dI cI kA ad) (kR kTab kA) [.ref (ad 25), .int a1, .int a2, .int a3] M r S1 := gEntryI (ty := .boolean) (by decide) rfl (bz_n hf) mOK (Nat.le_of_ble_eq_true rfl) (fun p e s m args below meth c Q ls X hP hS hret hl => 
  kX11_takesChoice_0 X hret (bz_f hf) hP hS (lv_sub hl [0, 1, 2, 3] rfl))
set_option maxRecDepth 10000 in
theorem kX11_startsText_24 {S1 : MS} {M : MS} {H : Heap} {locs : List Loc} {ls : Array Slot} (X : gX p s m args c cX11_startsText 1 RX11 (kR kTab kA)) (hret : gRetV p l e (rmL 4 0 0) s m args below meth c cX11_startsText (mΩ ad) (mP dC dI cI kA ad) Q S1) (hf : fX11_startsText_24 M = some S1) (hP : (mP dC dI cI kA ad) M s H) (hS : va_S (Fr (mΩ ad) s.heap.size) s.heap H locs) (hl : lv_has ls 1 [(0, .ref (ad 25))]) : W p l e (rmL 4 0 0) s m args below meth c H locs 0 0 Q (F0 m 24 ls []) := by
  have hx := X.hx
  have hb := X.hb
  have hown := X.hown
  have hts := X.hts
  rw [fX11_startsText_24] at hf
  cases hf
  exact hret _ _ _ _ dX11_startsText_24 hP hS
set_option maxRecDepth 10000 in
theorem kX11_startsText_20 {S1 : MS} {M : MS} {H : Heap} {locs : List Loc} {ls : Array Slot} (X : gX p s m args c cX11_startsText 1 RX11 (kR kTab kA)) (hret : gRetV p l e (rmL 4 0 0) s m args below meth c cX11_startsText (mΩ ad) (mP dC dI cI kA ad) Q S1) (hf : fX11_startsText_20 M = some S1) (hP : (mP dC dI cI kA ad) M s H) (hS : va_S (Fr (mΩ ad) s.heap.size) s.heap H locs) (hl : lv_has ls 1 [(0, .ref (ad 25))]) : W p l e (rmL 4 0 0) s m args below meth c H locs 0 0 Q (F0 m 20 ls []) := by
  have hx := X.hx
  have hb := X.hb
  have hown := X.hown
  have hts := X.hts
  rw [fX11_startsText_20] at hf
  refine lv_aload_n hx hb dX11_startsText_20 rfl (lv_at hl 0 rfl) ?_
  obtain ⟨q, hc, hf⟩ := bd hf
  refine gCallVV X mOK rfl (vX11_advanceToken hc) gRX11_X11_advanceToken hdX11_advanceToken rfl ⟨by decide, by decide⟩ hP hS (mrec hP) hl.1 (Nat.le_of_ble_eq_true rfl) ⟨Nat.le_refl _, Nat.le_refl _⟩ dX11_startsText_21 (As := []) (rest := []) rfl (fun H locs hP hS => ?_)
  exact kX11_startsText_24 X hret hf hP hS (lv_sub hl [0] rfl)
set_option maxRecDepth 10000 in
theorem kX11_startsText_15 {S1 : MS} {M : MS} {H : Heap} {locs : List Loc} {ls : Array Slot} (X : gX p s m args c cX11_startsText 1 RX11 (kR kTab kA)) (hret : gRetV p l e (rmL 4 0 0) s m args below meth c cX11_startsText (mΩ ad) (mP dC dI cI kA ad) Q S1) (hf : fX11_startsText_15 M = some S1) (hP : (mP dC dI cI kA ad) M s H) (hS : va_S (Fr (mΩ ad) s.heap.size) s.heap H locs) (hl : lv_has ls 1 [(0, .ref (ad 25))]) : W p l e (rmL 4 0 0) s m args below meth c H locs 0 0 Q (F0 m 15 ls []) := by
  have hx := X.hx
  have hb := X.hb
  have hown := X.hown
  have hts := X.hts
  rw [fX11_startsText_15] at hf
  refine lv_aload_n hx hb dX11_startsText_15 rfl (lv_at hl 0 rfl) ?_
  refine lv_iconst (v := 0) hx hb dX11_startsText_16 (by decide) ?_
  refine mr_put (k := 14) X hP hS (by decide) rfl rfl rfl rfl tw1679 dX11_startsText_17 (fun H locs hP hS => ?_)
  exact kX11_startsText_20 X hret hf hP hS (lv_sub hl [0] rfl)
set_option maxRecDepth 10000 in
theorem kX11_startsText_10 {S1 : MS} {M : MS} {H : Heap} {locs : List Loc} {ls : Array Slot} (X : gX p s m args c cX11_startsText 1 RX11 (kR kTab kA)) (hret : gRetV p l e (rmL 4 0 0) s m args below meth c cX11_startsText (mΩ ad) (mP dC dI cI kA ad) Q S1) (hf : fX11_startsText_10 M = some S1) (hP : (mP dC dI cI kA ad) M s H) (hS : va_S (Fr (mΩ ad) s.heap.size) s.heap H locs) (hl : lv_has ls 1 [(0, .ref (ad 25))]) : W p l e (rmL 4 0 0) s m args below meth c H locs 0 0 Q (F0 m 10 ls []) := by
  have hx := X.hx
  have hb := X.hb
  have hown := X.hown
  have hts := X.hts
  rw [fX11_startsText_10] at hf
  refine lv_aload_n hx hb dX11_startsText_10 rfl (lv_at hl 0 rfl) ?_
  refine lv_iconst (v := 0) hx hb dX11_startsText_11 (by decide) ?_
  refine mr_put (k := 22) X hP hS (by decide) rfl rfl rfl rfl tw1687 dX11_startsText_12 (fun H locs hP hS => ?_)
  exact kX11_startsText_15 X hret hf hP hS (lv_sub hl [0] rfl)
set_option maxRecDepth 10000 in
theorem kX11_startsText_5 {S1 : MS} {M : MS} {H : Heap} {locs : List Loc} {ls : Array Slot} (X : gX p s m args c cX11_startsText 1 RX11 (kR kTab kA)) (hret : gRetV p l e (rmL 4 0 0) s m args below meth c cX11_startsText (mΩ ad) (mP dC dI cI kA ad) Q S1) (hf : fX11_startsText_5 M = some S1) (hP : (mP dC dI cI kA ad) M s H) (hS : va_S (Fr (mΩ ad) s.heap.size) s.heap H locs) (hl : lv_has ls 1 [(0, .ref (ad 25))]) : W p l e (rmL 4 0 0) s m args below meth c H locs 0 0 Q (F0 m 5 ls []) := by
  have hx := X.hx
  have hb := X.hb
  have hown := X.hown
  have hts := X.hts
  rw [fX11_startsText_5] at hf
  refine lv_aload_n hx hb dX11_startsText_5 rfl (lv_at hl 0 rfl) ?_
  refine lv_iconst (v := (-1)) hx hb dX11_startsText_6 (by decide) ?_
  refine mr_put (k := 13) X hP hS (by decide) rfl rfl rfl rfl tw1678 dX11_startsText_7 (fun H locs hP hS => ?_)
  exact kX11_startsText_10 X hret hf hP hS (lv_sub hl [0] rfl)
set_option maxRecDepth 10000 in
theorem kX11_startsText_0 {S1 : MS} {M : MS} {H : Heap} {locs : List Loc} {ls : Array Slot} (X : gX p s m args c cX11_startsText 1 RX11 (kR kTab kA)) (hret : gRetV p l e (rmL 4 0 0) s m args below meth c cX11_startsText (mΩ ad) (mP dC dI cI kA ad) Q S1) (hf : fX11_startsText_0 M = some S1) (hP : (mP dC dI cI kA ad) M s H) (hS : va_S (Fr (mΩ ad) s.heap.size) s.heap H locs) (hl : lv_has ls 1 [(0, .ref (ad 25))]) : W p l e (rmL 4 0 0) s m args below meth c H locs 0 0 Q (F0 m 0 ls []) := by
  have hx := X.hx
  have hb := X.hb
  have hown := X.hown
  have hts := X.hts
  rw [fX11_startsText_0] at hf
  refine lv_aload_n hx hb dX11_startsText_0 rfl (lv_at hl 0 rfl) ?_
  refine lv_iconst (v := 0) hx hb dX11_startsText_1 (by decide) ?_
  refine mr_put (k := 12) X hP hS (by decide) rfl rfl rfl rfl tw1677 dX11_startsText_2 (fun H locs hP hS => ?_)
  exact kX11_startsText_5 X hret hf hP hS (lv_sub hl [0] rfl)
theorem vX11_startsText {l : Launch} {dC : Nat → ClassId} {dI : Nat → Nat → Nat} {cI : ClassId} {kA : String → Nat → Nat} {ad : Nat → Nat} {M S1 : MS} (hf : fX11_startsText M  = some S1) : gMetV l yX11_startsText cX11_startsText 1 4 (mΩ ad) (mP dC dI cI kA ad) (kR kTab kA) [.ref (ad 25)] M S1 := gEntryV (by decide) mOK (Nat.le_of_ble_eq_true rfl) (fun p e s m args below meth c Q ls X hP hS hret hl => 
  kX11_startsText_0 X hret hf hP hS (lv_sub hl [0] rfl))
set_option maxRecDepth 10000 in
theorem kX11_oathReason_22 {r : Int32} {S1 : MS} {M : MS} {s0 : Int32} {H : Heap} {locs : List Loc} {ls : Array Slot} (X : gX p s m args c cX11_oathReason 2 RX11 (kR kTab kA)) (hret : gRetI p l e (rmL 4 0 0) s m args below meth c cX11_oathReason (mΩ ad) (mP dC dI cI kA ad) Q r S1) (hf : fX11_oathReason_22 M s0 = some (r, S1)) (hP : (mP dC dI cI kA ad) M s H) (hS : va_S (Fr (mΩ ad) s.heap.size) s.heap H locs) (hl : lv_has ls 2 [(0, .ref (ad 25))]) : W p l e (rmL 4 0 0) s m args below meth c H locs 0 0 Q (F0 m 22 ls [.int s0]) := by
  have hx := X.hx
  have hb := X.hb
  have hown := X.hown
  have hts := X.hts
  rw [fX11_oathReason_22] at hf
  cases hf
  exact hret _ _ _ _ dX11_oathReason_22 hP hS
set_option maxRecDepth 10000 in
theorem kX11_oathReason_17 {r : Int32} {S1 : MS} {M : MS} {x1 : Int32} {H : Heap} {locs : List Loc} {ls : Array Slot} (X : gX p s m args c cX11_oathReason 2 RX11 (kR kTab kA)) (hret : gRetI p l e (rmL 4 0 0) s m args below meth c cX11_oathReason (mΩ ad) (mP dC dI cI kA ad) Q r S1) (hf : fX11_oathReason_17 M x1 = some (r, S1)) (hP : (mP dC dI cI kA ad) M s H) (hS : va_S (Fr (mΩ ad) s.heap.size) s.heap H locs) (hl : lv_has ls 2 [(0, .ref (ad 25)), (1, .int x1)]) : W p l e (rmL 4 0 0) s m args below meth c H locs 0 0 Q (F0 m 17 ls []) := by
  have hx := X.hx
  have hb := X.hb
  have hown := X.hown
  have hts := X.hts
  rw [fX11_oathReason_17] at hf
  refine lv_aload_n hx hb dX11_oathReason_17 rfl (lv_at hl 0 rfl) ?_
  refine lv_iload_n hx hb dX11_oathReason_18 rfl (lv_at hl 1 rfl) ?_
  obtain ⟨q, hc, hf⟩ := bd hf
  refine gCallVR X rfl (vX11_reasonOf hc) gRX11_X11_reasonOf hdX11_reasonOf rfl ⟨by decide, by decide⟩ (gB_blind mOK) (gB_at mOK X hP) (mrec hP) hl.1 (Nat.le_of_ble_eq_true rfl) ⟨Nat.le_refl _, Nat.le_refl _⟩ dX11_oathReason_19 (As := [.int x1]) (rest := []) rfl ?_
  exact kX11_oathReason_22 X hret hf hP hS (lv_sub hl [0] rfl)
set_option maxRecDepth 10000 in
theorem kX11_oathReason_13 {r : Int32} {S1 : MS} {M : MS} {H : Heap} {locs : List Loc} {ls : Array Slot} (X : gX p s m args c cX11_oathReason 2 RX11 (kR kTab kA)) (hret : gRetI p l e (rmL 4 0 0) s m args below meth c cX11_oathReason (mΩ ad) (mP dC dI cI kA ad) Q r S1) (hf : fX11_oathReason_13 M = some (r, S1)) (hP : (mP dC dI cI kA ad) M s H) (hS : va_S (Fr (mΩ ad) s.heap.size) s.heap H locs) (hl : lv_has ls 2 [(0, .ref (ad 25))]) : W p l e (rmL 4 0 0) s m args below meth c H locs 0 0 Q (F0 m 13 ls []) := by
  have hx := X.hx
  have hb := X.hb
  have hown := X.hown
  have hts := X.hts
  rw [fX11_oathReason_13] at hf
  refine lv_iconst (v := 0) hx hb dX11_oathReason_13 (by decide) ?_
  refine lv_goto (tgt := 22) hx hb dX11_oathReason_14 (by decide) ?_
  exact kX11_oathReason_22 X hret hf hP hS (lv_sub hl [0] rfl)
set_option maxRecDepth 10000 in
theorem kX11_oathReason_10 {r : Int32} {S1 : MS} {M : MS} {x1 : Int32} {s0 : Int32} {H : Heap} {locs : List Loc} {ls : Array Slot} (X : gX p s m args c cX11_oathReason 2 RX11 (kR kTab kA)) (hret : gRetI p l e (rmL 4 0 0) s m args below meth c cX11_oathReason (mΩ ad) (mP dC dI cI kA ad) Q r S1) (hf : fX11_oathReason_10 M x1 s0 = some (r, S1)) (hP : (mP dC dI cI kA ad) M s H) (hS : va_S (Fr (mΩ ad) s.heap.size) s.heap H locs) (hl : lv_has ls 2 [(0, .ref (ad 25)), (1, .int x1)]) : W p l e (rmL 4 0 0) s m args below meth c H locs 0 0 Q (F0 m 10 ls [.int s0]) := by
  have hx := X.hx
  have hb := X.hb
  have hown := X.hown
  have hts := X.hts
  rw [fX11_oathReason_10] at hf
  refine lv_if_eq (tgt := 17) hx hb dX11_oathReason_10 (by decide) (fun c1 => ?_) (fun c1 => ?_)
  · exact kX11_oathReason_17 X hret (ifp c1 hf) hP hS (lv_sub hl [0, 1] rfl)
  · exact kX11_oathReason_13 X hret (ifn c1 hf) hP hS (lv_sub hl [0] rfl)
set_option maxRecDepth 10000 in
theorem kX11_oathReason_5 {r : Int32} {S1 : MS} {M : MS} {x1 : Int32} {H : Heap} {locs : List Loc} {ls : Array Slot} (X : gX p s m args c cX11_oathReason 2 RX11 (kR kTab kA)) (hret : gRetI p l e (rmL 4 0 0) s m args below meth c cX11_oathReason (mΩ ad) (mP dC dI cI kA ad) Q r S1) (hf : fX11_oathReason_5 M x1 = some (r, S1)) (hP : (mP dC dI cI kA ad) M s H) (hS : va_S (Fr (mΩ ad) s.heap.size) s.heap H locs) (hl : lv_has ls 2 [(0, .ref (ad 25)), (1, .int x1)]) : W p l e (rmL 4 0 0) s m args below meth c H locs 0 0 Q (F0 m 5 ls []) := by
  have hx := X.hx
  have hb := X.hb
  have hown := X.hown
  have hts := X.hts
  rw [fX11_oathReason_5] at hf
  refine lv_aload_n hx hb dX11_oathReason_5 rfl (lv_at hl 0 rfl) ?_
  refine lv_iload_n hx hb dX11_oathReason_6 rfl (lv_at hl 1 rfl) ?_
  obtain ⟨q, hc, hf⟩ := bd hf
  refine gCallVI X mOK rfl (vX11_noCat hc) gRX11_X11_noCat hdX11_noCat rfl ⟨by decide, by decide⟩ hP hS (mrec hP) hl.1 (Nat.le_of_ble_eq_true rfl) ⟨Nat.le_refl _, Nat.le_refl _⟩ dX11_oathReason_7 (As := [.int x1]) (rest := []) rfl (fun H locs hP hS => ?_)
  exact kX11_oathReason_10 X hret hf hP hS (lv_sub hl [0, 1] rfl)
set_option maxRecDepth 10000 in
theorem kX11_oathReason_0 {r : Int32} {S1 : MS} {M : MS} {a1 : Int32} {H : Heap} {locs : List Loc} {ls : Array Slot} (X : gX p s m args c cX11_oathReason 2 RX11 (kR kTab kA)) (hret : gRetI p l e (rmL 4 0 0) s m args below meth c cX11_oathReason (mΩ ad) (mP dC dI cI kA ad) Q r S1) (hf : fX11_oathReason_0 M a1 = some (r, S1)) (hP : (mP dC dI cI kA ad) M s H) (hS : va_S (Fr (mΩ ad) s.heap.size) s.heap H locs) (hl : lv_has ls 2 [(0, .ref (ad 25)), (1, .int a1)]) : W p l e (rmL 4 0 0) s m args below meth c H locs 0 0 Q (F0 m 0 ls []) := by
  have hx := X.hx
  have hb := X.hb
  have hown := X.hown
  have hts := X.hts
  rw [fX11_oathReason_0] at hf
  refine lv_aload_n hx hb dX11_oathReason_0 rfl (lv_at hl 0 rfl) ?_
  refine lv_iconst (v := 0) hx hb dX11_oathReason_1 (by decide) ?_
  refine mr_put (k := 7) X hP hS (by decide) rfl rfl rfl rfl tw1672 dX11_oathReason_2 (fun H locs hP hS => ?_)
  exact kX11_oathReason_5 X hret hf hP hS (lv_sub hl [0, 1] rfl)
theorem vX11_oathReason {l : Launch} {dC : Nat → ClassId} {dI : Nat → Nat → Nat} {cI : ClassId} {kA : String → Nat → Nat} {ad : Nat → Nat} {M S1 : MS} {r : Int32} {a1 : Int32} (hf : fX11_oathReason M a1 = some (r, S1)) : gMetI l yX11_oathReason cX11_oathReason 2 (some .int) 4 (mΩ ad) (mP dC dI cI kA ad) (kR kTab kA) [.ref (ad 25), .int a1] M r S1 := gEntryI (ty := .int) (by decide) rfl rfl mOK (Nat.le_of_ble_eq_true rfl) (fun p e s m args below meth c Q ls X hP hS hret hl => 
  kX11_oathReason_0 X hret hf hP hS (lv_sub hl [0, 1] rfl))
set_option maxRecDepth 10000 in
theorem kX11_huntingSack_9 {r : Int32} {S1 : MS} {M : MS} {s0 : Int32} {H : Heap} {locs : List Loc} {ls : Array Slot} (X : gX p s m args c cX11_huntingSack 1 RX11 (kR kTab kA)) (hret : gRetI p l e (rmL 4 0 0) s m args below meth c cX11_huntingSack (mΩ ad) (mP dC dI cI kA ad) Q r S1) (hf : fX11_huntingSack_9 M s0 = some (r, S1)) (hP : (mP dC dI cI kA ad) M s H) (hS : va_S (Fr (mΩ ad) s.heap.size) s.heap H locs) (hl : lv_has ls 1 [(0, .ref (ad 25))]) : W p l e (rmL 4 0 0) s m args below meth c H locs 0 0 Q (F0 m 9 ls [.int s0]) := by
  have hx := X.hx
  have hb := X.hb
  have hown := X.hown
  have hts := X.hts
  rw [fX11_huntingSack_9] at hf
  cases hf
  exact hret _ _ _ _ dX11_huntingSack_9 hP hS
set_option maxRecDepth 10000 in
theorem kX11_huntingSack_5 {r : Int32} {S1 : MS} {M : MS} {H : Heap} {locs : List Loc} {ls : Array Slot} (X : gX p s m args c cX11_huntingSack 1 RX11 (kR kTab kA)) (hret : gRetI p l e (rmL 4 0 0) s m args below meth c cX11_huntingSack (mΩ ad) (mP dC dI cI kA ad) Q r S1) (hf : fX11_huntingSack_5 M = some (r, S1)) (hP : (mP dC dI cI kA ad) M s H) (hS : va_S (Fr (mΩ ad) s.heap.size) s.heap H locs) (hl : lv_has ls 1 [(0, .ref (ad 25))]) : W p l e (rmL 4 0 0) s m args below meth c H locs 0 0 Q (F0 m 5 ls []) := by
  have hx := X.hx
  have hb := X.hb
  have hown := X.hown
  have hts := X.hts
  rw [fX11_huntingSack_5] at hf
  refine lv_aload_n hx hb dX11_huntingSack_5 rfl (lv_at hl 0 rfl) ?_
  obtain ⟨q, hc, hf⟩ := bd hf
  refine gCallVR X rfl (vX11_hunted hc) gRX11_X11_hunted hdX11_hunted rfl ⟨by decide, by decide⟩ (gB_blind mOK) (gB_at mOK X hP) (mrec hP) hl.1 (Nat.le_of_ble_eq_true rfl) ⟨Nat.le_refl _, Nat.le_refl _⟩ dX11_huntingSack_6 (As := []) (rest := []) rfl ?_
  exact kX11_huntingSack_9 X hret hf hP hS (lv_sub hl [0] rfl)
set_option maxRecDepth 10000 in
theorem kX11_huntingSack_0 {r : Int32} {S1 : MS} {M : MS} {H : Heap} {locs : List Loc} {ls : Array Slot} (X : gX p s m args c cX11_huntingSack 1 RX11 (kR kTab kA)) (hret : gRetI p l e (rmL 4 0 0) s m args below meth c cX11_huntingSack (mΩ ad) (mP dC dI cI kA ad) Q r S1) (hf : fX11_huntingSack_0 M = some (r, S1)) (hP : (mP dC dI cI kA ad) M s H) (hS : va_S (Fr (mΩ ad) s.heap.size) s.heap H locs) (hl : lv_has ls 1 [(0, .ref (ad 25))]) : W p l e (rmL 4 0 0) s m args below meth c H locs 0 0 Q (F0 m 0 ls []) := by
  have hx := X.hx
  have hb := X.hb
  have hown := X.hown
  have hts := X.hts
  rw [fX11_huntingSack_0] at hf
  refine lv_aload_n hx hb dX11_huntingSack_0 rfl (lv_at hl 0 rfl) ?_
  refine lv_iconst (v := 0) hx hb dX11_huntingSack_1 (by decide) ?_
  refine mr_put (k := 7) X hP hS (by decide) rfl rfl rfl rfl tw1672 dX11_huntingSack_2 (fun H locs hP hS => ?_)
  exact kX11_huntingSack_5 X hret hf hP hS (lv_sub hl [0] rfl)
theorem vX11_huntingSack {l : Launch} {dC : Nat → ClassId} {dI : Nat → Nat → Nat} {cI : ClassId} {kA : String → Nat → Nat} {ad : Nat → Nat} {M S1 : MS} {r : Int32} (hf : fX11_huntingSack M  = some (r, S1)) : gMetI l yX11_huntingSack cX11_huntingSack 1 (some .int) 4 (mΩ ad) (mP dC dI cI kA ad) (kR kTab kA) [.ref (ad 25)] M r S1 := gEntryI (ty := .int) (by decide) rfl rfl mOK (Nat.le_of_ble_eq_true rfl) (fun p e s m args below meth c Q ls X hP hS hret hl => 
  kX11_huntingSack_0 X hret hf hP hS (lv_sub hl [0] rfl))
set_option maxRecDepth 10000 in
theorem kX11_openFlap_26 {r : Int32} {S1 : MS} {M : MS} {H : Heap} {locs : List Loc} {ls : Array Slot} (X : gX p s m args c cX11_openFlap 2 RX11 (kR kTab kA)) (hret : gRetI p l e (rmL 4 0 0) s m args below meth c cX11_openFlap (mΩ ad) (mP dC dI cI kA ad) Q r S1) (hf : fX11_openFlap_26 M = some (r, S1)) (hP : (mP dC dI cI kA ad) M s H) (hS : va_S (Fr (mΩ ad) s.heap.size) s.heap H locs) (hl : lv_has ls 2 [(0, .ref (ad 25))]) : W p l e (rmL 4 0 0) s m args below meth c H locs 0 0 Q (F0 m 26 ls []) := by
  have hx := X.hx
  have hb := X.hb
  have hown := X.hown
  have hts := X.hts
  rw [fX11_openFlap_26] at hf
  refine lv_iconst (v := 0) hx hb dX11_openFlap_26 (by decide) ?_
  cases hf
  exact hret _ _ _ _ dX11_openFlap_27 hP hS
set_option maxRecDepth 10000 in
theorem kX11_openFlap_38 {r : Int32} {S1 : MS} {M : MS} {s0 : Int32} {H : Heap} {locs : List Loc} {ls : Array Slot} (X : gX p s m args c cX11_openFlap 2 RX11 (kR kTab kA)) (hret : gRetI p l e (rmL 4 0 0) s m args below meth c cX11_openFlap (mΩ ad) (mP dC dI cI kA ad) Q r S1) (hf : fX11_openFlap_38 M s0 = some (r, S1)) (hP : (mP dC dI cI kA ad) M s H) (hS : va_S (Fr (mΩ ad) s.heap.size) s.heap H locs) (hl : lv_has ls 2 [(0, .ref (ad 25))]) : W p l e (rmL 4 0 0) s m args below meth c H locs 0 0 Q (F0 m 38 ls [.int s0]) := by
  have hx := X.hx
  have hb := X.hb
  have hown := X.hown
  have hts := X.hts
  rw [fX11_openFlap_38] at hf
  cases hf
  exact hret _ _ _ _ dX11_openFlap_38 hP hS
set_option maxRecDepth 10000 in
theorem kX11_openFlap_32 {r : Int32} {S1 : MS} {M : MS} {x1 : Int32} {H : Heap} {locs : List Loc} {ls : Array Slot} (X : gX p s m args c cX11_openFlap 2 RX11 (kR kTab kA)) (hret : gRetI p l e (rmL 4 0 0) s m args below meth c cX11_openFlap (mΩ ad) (mP dC dI cI kA ad) Q r S1) (hf : fX11_openFlap_32 M x1 = some (r, S1)) (hP : (mP dC dI cI kA ad) M s H) (hS : va_S (Fr (mΩ ad) s.heap.size) s.heap H locs) (hl : lv_has ls 2 [(0, .ref (ad 25)), (1, .int x1)]) : W p l e (rmL 4 0 0) s m args below meth c H locs 0 0 Q (F0 m 32 ls []) := by
  have hx := X.hx
  have hb := X.hb
  have hown := X.hown
  have hts := X.hts
  rw [fX11_openFlap_32] at hf
  refine lv_aload_n hx hb dX11_openFlap_32 rfl (lv_at hl 0 rfl) ?_
  refine lv_iload_n hx hb dX11_openFlap_33 rfl (lv_at hl 1 rfl) ?_
  refine lv_iconst (v := 1) hx hb dX11_openFlap_34 (by decide) ?_
  obtain ⟨q, hc, hf⟩ := bd hf
  refine gCallVI X mOK rfl (vX11_setsFlap hc) gRX11_X11_setsFlap hdX11_setsFlap rfl ⟨by decide, by decide⟩ hP hS (mrec hP) hl.1 (Nat.le_of_ble_eq_true rfl) ⟨Nat.le_refl _, Nat.le_refl _⟩ dX11_openFlap_35 (As := [.int x1, .int 1]) (rest := []) rfl (fun H locs hP hS => ?_)
  exact kX11_openFlap_38 X hret hf hP hS (lv_sub hl [0] rfl)
set_option maxRecDepth 10000 in
theorem kX11_openFlap_28 {r : Int32} {S1 : MS} {M : MS} {x1 : Int32} {H : Heap} {locs : List Loc} {ls : Array Slot} (X : gX p s m args c cX11_openFlap 2 RX11 (kR kTab kA)) (hret : gRetI p l e (rmL 4 0 0) s m args below meth c cX11_openFlap (mΩ ad) (mP dC dI cI kA ad) Q r S1) (hf : fX11_openFlap_28 M x1 = some (r, S1)) (hP : (mP dC dI cI kA ad) M s H) (hS : va_S (Fr (mΩ ad) s.heap.size) s.heap H locs) (hl : lv_has ls 2 [(0, .ref (ad 25)), (1, .int x1)]) : W p l e (rmL 4 0 0) s m args below meth c H locs 0 0 Q (F0 m 28 ls []) := by
  have hx := X.hx
  have hb := X.hb
  have hown := X.hown
  have hts := X.hts
  rw [fX11_openFlap_28] at hf
  refine lv_aload_n hx hb dX11_openFlap_28 rfl (lv_at hl 0 rfl) ?_
  obtain ⟨q, hc, hf⟩ := bd hf
  refine gCallVV X mOK rfl (vX11_remembers hc) gRX11_X11_remembers hdX11_remembers rfl ⟨by decide, by decide⟩ hP hS (mrec hP) hl.1 (Nat.le_of_ble_eq_true rfl) ⟨Nat.le_refl _, Nat.le_refl _⟩ dX11_openFlap_29 (As := []) (rest := []) rfl (fun H locs hP hS => ?_)
  exact kX11_openFlap_32 X hret hf hP hS (lv_sub hl [0, 1] rfl)
set_option maxRecDepth 10000 in
theorem kX11_openFlap_23 {r : Int32} {S1 : MS} {M : MS} {x1 : Int32} {s0 : Int32} {H : Heap} {locs : List Loc} {ls : Array Slot} (X : gX p s m args c cX11_openFlap 2 RX11 (kR kTab kA)) (hret : gRetI p l e (rmL 4 0 0) s m args below meth c cX11_openFlap (mΩ ad) (mP dC dI cI kA ad) Q r S1) (hf : fX11_openFlap_23 M x1 s0 = some (r, S1)) (hP : (mP dC dI cI kA ad) M s H) (hS : va_S (Fr (mΩ ad) s.heap.size) s.heap H locs) (hl : lv_has ls 2 [(0, .ref (ad 25)), (1, .int x1)]) : W p l e (rmL 4 0 0) s m args below meth c H locs 0 0 Q (F0 m 23 ls [.int s0]) := by
  have hx := X.hx
  have hb := X.hb
  have hown := X.hown
  have hts := X.hts
  rw [fX11_openFlap_23] at hf
  refine lv_if_eq (tgt := 28) hx hb dX11_openFlap_23 (by decide) (fun c1 => ?_) (fun c1 => ?_)
  · exact kX11_openFlap_28 X hret (ifp c1 hf) hP hS (lv_sub hl [0, 1] rfl)
  · exact kX11_openFlap_26 X hret (ifn c1 hf) hP hS (lv_sub hl [0] rfl)
set_option maxRecDepth 10000 in
theorem kX11_openFlap_19 {r : Int32} {S1 : MS} {M : MS} {x1 : Int32} {s0 : Int32} {H : Heap} {locs : List Loc} {ls : Array Slot} (X : gX p s m args c cX11_openFlap 2 RX11 (kR kTab kA)) (hret : gRetI p l e (rmL 4 0 0) s m args below meth c cX11_openFlap (mΩ ad) (mP dC dI cI kA ad) Q r S1) (hf : fX11_openFlap_19 M x1 s0 = some (r, S1)) (hP : (mP dC dI cI kA ad) M s H) (hS : va_S (Fr (mΩ ad) s.heap.size) s.heap H locs) (hl : lv_has ls 2 [(0, .ref (ad 25)), (1, .int x1)]) : W p l e (rmL 4 0 0) s m args below meth c H locs 0 0 Q (F0 m 19 ls [.int s0, .ref (ad 25)]) := by
  have hx := X.hx
  have hb := X.hb
  have hown := X.hown
  have hts := X.hts
  rw [fX11_openFlap_19] at hf
  refine lv_iconst (v := 2) hx hb dX11_openFlap_19 (by decide) ?_
  obtain ⟨q, hc, hf⟩ := bd hf
  refine gCallVI X mOK rfl (vX11_fails hc) gRX11_X11_fails hdX11_fails rfl ⟨by decide, by decide⟩ hP hS (mrec hP) hl.1 (Nat.le_of_ble_eq_true rfl) ⟨Nat.le_refl _, Nat.le_refl _⟩ dX11_openFlap_20 (As := [.int s0, .int 2]) (rest := []) rfl (fun H locs hP hS => ?_)
  exact kX11_openFlap_23 X hret hf hP hS (lv_sub hl [0, 1] rfl)
set_option maxRecDepth 10000 in
theorem kX11_openFlap_13 {r : Int32} {S1 : MS} {M : MS} {x1 : Int32} {H : Heap} {locs : List Loc} {ls : Array Slot} (X : gX p s m args c cX11_openFlap 2 RX11 (kR kTab kA)) (hret : gRetI p l e (rmL 4 0 0) s m args below meth c cX11_openFlap (mΩ ad) (mP dC dI cI kA ad) Q r S1) (hf : fX11_openFlap_13 M x1 = some (r, S1)) (hP : (mP dC dI cI kA ad) M s H) (hS : va_S (Fr (mΩ ad) s.heap.size) s.heap H locs) (hl : lv_has ls 2 [(0, .ref (ad 25)), (1, .int x1)]) : W p l e (rmL 4 0 0) s m args below meth c H locs 0 0 Q (F0 m 13 ls []) := by
  have hx := X.hx
  have hb := X.hb
  have hown := X.hown
  have hts := X.hts
  rw [fX11_openFlap_13] at hf
  refine lv_aload_n hx hb dX11_openFlap_13 rfl (lv_at hl 0 rfl) ?_
  refine lv_aload_n hx hb dX11_openFlap_14 rfl (lv_at hl 0 rfl) ?_
  refine lv_iload_n hx hb dX11_openFlap_15 rfl (lv_at hl 1 rfl) ?_
  obtain ⟨q, hc, hf⟩ := bd hf
  refine gCallVR X rfl (vX11_isOpenSack hc) gRX11_X11_isOpenSack hdX11_isOpenSack rfl ⟨by decide, by decide⟩ (gB_blind mOK) (gB_at mOK X hP) (mrec hP) hl.1 (Nat.le_of_ble_eq_true rfl) ⟨Nat.le_refl _, Nat.le_refl _⟩ dX11_openFlap_16 (As := [.int x1]) (rest := [.ref (ad 25)]) rfl ?_
  exact kX11_openFlap_19 X hret hf hP hS (lv_sub hl [0, 1] rfl)
set_option maxRecDepth 10000 in
theorem kX11_openFlap_10 {r : Int32} {S1 : MS} {M : MS} {x1 : Int32} {s0 : Int32} {H : Heap} {locs : List Loc} {ls : Array Slot} (X : gX p s m args c cX11_openFlap 2 RX11 (kR kTab kA)) (hret : gRetI p l e (rmL 4 0 0) s m args below meth c cX11_openFlap (mΩ ad) (mP dC dI cI kA ad) Q r S1) (hf : fX11_openFlap_10 M x1 s0 = some (r, S1)) (hP : (mP dC dI cI kA ad) M s H) (hS : va_S (Fr (mΩ ad) s.heap.size) s.heap H locs) (hl : lv_has ls 2 [(0, .ref (ad 25)), (1, .int x1)]) : W p l e (rmL 4 0 0) s m args below meth c H locs 0 0 Q (F0 m 10 ls [.int s0]) := by
  have hx := X.hx
  have hb := X.hb
  have hown := X.hown
  have hts := X.hts
  rw [fX11_openFlap_10] at hf
  refine lv_if_ne (tgt := 26) hx hb dX11_openFlap_10 (by decide) (fun c1 => ?_) (fun c1 => ?_)
  · exact kX11_openFlap_26 X hret (ifn c1 hf) hP hS (lv_sub hl [0] rfl)
  · exact kX11_openFlap_13 X hret (ifp c1 hf) hP hS (lv_sub hl [0, 1] rfl)
set_option maxRecDepth 10000 in
theorem kX11_openFlap_5 {r : Int32} {S1 : MS} {M : MS} {x1 : Int32} {H : Heap} {locs : List Loc} {ls : Array Slot} (X : gX p s m args c cX11_openFlap 2 RX11 (kR kTab kA)) (hret : gRetI p l e (rmL 4 0 0) s m args below meth c cX11_openFlap (mΩ ad) (mP dC dI cI kA ad) Q r S1) (hf : fX11_openFlap_5 M x1 = some (r, S1)) (hP : (mP dC dI cI kA ad) M s H) (hS : va_S (Fr (mΩ ad) s.heap.size) s.heap H locs) (hl : lv_has ls 2 [(0, .ref (ad 25)), (1, .int x1)]) : W p l e (rmL 4 0 0) s m args below meth c H locs 0 0 Q (F0 m 5 ls []) := by
  have hx := X.hx
  have hb := X.hb
  have hown := X.hown
  have hts := X.hts
  rw [fX11_openFlap_5] at hf
  refine lv_aload_n hx hb dX11_openFlap_5 rfl (lv_at hl 0 rfl) ?_
  refine lv_iload_n hx hb dX11_openFlap_6 rfl (lv_at hl 1 rfl) ?_
  obtain ⟨q, hc, hf⟩ := bd hf
  refine gCallVI X mOK rfl (vX11_noSack hc) gRX11_X11_noSack hdX11_noSack rfl ⟨by decide, by decide⟩ hP hS (mrec hP) hl.1 (Nat.le_of_ble_eq_true rfl) ⟨Nat.le_refl _, Nat.le_refl _⟩ dX11_openFlap_7 (As := [.int x1]) (rest := []) rfl (fun H locs hP hS => ?_)
  exact kX11_openFlap_10 X hret hf hP hS (lv_sub hl [0, 1] rfl)
set_option maxRecDepth 10000 in
theorem kX11_openFlap_0 {r : Int32} {S1 : MS} {M : MS} {a1 : Int32} {H : Heap} {locs : List Loc} {ls : Array Slot} (X : gX p s m args c cX11_openFlap 2 RX11 (kR kTab kA)) (hret : gRetI p l e (rmL 4 0 0) s m args below meth c cX11_openFlap (mΩ ad) (mP dC dI cI kA ad) Q r S1) (hf : fX11_openFlap_0 M a1 = some (r, S1)) (hP : (mP dC dI cI kA ad) M s H) (hS : va_S (Fr (mΩ ad) s.heap.size) s.heap H locs) (hl : lv_has ls 2 [(0, .ref (ad 25)), (1, .int a1)]) : W p l e (rmL 4 0 0) s m args below meth c H locs 0 0 Q (F0 m 0 ls []) := by
  have hx := X.hx
  have hb := X.hb
  have hown := X.hown
  have hts := X.hts
  rw [fX11_openFlap_0] at hf
  refine lv_aload_n hx hb dX11_openFlap_0 rfl (lv_at hl 0 rfl) ?_
  refine lv_iconst (v := 0) hx hb dX11_openFlap_1 (by decide) ?_
  refine mr_put (k := 7) X hP hS (by decide) rfl rfl rfl rfl tw1672 dX11_openFlap_2 (fun H locs hP hS => ?_)
  exact kX11_openFlap_5 X hret hf hP hS (lv_sub hl [0, 1] rfl)
theorem vX11_openFlap {l : Launch} {dC : Nat → ClassId} {dI : Nat → Nat → Nat} {cI : ClassId} {kA : String → Nat → Nat} {ad : Nat → Nat} {M S1 : MS} {r : Int32} {a1 : Int32} (hf : fX11_openFlap M a1 = some (r, S1)) : gMetI l yX11_openFlap cX11_openFlap 2 (some .int) 4 (mΩ ad) (mP dC dI cI kA ad) (kR kTab kA) [.ref (ad 25), .int a1] M r S1 := gEntryI (ty := .int) (by decide) rfl rfl mOK (Nat.le_of_ble_eq_true rfl) (fun p e s m args below meth c Q ls X hP hS hret hl => 
  kX11_openFlap_0 X hret hf hP hS (lv_sub hl [0, 1] rfl))
set_option maxRecDepth 10000 in
theorem kX11_shutFlap_34 {r : Int32} {S1 : MS} {M : MS} {H : Heap} {locs : List Loc} {ls : Array Slot} (X : gX p s m args c cX11_shutFlap 2 RX11 (kR kTab kA)) (hret : gRetI p l e (rmL 4 0 0) s m args below meth c cX11_shutFlap (mΩ ad) (mP dC dI cI kA ad) Q r S1) (hf : fX11_shutFlap_34 M = some (r, S1)) (hP : (mP dC dI cI kA ad) M s H) (hS : va_S (Fr (mΩ ad) s.heap.size) s.heap H locs) (hl : lv_has ls 2 [(0, .ref (ad 25))]) : W p l e (rmL 4 0 0) s m args below meth c H locs 0 0 Q (F0 m 34 ls []) := by
  have hx := X.hx
  have hb := X.hb
  have hown := X.hown
  have hts := X.hts
  rw [fX11_shutFlap_34] at hf
  refine lv_iconst (v := 0) hx hb dX11_shutFlap_34 (by decide) ?_
  cases hf
  exact hret _ _ _ _ dX11_shutFlap_35 hP hS
set_option maxRecDepth 10000 in
theorem kX11_shutFlap_46 {r : Int32} {S1 : MS} {M : MS} {s0 : Int32} {H : Heap} {locs : List Loc} {ls : Array Slot} (X : gX p s m args c cX11_shutFlap 2 RX11 (kR kTab kA)) (hret : gRetI p l e (rmL 4 0 0) s m args below meth c cX11_shutFlap (mΩ ad) (mP dC dI cI kA ad) Q r S1) (hf : fX11_shutFlap_46 M s0 = some (r, S1)) (hP : (mP dC dI cI kA ad) M s H) (hS : va_S (Fr (mΩ ad) s.heap.size) s.heap H locs) (hl : lv_has ls 2 [(0, .ref (ad 25))]) : W p l e (rmL 4 0 0) s m args below meth c H locs 0 0 Q (F0 m 46 ls [.int s0]) := by
  have hx := X.hx
  have hb := X.hb
  have hown := X.hown
  have hts := X.hts
  rw [fX11_shutFlap_46] at hf
  cases hf
  exact hret _ _ _ _ dX11_shutFlap_46 hP hS
set_option maxRecDepth 10000 in
theorem kX11_shutFlap_40 {r : Int32} {S1 : MS} {M : MS} {x1 : Int32} {H : Heap} {locs : List Loc} {ls : Array Slot} (X : gX p s m args c cX11_shutFlap 2 RX11 (kR kTab kA)) (hret : gRetI p l e (rmL 4 0 0) s m args below meth c cX11_shutFlap (mΩ ad) (mP dC dI cI kA ad) Q r S1) (hf : fX11_shutFlap_40 M x1 = some (r, S1)) (hP : (mP dC dI cI kA ad) M s H) (hS : va_S (Fr (mΩ ad) s.heap.size) s.heap H locs) (hl : lv_has ls 2 [(0, .ref (ad 25)), (1, .int x1)]) : W p l e (rmL 4 0 0) s m args below meth c H locs 0 0 Q (F0 m 40 ls []) := by
  have hx := X.hx
  have hb := X.hb
  have hown := X.hown
  have hts := X.hts
  rw [fX11_shutFlap_40] at hf
  refine lv_aload_n hx hb dX11_shutFlap_40 rfl (lv_at hl 0 rfl) ?_
  refine lv_iload_n hx hb dX11_shutFlap_41 rfl (lv_at hl 1 rfl) ?_
  refine lv_iconst (v := 0) hx hb dX11_shutFlap_42 (by decide) ?_
  obtain ⟨q, hc, hf⟩ := bd hf
  refine gCallVI X mOK rfl (vX11_setsFlap hc) gRX11_X11_setsFlap hdX11_setsFlap rfl ⟨by decide, by decide⟩ hP hS (mrec hP) hl.1 (Nat.le_of_ble_eq_true rfl) ⟨Nat.le_refl _, Nat.le_refl _⟩ dX11_shutFlap_43 (As := [.int x1, .int 0]) (rest := []) rfl (fun H locs hP hS => ?_)
  exact kX11_shutFlap_46 X hret hf hP hS (lv_sub hl [0] rfl)
set_option maxRecDepth 10000 in
theorem kX11_shutFlap_36 {r : Int32} {S1 : MS} {M : MS} {x1 : Int32} {H : Heap} {locs : List Loc} {ls : Array Slot} (X : gX p s m args c cX11_shutFlap 2 RX11 (kR kTab kA)) (hret : gRetI p l e (rmL 4 0 0) s m args below meth c cX11_shutFlap (mΩ ad) (mP dC dI cI kA ad) Q r S1) (hf : fX11_shutFlap_36 M x1 = some (r, S1)) (hP : (mP dC dI cI kA ad) M s H) (hS : va_S (Fr (mΩ ad) s.heap.size) s.heap H locs) (hl : lv_has ls 2 [(0, .ref (ad 25)), (1, .int x1)]) : W p l e (rmL 4 0 0) s m args below meth c H locs 0 0 Q (F0 m 36 ls []) := by
  have hx := X.hx
  have hb := X.hb
  have hown := X.hown
  have hts := X.hts
  rw [fX11_shutFlap_36] at hf
  refine lv_aload_n hx hb dX11_shutFlap_36 rfl (lv_at hl 0 rfl) ?_
  obtain ⟨q, hc, hf⟩ := bd hf
  refine gCallVV X mOK rfl (vX11_remembers hc) gRX11_X11_remembers hdX11_remembers rfl ⟨by decide, by decide⟩ hP hS (mrec hP) hl.1 (Nat.le_of_ble_eq_true rfl) ⟨Nat.le_refl _, Nat.le_refl _⟩ dX11_shutFlap_37 (As := []) (rest := []) rfl (fun H locs hP hS => ?_)
  exact kX11_shutFlap_40 X hret hf hP hS (lv_sub hl [0, 1] rfl)
set_option maxRecDepth 10000 in
theorem kX11_shutFlap_31 {r : Int32} {S1 : MS} {M : MS} {x1 : Int32} {s0 : Int32} {H : Heap} {locs : List Loc} {ls : Array Slot} (X : gX p s m args c cX11_shutFlap 2 RX11 (kR kTab kA)) (hret : gRetI p l e (rmL 4 0 0) s m args below meth c cX11_shutFlap (mΩ ad) (mP dC dI cI kA ad) Q r S1) (hf : fX11_shutFlap_31 M x1 s0 = some (r, S1)) (hP : (mP dC dI cI kA ad) M s H) (hS : va_S (Fr (mΩ ad) s.heap.size) s.heap H locs) (hl : lv_has ls 2 [(0, .ref (ad 25)), (1, .int x1)]) : W p l e (rmL 4 0 0) s m args below meth c H locs 0 0 Q (F0 m 31 ls [.int s0]) := by
  have hx := X.hx
  have hb := X.hb
  have hown := X.hown
  have hts := X.hts
  rw [fX11_shutFlap_31] at hf
  refine lv_if_eq (tgt := 36) hx hb dX11_shutFlap_31 (by decide) (fun c1 => ?_) (fun c1 => ?_)
  · exact kX11_shutFlap_36 X hret (ifp c1 hf) hP hS (lv_sub hl [0, 1] rfl)
  · exact kX11_shutFlap_34 X hret (ifn c1 hf) hP hS (lv_sub hl [0] rfl)
set_option maxRecDepth 10000 in
theorem kX11_shutFlap_27 {r : Int32} {S1 : MS} {M : MS} {x1 : Int32} {s0 : Int32} {H : Heap} {locs : List Loc} {ls : Array Slot} (X : gX p s m args c cX11_shutFlap 2 RX11 (kR kTab kA)) (hret : gRetI p l e (rmL 4 0 0) s m args below meth c cX11_shutFlap (mΩ ad) (mP dC dI cI kA ad) Q r S1) (hf : fX11_shutFlap_27 M x1 s0 = some (r, S1)) (hP : (mP dC dI cI kA ad) M s H) (hS : va_S (Fr (mΩ ad) s.heap.size) s.heap H locs) (hl : lv_has ls 2 [(0, .ref (ad 25)), (1, .int x1)]) : W p l e (rmL 4 0 0) s m args below meth c H locs 0 0 Q (F0 m 27 ls [.int s0, .ref (ad 25)]) := by
  have hx := X.hx
  have hb := X.hb
  have hown := X.hown
  have hts := X.hts
  rw [fX11_shutFlap_27] at hf
  refine lv_iconst (v := 2) hx hb dX11_shutFlap_27 (by decide) ?_
  obtain ⟨q, hc, hf⟩ := bd hf
  refine gCallVI X mOK rfl (vX11_fails hc) gRX11_X11_fails hdX11_fails rfl ⟨by decide, by decide⟩ hP hS (mrec hP) hl.1 (Nat.le_of_ble_eq_true rfl) ⟨Nat.le_refl _, Nat.le_refl _⟩ dX11_shutFlap_28 (As := [.int s0, .int 2]) (rest := []) rfl (fun H locs hP hS => ?_)
  exact kX11_shutFlap_31 X hret hf hP hS (lv_sub hl [0, 1] rfl)
set_option maxRecDepth 10000 in
theorem kX11_shutFlap_26 {r : Int32} {S1 : MS} {M : MS} {x1 : Int32} {H : Heap} {locs : List Loc} {ls : Array Slot} (X : gX p s m args c cX11_shutFlap 2 RX11 (kR kTab kA)) (hret : gRetI p l e (rmL 4 0 0) s m args below meth c cX11_shutFlap (mΩ ad) (mP dC dI cI kA ad) Q r S1) (hf : fX11_shutFlap_26 M x1 = some (r, S1)) (hP : (mP dC dI cI kA ad) M s H) (hS : va_S (Fr (mΩ ad) s.heap.size) s.heap H locs) (hl : lv_has ls 2 [(0, .ref (ad 25)), (1, .int x1)]) : W p l e (rmL 4 0 0) s m args below meth c H locs 0 0 Q (F0 m 26 ls [.ref (ad 25)]) := by
  have hx := X.hx
  have hb := X.hb
  have hown := X.hown
  have hts := X.hts
  rw [fX11_shutFlap_26] at hf
  refine lv_iconst (v := 0) hx hb dX11_shutFlap_26 (by decide) ?_
  exact kX11_shutFlap_27 X hret hf hP hS (lv_sub hl [0, 1] rfl)
set_option maxRecDepth 10000 in
theorem kX11_shutFlap_22 {r : Int32} {S1 : MS} {M : MS} {x1 : Int32} {H : Heap} {locs : List Loc} {ls : Array Slot} (X : gX p s m args c cX11_shutFlap 2 RX11 (kR kTab kA)) (hret : gRetI p l e (rmL 4 0 0) s m args below meth c cX11_shutFlap (mΩ ad) (mP dC dI cI kA ad) Q r S1) (hf : fX11_shutFlap_22 M x1 = some (r, S1)) (hP : (mP dC dI cI kA ad) M s H) (hS : va_S (Fr (mΩ ad) s.heap.size) s.heap H locs) (hl : lv_has ls 2 [(0, .ref (ad 25)), (1, .int x1)]) : W p l e (rmL 4 0 0) s m args below meth c H locs 0 0 Q (F0 m 22 ls [.ref (ad 25)]) := by
  have hx := X.hx
  have hb := X.hb
  have hown := X.hown
  have hts := X.hts
  rw [fX11_shutFlap_22] at hf
  refine lv_iconst (v := 1) hx hb dX11_shutFlap_22 (by decide) ?_
  refine lv_goto (tgt := 27) hx hb dX11_shutFlap_23 (by decide) ?_
  exact kX11_shutFlap_27 X hret hf hP hS (lv_sub hl [0, 1] rfl)
set_option maxRecDepth 10000 in
theorem kX11_shutFlap_19 {r : Int32} {S1 : MS} {M : MS} {x1 : Int32} {s0 : Int32} {H : Heap} {locs : List Loc} {ls : Array Slot} (X : gX p s m args c cX11_shutFlap 2 RX11 (kR kTab kA)) (hret : gRetI p l e (rmL 4 0 0) s m args below meth c cX11_shutFlap (mΩ ad) (mP dC dI cI kA ad) Q r S1) (hf : fX11_shutFlap_19 M x1 s0 = some (r, S1)) (hP : (mP dC dI cI kA ad) M s H) (hS : va_S (Fr (mΩ ad) s.heap.size) s.heap H locs) (hl : lv_has ls 2 [(0, .ref (ad 25)), (1, .int x1)]) : W p l e (rmL 4 0 0) s m args below meth c H locs 0 0 Q (F0 m 19 ls [.int s0, .ref (ad 25)]) := by
  have hx := X.hx
  have hb := X.hb
  have hown := X.hown
  have hts := X.hts
  rw [fX11_shutFlap_19] at hf
  refine lv_if_ne (tgt := 26) hx hb dX11_shutFlap_19 (by decide) (fun c1 => ?_) (fun c1 => ?_)
  · exact kX11_shutFlap_26 X hret (ifn c1 hf) hP hS (lv_sub hl [0, 1] rfl)
  · exact kX11_shutFlap_22 X hret (ifp c1 hf) hP hS (lv_sub hl [0, 1] rfl)
set_option maxRecDepth 10000 in
theorem kX11_shutFlap_13 {r : Int32} {S1 : MS} {M : MS} {x1 : Int32} {H : Heap} {locs : List Loc} {ls : Array Slot} (X : gX p s m args c cX11_shutFlap 2 RX11 (kR kTab kA)) (hret : gRetI p l e (rmL 4 0 0) s m args below meth c cX11_shutFlap (mΩ ad) (mP dC dI cI kA ad) Q r S1) (hf : fX11_shutFlap_13 M x1 = some (r, S1)) (hP : (mP dC dI cI kA ad) M s H) (hS : va_S (Fr (mΩ ad) s.heap.size) s.heap H locs) (hl : lv_has ls 2 [(0, .ref (ad 25)), (1, .int x1)]) : W p l e (rmL 4 0 0) s m args below meth c H locs 0 0 Q (F0 m 13 ls []) := by
  have hx := X.hx
  have hb := X.hb
  have hown := X.hown
  have hts := X.hts
  rw [fX11_shutFlap_13] at hf
  refine lv_aload_n hx hb dX11_shutFlap_13 rfl (lv_at hl 0 rfl) ?_
  refine lv_aload_n hx hb dX11_shutFlap_14 rfl (lv_at hl 0 rfl) ?_
  refine lv_iload_n hx hb dX11_shutFlap_15 rfl (lv_at hl 1 rfl) ?_
  obtain ⟨q, hc, hf⟩ := bd hf
  refine gCallVR X rfl (vX11_isOpenSack hc) gRX11_X11_isOpenSack hdX11_isOpenSack rfl ⟨by decide, by decide⟩ (gB_blind mOK) (gB_at mOK X hP) (mrec hP) hl.1 (Nat.le_of_ble_eq_true rfl) ⟨Nat.le_refl _, Nat.le_refl _⟩ dX11_shutFlap_16 (As := [.int x1]) (rest := [.ref (ad 25)]) rfl ?_
  exact kX11_shutFlap_19 X hret hf hP hS (lv_sub hl [0, 1] rfl)
set_option maxRecDepth 10000 in
theorem kX11_shutFlap_10 {r : Int32} {S1 : MS} {M : MS} {x1 : Int32} {s0 : Int32} {H : Heap} {locs : List Loc} {ls : Array Slot} (X : gX p s m args c cX11_shutFlap 2 RX11 (kR kTab kA)) (hret : gRetI p l e (rmL 4 0 0) s m args below meth c cX11_shutFlap (mΩ ad) (mP dC dI cI kA ad) Q r S1) (hf : fX11_shutFlap_10 M x1 s0 = some (r, S1)) (hP : (mP dC dI cI kA ad) M s H) (hS : va_S (Fr (mΩ ad) s.heap.size) s.heap H locs) (hl : lv_has ls 2 [(0, .ref (ad 25)), (1, .int x1)]) : W p l e (rmL 4 0 0) s m args below meth c H locs 0 0 Q (F0 m 10 ls [.int s0]) := by
  have hx := X.hx
  have hb := X.hb
  have hown := X.hown
  have hts := X.hts
  rw [fX11_shutFlap_10] at hf
  refine lv_if_ne (tgt := 34) hx hb dX11_shutFlap_10 (by decide) (fun c1 => ?_) (fun c1 => ?_)
  · exact kX11_shutFlap_34 X hret (ifn c1 hf) hP hS (lv_sub hl [0] rfl)
  · exact kX11_shutFlap_13 X hret (ifp c1 hf) hP hS (lv_sub hl [0, 1] rfl)
set_option maxRecDepth 10000 in
theorem kX11_shutFlap_5 {r : Int32} {S1 : MS} {M : MS} {x1 : Int32} {H : Heap} {locs : List Loc} {ls : Array Slot} (X : gX p s m args c cX11_shutFlap 2 RX11 (kR kTab kA)) (hret : gRetI p l e (rmL 4 0 0) s m args below meth c cX11_shutFlap (mΩ ad) (mP dC dI cI kA ad) Q r S1) (hf : fX11_shutFlap_5 M x1 = some (r, S1)) (hP : (mP dC dI cI kA ad) M s H) (hS : va_S (Fr (mΩ ad) s.heap.size) s.heap H locs) (hl : lv_has ls 2 [(0, .ref (ad 25)), (1, .int x1)]) : W p l e (rmL 4 0 0) s m args below meth c H locs 0 0 Q (F0 m 5 ls []) := by
  have hx := X.hx
  have hb := X.hb
  have hown := X.hown
  have hts := X.hts
  rw [fX11_shutFlap_5] at hf
  refine lv_aload_n hx hb dX11_shutFlap_5 rfl (lv_at hl 0 rfl) ?_
  refine lv_iload_n hx hb dX11_shutFlap_6 rfl (lv_at hl 1 rfl) ?_
  obtain ⟨q, hc, hf⟩ := bd hf
  refine gCallVI X mOK rfl (vX11_noSack hc) gRX11_X11_noSack hdX11_noSack rfl ⟨by decide, by decide⟩ hP hS (mrec hP) hl.1 (Nat.le_of_ble_eq_true rfl) ⟨Nat.le_refl _, Nat.le_refl _⟩ dX11_shutFlap_7 (As := [.int x1]) (rest := []) rfl (fun H locs hP hS => ?_)
  exact kX11_shutFlap_10 X hret hf hP hS (lv_sub hl [0, 1] rfl)
set_option maxRecDepth 10000 in
theorem kX11_shutFlap_0 {r : Int32} {S1 : MS} {M : MS} {a1 : Int32} {H : Heap} {locs : List Loc} {ls : Array Slot} (X : gX p s m args c cX11_shutFlap 2 RX11 (kR kTab kA)) (hret : gRetI p l e (rmL 4 0 0) s m args below meth c cX11_shutFlap (mΩ ad) (mP dC dI cI kA ad) Q r S1) (hf : fX11_shutFlap_0 M a1 = some (r, S1)) (hP : (mP dC dI cI kA ad) M s H) (hS : va_S (Fr (mΩ ad) s.heap.size) s.heap H locs) (hl : lv_has ls 2 [(0, .ref (ad 25)), (1, .int a1)]) : W p l e (rmL 4 0 0) s m args below meth c H locs 0 0 Q (F0 m 0 ls []) := by
  have hx := X.hx
  have hb := X.hb
  have hown := X.hown
  have hts := X.hts
  rw [fX11_shutFlap_0] at hf
  refine lv_aload_n hx hb dX11_shutFlap_0 rfl (lv_at hl 0 rfl) ?_
  refine lv_iconst (v := 0) hx hb dX11_shutFlap_1 (by decide) ?_
  refine mr_put (k := 7) X hP hS (by decide) rfl rfl rfl rfl tw1672 dX11_shutFlap_2 (fun H locs hP hS => ?_)
  exact kX11_shutFlap_5 X hret hf hP hS (lv_sub hl [0, 1] rfl)
theorem vX11_shutFlap {l : Launch} {dC : Nat → ClassId} {dI : Nat → Nat → Nat} {cI : ClassId} {kA : String → Nat → Nat} {ad : Nat → Nat} {M S1 : MS} {r : Int32} {a1 : Int32} (hf : fX11_shutFlap M a1 = some (r, S1)) : gMetI l yX11_shutFlap cX11_shutFlap 2 (some .int) 4 (mΩ ad) (mP dC dI cI kA ad) (kR kTab kA) [.ref (ad 25), .int a1] M r S1 := gEntryI (ty := .int) (by decide) rfl rfl mOK (Nat.le_of_ble_eq_true rfl) (fun p e s m args below meth c Q ls X hP hS hret hl => 
  kX11_shutFlap_0 X hret hf hP hS (lv_sub hl [0, 1] rfl))
set_option maxRecDepth 10000 in
theorem kX11_hourPasses_124 {S1 : MS} {M : MS} {H : Heap} {locs : List Loc} {ls : Array Slot} (X : gX p s m args c cX11_hourPasses 3 RX11 (kR kTab kA)) (hret : gRetV p l e (rmL 5 0 0) s m args below meth c cX11_hourPasses (mΩ ad) (mP dC dI cI kA ad) Q S1) (hf : fX11_hourPasses_124 M = some S1) (hP : (mP dC dI cI kA ad) M s H) (hS : va_S (Fr (mΩ ad) s.heap.size) s.heap H locs) (hl : lv_has ls 3 [(0, .ref (ad 25))]) : W p l e (rmL 5 0 0) s m args below meth c H locs 0 0 Q (F0 m 124 ls []) := by
  have hx := X.hx
  have hb := X.hb
  have hown := X.hown
  have hts := X.hts
  rw [fX11_hourPasses_124] at hf
  cases hf
  exact hret _ _ _ _ dX11_hourPasses_124 hP hS
set_option maxRecDepth 10000 in
theorem kX11_hourPasses_120 {S1 : MS} {M : MS} {H : Heap} {locs : List Loc} {ls : Array Slot} (X : gX p s m args c cX11_hourPasses 3 RX11 (kR kTab kA)) (hret : gRetV p l e (rmL 5 0 0) s m args below meth c cX11_hourPasses (mΩ ad) (mP dC dI cI kA ad) Q S1) (hf : fX11_hourPasses_120 M = some S1) (hP : (mP dC dI cI kA ad) M s H) (hS : va_S (Fr (mΩ ad) s.heap.size) s.heap H locs) (hl : lv_has ls 3 [(0, .ref (ad 25))]) : W p l e (rmL 5 0 0) s m args below meth c H locs 0 0 Q (F0 m 120 ls []) := by
  have hx := X.hx
  have hb := X.hb
  have hown := X.hown
  have hts := X.hts
  rw [fX11_hourPasses_120] at hf
  refine lv_aload_n hx hb dX11_hourPasses_120 rfl (lv_at hl 0 rfl) ?_
  obtain ⟨q, hc, hf⟩ := bd hf
  refine gCallVV X mOK rfl (vX11_dawns hc) gRX11_X11_dawns hdX11_dawns rfl ⟨by decide, by decide⟩ hP hS (mrec hP) hl.1 (Nat.le_of_ble_eq_true rfl) ⟨Nat.le_refl _, Nat.le_refl _⟩ dX11_hourPasses_121 (As := []) (rest := []) rfl (fun H locs hP hS => ?_)
  exact kX11_hourPasses_124 X hret hf hP hS (lv_sub hl [0] rfl)
set_option maxRecDepth 10000 in
theorem kX11_hourPasses_106 {S1 : MS} {M : MS} {H : Heap} {locs : List Loc} {ls : Array Slot} (X : gX p s m args c cX11_hourPasses 3 RX11 (kR kTab kA)) (hret : gRetV p l e (rmL 5 0 0) s m args below meth c cX11_hourPasses (mΩ ad) (mP dC dI cI kA ad) Q S1) (hf : fX11_hourPasses_106 M = some S1) (hP : (mP dC dI cI kA ad) M s H) (hS : va_S (Fr (mΩ ad) s.heap.size) s.heap H locs) (hl : lv_has ls 3 [(0, .ref (ad 25))]) : W p l e (rmL 5 0 0) s m args below meth c H locs 0 0 Q (F0 m 106 ls []) := by
  have hx := X.hx
  have hb := X.hb
  have hown := X.hown
  have hts := X.hts
  rw [fX11_hourPasses_106] at hf
  refine lv_aload_n hx hb dX11_hourPasses_106 rfl (lv_at hl 0 rfl) ?_
  refine mr_get (k := 0) X hP (by decide) rfl rfl tw1665 dX11_hourPasses_107 ?_
  refine lv_iconst (v := 3) hx hb dX11_hourPasses_110 (by decide) ?_
  obtain ⟨g1, hf⟩ := gd hf
  refine mr_ald (a := 0) X hP rfl g1 dX11_hourPasses_111 ?_
  refine lv_bipush (v := 24) hx hb dX11_hourPasses_112 (by decide) ?_
  refine lv_irem hx hb dX11_hourPasses_114 (by decide) ?_
  refine lv_bipush (v := 6) hx hb dX11_hourPasses_115 (by decide) ?_
  refine lv_icmp_ne (tgt := 124) hx hb dX11_hourPasses_117 (by decide) (fun c1 => ?_) (fun c1 => ?_)
  · exact kX11_hourPasses_124 X hret (ifn c1 hf) hP hS (lv_sub hl [0] rfl)
  · exact kX11_hourPasses_120 X hret (ifp c1 hf) hP hS (lv_sub hl [0] rfl)
set_option maxRecDepth 10000 in
theorem kX11_hourPasses_102 {S1 : MS} {M : MS} {H : Heap} {locs : List Loc} {ls : Array Slot} (X : gX p s m args c cX11_hourPasses 3 RX11 (kR kTab kA)) (hret : gRetV p l e (rmL 5 0 0) s m args below meth c cX11_hourPasses (mΩ ad) (mP dC dI cI kA ad) Q S1) (hf : fX11_hourPasses_102 M = some S1) (hP : (mP dC dI cI kA ad) M s H) (hS : va_S (Fr (mΩ ad) s.heap.size) s.heap H locs) (hl : lv_has ls 3 [(0, .ref (ad 25))]) : W p l e (rmL 5 0 0) s m args below meth c H locs 0 0 Q (F0 m 102 ls []) := by
  have hx := X.hx
  have hb := X.hb
  have hown := X.hown
  have hts := X.hts
  rw [fX11_hourPasses_102] at hf
  refine lv_aload_n hx hb dX11_hourPasses_102 rfl (lv_at hl 0 rfl) ?_
  obtain ⟨q, hc, hf⟩ := bd hf
  refine gCallVV X mOK rfl (vX11_shiftGoes hc) gRX11_X11_shiftGoes hdX11_shiftGoes rfl ⟨by decide, by decide⟩ hP hS (mrec hP) hl.1 (Nat.le_of_ble_eq_true rfl) ⟨Nat.le_refl _, Nat.le_refl _⟩ dX11_hourPasses_103 (As := []) (rest := []) rfl (fun H locs hP hS => ?_)
  exact kX11_hourPasses_106 X hret hf hP hS (lv_sub hl [0] rfl)
set_option maxRecDepth 10000 in
theorem kX11_hourPasses_96 {S1 : MS} {K75 : MS → Int32 → Int32 → Option (MS)} {M : MS} {x1 : Int32} {x2 : Int32} {H : Heap} {locs : List Loc} {ls : Array Slot} (X : gX p s m args c cX11_hourPasses 3 RX11 (kR kTab kA)) (hret : gRetV p l e (rmL 5 0 0) s m args below meth c cX11_hourPasses (mΩ ad) (mP dC dI cI kA ad) Q S1) (hK75 : ∀ (M : MS) (x1 : Int32) (x2 : Int32) (H : Heap) (locs : List Loc) (ls : Array Slot), K75 M x1 x2 = some S1 → (mP dC dI cI kA ad) M s H → va_S (Fr (mΩ ad) s.heap.size) s.heap H locs → lv_has ls 3 [(0, .ref (ad 25)), (1, .int x1), (2, .int x2)] → W p l e (rmL 5 0 0) s m args below meth c H locs 0 0 Q (F0 m 75 ls [])) (hf : fX11_hourPasses_96 K75 M x1 x2 = some S1) (hP : (mP dC dI cI kA ad) M s H) (hS : va_S (Fr (mΩ ad) s.heap.size) s.heap H locs) (hl : lv_has ls 3 [(0, .ref (ad 25)), (1, .int x1), (2, .int x2)]) : W p l e (rmL 5 0 0) s m args below meth c H locs 0 0 Q (F0 m 96 ls []) := by
  have hx := X.hx
  have hb := X.hb
  have hown := X.hown
  have hts := X.hts
  rw [fX11_hourPasses_96] at hf
  refine lv_iinc (v := (x2 + 1)) (lv' := [(2, .int (x2 + 1)), (0, .ref (ad 25)), (1, .int x1)]) hx hb dX11_hourPasses_96 hl (k := 2) rfl (by rfl) (by decide) rfl (fun ls hl => ?_)
  refine lv_goto (tgt := 75) hx hb dX11_hourPasses_99 (by decide) ?_
  exact hK75 _ _ _ _ _ _ hf hP hS (lv_sub hl [1, 2, 0] rfl)
set_option maxRecDepth 10000 in
theorem kX11_hourPasses_90 {S1 : MS} {K75 : MS → Int32 → Int32 → Option (MS)} {M : MS} {x1 : Int32} {x2 : Int32} {H : Heap} {locs : List Loc} {ls : Array Slot} (X : gX p s m args c cX11_hourPasses 3 RX11 (kR kTab kA)) (hret : gRetV p l e (rmL 5 0 0) s m args below meth c cX11_hourPasses (mΩ ad) (mP dC dI cI kA ad) Q S1) (hK75 : ∀ (M : MS) (x1 : Int32) (x2 : Int32) (H : Heap) (locs : List Loc) (ls : Array Slot), K75 M x1 x2 = some S1 → (mP dC dI cI kA ad) M s H → va_S (Fr (mΩ ad) s.heap.size) s.heap H locs → lv_has ls 3 [(0, .ref (ad 25)), (1, .int x1), (2, .int x2)] → W p l e (rmL 5 0 0) s m args below meth c H locs 0 0 Q (F0 m 75 ls [])) (hf : fX11_hourPasses_90 K75 M x1 x2 = some S1) (hP : (mP dC dI cI kA ad) M s H) (hS : va_S (Fr (mΩ ad) s.heap.size) s.heap H locs) (hl : lv_has ls 3 [(0, .ref (ad 25)), (1, .int x1), (2, .int x2)]) : W p l e (rmL 5 0 0) s m args below meth c H locs 0 0 Q (F0 m 90 ls []) := by
  have hx := X.hx
  have hb := X.hb
  have hown := X.hown
  have hts := X.hts
  rw [fX11_hourPasses_90] at hf
  refine lv_aload_n hx hb dX11_hourPasses_90 rfl (lv_at hl 0 rfl) ?_
  refine lv_iload_n hx hb dX11_hourPasses_91 rfl (lv_at hl 2 rfl) ?_
  refine lv_iconst (v := 1) hx hb dX11_hourPasses_92 (by decide) ?_
  obtain ⟨q, hc, hf⟩ := bd hf
  refine gCallVV X mOK rfl (vX11_rests hc) gRX11_X11_rests hdX11_rests rfl ⟨by decide, by decide⟩ hP hS (mrec hP) hl.1 (Nat.le_of_ble_eq_true rfl) ⟨Nat.le_refl _, Nat.le_refl _⟩ dX11_hourPasses_93 (As := [.int x2, .int 1]) (rest := []) rfl (fun H locs hP hS => ?_)
  exact kX11_hourPasses_96 X hret hK75 hf hP hS (lv_sub hl [0, 1, 2] rfl)
set_option maxRecDepth 10000 in
theorem kX11_hourPasses_85 {S1 : MS} {K75 : MS → Int32 → Int32 → Option (MS)} {M : MS} {x1 : Int32} {x2 : Int32} {H : Heap} {locs : List Loc} {ls : Array Slot} (X : gX p s m args c cX11_hourPasses 3 RX11 (kR kTab kA)) (hret : gRetV p l e (rmL 5 0 0) s m args below meth c cX11_hourPasses (mΩ ad) (mP dC dI cI kA ad) Q S1) (hK75 : ∀ (M : MS) (x1 : Int32) (x2 : Int32) (H : Heap) (locs : List Loc) (ls : Array Slot), K75 M x1 x2 = some S1 → (mP dC dI cI kA ad) M s H → va_S (Fr (mΩ ad) s.heap.size) s.heap H locs → lv_has ls 3 [(0, .ref (ad 25)), (1, .int x1), (2, .int x2)] → W p l e (rmL 5 0 0) s m args below meth c H locs 0 0 Q (F0 m 75 ls [])) (hf : fX11_hourPasses_85 K75 M x1 x2 = some S1) (hP : (mP dC dI cI kA ad) M s H) (hS : va_S (Fr (mΩ ad) s.heap.size) s.heap H locs) (hl : lv_has ls 3 [(0, .ref (ad 25)), (1, .int x1), (2, .int x2)]) : W p l e (rmL 5 0 0) s m args below meth c H locs 0 0 Q (F0 m 85 ls []) := by
  have hx := X.hx
  have hb := X.hb
  have hown := X.hown
  have hts := X.hts
  rw [fX11_hourPasses_85] at hf
  refine lv_iload_n hx hb dX11_hourPasses_85 rfl (lv_at hl 2 rfl) ?_
  refine lv_iload_n hx hb dX11_hourPasses_86 rfl (lv_at hl 1 rfl) ?_
  refine lv_icmp_eq (tgt := 96) hx hb dX11_hourPasses_87 (by decide) (fun c1 => ?_) (fun c1 => ?_)
  · exact kX11_hourPasses_96 X hret hK75 (ifp c1 hf) hP hS (lv_sub hl [0, 1, 2] rfl)
  · exact kX11_hourPasses_90 X hret hK75 (ifn c1 hf) hP hS (lv_sub hl [0, 1, 2] rfl)
set_option maxRecDepth 10000 in
theorem kX11_hourPasses_75 {S1 : MS} (X : gX p s m args c cX11_hourPasses 3 RX11 (kR kTab kA)) (hret : gRetV p l e (rmL 5 0 0) s m args below meth c cX11_hourPasses (mΩ ad) (mP dC dI cI kA ad) Q S1) : ∀ (n : Nat) (M : MS) (x1 : Int32) (x2 : Int32) (H : Heap) (locs : List Loc) (ls : Array Slot), fX11_hourPasses_75 n M x1 x2 = some S1 → (mP dC dI cI kA ad) M s H → va_S (Fr (mΩ ad) s.heap.size) s.heap H locs → lv_has ls 3 [(0, .ref (ad 25)), (1, .int x1), (2, .int x2)] → W p l e (rmL 5 0 0) s m args below meth c H locs 0 0 Q (F0 m 75 ls []) := by
  intro n
  induction n with
  | zero => intro M x1 x2 H locs ls hf; cases hf
  | succ k ih =>
    intro M x1 x2 H locs ls hf hP hS hl
    have hx := X.hx
    have hb := X.hb
    have hown := X.hown
    have hts := X.hts
    rw [fX11_hourPasses_75] at hf
    try dsimp only at hf
    refine lv_iload_n hx hb dX11_hourPasses_75 rfl (lv_at hl 2 rfl) ?_
    refine lv_aload_n hx hb dX11_hourPasses_76 rfl (lv_at hl 0 rfl) ?_
    refine mr_get (k := 0) X hP (by decide) rfl rfl tw1665 dX11_hourPasses_77 ?_
    refine lv_iconst (v := 0) hx hb dX11_hourPasses_80 (by decide) ?_
    obtain ⟨g1, hf⟩ := gd hf
    refine mr_ald (a := 0) X hP rfl g1 dX11_hourPasses_81 ?_
    refine lv_icmp_ge (tgt := 102) hx hb dX11_hourPasses_82 (by decide) (fun c1 => ?_) (fun c1 => ?_)
    · exact kX11_hourPasses_102 X hret (ifp c1 hf) hP hS (lv_sub hl [0] rfl)
    · exact kX11_hourPasses_85 X hret ih (ifn c1 hf) hP hS (lv_sub hl [0, 1, 2] rfl)
set_option maxRecDepth 10000 in
theorem kX11_hourPasses_72 {S1 : MS} {M : MS} {s0 : Int32} {H : Heap} {locs : List Loc} {ls : Array Slot} (X : gX p s m args c cX11_hourPasses 3 RX11 (kR kTab kA)) (hret : gRetV p l e (rmL 5 0 0) s m args below meth c cX11_hourPasses (mΩ ad) (mP dC dI cI kA ad) Q S1) (hf : fX11_hourPasses_72 M s0 = some S1) (hP : (mP dC dI cI kA ad) M s H) (hS : va_S (Fr (mΩ ad) s.heap.size) s.heap H locs) (hl : lv_has ls 3 [(0, .ref (ad 25))]) : W p l e (rmL 5 0 0) s m args below meth c H locs 0 0 Q (F0 m 72 ls [.int s0]) := by
  have hx := X.hx
  have hb := X.hb
  have hown := X.hown
  have hts := X.hts
  rw [fX11_hourPasses_72] at hf
  refine lv_istore_n (lv' := [(1, .int s0), (0, .ref (ad 25))]) hx hb dX11_hourPasses_72 rfl hl (by decide) rfl (fun ls hl => ?_)
  refine lv_iconst (v := 0) hx hb dX11_hourPasses_73 (by decide) ?_
  refine lv_istore_n (lv' := [(2, .int 0), (1, .int s0), (0, .ref (ad 25))]) hx hb dX11_hourPasses_74 rfl hl (by decide) rfl (fun ls hl => ?_)
  exact kX11_hourPasses_75 X hret FU _ _ _ _ _ _ hf hP hS (lv_sub hl [2, 1, 0] rfl)
set_option maxRecDepth 10000 in
theorem kX11_hourPasses_68 {S1 : MS} {M : MS} {H : Heap} {locs : List Loc} {ls : Array Slot} (X : gX p s m args c cX11_hourPasses 3 RX11 (kR kTab kA)) (hret : gRetV p l e (rmL 5 0 0) s m args below meth c cX11_hourPasses (mΩ ad) (mP dC dI cI kA ad) Q S1) (hf : fX11_hourPasses_68 M = some S1) (hP : (mP dC dI cI kA ad) M s H) (hS : va_S (Fr (mΩ ad) s.heap.size) s.heap H locs) (hl : lv_has ls 3 [(0, .ref (ad 25))]) : W p l e (rmL 5 0 0) s m args below meth c H locs 0 0 Q (F0 m 68 ls []) := by
  have hx := X.hx
  have hb := X.hb
  have hown := X.hown
  have hts := X.hts
  rw [fX11_hourPasses_68] at hf
  refine lv_aload_n hx hb dX11_hourPasses_68 rfl (lv_at hl 0 rfl) ?_
  obtain ⟨q, hc, hf⟩ := bd hf
  refine gCallVI X mOK rfl (vX11_hunts hc) gRX11_X11_hunts hdX11_hunts rfl ⟨by decide, by decide⟩ hP hS (mrec hP) hl.1 (Nat.le_of_ble_eq_true rfl) ⟨Nat.le_refl _, Nat.le_refl _⟩ dX11_hourPasses_69 (As := []) (rest := []) rfl (fun H locs hP hS => ?_)
  exact kX11_hourPasses_72 X hret hf hP hS (lv_sub hl [0] rfl)
set_option maxRecDepth 10000 in
theorem kX11_hourPasses_62 {S1 : MS} {K35 : MS → Int32 → Option (MS)} {M : MS} {x1 : Int32} {H : Heap} {locs : List Loc} {ls : Array Slot} (X : gX p s m args c cX11_hourPasses 3 RX11 (kR kTab kA)) (hret : gRetV p l e (rmL 5 0 0) s m args below meth c cX11_hourPasses (mΩ ad) (mP dC dI cI kA ad) Q S1) (hK35 : ∀ (M : MS) (x1 : Int32) (H : Heap) (locs : List Loc) (ls : Array Slot), K35 M x1 = some S1 → (mP dC dI cI kA ad) M s H → va_S (Fr (mΩ ad) s.heap.size) s.heap H locs → lv_has ls 3 [(0, .ref (ad 25)), (1, .int x1)] → W p l e (rmL 5 0 0) s m args below meth c H locs 0 0 Q (F0 m 35 ls [])) (hf : fX11_hourPasses_62 K35 M x1 = some S1) (hP : (mP dC dI cI kA ad) M s H) (hS : va_S (Fr (mΩ ad) s.heap.size) s.heap H locs) (hl : lv_has ls 3 [(0, .ref (ad 25)), (1, .int x1)]) : W p l e (rmL 5 0 0) s m args below meth c H locs 0 0 Q (F0 m 62 ls []) := by
  have hx := X.hx
  have hb := X.hb
  have hown := X.hown
  have hts := X.hts
  rw [fX11_hourPasses_62] at hf
  refine lv_iinc (v := (x1 + 1)) (lv' := [(1, .int (x1 + 1)), (0, .ref (ad 25))]) hx hb dX11_hourPasses_62 hl (k := 1) rfl (by rfl) (by decide) rfl (fun ls hl => ?_)
  refine lv_goto (tgt := 35) hx hb dX11_hourPasses_65 (by decide) ?_
  exact hK35 _ _ _ _ _ hf hP hS (lv_sub hl [1, 0] rfl)
set_option maxRecDepth 10000 in
theorem kX11_hourPasses_57 {S1 : MS} {K35 : MS → Int32 → Option (MS)} {M : MS} {x1 : Int32} {H : Heap} {locs : List Loc} {ls : Array Slot} (X : gX p s m args c cX11_hourPasses 3 RX11 (kR kTab kA)) (hret : gRetV p l e (rmL 5 0 0) s m args below meth c cX11_hourPasses (mΩ ad) (mP dC dI cI kA ad) Q S1) (hK35 : ∀ (M : MS) (x1 : Int32) (H : Heap) (locs : List Loc) (ls : Array Slot), K35 M x1 = some S1 → (mP dC dI cI kA ad) M s H → va_S (Fr (mΩ ad) s.heap.size) s.heap H locs → lv_has ls 3 [(0, .ref (ad 25)), (1, .int x1)] → W p l e (rmL 5 0 0) s m args below meth c H locs 0 0 Q (F0 m 35 ls [])) (hf : fX11_hourPasses_57 K35 M x1 = some S1) (hP : (mP dC dI cI kA ad) M s H) (hS : va_S (Fr (mΩ ad) s.heap.size) s.heap H locs) (hl : lv_has ls 3 [(0, .ref (ad 25)), (1, .int x1)]) : W p l e (rmL 5 0 0) s m args below meth c H locs 0 0 Q (F0 m 57 ls []) := by
  have hx := X.hx
  have hb := X.hb
  have hown := X.hown
  have hts := X.hts
  rw [fX11_hourPasses_57] at hf
  refine lv_aload_n hx hb dX11_hourPasses_57 rfl (lv_at hl 0 rfl) ?_
  refine lv_iload_n hx hb dX11_hourPasses_58 rfl (lv_at hl 1 rfl) ?_
  obtain ⟨q, hc, hf⟩ := bd hf
  refine gCallVV X mOK rfl (vX11_breeds hc) gRX11_X11_breeds hdX11_breeds rfl ⟨by decide, by decide⟩ hP hS (mrec hP) hl.1 (Nat.le_of_ble_eq_true rfl) ⟨Nat.le_refl _, Nat.le_refl _⟩ dX11_hourPasses_59 (As := [.int x1]) (rest := []) rfl (fun H locs hP hS => ?_)
  exact kX11_hourPasses_62 X hret hK35 hf hP hS (lv_sub hl [0, 1] rfl)
set_option maxRecDepth 10000 in
theorem kX11_hourPasses_45 {S1 : MS} {K35 : MS → Int32 → Option (MS)} {M : MS} {x1 : Int32} {H : Heap} {locs : List Loc} {ls : Array Slot} (X : gX p s m args c cX11_hourPasses 3 RX11 (kR kTab kA)) (hret : gRetV p l e (rmL 5 0 0) s m args below meth c cX11_hourPasses (mΩ ad) (mP dC dI cI kA ad) Q S1) (hK35 : ∀ (M : MS) (x1 : Int32) (H : Heap) (locs : List Loc) (ls : Array Slot), K35 M x1 = some S1 → (mP dC dI cI kA ad) M s H → va_S (Fr (mΩ ad) s.heap.size) s.heap H locs → lv_has ls 3 [(0, .ref (ad 25)), (1, .int x1)] → W p l e (rmL 5 0 0) s m args below meth c H locs 0 0 Q (F0 m 35 ls [])) (hf : fX11_hourPasses_45 K35 M x1 = some S1) (hP : (mP dC dI cI kA ad) M s H) (hS : va_S (Fr (mΩ ad) s.heap.size) s.heap H locs) (hl : lv_has ls 3 [(0, .ref (ad 25)), (1, .int x1)]) : W p l e (rmL 5 0 0) s m args below meth c H locs 0 0 Q (F0 m 45 ls []) := by
  have hx := X.hx
  have hb := X.hb
  have hown := X.hown
  have hts := X.hts
  rw [fX11_hourPasses_45] at hf
  refine lv_aload_n hx hb dX11_hourPasses_45 rfl (lv_at hl 0 rfl) ?_
  refine mr_get (k := 0) X hP (by decide) rfl rfl tw1665 dX11_hourPasses_46 ?_
  refine lv_iconst (v := 3) hx hb dX11_hourPasses_49 (by decide) ?_
  obtain ⟨g1, hf⟩ := gd hf
  refine mr_ald (a := 0) X hP rfl g1 dX11_hourPasses_50 ?_
  refine lv_bipush (v := 24) hx hb dX11_hourPasses_51 (by decide) ?_
  refine lv_irem hx hb dX11_hourPasses_53 (by decide) ?_
  refine lv_if_ne (tgt := 68) hx hb dX11_hourPasses_54 (by decide) (fun c1 => ?_) (fun c1 => ?_)
  · exact kX11_hourPasses_68 X hret (ifn c1 hf) hP hS (lv_sub hl [0] rfl)
  · exact kX11_hourPasses_57 X hret hK35 (ifp c1 hf) hP hS (lv_sub hl [0, 1] rfl)
set_option maxRecDepth 10000 in
theorem kX11_hourPasses_35 {S1 : MS} (X : gX p s m args c cX11_hourPasses 3 RX11 (kR kTab kA)) (hret : gRetV p l e (rmL 5 0 0) s m args below meth c cX11_hourPasses (mΩ ad) (mP dC dI cI kA ad) Q S1) : ∀ (n : Nat) (M : MS) (x1 : Int32) (H : Heap) (locs : List Loc) (ls : Array Slot), fX11_hourPasses_35 n M x1 = some S1 → (mP dC dI cI kA ad) M s H → va_S (Fr (mΩ ad) s.heap.size) s.heap H locs → lv_has ls 3 [(0, .ref (ad 25)), (1, .int x1)] → W p l e (rmL 5 0 0) s m args below meth c H locs 0 0 Q (F0 m 35 ls []) := by
  intro n
  induction n with
  | zero => intro M x1 H locs ls hf; cases hf
  | succ k ih =>
    intro M x1 H locs ls hf hP hS hl
    have hx := X.hx
    have hb := X.hb
    have hown := X.hown
    have hts := X.hts
    rw [fX11_hourPasses_35] at hf
    try dsimp only at hf
    refine lv_iload_n hx hb dX11_hourPasses_35 rfl (lv_at hl 1 rfl) ?_
    refine lv_aload_n hx hb dX11_hourPasses_36 rfl (lv_at hl 0 rfl) ?_
    refine mr_get (k := 0) X hP (by decide) rfl rfl tw1665 dX11_hourPasses_37 ?_
    refine lv_iconst (v := 1) hx hb dX11_hourPasses_40 (by decide) ?_
    obtain ⟨g1, hf⟩ := gd hf
    refine mr_ald (a := 0) X hP rfl g1 dX11_hourPasses_41 ?_
    refine lv_icmp_ge (tgt := 68) hx hb dX11_hourPasses_42 (by decide) (fun c1 => ?_) (fun c1 => ?_)
    · exact kX11_hourPasses_68 X hret (ifp c1 hf) hP hS (lv_sub hl [0] rfl)
    · exact kX11_hourPasses_45 X hret ih (ifn c1 hf) hP hS (lv_sub hl [0, 1] rfl)
set_option maxRecDepth 10000 in
theorem kX11_hourPasses_33 {S1 : MS} {M : MS} {H : Heap} {locs : List Loc} {ls : Array Slot} (X : gX p s m args c cX11_hourPasses 3 RX11 (kR kTab kA)) (hret : gRetV p l e (rmL 5 0 0) s m args below meth c cX11_hourPasses (mΩ ad) (mP dC dI cI kA ad) Q S1) (hf : fX11_hourPasses_33 M = some S1) (hP : (mP dC dI cI kA ad) M s H) (hS : va_S (Fr (mΩ ad) s.heap.size) s.heap H locs) (hl : lv_has ls 3 [(0, .ref (ad 25))]) : W p l e (rmL 5 0 0) s m args below meth c H locs 0 0 Q (F0 m 33 ls []) := by
  have hx := X.hx
  have hb := X.hb
  have hown := X.hown
  have hts := X.hts
  rw [fX11_hourPasses_33] at hf
  refine lv_iconst (v := 0) hx hb dX11_hourPasses_33 (by decide) ?_
  refine lv_istore_n (lv' := [(1, .int 0), (0, .ref (ad 25))]) hx hb dX11_hourPasses_34 rfl hl (by decide) rfl (fun ls hl => ?_)
  exact kX11_hourPasses_35 X hret FU _ _ _ _ _ hf hP hS (lv_sub hl [1, 0] rfl)
set_option maxRecDepth 10000 in
theorem kX11_hourPasses_27 {S1 : MS} {K12 : MS → Int32 → Option (MS)} {M : MS} {x1 : Int32} {H : Heap} {locs : List Loc} {ls : Array Slot} (X : gX p s m args c cX11_hourPasses 3 RX11 (kR kTab kA)) (hret : gRetV p l e (rmL 5 0 0) s m args below meth c cX11_hourPasses (mΩ ad) (mP dC dI cI kA ad) Q S1) (hK12 : ∀ (M : MS) (x1 : Int32) (H : Heap) (locs : List Loc) (ls : Array Slot), K12 M x1 = some S1 → (mP dC dI cI kA ad) M s H → va_S (Fr (mΩ ad) s.heap.size) s.heap H locs → lv_has ls 3 [(0, .ref (ad 25)), (1, .int x1)] → W p l e (rmL 5 0 0) s m args below meth c H locs 0 0 Q (F0 m 12 ls [])) (hf : fX11_hourPasses_27 K12 M x1 = some S1) (hP : (mP dC dI cI kA ad) M s H) (hS : va_S (Fr (mΩ ad) s.heap.size) s.heap H locs) (hl : lv_has ls 3 [(0, .ref (ad 25)), (1, .int x1)]) : W p l e (rmL 5 0 0) s m args below meth c H locs 0 0 Q (F0 m 27 ls []) := by
  have hx := X.hx
  have hb := X.hb
  have hown := X.hown
  have hts := X.hts
  rw [fX11_hourPasses_27] at hf
  refine lv_iinc (v := (x1 + 1)) (lv' := [(1, .int (x1 + 1)), (0, .ref (ad 25))]) hx hb dX11_hourPasses_27 hl (k := 1) rfl (by rfl) (by decide) rfl (fun ls hl => ?_)
  refine lv_goto (tgt := 12) hx hb dX11_hourPasses_30 (by decide) ?_
  exact hK12 _ _ _ _ _ hf hP hS (lv_sub hl [1, 0] rfl)
set_option maxRecDepth 10000 in
theorem kX11_hourPasses_22 {S1 : MS} {K12 : MS → Int32 → Option (MS)} {M : MS} {x1 : Int32} {H : Heap} {locs : List Loc} {ls : Array Slot} (X : gX p s m args c cX11_hourPasses 3 RX11 (kR kTab kA)) (hret : gRetV p l e (rmL 5 0 0) s m args below meth c cX11_hourPasses (mΩ ad) (mP dC dI cI kA ad) Q S1) (hK12 : ∀ (M : MS) (x1 : Int32) (H : Heap) (locs : List Loc) (ls : Array Slot), K12 M x1 = some S1 → (mP dC dI cI kA ad) M s H → va_S (Fr (mΩ ad) s.heap.size) s.heap H locs → lv_has ls 3 [(0, .ref (ad 25)), (1, .int x1)] → W p l e (rmL 5 0 0) s m args below meth c H locs 0 0 Q (F0 m 12 ls [])) (hf : fX11_hourPasses_22 K12 M x1 = some S1) (hP : (mP dC dI cI kA ad) M s H) (hS : va_S (Fr (mΩ ad) s.heap.size) s.heap H locs) (hl : lv_has ls 3 [(0, .ref (ad 25)), (1, .int x1)]) : W p l e (rmL 5 0 0) s m args below meth c H locs 0 0 Q (F0 m 22 ls []) := by
  have hx := X.hx
  have hb := X.hb
  have hown := X.hown
  have hts := X.hts
  rw [fX11_hourPasses_22] at hf
  refine lv_aload_n hx hb dX11_hourPasses_22 rfl (lv_at hl 0 rfl) ?_
  refine lv_iload_n hx hb dX11_hourPasses_23 rfl (lv_at hl 1 rfl) ?_
  obtain ⟨q, hc, hf⟩ := bd hf
  refine gCallVV X mOK rfl (vX11_eats hc) gRX11_X11_eats hdX11_eats rfl ⟨by decide, by decide⟩ hP hS (mrec hP) hl.1 (Nat.le_of_ble_eq_true rfl) ⟨Nat.le_refl _, Nat.le_refl _⟩ dX11_hourPasses_24 (As := [.int x1]) (rest := []) rfl (fun H locs hP hS => ?_)
  exact kX11_hourPasses_27 X hret hK12 hf hP hS (lv_sub hl [0, 1] rfl)
set_option maxRecDepth 10000 in
theorem kX11_hourPasses_12 {S1 : MS} (X : gX p s m args c cX11_hourPasses 3 RX11 (kR kTab kA)) (hret : gRetV p l e (rmL 5 0 0) s m args below meth c cX11_hourPasses (mΩ ad) (mP dC dI cI kA ad) Q S1) : ∀ (n : Nat) (M : MS) (x1 : Int32) (H : Heap) (locs : List Loc) (ls : Array Slot), fX11_hourPasses_12 n M x1 = some S1 → (mP dC dI cI kA ad) M s H → va_S (Fr (mΩ ad) s.heap.size) s.heap H locs → lv_has ls 3 [(0, .ref (ad 25)), (1, .int x1)] → W p l e (rmL 5 0 0) s m args below meth c H locs 0 0 Q (F0 m 12 ls []) := by
  intro n
  induction n with
  | zero => intro M x1 H locs ls hf; cases hf
  | succ k ih =>
    intro M x1 H locs ls hf hP hS hl
    have hx := X.hx
    have hb := X.hb
    have hown := X.hown
    have hts := X.hts
    rw [fX11_hourPasses_12] at hf
    try dsimp only at hf
    refine lv_iload_n hx hb dX11_hourPasses_12 rfl (lv_at hl 1 rfl) ?_
    refine lv_aload_n hx hb dX11_hourPasses_13 rfl (lv_at hl 0 rfl) ?_
    refine mr_get (k := 0) X hP (by decide) rfl rfl tw1665 dX11_hourPasses_14 ?_
    refine lv_iconst (v := 1) hx hb dX11_hourPasses_17 (by decide) ?_
    obtain ⟨g1, hf⟩ := gd hf
    refine mr_ald (a := 0) X hP rfl g1 dX11_hourPasses_18 ?_
    refine lv_icmp_ge (tgt := 33) hx hb dX11_hourPasses_19 (by decide) (fun c1 => ?_) (fun c1 => ?_)
    · exact kX11_hourPasses_33 X hret (ifp c1 hf) hP hS (lv_sub hl [0] rfl)
    · exact kX11_hourPasses_22 X hret ih (ifn c1 hf) hP hS (lv_sub hl [0, 1] rfl)
set_option maxRecDepth 10000 in
theorem kX11_hourPasses_10 {S1 : MS} {M : MS} {H : Heap} {locs : List Loc} {ls : Array Slot} (X : gX p s m args c cX11_hourPasses 3 RX11 (kR kTab kA)) (hret : gRetV p l e (rmL 5 0 0) s m args below meth c cX11_hourPasses (mΩ ad) (mP dC dI cI kA ad) Q S1) (hf : fX11_hourPasses_10 M = some S1) (hP : (mP dC dI cI kA ad) M s H) (hS : va_S (Fr (mΩ ad) s.heap.size) s.heap H locs) (hl : lv_has ls 3 [(0, .ref (ad 25))]) : W p l e (rmL 5 0 0) s m args below meth c H locs 0 0 Q (F0 m 10 ls []) := by
  have hx := X.hx
  have hb := X.hb
  have hown := X.hown
  have hts := X.hts
  rw [fX11_hourPasses_10] at hf
  refine lv_iconst (v := 0) hx hb dX11_hourPasses_10 (by decide) ?_
  refine lv_istore_n (lv' := [(1, .int 0), (0, .ref (ad 25))]) hx hb dX11_hourPasses_11 rfl hl (by decide) rfl (fun ls hl => ?_)
  exact kX11_hourPasses_12 X hret FU _ _ _ _ _ hf hP hS (lv_sub hl [1, 0] rfl)
set_option maxRecDepth 10000 in
theorem kX11_hourPasses_0 {S1 : MS} {M : MS} {H : Heap} {locs : List Loc} {ls : Array Slot} (X : gX p s m args c cX11_hourPasses 3 RX11 (kR kTab kA)) (hret : gRetV p l e (rmL 5 0 0) s m args below meth c cX11_hourPasses (mΩ ad) (mP dC dI cI kA ad) Q S1) (hf : fX11_hourPasses_0 M = some S1) (hP : (mP dC dI cI kA ad) M s H) (hS : va_S (Fr (mΩ ad) s.heap.size) s.heap H locs) (hl : lv_has ls 3 [(0, .ref (ad 25))]) : W p l e (rmL 5 0 0) s m args below meth c H locs 0 0 Q (F0 m 0 ls []) := by
  have hx := X.hx
  have hb := X.hb
  have hown := X.hown
  have hts := X.hts
  rw [fX11_hourPasses_0] at hf
  refine lv_aload_n hx hb dX11_hourPasses_0 rfl (lv_at hl 0 rfl) ?_
  refine mr_get (k := 0) X hP (by decide) rfl rfl tw1665 dX11_hourPasses_1 ?_
  refine lv_iconst (v := 3) hx hb dX11_hourPasses_4 (by decide) ?_
  refine lv_dup2_11 hx hb dX11_hourPasses_5 rfl rfl ?_
  obtain ⟨g1, hf⟩ := gd hf
  refine mr_ald (a := 0) X hP rfl g1 dX11_hourPasses_6 ?_
  refine lv_iconst (v := 1) hx hb dX11_hourPasses_7 (by decide) ?_
  refine lv_iadd hx hb dX11_hourPasses_8 ?_
  obtain ⟨g2, hf⟩ := gd hf
  refine mr_ast (a := 0) X hP hS rfl g2 dX11_hourPasses_9 (fun H locs hP hS => ?_)
  exact kX11_hourPasses_10 X hret hf hP hS (lv_sub hl [0] rfl)
theorem vX11_hourPasses {l : Launch} {dC : Nat → ClassId} {dI : Nat → Nat → Nat} {cI : ClassId} {kA : String → Nat → Nat} {ad : Nat → Nat} {M S1 : MS} (hf : fX11_hourPasses M  = some S1) : gMetV l yX11_hourPasses cX11_hourPasses 3 5 (mΩ ad) (mP dC dI cI kA ad) (kR kTab kA) [.ref (ad 25)] M S1 := gEntryV (by decide) mOK (Nat.le_of_ble_eq_true rfl) (fun p e s m args below meth c Q ls X hP hS hret hl => 
  kX11_hourPasses_0 X hret hf hP hS (lv_sub hl [0] rfl))
set_option maxRecDepth 10000 in
theorem kX11_isWord_24 {r : Int32} {M : MS} (X : gX p s m args c cX11_isWord 3 RX11 (kR kTab kA)) (hret : gRetR p l e (rmL 5 0 0) s m args below meth c cX11_isWord Q r) (hf : fX11_isWord_24 M = some r) {ls : Array Slot} (hP : (mP dC dI cI kA ad) M s s.heap) (hl : lv_has ls 3 [(0, .ref (ad 25))]) : W p l e (rmL 5 0 0) s m args below meth c s.heap [] 0 0 Q (F0 m 24 ls []) := by
  have hx := X.hx
  have hb := X.hb
  have hown := X.hown
  have hts := X.hts
  rw [fX11_isWord_24] at hf
  refine lv_iconst (v := 0) hx hb dX11_isWord_24 (by decide) ?_
  cases hf
  exact hret _ _ dX11_isWord_25
set_option maxRecDepth 10000 in
theorem kX11_isWord_63 {r : Int32} {M : MS} (X : gX p s m args c cX11_isWord 3 RX11 (kR kTab kA)) (hret : gRetR p l e (rmL 5 0 0) s m args below meth c cX11_isWord Q r) (hf : fX11_isWord_63 M = some r) {ls : Array Slot} (hP : (mP dC dI cI kA ad) M s s.heap) (hl : lv_has ls 3 [(0, .ref (ad 25))]) : W p l e (rmL 5 0 0) s m args below meth c s.heap [] 0 0 Q (F0 m 63 ls []) := by
  have hx := X.hx
  have hb := X.hb
  have hown := X.hown
  have hts := X.hts
  rw [fX11_isWord_63] at hf
  refine lv_iconst (v := 1) hx hb dX11_isWord_63 (by decide) ?_
  cases hf
  exact hret _ _ dX11_isWord_64
set_option maxRecDepth 10000 in
theorem kX11_isWord_57 {r : Int32} {a1 : List Int32} {K28 : MS → Int32 → Option (Int32)} {M : MS} {x2 : Int32} (X : gX p s m args c cX11_isWord 3 RX11 (kR kTab kA)) (hret : gRetR p l e (rmL 5 0 0) s m args below meth c cX11_isWord Q r) {wa1 : Nat} (hwa1 : strAt wa1 a1 (mΩ ad) s s.heap) (hK28 : ∀ (M : MS) (x2 : Int32) (ls : Array Slot), K28 M x2 = some r → (mP dC dI cI kA ad) M s s.heap → lv_has ls 3 [(0, .ref (ad 25)), (1, .ref wa1), (2, .int x2)] → W p l e (rmL 5 0 0) s m args below meth c s.heap [] 0 0 Q (F0 m 28 ls [])) (hf : fX11_isWord_57 a1 K28 M x2 = some r) {ls : Array Slot} (hP : (mP dC dI cI kA ad) M s s.heap) (hl : lv_has ls 3 [(0, .ref (ad 25)), (1, .ref wa1), (2, .int x2)]) : W p l e (rmL 5 0 0) s m args below meth c s.heap [] 0 0 Q (F0 m 57 ls []) := by
  have hx := X.hx
  have hb := X.hb
  have hown := X.hown
  have hts := X.hts
  rw [fX11_isWord_57] at hf
  refine lv_iinc (v := (x2 + 1)) (lv' := [(2, .int (x2 + 1)), (0, .ref (ad 25)), (1, .ref wa1)]) hx hb dX11_isWord_57 hl (k := 2) rfl (by rfl) (by decide) rfl (fun ls hl => ?_)
  refine lv_goto (tgt := 28) hx hb dX11_isWord_60 (by decide) ?_
  exact hK28 _ _ _ hf hP (lv_sub hl [1, 2, 0] rfl)
set_option maxRecDepth 10000 in
theorem kX11_isWord_55 {r : Int32} {M : MS} (X : gX p s m args c cX11_isWord 3 RX11 (kR kTab kA)) (hret : gRetR p l e (rmL 5 0 0) s m args below meth c cX11_isWord Q r) (hf : fX11_isWord_55 M = some r) {ls : Array Slot} (hP : (mP dC dI cI kA ad) M s s.heap) (hl : lv_has ls 3 [(0, .ref (ad 25))]) : W p l e (rmL 5 0 0) s m args below meth c s.heap [] 0 0 Q (F0 m 55 ls []) := by
  have hx := X.hx
  have hb := X.hb
  have hown := X.hown
  have hts := X.hts
  rw [fX11_isWord_55] at hf
  refine lv_iconst (v := 0) hx hb dX11_isWord_55 (by decide) ?_
  cases hf
  exact hret _ _ dX11_isWord_56
set_option maxRecDepth 10000 in
theorem kX11_isWord_36 {r : Int32} {a1 : List Int32} {K28 : MS → Int32 → Option (Int32)} {M : MS} {x2 : Int32} (X : gX p s m args c cX11_isWord 3 RX11 (kR kTab kA)) (hret : gRetR p l e (rmL 5 0 0) s m args below meth c cX11_isWord Q r) {wa1 : Nat} (hwa1 : strAt wa1 a1 (mΩ ad) s s.heap) (hK28 : ∀ (M : MS) (x2 : Int32) (ls : Array Slot), K28 M x2 = some r → (mP dC dI cI kA ad) M s s.heap → lv_has ls 3 [(0, .ref (ad 25)), (1, .ref wa1), (2, .int x2)] → W p l e (rmL 5 0 0) s m args below meth c s.heap [] 0 0 Q (F0 m 28 ls [])) (hf : fX11_isWord_36 a1 K28 M x2 = some r) {ls : Array Slot} (hP : (mP dC dI cI kA ad) M s s.heap) (hl : lv_has ls 3 [(0, .ref (ad 25)), (1, .ref wa1), (2, .int x2)]) : W p l e (rmL 5 0 0) s m args below meth c s.heap [] 0 0 Q (F0 m 36 ls []) := by
  have hx := X.hx
  have hb := X.hb
  have hown := X.hown
  have hts := X.hts
  rw [fX11_isWord_36] at hf
  refine lv_aload_n hx hb dX11_isWord_36 rfl (lv_at hl 0 rfl) ?_
  refine mr_get (k := 8) X hP (by decide) rfl rfl tw1673 dX11_isWord_37 ?_
  refine lv_aload_n hx hb dX11_isWord_40 rfl (lv_at hl 0 rfl) ?_
  refine mr_get (k := 15) X hP (by decide) rfl rfl tw1680 dX11_isWord_41 ?_
  refine lv_iload_n hx hb dX11_isWord_44 rfl (lv_at hl 2 rfl) ?_
  refine lv_iadd hx hb dX11_isWord_45 ?_
  obtain ⟨g1, hf⟩ := gd hf
  refine mr_ald (a := 8) X hP rfl g1 dX11_isWord_46 ?_
  refine lv_aload_n hx hb dX11_isWord_47 rfl (lv_at hl 1 rfl) ?_
  refine lv_iload_n hx hb dX11_isWord_48 rfl (lv_at hl 2 rfl) ?_
  obtain ⟨g2, hf⟩ := gd hf
  refine gCallVR X rfl (vJ0_charAt (Ω := (mΩ ad)) g2 hwa1.1 hwa1.2.1) gsRX11_J0_charAt hdJ0_charAt rfl ⟨by decide, by decide⟩ sB_blind (sB_at hP.2.2.2.2 hwa1) hwa1.rec hl.1 (Nat.le_of_ble_eq_true rfl) ⟨Nat.le_refl _, Nat.le_refl _⟩ dX11_isWord_49 (As := [.int x2]) (rest := [.int (M.2 8 ((M.1 15) + x2).toNatClampNeg)]) rfl ?_
  refine lv_icmp_eq (tgt := 57) hx hb dX11_isWord_52 (by decide) (fun c1 => ?_) (fun c1 => ?_)
  · exact kX11_isWord_57 X hret hwa1 hK28 (ifp c1 hf) hP (lv_sub hl [0, 1, 2] rfl)
  · exact kX11_isWord_55 X hret (ifn c1 hf) hP (lv_sub hl [0] rfl)
set_option maxRecDepth 10000 in
theorem kX11_isWord_28 {r : Int32} {a1 : List Int32} (X : gX p s m args c cX11_isWord 3 RX11 (kR kTab kA)) (hret : gRetR p l e (rmL 5 0 0) s m args below meth c cX11_isWord Q r) {wa1 : Nat} (hwa1 : strAt wa1 a1 (mΩ ad) s s.heap) : ∀ (n : Nat) (M : MS) (x2 : Int32) (ls : Array Slot), fX11_isWord_28 a1 n M x2 = some r → (mP dC dI cI kA ad) M s s.heap → lv_has ls 3 [(0, .ref (ad 25)), (1, .ref wa1), (2, .int x2)] → W p l e (rmL 5 0 0) s m args below meth c s.heap [] 0 0 Q (F0 m 28 ls []) := by
  intro n
  induction n with
  | zero => intro M x2 ls hf; cases hf
  | succ k ih =>
    intro M x2 ls hf hP hl
    have hx := X.hx
    have hb := X.hb
    have hown := X.hown
    have hts := X.hts
    rw [fX11_isWord_28] at hf
    try dsimp only at hf
    refine lv_iload_n hx hb dX11_isWord_28 rfl (lv_at hl 2 rfl) ?_
    refine lv_aload_n hx hb dX11_isWord_29 rfl (lv_at hl 1 rfl) ?_
    refine gCallVR X rfl (vJ0_length (Ω := (mΩ ad)) (bs := a1)) gsRX11_J0_length hdJ0_length rfl ⟨by decide, by decide⟩ sB_blind (sB_at hP.2.2.2.2 hwa1) hwa1.rec hl.1 (Nat.le_of_ble_eq_true rfl) ⟨Nat.le_refl _, Nat.le_refl _⟩ dX11_isWord_30 (As := []) (rest := [.int x2]) rfl ?_
    refine lv_icmp_ge (tgt := 63) hx hb dX11_isWord_33 (by decide) (fun c1 => ?_) (fun c1 => ?_)
    · exact kX11_isWord_63 X hret (ifp c1 hf) hP (lv_sub hl [0] rfl)
    · exact kX11_isWord_36 X hret hwa1 ih (ifn c1 hf) hP (lv_sub hl [0, 1, 2] rfl)
set_option maxRecDepth 10000 in
theorem kX11_isWord_26 {r : Int32} {a1 : List Int32} {M : MS} (X : gX p s m args c cX11_isWord 3 RX11 (kR kTab kA)) (hret : gRetR p l e (rmL 5 0 0) s m args below meth c cX11_isWord Q r) {wa1 : Nat} (hwa1 : strAt wa1 a1 (mΩ ad) s s.heap) (hf : fX11_isWord_26 a1 M = some r) {ls : Array Slot} (hP : (mP dC dI cI kA ad) M s s.heap) (hl : lv_has ls 3 [(0, .ref (ad 25)), (1, .ref wa1)]) : W p l e (rmL 5 0 0) s m args below meth c s.heap [] 0 0 Q (F0 m 26 ls []) := by
  have hx := X.hx
  have hb := X.hb
  have hown := X.hown
  have hts := X.hts
  rw [fX11_isWord_26] at hf
  refine lv_iconst (v := 0) hx hb dX11_isWord_26 (by decide) ?_
  refine lv_istore_n (lv' := [(2, .int 0), (0, .ref (ad 25)), (1, .ref wa1)]) hx hb dX11_isWord_27 rfl hl (by decide) rfl (fun ls hl => ?_)
  exact kX11_isWord_28 X hret hwa1 FU _ _ _ hf hP (lv_sub hl [1, 2, 0] rfl)
set_option maxRecDepth 10000 in
theorem kX11_isWord_8 {r : Int32} {a1 : List Int32} {M : MS} (X : gX p s m args c cX11_isWord 3 RX11 (kR kTab kA)) (hret : gRetR p l e (rmL 5 0 0) s m args below meth c cX11_isWord Q r) {wa1 : Nat} (hwa1 : strAt wa1 a1 (mΩ ad) s s.heap) (hf : fX11_isWord_8 a1 M = some r) {ls : Array Slot} (hP : (mP dC dI cI kA ad) M s s.heap) (hl : lv_has ls 3 [(0, .ref (ad 25)), (1, .ref wa1)]) : W p l e (rmL 5 0 0) s m args below meth c s.heap [] 0 0 Q (F0 m 8 ls []) := by
  have hx := X.hx
  have hb := X.hb
  have hown := X.hown
  have hts := X.hts
  rw [fX11_isWord_8] at hf
  refine lv_aload_n hx hb dX11_isWord_8 rfl (lv_at hl 0 rfl) ?_
  refine mr_get (k := 14) X hP (by decide) rfl rfl tw1679 dX11_isWord_9 ?_
  refine lv_aload_n hx hb dX11_isWord_12 rfl (lv_at hl 0 rfl) ?_
  refine mr_get (k := 15) X hP (by decide) rfl rfl tw1680 dX11_isWord_13 ?_
  refine lv_isub hx hb dX11_isWord_16 ?_
  refine lv_aload_n hx hb dX11_isWord_17 rfl (lv_at hl 1 rfl) ?_
  refine gCallVR X rfl (vJ0_length (Ω := (mΩ ad)) (bs := a1)) gsRX11_J0_length hdJ0_length rfl ⟨by decide, by decide⟩ sB_blind (sB_at hP.2.2.2.2 hwa1) hwa1.rec hl.1 (Nat.le_of_ble_eq_true rfl) ⟨Nat.le_refl _, Nat.le_refl _⟩ dX11_isWord_18 (As := []) (rest := [.int ((M.1 14) - (M.1 15))]) rfl ?_
  refine lv_icmp_eq (tgt := 26) hx hb dX11_isWord_21 (by decide) (fun c1 => ?_) (fun c1 => ?_)
  · exact kX11_isWord_26 X hret hwa1 (ifp c1 hf) hP (lv_sub hl [0, 1] rfl)
  · exact kX11_isWord_24 X hret (ifn c1 hf) hP (lv_sub hl [0] rfl)
set_option maxRecDepth 10000 in
theorem kX11_isWord_0 {r : Int32} {a1 : List Int32} {M : MS} (X : gX p s m args c cX11_isWord 3 RX11 (kR kTab kA)) (hret : gRetR p l e (rmL 5 0 0) s m args below meth c cX11_isWord Q r) {wa1 : Nat} (hwa1 : strAt wa1 a1 (mΩ ad) s s.heap) (hf : fX11_isWord_0 a1 M = some r) {ls : Array Slot} (hP : (mP dC dI cI kA ad) M s s.heap) (hl : lv_has ls 3 [(0, .ref (ad 25)), (1, .ref wa1)]) : W p l e (rmL 5 0 0) s m args below meth c s.heap [] 0 0 Q (F0 m 0 ls []) := by
  have hx := X.hx
  have hb := X.hb
  have hown := X.hown
  have hts := X.hts
  rw [fX11_isWord_0] at hf
  refine lv_aload_n hx hb dX11_isWord_0 rfl (lv_at hl 0 rfl) ?_
  refine mr_get (k := 17) X hP (by decide) rfl rfl tw1682 dX11_isWord_1 ?_
  refine lv_iconst (v := 1) hx hb dX11_isWord_4 (by decide) ?_
  refine lv_icmp_ne (tgt := 24) hx hb dX11_isWord_5 (by decide) (fun c1 => ?_) (fun c1 => ?_)
  · exact kX11_isWord_24 X hret (ifn c1 hf) hP (lv_sub hl [0] rfl)
  · exact kX11_isWord_8 X hret hwa1 (ifp c1 hf) hP (lv_sub hl [0, 1] rfl)
theorem vX11_isWord {l : Launch} {dC : Nat → ClassId} {dI : Nat → Nat → Nat} {cI : ClassId} {kA : String → Nat → Nat} {ad : Nat → Nat} {M : MS} {r : Int32} {a1 : List Int32} {wa1 : Nat} (hf : fX11_isWord M a1 = some r) : gMetR l yX11_isWord cX11_isWord 3 (some .boolean) 5 (gBS (mP dC dI cI kA ad) (kR kTab kA) M (mΩ ad) wa1 a1) [.ref (ad 25), .ref wa1] r := gEntryR (ty := .boolean) (by decide) rfl (bq_n hf) (Nat.le_of_ble_eq_true rfl) (fun _ h => h.1.2) (fun p e s m args below meth c Q ls X hB hret hl => 
  kX11_isWord_0 X hret hB.2 (bq_f hf) hB.1.1 (lv_sub hl [0, 1] rfl))
set_option maxRecDepth 10000 in
theorem kX11_takes_21 {r : Int32} {S1 : MS} {M : MS} {H : Heap} {locs : List Loc} {ls : Array Slot} (X : gX p s m args c cX11_takes 4 RX11 (kR kTab kA)) (hret : gRetI p l e (rmL 5 0 0) s m args below meth c cX11_takes (mΩ ad) (mP dC dI cI kA ad) Q r S1) (hf : fX11_takes_21 M = some (r, S1)) (hP : (mP dC dI cI kA ad) M s H) (hS : va_S (Fr (mΩ ad) s.heap.size) s.heap H locs) (hl : lv_has ls 4 [(0, .ref (ad 25))]) : W p l e (rmL 5 0 0) s m args below meth c H locs 0 0 Q (F0 m 21 ls []) := by
  have hx := X.hx
  have hb := X.hb
  have hown := X.hown
  have hts := X.hts
  rw [fX11_takes_21] at hf
  refine lv_iconst (v := 1) hx hb dX11_takes_21 (by decide) ?_
  cases hf
  exact hret _ _ _ _ dX11_takes_22 hP hS
set_option maxRecDepth 10000 in
theorem kX11_takes_11 {r : Int32} {S1 : MS} {M : MS} {x1 : Int32} {H : Heap} {locs : List Loc} {ls : Array Slot} (X : gX p s m args c cX11_takes 4 RX11 (kR kTab kA)) (hret : gRetI p l e (rmL 5 0 0) s m args below meth c cX11_takes (mΩ ad) (mP dC dI cI kA ad) Q r S1) (hf : fX11_takes_11 M x1 = some (r, S1)) (hP : (mP dC dI cI kA ad) M s H) (hS : va_S (Fr (mΩ ad) s.heap.size) s.heap H locs) (hl : lv_has ls 4 [(0, .ref (ad 25)), (1, .int x1)]) : W p l e (rmL 5 0 0) s m args below meth c H locs 0 0 Q (F0 m 11 ls []) := by
  have hx := X.hx
  have hb := X.hb
  have hown := X.hown
  have hts := X.hts
  rw [fX11_takes_11] at hf
  refine lv_aload_n hx hb dX11_takes_11 rfl (lv_at hl 0 rfl) ?_
  refine mr_get (k := 19) X hP (by decide) rfl rfl tw1684 dX11_takes_12 ?_
  refine lv_iload_n hx hb dX11_takes_15 rfl (lv_at hl 1 rfl) ?_
  refine lv_aload_n hx hb dX11_takes_16 rfl (lv_at hl 0 rfl) ?_
  refine mr_get (k := 18) X hP (by decide) rfl rfl tw1683 dX11_takes_17 ?_
  obtain ⟨g1, hf⟩ := gd hf
  refine mr_ast (a := 19) X hP hS rfl g1 dX11_takes_20 (fun H locs hP hS => ?_)
  exact kX11_takes_21 X hret hf hP hS (lv_sub hl [0] rfl)
set_option maxRecDepth 10000 in
theorem kX11_takes_9 {r : Int32} {S1 : MS} {M : MS} {H : Heap} {locs : List Loc} {ls : Array Slot} (X : gX p s m args c cX11_takes 4 RX11 (kR kTab kA)) (hret : gRetI p l e (rmL 5 0 0) s m args below meth c cX11_takes (mΩ ad) (mP dC dI cI kA ad) Q r S1) (hf : fX11_takes_9 M = some (r, S1)) (hP : (mP dC dI cI kA ad) M s H) (hS : va_S (Fr (mΩ ad) s.heap.size) s.heap H locs) (hl : lv_has ls 4 [(0, .ref (ad 25))]) : W p l e (rmL 5 0 0) s m args below meth c H locs 0 0 Q (F0 m 9 ls []) := by
  have hx := X.hx
  have hb := X.hb
  have hown := X.hown
  have hts := X.hts
  rw [fX11_takes_9] at hf
  refine lv_iconst (v := 0) hx hb dX11_takes_9 (by decide) ?_
  cases hf
  exact hret _ _ _ _ dX11_takes_10 hP hS
set_option maxRecDepth 10000 in
theorem kX11_takes_6 {r : Int32} {S1 : MS} {M : MS} {x1 : Int32} {s0 : Int32} {H : Heap} {locs : List Loc} {ls : Array Slot} (X : gX p s m args c cX11_takes 4 RX11 (kR kTab kA)) (hret : gRetI p l e (rmL 5 0 0) s m args below meth c cX11_takes (mΩ ad) (mP dC dI cI kA ad) Q r S1) (hf : fX11_takes_6 M x1 s0 = some (r, S1)) (hP : (mP dC dI cI kA ad) M s H) (hS : va_S (Fr (mΩ ad) s.heap.size) s.heap H locs) (hl : lv_has ls 4 [(0, .ref (ad 25)), (1, .int x1)]) : W p l e (rmL 5 0 0) s m args below meth c H locs 0 0 Q (F0 m 6 ls [.int s0]) := by
  have hx := X.hx
  have hb := X.hb
  have hown := X.hown
  have hts := X.hts
  rw [fX11_takes_6] at hf
  refine lv_if_ne (tgt := 11) hx hb dX11_takes_6 (by decide) (fun c1 => ?_) (fun c1 => ?_)
  · exact kX11_takes_11 X hret (ifn c1 hf) hP hS (lv_sub hl [0, 1] rfl)
  · exact kX11_takes_9 X hret (ifp c1 hf) hP hS (lv_sub hl [0] rfl)
set_option maxRecDepth 10000 in
theorem kX11_takes_0 {r : Int32} {S1 : MS} {M : MS} {a1 : Int32} {a2 : Int32} {a3 : Int32} {H : Heap} {locs : List Loc} {ls : Array Slot} (X : gX p s m args c cX11_takes 4 RX11 (kR kTab kA)) (hret : gRetI p l e (rmL 5 0 0) s m args below meth c cX11_takes (mΩ ad) (mP dC dI cI kA ad) Q r S1) (hf : fX11_takes_0 M a1 a2 a3 = some (r, S1)) (hP : (mP dC dI cI kA ad) M s H) (hS : va_S (Fr (mΩ ad) s.heap.size) s.heap H locs) (hl : lv_has ls 4 [(0, .ref (ad 25)), (1, .int a1), (2, .int a2), (3, .int a3)]) : W p l e (rmL 5 0 0) s m args below meth c H locs 0 0 Q (F0 m 0 ls []) := by
  have hx := X.hx
  have hb := X.hb
  have hown := X.hown
  have hts := X.hts
  rw [fX11_takes_0] at hf
  refine lv_aload_n hx hb dX11_takes_0 rfl (lv_at hl 0 rfl) ?_
  refine lv_iload_n hx hb dX11_takes_1 rfl (lv_at hl 2 rfl) ?_
  refine lv_iload_n hx hb dX11_takes_2 rfl (lv_at hl 3 rfl) ?_
  obtain ⟨q, hc, hf⟩ := bd hf
  refine gCallVI X mOK rfl (vX11_takesNumber hc) gRX11_X11_takesNumber hdX11_takesNumber rfl ⟨by decide, by decide⟩ hP hS (mrec hP) hl.1 (Nat.le_of_ble_eq_true rfl) ⟨Nat.le_refl _, Nat.le_refl _⟩ dX11_takes_3 (As := [.int a2, .int a3]) (rest := []) rfl (fun H locs hP hS => ?_)
  exact kX11_takes_6 X hret hf hP hS (lv_sub hl [0, 1] rfl)
theorem vX11_takes {l : Launch} {dC : Nat → ClassId} {dI : Nat → Nat → Nat} {cI : ClassId} {kA : String → Nat → Nat} {ad : Nat → Nat} {M S1 : MS} {r : Int32} {a1 : Int32} {a2 : Int32} {a3 : Int32} (hf : fX11_takes M a1 a2 a3 = some (r, S1)) : gMetI l yX11_takes cX11_takes 4 (some .boolean) 5 (mΩ ad) (mP dC dI cI kA ad) (kR kTab kA) [.ref (ad 25), .int a1, .int a2, .int a3] M r S1 := gEntryI (ty := .boolean) (by decide) rfl (bz_n hf) mOK (Nat.le_of_ble_eq_true rfl) (fun p e s m args below meth c Q ls X hP hS hret hl => 
  kX11_takes_0 X hret (bz_f hf) hP hS (lv_sub hl [0, 1, 2, 3] rfl))
set_option maxRecDepth 10000 in
theorem kX11_passes_25 {r : Int32} {S1 : MS} {M : MS} {x2 : Int32} {H : Heap} {locs : List Loc} {ls : Array Slot} (X : gX p s m args c cX11_passes 4 RX11 (kR kTab kA)) (hret : gRetI p l e (rmL 6 0 0) s m args below meth c cX11_passes (mΩ ad) (mP dC dI cI kA ad) Q r S1) (hf : fX11_passes_25 M x2 = some (r, S1)) (hP : (mP dC dI cI kA ad) M s H) (hS : va_S (Fr (mΩ ad) s.heap.size) s.heap H locs) (hl : lv_has ls 4 [(0, .ref (ad 25)), (2, .int x2)]) : W p l e (rmL 6 0 0) s m args below meth c H locs 0 0 Q (F0 m 25 ls []) := by
  have hx := X.hx
  have hb := X.hb
  have hown := X.hown
  have hts := X.hts
  rw [fX11_passes_25] at hf
  refine lv_aload_n hx hb dX11_passes_25 rfl (lv_at hl 0 rfl) ?_
  refine mr_get (k := 0) X hP (by decide) rfl rfl tw1665 dX11_passes_26 ?_
  refine lv_bipush (v := 8) hx hb dX11_passes_29 (by decide) ?_
  obtain ⟨g1, hf⟩ := gd hf
  refine mr_ald (a := 0) X hP rfl g1 dX11_passes_31 ?_
  refine lv_iload_n hx hb dX11_passes_32 rfl (lv_at hl 1 rfl) ?_
  refine lv_isub hx hb dX11_passes_33 ?_
  cases hf
  exact hret _ _ _ _ dX11_passes_34 hP hS
set_option maxRecDepth 10000 in
theorem kX11_passes_19 {r : Int32} {S1 : MS} {K10 : MS → Int32 → Int32 → Int32 → Option (Int32 × MS)} {M : MS} {x1 : Int32} {x2 : Int32} {x3 : Int32} {H : Heap} {locs : List Loc} {ls : Array Slot} (X : gX p s m args c cX11_passes 4 RX11 (kR kTab kA)) (hret : gRetI p l e (rmL 6 0 0) s m args below meth c cX11_passes (mΩ ad) (mP dC dI cI kA ad) Q r S1) (hK10 : ∀ (M : MS) (x1 : Int32) (x2 : Int32) (x3 : Int32) (H : Heap) (locs : List Loc) (ls : Array Slot), K10 M x1 x2 x3 = some (r, S1) → (mP dC dI cI kA ad) M s H → va_S (Fr (mΩ ad) s.heap.size) s.heap H locs → lv_has ls 4 [(0, .ref (ad 25)), (1, .int x1), (2, .int x2), (3, .int x3)] → W p l e (rmL 6 0 0) s m args below meth c H locs 0 0 Q (F0 m 10 ls [])) (hf : fX11_passes_19 K10 M x1 x2 x3 = some (r, S1)) (hP : (mP dC dI cI kA ad) M s H) (hS : va_S (Fr (mΩ ad) s.heap.size) s.heap H locs) (hl : lv_has ls 4 [(0, .ref (ad 25)), (1, .int x1), (2, .int x2), (3, .int x3)]) : W p l e (rmL 6 0 0) s m args below meth c H locs 0 0 Q (F0 m 19 ls []) := by
  have hx := X.hx
  have hb := X.hb
  have hown := X.hown
  have hts := X.hts
  rw [fX11_passes_19] at hf
  refine lv_iinc (v := (x3 + 1)) (lv' := [(3, .int (x3 + 1)), (0, .ref (ad 25)), (1, .int x1), (2, .int x2)]) hx hb dX11_passes_19 hl (k := 3) rfl (by rfl) (by decide) rfl (fun ls hl => ?_)
  refine lv_goto (tgt := 10) hx hb dX11_passes_22 (by decide) ?_
  exact hK10 _ _ _ _ _ _ _ hf hP hS (lv_sub hl [1, 2, 3, 0] rfl)
set_option maxRecDepth 10000 in
theorem kX11_passes_15 {r : Int32} {S1 : MS} {K10 : MS → Int32 → Int32 → Int32 → Option (Int32 × MS)} {M : MS} {x1 : Int32} {x2 : Int32} {x3 : Int32} {H : Heap} {locs : List Loc} {ls : Array Slot} (X : gX p s m args c cX11_passes 4 RX11 (kR kTab kA)) (hret : gRetI p l e (rmL 6 0 0) s m args below meth c cX11_passes (mΩ ad) (mP dC dI cI kA ad) Q r S1) (hK10 : ∀ (M : MS) (x1 : Int32) (x2 : Int32) (x3 : Int32) (H : Heap) (locs : List Loc) (ls : Array Slot), K10 M x1 x2 x3 = some (r, S1) → (mP dC dI cI kA ad) M s H → va_S (Fr (mΩ ad) s.heap.size) s.heap H locs → lv_has ls 4 [(0, .ref (ad 25)), (1, .int x1), (2, .int x2), (3, .int x3)] → W p l e (rmL 6 0 0) s m args below meth c H locs 0 0 Q (F0 m 10 ls [])) (hf : fX11_passes_15 K10 M x1 x2 x3 = some (r, S1)) (hP : (mP dC dI cI kA ad) M s H) (hS : va_S (Fr (mΩ ad) s.heap.size) s.heap H locs) (hl : lv_has ls 4 [(0, .ref (ad 25)), (1, .int x1), (2, .int x2), (3, .int x3)]) : W p l e (rmL 6 0 0) s m args below meth c H locs 0 0 Q (F0 m 15 ls []) := by
  have hx := X.hx
  have hb := X.hb
  have hown := X.hown
  have hts := X.hts
  rw [fX11_passes_15] at hf
  refine lv_aload_n hx hb dX11_passes_15 rfl (lv_at hl 0 rfl) ?_
  obtain ⟨q, hc, hf⟩ := bd hf
  refine gCallVV X mOK rfl (vX11_hourPasses hc) gRX11_X11_hourPasses hdX11_hourPasses rfl ⟨by decide, by decide⟩ hP hS (mrec hP) hl.1 (Nat.le_of_ble_eq_true rfl) ⟨Nat.le_refl _, Nat.le_refl _⟩ dX11_passes_16 (As := []) (rest := []) rfl (fun H locs hP hS => ?_)
  exact kX11_passes_19 X hret hK10 hf hP hS (lv_sub hl [0, 1, 2, 3] rfl)
set_option maxRecDepth 10000 in
theorem kX11_passes_10 {r : Int32} {S1 : MS} (X : gX p s m args c cX11_passes 4 RX11 (kR kTab kA)) (hret : gRetI p l e (rmL 6 0 0) s m args below meth c cX11_passes (mΩ ad) (mP dC dI cI kA ad) Q r S1) : ∀ (n : Nat) (M : MS) (x1 : Int32) (x2 : Int32) (x3 : Int32) (H : Heap) (locs : List Loc) (ls : Array Slot), fX11_passes_10 n M x1 x2 x3 = some (r, S1) → (mP dC dI cI kA ad) M s H → va_S (Fr (mΩ ad) s.heap.size) s.heap H locs → lv_has ls 4 [(0, .ref (ad 25)), (1, .int x1), (2, .int x2), (3, .int x3)] → W p l e (rmL 6 0 0) s m args below meth c H locs 0 0 Q (F0 m 10 ls []) := by
  intro n
  induction n with
  | zero => intro M x1 x2 x3 H locs ls hf; cases hf
  | succ k ih =>
    intro M x1 x2 x3 H locs ls hf hP hS hl
    have hx := X.hx
    have hb := X.hb
    have hown := X.hown
    have hts := X.hts
    rw [fX11_passes_10] at hf
    try dsimp only at hf
    refine lv_iload_n hx hb dX11_passes_10 rfl (lv_at hl 3 rfl) ?_
    refine lv_iload_n hx hb dX11_passes_11 rfl (lv_at hl 1 rfl) ?_
    refine lv_icmp_ge (tgt := 25) hx hb dX11_passes_12 (by decide) (fun c1 => ?_) (fun c1 => ?_)
    · exact kX11_passes_25 X hret (ifp c1 hf) hP hS (lv_sub hl [0, 2] rfl)
    · exact kX11_passes_15 X hret ih (ifn c1 hf) hP hS (lv_sub hl [0, 1, 2, 3] rfl)
set_option maxRecDepth 10000 in
theorem kX11_passes_0 {r : Int32} {S1 : MS} {M : MS} {a1 : Int32} {H : Heap} {locs : List Loc} {ls : Array Slot} (X : gX p s m args c cX11_passes 4 RX11 (kR kTab kA)) (hret : gRetI p l e (rmL 6 0 0) s m args below meth c cX11_passes (mΩ ad) (mP dC dI cI kA ad) Q r S1) (hf : fX11_passes_0 M a1 = some (r, S1)) (hP : (mP dC dI cI kA ad) M s H) (hS : va_S (Fr (mΩ ad) s.heap.size) s.heap H locs) (hl : lv_has ls 4 [(0, .ref (ad 25)), (1, .int a1)]) : W p l e (rmL 6 0 0) s m args below meth c H locs 0 0 Q (F0 m 0 ls []) := by
  have hx := X.hx
  have hb := X.hb
  have hown := X.hown
  have hts := X.hts
  rw [fX11_passes_0] at hf
  refine lv_aload_n hx hb dX11_passes_0 rfl (lv_at hl 0 rfl) ?_
  refine mr_get (k := 0) X hP (by decide) rfl rfl tw1665 dX11_passes_1 ?_
  refine lv_bipush (v := 8) hx hb dX11_passes_4 (by decide) ?_
  obtain ⟨g1, hf⟩ := gd hf
  refine mr_ald (a := 0) X hP rfl g1 dX11_passes_6 ?_
  refine lv_istore_n (lv' := [(2, .int (M.2 0 (8 : Int32).toNatClampNeg)), (0, .ref (ad 25)), (1, .int a1)]) hx hb dX11_passes_7 rfl hl (by decide) rfl (fun ls hl => ?_)
  refine lv_iconst (v := 0) hx hb dX11_passes_8 (by decide) ?_
  refine lv_istore_n (lv' := [(3, .int 0), (2, .int (M.2 0 (8 : Int32).toNatClampNeg)), (0, .ref (ad 25)), (1, .int a1)]) hx hb dX11_passes_9 rfl hl (by decide) rfl (fun ls hl => ?_)
  exact kX11_passes_10 X hret FU _ _ _ _ _ _ _ hf hP hS (lv_sub hl [2, 3, 1, 0] rfl)
theorem vX11_passes {l : Launch} {dC : Nat → ClassId} {dI : Nat → Nat → Nat} {cI : ClassId} {kA : String → Nat → Nat} {ad : Nat → Nat} {M S1 : MS} {r : Int32} {a1 : Int32} (hf : fX11_passes M a1 = some (r, S1)) : gMetI l yX11_passes cX11_passes 4 (some .int) 6 (mΩ ad) (mP dC dI cI kA ad) (kR kTab kA) [.ref (ad 25), .int a1] M r S1 := gEntryI (ty := .int) (by decide) rfl rfl mOK (Nat.le_of_ble_eq_true rfl) (fun p e s m args below meth c Q ls X hP hS hret hl => 
  kX11_passes_0 X hret hf hP hS (lv_sub hl [0, 1] rfl))
set_option maxRecDepth 10000 in
theorem kX11_readCat_62 {r : Int32} {S1 : MS} {M : MS} {H : Heap} {locs : List Loc} {ls : Array Slot} (X : gX p s m args c cX11_readCat 1 RX11 (kR kTab kA)) (hret : gRetI p l e (rmL 6 0 0) s m args below meth c cX11_readCat (mΩ ad) (mP dC dI cI kA ad) Q r S1) (hf : fX11_readCat_62 M = some (r, S1)) (hP : (mP dC dI cI kA ad) M s H) (hS : va_S (Fr (mΩ ad) s.heap.size) s.heap H locs) (hl : lv_has ls 1 [(0, .ref (ad 25))]) : W p l e (rmL 6 0 0) s m args below meth c H locs 0 0 Q (F0 m 62 ls []) := by
  have hx := X.hx
  have hb := X.hb
  have hown := X.hown
  have hts := X.hts
  rw [fX11_readCat_62] at hf
  refine lv_iconst (v := 0) hx hb dX11_readCat_62 (by decide) ?_
  cases hf
  exact hret _ _ _ _ dX11_readCat_63 hP hS
set_option maxRecDepth 10000 in
theorem kX11_readCat_90 {r : Int32} {S1 : MS} {M : MS} {s0 : Int32} {H : Heap} {locs : List Loc} {ls : Array Slot} (X : gX p s m args c cX11_readCat 1 RX11 (kR kTab kA)) (hret : gRetI p l e (rmL 6 0 0) s m args below meth c cX11_readCat (mΩ ad) (mP dC dI cI kA ad) Q r S1) (hf : fX11_readCat_90 M s0 = some (r, S1)) (hP : (mP dC dI cI kA ad) M s H) (hS : va_S (Fr (mΩ ad) s.heap.size) s.heap H locs) (hl : lv_has ls 1 [(0, .ref (ad 25))]) : W p l e (rmL 6 0 0) s m args below meth c H locs 0 0 Q (F0 m 90 ls [.int s0]) := by
  have hx := X.hx
  have hb := X.hb
  have hown := X.hown
  have hts := X.hts
  rw [fX11_readCat_90] at hf
  cases hf
  exact hret _ _ _ _ dX11_readCat_90 hP hS
set_option maxRecDepth 10000 in
theorem kX11_readCat_86 {r : Int32} {S1 : MS} {M : MS} {H : Heap} {locs : List Loc} {ls : Array Slot} (X : gX p s m args c cX11_readCat 1 RX11 (kR kTab kA)) (hret : gRetI p l e (rmL 6 0 0) s m args below meth c cX11_readCat (mΩ ad) (mP dC dI cI kA ad) Q r S1) (hf : fX11_readCat_86 M = some (r, S1)) (hP : (mP dC dI cI kA ad) M s H) (hS : va_S (Fr (mΩ ad) s.heap.size) s.heap H locs) (hl : lv_has ls 1 [(0, .ref (ad 25))]) : W p l e (rmL 6 0 0) s m args below meth c H locs 0 0 Q (F0 m 86 ls []) := by
  have hx := X.hx
  have hb := X.hb
  have hown := X.hown
  have hts := X.hts
  rw [fX11_readCat_86] at hf
  refine lv_aload_n hx hb dX11_readCat_86 rfl (lv_at hl 0 rfl) ?_
  obtain ⟨q, hc, hf⟩ := bd hf
  refine gCallVI X mOK rfl (vX11_takesSemicolon hc) gRX11_X11_takesSemicolon hdX11_takesSemicolon rfl ⟨by decide, by decide⟩ hP hS (mrec hP) hl.1 (Nat.le_of_ble_eq_true rfl) ⟨Nat.le_refl _, Nat.le_refl _⟩ dX11_readCat_87 (As := []) (rest := []) rfl (fun H locs hP hS => ?_)
  exact kX11_readCat_90 X hret hf hP hS (lv_sub hl [0] rfl)
set_option maxRecDepth 10000 in
theorem kX11_readCat_64 {r : Int32} {S1 : MS} {M : MS} {H : Heap} {locs : List Loc} {ls : Array Slot} (X : gX p s m args c cX11_readCat 1 RX11 (kR kTab kA)) (hret : gRetI p l e (rmL 6 0 0) s m args below meth c cX11_readCat (mΩ ad) (mP dC dI cI kA ad) Q r S1) (hf : fX11_readCat_64 M = some (r, S1)) (hP : (mP dC dI cI kA ad) M s H) (hS : va_S (Fr (mΩ ad) s.heap.size) s.heap H locs) (hl : lv_has ls 1 [(0, .ref (ad 25))]) : W p l e (rmL 6 0 0) s m args below meth c H locs 0 0 Q (F0 m 64 ls []) := by
  have hx := X.hx
  have hb := X.hb
  have hown := X.hown
  have hts := X.hts
  rw [fX11_readCat_64] at hf
  refine lv_aload_n hx hb dX11_readCat_64 rfl (lv_at hl 0 rfl) ?_
  refine lv_aload_n hx hb dX11_readCat_65 rfl (lv_at hl 0 rfl) ?_
  refine mr_get (k := 19) X hP (by decide) rfl rfl tw1684 dX11_readCat_66 ?_
  refine lv_iconst (v := 3) hx hb dX11_readCat_69 (by decide) ?_
  obtain ⟨g1, hf⟩ := gd hf
  refine mr_ald (a := 19) X hP rfl g1 dX11_readCat_70 ?_
  refine lv_aload_n hx hb dX11_readCat_71 rfl (lv_at hl 0 rfl) ?_
  refine mr_get (k := 19) X hP (by decide) rfl rfl tw1684 dX11_readCat_72 ?_
  refine lv_iconst (v := 0) hx hb dX11_readCat_75 (by decide) ?_
  obtain ⟨g2, hf⟩ := gd hf
  refine mr_ald (a := 19) X hP rfl g2 dX11_readCat_76 ?_
  refine lv_aload_n hx hb dX11_readCat_77 rfl (lv_at hl 0 rfl) ?_
  refine mr_get (k := 19) X hP (by decide) rfl rfl tw1684 dX11_readCat_78 ?_
  refine lv_iconst (v := 1) hx hb dX11_readCat_81 (by decide) ?_
  obtain ⟨g3, hf⟩ := gd hf
  refine mr_ald (a := 19) X hP rfl g3 dX11_readCat_82 ?_
  obtain ⟨q, hc, hf⟩ := bd hf
  refine gCallVV X mOK rfl (vX11_addsCat hc) gRX11_X11_addsCat hdX11_addsCat rfl ⟨by decide, by decide⟩ hP hS (mrec hP) hl.1 (Nat.le_of_ble_eq_true rfl) ⟨Nat.le_refl _, Nat.le_refl _⟩ dX11_readCat_83 (As := [.int (M.2 19 (3 : Int32).toNatClampNeg), .int (M.2 19 (0 : Int32).toNatClampNeg), .int (M.2 19 (1 : Int32).toNatClampNeg)]) (rest := []) rfl (fun H locs hP hS => ?_)
  exact kX11_readCat_86 X hret hf hP hS (lv_sub hl [0] rfl)
set_option maxRecDepth 10000 in
theorem kX11_readCat_59 {r : Int32} {S1 : MS} {M : MS} {s0 : Int32} {H : Heap} {locs : List Loc} {ls : Array Slot} (X : gX p s m args c cX11_readCat 1 RX11 (kR kTab kA)) (hret : gRetI p l e (rmL 6 0 0) s m args below meth c cX11_readCat (mΩ ad) (mP dC dI cI kA ad) Q r S1) (hf : fX11_readCat_59 M s0 = some (r, S1)) (hP : (mP dC dI cI kA ad) M s H) (hS : va_S (Fr (mΩ ad) s.heap.size) s.heap H locs) (hl : lv_has ls 1 [(0, .ref (ad 25))]) : W p l e (rmL 6 0 0) s m args below meth c H locs 0 0 Q (F0 m 59 ls [.int s0]) := by
  have hx := X.hx
  have hb := X.hb
  have hown := X.hown
  have hts := X.hts
  rw [fX11_readCat_59] at hf
  refine lv_if_ne (tgt := 64) hx hb dX11_readCat_59 (by decide) (fun c1 => ?_) (fun c1 => ?_)
  · exact kX11_readCat_64 X hret (ifn c1 hf) hP hS (lv_sub hl [0] rfl)
  · exact kX11_readCat_62 X hret (ifp c1 hf) hP hS (lv_sub hl [0] rfl)
set_option maxRecDepth 10000 in
theorem kX11_readCat_56 {r : Int32} {S1 : MS} {M : MS} {s0 : Int32} {s1 : Int32} {s2 : Int32} {H : Heap} {locs : List Loc} {ls : Array Slot} (X : gX p s m args c cX11_readCat 1 RX11 (kR kTab kA)) (hret : gRetI p l e (rmL 6 0 0) s m args below meth c cX11_readCat (mΩ ad) (mP dC dI cI kA ad) Q r S1) (hf : fX11_readCat_56 M s0 s1 s2 = some (r, S1)) (hP : (mP dC dI cI kA ad) M s H) (hS : va_S (Fr (mΩ ad) s.heap.size) s.heap H locs) (hl : lv_has ls 1 [(0, .ref (ad 25))]) : W p l e (rmL 6 0 0) s m args below meth c H locs 0 0 Q (F0 m 56 ls [.int s0, .int s1, .int s2, .ref (ad 25)]) := by
  have hx := X.hx
  have hb := X.hb
  have hown := X.hown
  have hts := X.hts
  rw [fX11_readCat_56] at hf
  obtain ⟨q, hc, hf⟩ := bd hf
  refine gCallVI X mOK rfl (vX11_takesChoice hc) gRX11_X11_takesChoice hdX11_takesChoice rfl ⟨by decide, by decide⟩ hP hS (mrec hP) hl.1 (Nat.le_of_ble_eq_true rfl) ⟨Nat.le_refl _, Nat.le_refl _⟩ dX11_readCat_56 (As := [.int s2, .int s1, .int s0]) (rest := []) rfl (fun H locs hP hS => ?_)
  exact kX11_readCat_59 X hret hf hP hS (lv_sub hl [0] rfl)
set_option maxRecDepth 10000 in
theorem kX11_readCat_50 {r : Int32} {S1 : MS} {M : MS} {s0 : Int32} {s1 : Int32} {H : Heap} {locs : List Loc} {ls : Array Slot} (X : gX p s m args c cX11_readCat 1 RX11 (kR kTab kA)) (hret : gRetI p l e (rmL 6 0 0) s m args below meth c cX11_readCat (mΩ ad) (mP dC dI cI kA ad) Q r S1) (hf : fX11_readCat_50 M s0 s1 = some (r, S1)) (hP : (mP dC dI cI kA ad) M s H) (hS : va_S (Fr (mΩ ad) s.heap.size) s.heap H locs) (hl : lv_has ls 1 [(0, .ref (ad 25))]) : W p l e (rmL 6 0 0) s m args below meth c H locs 0 0 Q (F0 m 50 ls [.int s0, .int s1, .ref (ad 25)]) := by
  have hx := X.hx
  have hb := X.hb
  have hown := X.hown
  have hts := X.hts
  rw [fX11_readCat_50] at hf
  refine lv_aload_n hx hb dX11_readCat_50 rfl (lv_at hl 0 rfl) ?_
  refine va_ldcS hx hb hown (kRat (q := ("GranaryWatchModel", 253, "right", [114, 105, 103, 104, 116])) X.ks 27 rfl) dX11_readCat_51 ?_
  obtain ⟨q, hc, hf⟩ := bd hf
  refine gCallVR X rfl (vX11_isWord hc) gRX11_X11_isWord hdX11_isWord rfl ⟨by decide, by decide⟩ (gBS_blind mOK) (gBS_at mOK X hP (mstr (q := ("GranaryWatchModel", 253, "right", [114, 105, 103, 104, 116])) hP 27 rfl)) (mrec hP) hl.1 (Nat.le_of_ble_eq_true rfl) ⟨Nat.le_refl _, Nat.le_refl _⟩ dX11_readCat_53 (As := [.ref (kA RX11 253)]) (rest := [.int s0, .int s1, .ref (ad 25)]) rfl ?_
  exact kX11_readCat_56 X hret hf hP hS (lv_sub hl [0] rfl)
set_option maxRecDepth 10000 in
theorem kX11_readCat_42 {r : Int32} {S1 : MS} {M : MS} {H : Heap} {locs : List Loc} {ls : Array Slot} (X : gX p s m args c cX11_readCat 1 RX11 (kR kTab kA)) (hret : gRetI p l e (rmL 6 0 0) s m args below meth c cX11_readCat (mΩ ad) (mP dC dI cI kA ad) Q r S1) (hf : fX11_readCat_42 M = some (r, S1)) (hP : (mP dC dI cI kA ad) M s H) (hS : va_S (Fr (mΩ ad) s.heap.size) s.heap H locs) (hl : lv_has ls 1 [(0, .ref (ad 25))]) : W p l e (rmL 6 0 0) s m args below meth c H locs 0 0 Q (F0 m 42 ls []) := by
  have hx := X.hx
  have hb := X.hb
  have hown := X.hown
  have hts := X.hts
  rw [fX11_readCat_42] at hf
  refine lv_aload_n hx hb dX11_readCat_42 rfl (lv_at hl 0 rfl) ?_
  refine lv_iconst (v := 1) hx hb dX11_readCat_43 (by decide) ?_
  refine lv_aload_n hx hb dX11_readCat_44 rfl (lv_at hl 0 rfl) ?_
  refine va_ldcS hx hb hown (kRat (q := ("GranaryWatchModel", 247, "left", [108, 101, 102, 116])) X.ks 26 rfl) dX11_readCat_45 ?_
  obtain ⟨q, hc, hf⟩ := bd hf
  refine gCallVR X rfl (vX11_isWord hc) gRX11_X11_isWord hdX11_isWord rfl ⟨by decide, by decide⟩ (gBS_blind mOK) (gBS_at mOK X hP (mstr (q := ("GranaryWatchModel", 247, "left", [108, 101, 102, 116])) hP 26 rfl)) (mrec hP) hl.1 (Nat.le_of_ble_eq_true rfl) ⟨Nat.le_refl _, Nat.le_refl _⟩ dX11_readCat_47 (As := [.ref (kA RX11 247)]) (rest := [.int 1, .ref (ad 25)]) rfl ?_
  exact kX11_readCat_50 X hret hf hP hS (lv_sub hl [0] rfl)
set_option maxRecDepth 10000 in
theorem kX11_readCat_39 {r : Int32} {S1 : MS} {M : MS} {s0 : Int32} {H : Heap} {locs : List Loc} {ls : Array Slot} (X : gX p s m args c cX11_readCat 1 RX11 (kR kTab kA)) (hret : gRetI p l e (rmL 6 0 0) s m args below meth c cX11_readCat (mΩ ad) (mP dC dI cI kA ad) Q r S1) (hf : fX11_readCat_39 M s0 = some (r, S1)) (hP : (mP dC dI cI kA ad) M s H) (hS : va_S (Fr (mΩ ad) s.heap.size) s.heap H locs) (hl : lv_has ls 1 [(0, .ref (ad 25))]) : W p l e (rmL 6 0 0) s m args below meth c H locs 0 0 Q (F0 m 39 ls [.int s0]) := by
  have hx := X.hx
  have hb := X.hb
  have hown := X.hown
  have hts := X.hts
  rw [fX11_readCat_39] at hf
  refine lv_if_eq (tgt := 62) hx hb dX11_readCat_39 (by decide) (fun c1 => ?_) (fun c1 => ?_)
  · exact kX11_readCat_62 X hret (ifp c1 hf) hP hS (lv_sub hl [0] rfl)
  · exact kX11_readCat_42 X hret (ifn c1 hf) hP hS (lv_sub hl [0] rfl)
set_option maxRecDepth 10000 in
theorem kX11_readCat_31 {r : Int32} {S1 : MS} {M : MS} {H : Heap} {locs : List Loc} {ls : Array Slot} (X : gX p s m args c cX11_readCat 1 RX11 (kR kTab kA)) (hret : gRetI p l e (rmL 6 0 0) s m args below meth c cX11_readCat (mΩ ad) (mP dC dI cI kA ad) Q r S1) (hf : fX11_readCat_31 M = some (r, S1)) (hP : (mP dC dI cI kA ad) M s H) (hS : va_S (Fr (mΩ ad) s.heap.size) s.heap H locs) (hl : lv_has ls 1 [(0, .ref (ad 25))]) : W p l e (rmL 6 0 0) s m args below meth c H locs 0 0 Q (F0 m 31 ls []) := by
  have hx := X.hx
  have hb := X.hb
  have hown := X.hown
  have hts := X.hts
  rw [fX11_readCat_31] at hf
  refine lv_aload_n hx hb dX11_readCat_31 rfl (lv_at hl 0 rfl) ?_
  refine lv_iconst (v := 0) hx hb dX11_readCat_32 (by decide) ?_
  refine lv_iconst (v := 1) hx hb dX11_readCat_33 (by decide) ?_
  refine lv_bipush (v := 9) hx hb dX11_readCat_34 (by decide) ?_
  obtain ⟨q, hc, hf⟩ := bd hf
  refine gCallVI X mOK rfl (vX11_takes hc) gRX11_X11_takes hdX11_takes rfl ⟨by decide, by decide⟩ hP hS (mrec hP) hl.1 (Nat.le_of_ble_eq_true rfl) ⟨Nat.le_refl _, Nat.le_refl _⟩ dX11_readCat_36 (As := [.int 0, .int 1, .int 9]) (rest := []) rfl (fun H locs hP hS => ?_)
  exact kX11_readCat_39 X hret hf hP hS (lv_sub hl [0] rfl)
set_option maxRecDepth 10000 in
theorem kX11_readCat_28 {r : Int32} {S1 : MS} {M : MS} {s0 : Int32} {H : Heap} {locs : List Loc} {ls : Array Slot} (X : gX p s m args c cX11_readCat 1 RX11 (kR kTab kA)) (hret : gRetI p l e (rmL 6 0 0) s m args below meth c cX11_readCat (mΩ ad) (mP dC dI cI kA ad) Q r S1) (hf : fX11_readCat_28 M s0 = some (r, S1)) (hP : (mP dC dI cI kA ad) M s H) (hS : va_S (Fr (mΩ ad) s.heap.size) s.heap H locs) (hl : lv_has ls 1 [(0, .ref (ad 25))]) : W p l e (rmL 6 0 0) s m args below meth c H locs 0 0 Q (F0 m 28 ls [.int s0]) := by
  have hx := X.hx
  have hb := X.hb
  have hown := X.hown
  have hts := X.hts
  rw [fX11_readCat_28] at hf
  refine lv_if_eq (tgt := 62) hx hb dX11_readCat_28 (by decide) (fun c1 => ?_) (fun c1 => ?_)
  · exact kX11_readCat_62 X hret (ifp c1 hf) hP hS (lv_sub hl [0] rfl)
  · exact kX11_readCat_31 X hret (ifn c1 hf) hP hS (lv_sub hl [0] rfl)
set_option maxRecDepth 10000 in
theorem kX11_readCat_21 {r : Int32} {S1 : MS} {M : MS} {H : Heap} {locs : List Loc} {ls : Array Slot} (X : gX p s m args c cX11_readCat 1 RX11 (kR kTab kA)) (hret : gRetI p l e (rmL 6 0 0) s m args below meth c cX11_readCat (mΩ ad) (mP dC dI cI kA ad) Q r S1) (hf : fX11_readCat_21 M = some (r, S1)) (hP : (mP dC dI cI kA ad) M s H) (hS : va_S (Fr (mΩ ad) s.heap.size) s.heap H locs) (hl : lv_has ls 1 [(0, .ref (ad 25))]) : W p l e (rmL 6 0 0) s m args below meth c H locs 0 0 Q (F0 m 21 ls []) := by
  have hx := X.hx
  have hb := X.hb
  have hown := X.hown
  have hts := X.hts
  rw [fX11_readCat_21] at hf
  refine lv_aload_n hx hb dX11_readCat_21 rfl (lv_at hl 0 rfl) ?_
  refine lv_bipush (v := 65) hx hb dX11_readCat_22 (by decide) ?_
  refine lv_iconst (v := 0) hx hb dX11_readCat_24 (by decide) ?_
  obtain ⟨q, hc, hf⟩ := bd hf
  refine gCallVI X mOK rfl (vX11_takesNewName hc) gRX11_X11_takesNewName hdX11_takesNewName rfl ⟨by decide, by decide⟩ hP hS (mrec hP) hl.1 (Nat.le_of_ble_eq_true rfl) ⟨Nat.le_refl _, Nat.le_refl _⟩ dX11_readCat_25 (As := [.int 65, .int 0]) (rest := []) rfl (fun H locs hP hS => ?_)
  exact kX11_readCat_28 X hret hf hP hS (lv_sub hl [0] rfl)
set_option maxRecDepth 10000 in
theorem kX11_readCat_17 {r : Int32} {S1 : MS} {M : MS} {H : Heap} {locs : List Loc} {ls : Array Slot} (X : gX p s m args c cX11_readCat 1 RX11 (kR kTab kA)) (hret : gRetI p l e (rmL 6 0 0) s m args below meth c cX11_readCat (mΩ ad) (mP dC dI cI kA ad) Q r S1) (hf : fX11_readCat_17 M = some (r, S1)) (hP : (mP dC dI cI kA ad) M s H) (hS : va_S (Fr (mΩ ad) s.heap.size) s.heap H locs) (hl : lv_has ls 1 [(0, .ref (ad 25))]) : W p l e (rmL 6 0 0) s m args below meth c H locs 0 0 Q (F0 m 17 ls []) := by
  have hx := X.hx
  have hb := X.hb
  have hown := X.hown
  have hts := X.hts
  rw [fX11_readCat_17] at hf
  refine lv_aload_n hx hb dX11_readCat_17 rfl (lv_at hl 0 rfl) ?_
  obtain ⟨q, hc, hf⟩ := bd hf
  refine gCallVV X mOK rfl (vX11_advanceToken hc) gRX11_X11_advanceToken hdX11_advanceToken rfl ⟨by decide, by decide⟩ hP hS (mrec hP) hl.1 (Nat.le_of_ble_eq_true rfl) ⟨Nat.le_refl _, Nat.le_refl _⟩ dX11_readCat_18 (As := []) (rest := []) rfl (fun H locs hP hS => ?_)
  exact kX11_readCat_21 X hret hf hP hS (lv_sub hl [0] rfl)
set_option maxRecDepth 10000 in
theorem kX11_readCat_16 {r : Int32} {S1 : MS} {M : MS} {s0 : Int32} {H : Heap} {locs : List Loc} {ls : Array Slot} (X : gX p s m args c cX11_readCat 1 RX11 (kR kTab kA)) (hret : gRetI p l e (rmL 6 0 0) s m args below meth c cX11_readCat (mΩ ad) (mP dC dI cI kA ad) Q r S1) (hf : fX11_readCat_16 M s0 = some (r, S1)) (hP : (mP dC dI cI kA ad) M s H) (hS : va_S (Fr (mΩ ad) s.heap.size) s.heap H locs) (hl : lv_has ls 1 [(0, .ref (ad 25))]) : W p l e (rmL 6 0 0) s m args below meth c H locs 0 0 Q (F0 m 16 ls [.int s0]) := by
  have hx := X.hx
  have hb := X.hb
  have hown := X.hown
  have hts := X.hts
  rw [fX11_readCat_16] at hf
  cases hf
  exact hret _ _ _ _ dX11_readCat_16 hP hS
set_option maxRecDepth 10000 in
theorem kX11_readCat_11 {r : Int32} {S1 : MS} {M : MS} {H : Heap} {locs : List Loc} {ls : Array Slot} (X : gX p s m args c cX11_readCat 1 RX11 (kR kTab kA)) (hret : gRetI p l e (rmL 6 0 0) s m args below meth c cX11_readCat (mΩ ad) (mP dC dI cI kA ad) Q r S1) (hf : fX11_readCat_11 M = some (r, S1)) (hP : (mP dC dI cI kA ad) M s H) (hS : va_S (Fr (mΩ ad) s.heap.size) s.heap H locs) (hl : lv_has ls 1 [(0, .ref (ad 25))]) : W p l e (rmL 6 0 0) s m args below meth c H locs 0 0 Q (F0 m 11 ls []) := by
  have hx := X.hx
  have hb := X.hb
  have hown := X.hown
  have hts := X.hts
  rw [fX11_readCat_11] at hf
  refine lv_aload_n hx hb dX11_readCat_11 rfl (lv_at hl 0 rfl) ?_
  refine lv_iconst (v := 5) hx hb dX11_readCat_12 (by decide) ?_
  obtain ⟨q, hc, hf⟩ := bd hf
  refine gCallVI X mOK rfl (vX11_failsAt hc) gRX11_X11_failsAt hdX11_failsAt rfl ⟨by decide, by decide⟩ hP hS (mrec hP) hl.1 (Nat.le_of_ble_eq_true rfl) ⟨Nat.le_refl _, Nat.le_refl _⟩ dX11_readCat_13 (As := [.int 5]) (rest := []) rfl (fun H locs hP hS => ?_)
  exact kX11_readCat_16 X hret hf hP hS (lv_sub hl [0] rfl)
set_option maxRecDepth 10000 in
theorem kX11_readCat_0 {r : Int32} {S1 : MS} {M : MS} {H : Heap} {locs : List Loc} {ls : Array Slot} (X : gX p s m args c cX11_readCat 1 RX11 (kR kTab kA)) (hret : gRetI p l e (rmL 6 0 0) s m args below meth c cX11_readCat (mΩ ad) (mP dC dI cI kA ad) Q r S1) (hf : fX11_readCat_0 M = some (r, S1)) (hP : (mP dC dI cI kA ad) M s H) (hS : va_S (Fr (mΩ ad) s.heap.size) s.heap H locs) (hl : lv_has ls 1 [(0, .ref (ad 25))]) : W p l e (rmL 6 0 0) s m args below meth c H locs 0 0 Q (F0 m 0 ls []) := by
  have hx := X.hx
  have hb := X.hb
  have hown := X.hown
  have hts := X.hts
  rw [fX11_readCat_0] at hf
  refine lv_aload_n hx hb dX11_readCat_0 rfl (lv_at hl 0 rfl) ?_
  refine mr_get (k := 0) X hP (by decide) rfl rfl tw1665 dX11_readCat_1 ?_
  refine lv_iconst (v := 0) hx hb dX11_readCat_4 (by decide) ?_
  obtain ⟨g1, hf⟩ := gd hf
  refine mr_ald (a := 0) X hP rfl g1 dX11_readCat_5 ?_
  refine lv_bipush (v := 8) hx hb dX11_readCat_6 (by decide) ?_
  refine lv_icmp_ne (tgt := 17) hx hb dX11_readCat_8 (by decide) (fun c1 => ?_) (fun c1 => ?_)
  · exact kX11_readCat_17 X hret (ifn c1 hf) hP hS (lv_sub hl [0] rfl)
  · exact kX11_readCat_11 X hret (ifp c1 hf) hP hS (lv_sub hl [0] rfl)
theorem vX11_readCat {l : Launch} {dC : Nat → ClassId} {dI : Nat → Nat → Nat} {cI : ClassId} {kA : String → Nat → Nat} {ad : Nat → Nat} {M S1 : MS} {r : Int32} (hf : fX11_readCat M  = some (r, S1)) : gMetI l yX11_readCat cX11_readCat 1 (some .boolean) 6 (mΩ ad) (mP dC dI cI kA ad) (kR kTab kA) [.ref (ad 25)] M r S1 := gEntryI (ty := .boolean) (by decide) rfl (bz_n hf) mOK (Nat.le_of_ble_eq_true rfl) (fun p e s m args below meth c Q ls X hP hS hret hl => 
  kX11_readCat_0 X hret (bz_f hf) hP hS (lv_sub hl [0] rfl))
set_option maxRecDepth 10000 in
theorem kX11_readSack_55 {r : Int32} {S1 : MS} {M : MS} {H : Heap} {locs : List Loc} {ls : Array Slot} (X : gX p s m args c cX11_readSack 1 RX11 (kR kTab kA)) (hret : gRetI p l e (rmL 6 0 0) s m args below meth c cX11_readSack (mΩ ad) (mP dC dI cI kA ad) Q r S1) (hf : fX11_readSack_55 M = some (r, S1)) (hP : (mP dC dI cI kA ad) M s H) (hS : va_S (Fr (mΩ ad) s.heap.size) s.heap H locs) (hl : lv_has ls 1 [(0, .ref (ad 25))]) : W p l e (rmL 6 0 0) s m args below meth c H locs 0 0 Q (F0 m 55 ls []) := by
  have hx := X.hx
  have hb := X.hb
  have hown := X.hown
  have hts := X.hts
  rw [fX11_readSack_55] at hf
  refine lv_iconst (v := 0) hx hb dX11_readSack_55 (by decide) ?_
  cases hf
  exact hret _ _ _ _ dX11_readSack_56 hP hS
set_option maxRecDepth 10000 in
theorem kX11_readSack_113 {r : Int32} {S1 : MS} {M : MS} {s0 : Int32} {H : Heap} {locs : List Loc} {ls : Array Slot} (X : gX p s m args c cX11_readSack 1 RX11 (kR kTab kA)) (hret : gRetI p l e (rmL 6 0 0) s m args below meth c cX11_readSack (mΩ ad) (mP dC dI cI kA ad) Q r S1) (hf : fX11_readSack_113 M s0 = some (r, S1)) (hP : (mP dC dI cI kA ad) M s H) (hS : va_S (Fr (mΩ ad) s.heap.size) s.heap H locs) (hl : lv_has ls 1 [(0, .ref (ad 25))]) : W p l e (rmL 6 0 0) s m args below meth c H locs 0 0 Q (F0 m 113 ls [.int s0]) := by
  have hx := X.hx
  have hb := X.hb
  have hown := X.hown
  have hts := X.hts
  rw [fX11_readSack_113] at hf
  cases hf
  exact hret _ _ _ _ dX11_readSack_113 hP hS
set_option maxRecDepth 10000 in
theorem kX11_readSack_109 {r : Int32} {S1 : MS} {M : MS} {H : Heap} {locs : List Loc} {ls : Array Slot} (X : gX p s m args c cX11_readSack 1 RX11 (kR kTab kA)) (hret : gRetI p l e (rmL 6 0 0) s m args below meth c cX11_readSack (mΩ ad) (mP dC dI cI kA ad) Q r S1) (hf : fX11_readSack_109 M = some (r, S1)) (hP : (mP dC dI cI kA ad) M s H) (hS : va_S (Fr (mΩ ad) s.heap.size) s.heap H locs) (hl : lv_has ls 1 [(0, .ref (ad 25))]) : W p l e (rmL 6 0 0) s m args below meth c H locs 0 0 Q (F0 m 109 ls []) := by
  have hx := X.hx
  have hb := X.hb
  have hown := X.hown
  have hts := X.hts
  rw [fX11_readSack_109] at hf
  refine lv_aload_n hx hb dX11_readSack_109 rfl (lv_at hl 0 rfl) ?_
  obtain ⟨q, hc, hf⟩ := bd hf
  refine gCallVI X mOK rfl (vX11_takesSemicolon hc) gRX11_X11_takesSemicolon hdX11_takesSemicolon rfl ⟨by decide, by decide⟩ hP hS (mrec hP) hl.1 (Nat.le_of_ble_eq_true rfl) ⟨Nat.le_refl _, Nat.le_refl _⟩ dX11_readSack_110 (As := []) (rest := []) rfl (fun H locs hP hS => ?_)
  exact kX11_readSack_113 X hret hf hP hS (lv_sub hl [0] rfl)
set_option maxRecDepth 10000 in
theorem kX11_readSack_81 {r : Int32} {S1 : MS} {M : MS} {H : Heap} {locs : List Loc} {ls : Array Slot} (X : gX p s m args c cX11_readSack 1 RX11 (kR kTab kA)) (hret : gRetI p l e (rmL 6 0 0) s m args below meth c cX11_readSack (mΩ ad) (mP dC dI cI kA ad) Q r S1) (hf : fX11_readSack_81 M = some (r, S1)) (hP : (mP dC dI cI kA ad) M s H) (hS : va_S (Fr (mΩ ad) s.heap.size) s.heap H locs) (hl : lv_has ls 1 [(0, .ref (ad 25))]) : W p l e (rmL 6 0 0) s m args below meth c H locs 0 0 Q (F0 m 81 ls []) := by
  have hx := X.hx
  have hb := X.hb
  have hown := X.hown
  have hts := X.hts
  rw [fX11_readSack_81] at hf
  refine lv_aload_n hx hb dX11_readSack_81 rfl (lv_at hl 0 rfl) ?_
  refine lv_aload_n hx hb dX11_readSack_82 rfl (lv_at hl 0 rfl) ?_
  refine mr_get (k := 19) X hP (by decide) rfl rfl tw1684 dX11_readSack_83 ?_
  refine lv_iconst (v := 3) hx hb dX11_readSack_86 (by decide) ?_
  obtain ⟨g1, hf⟩ := gd hf
  refine mr_ald (a := 19) X hP rfl g1 dX11_readSack_87 ?_
  refine lv_aload_n hx hb dX11_readSack_88 rfl (lv_at hl 0 rfl) ?_
  refine mr_get (k := 19) X hP (by decide) rfl rfl tw1684 dX11_readSack_89 ?_
  refine lv_iconst (v := 0) hx hb dX11_readSack_92 (by decide) ?_
  obtain ⟨g2, hf⟩ := gd hf
  refine mr_ald (a := 19) X hP rfl g2 dX11_readSack_93 ?_
  refine lv_aload_n hx hb dX11_readSack_94 rfl (lv_at hl 0 rfl) ?_
  refine mr_get (k := 19) X hP (by decide) rfl rfl tw1684 dX11_readSack_95 ?_
  refine lv_iconst (v := 1) hx hb dX11_readSack_98 (by decide) ?_
  obtain ⟨g3, hf⟩ := gd hf
  refine mr_ald (a := 19) X hP rfl g3 dX11_readSack_99 ?_
  refine lv_aload_n hx hb dX11_readSack_100 rfl (lv_at hl 0 rfl) ?_
  refine mr_get (k := 19) X hP (by decide) rfl rfl tw1684 dX11_readSack_101 ?_
  refine lv_iconst (v := 2) hx hb dX11_readSack_104 (by decide) ?_
  obtain ⟨g4, hf⟩ := gd hf
  refine mr_ald (a := 19) X hP rfl g4 dX11_readSack_105 ?_
  obtain ⟨q, hc, hf⟩ := bd hf
  refine gCallVV X mOK rfl (vX11_addsSack hc) gRX11_X11_addsSack hdX11_addsSack rfl ⟨by decide, by decide⟩ hP hS (mrec hP) hl.1 (Nat.le_of_ble_eq_true rfl) ⟨Nat.le_refl _, Nat.le_refl _⟩ dX11_readSack_106 (As := [.int (M.2 19 (3 : Int32).toNatClampNeg), .int (M.2 19 (0 : Int32).toNatClampNeg), .int (M.2 19 (1 : Int32).toNatClampNeg), .int (M.2 19 (2 : Int32).toNatClampNeg)]) (rest := []) rfl (fun H locs hP hS => ?_)
  exact kX11_readSack_109 X hret hf hP hS (lv_sub hl [0] rfl)
set_option maxRecDepth 10000 in
theorem kX11_readSack_79 {r : Int32} {S1 : MS} {M : MS} {H : Heap} {locs : List Loc} {ls : Array Slot} (X : gX p s m args c cX11_readSack 1 RX11 (kR kTab kA)) (hret : gRetI p l e (rmL 6 0 0) s m args below meth c cX11_readSack (mΩ ad) (mP dC dI cI kA ad) Q r S1) (hf : fX11_readSack_79 M = some (r, S1)) (hP : (mP dC dI cI kA ad) M s H) (hS : va_S (Fr (mΩ ad) s.heap.size) s.heap H locs) (hl : lv_has ls 1 [(0, .ref (ad 25))]) : W p l e (rmL 6 0 0) s m args below meth c H locs 0 0 Q (F0 m 79 ls []) := by
  have hx := X.hx
  have hb := X.hb
  have hown := X.hown
  have hts := X.hts
  rw [fX11_readSack_79] at hf
  refine lv_iconst (v := 0) hx hb dX11_readSack_79 (by decide) ?_
  cases hf
  exact hret _ _ _ _ dX11_readSack_80 hP hS
set_option maxRecDepth 10000 in
theorem kX11_readSack_76 {r : Int32} {S1 : MS} {M : MS} {s0 : Int32} {H : Heap} {locs : List Loc} {ls : Array Slot} (X : gX p s m args c cX11_readSack 1 RX11 (kR kTab kA)) (hret : gRetI p l e (rmL 6 0 0) s m args below meth c cX11_readSack (mΩ ad) (mP dC dI cI kA ad) Q r S1) (hf : fX11_readSack_76 M s0 = some (r, S1)) (hP : (mP dC dI cI kA ad) M s H) (hS : va_S (Fr (mΩ ad) s.heap.size) s.heap H locs) (hl : lv_has ls 1 [(0, .ref (ad 25))]) : W p l e (rmL 6 0 0) s m args below meth c H locs 0 0 Q (F0 m 76 ls [.int s0]) := by
  have hx := X.hx
  have hb := X.hb
  have hown := X.hown
  have hts := X.hts
  rw [fX11_readSack_76] at hf
  refine lv_if_ne (tgt := 81) hx hb dX11_readSack_76 (by decide) (fun c1 => ?_) (fun c1 => ?_)
  · exact kX11_readSack_81 X hret (ifn c1 hf) hP hS (lv_sub hl [0] rfl)
  · exact kX11_readSack_79 X hret (ifp c1 hf) hP hS (lv_sub hl [0] rfl)
set_option maxRecDepth 10000 in
theorem kX11_readSack_73 {r : Int32} {S1 : MS} {M : MS} {s0 : Int32} {s1 : Int32} {s2 : Int32} {H : Heap} {locs : List Loc} {ls : Array Slot} (X : gX p s m args c cX11_readSack 1 RX11 (kR kTab kA)) (hret : gRetI p l e (rmL 6 0 0) s m args below meth c cX11_readSack (mΩ ad) (mP dC dI cI kA ad) Q r S1) (hf : fX11_readSack_73 M s0 s1 s2 = some (r, S1)) (hP : (mP dC dI cI kA ad) M s H) (hS : va_S (Fr (mΩ ad) s.heap.size) s.heap H locs) (hl : lv_has ls 1 [(0, .ref (ad 25))]) : W p l e (rmL 6 0 0) s m args below meth c H locs 0 0 Q (F0 m 73 ls [.int s0, .int s1, .int s2, .ref (ad 25)]) := by
  have hx := X.hx
  have hb := X.hb
  have hown := X.hown
  have hts := X.hts
  rw [fX11_readSack_73] at hf
  obtain ⟨q, hc, hf⟩ := bd hf
  refine gCallVI X mOK rfl (vX11_takesChoice hc) gRX11_X11_takesChoice hdX11_takesChoice rfl ⟨by decide, by decide⟩ hP hS (mrec hP) hl.1 (Nat.le_of_ble_eq_true rfl) ⟨Nat.le_refl _, Nat.le_refl _⟩ dX11_readSack_73 (As := [.int s2, .int s1, .int s0]) (rest := []) rfl (fun H locs hP hS => ?_)
  exact kX11_readSack_76 X hret hf hP hS (lv_sub hl [0] rfl)
set_option maxRecDepth 10000 in
theorem kX11_readSack_66 {r : Int32} {S1 : MS} {M : MS} {s0 : Int32} {s1 : Int32} {H : Heap} {locs : List Loc} {ls : Array Slot} (X : gX p s m args c cX11_readSack 1 RX11 (kR kTab kA)) (hret : gRetI p l e (rmL 6 0 0) s m args below meth c cX11_readSack (mΩ ad) (mP dC dI cI kA ad) Q r S1) (hf : fX11_readSack_66 M s0 s1 = some (r, S1)) (hP : (mP dC dI cI kA ad) M s H) (hS : va_S (Fr (mΩ ad) s.heap.size) s.heap H locs) (hl : lv_has ls 1 [(0, .ref (ad 25))]) : W p l e (rmL 6 0 0) s m args below meth c H locs 0 0 Q (F0 m 66 ls [.int s0, .int s1, .ref (ad 25)]) := by
  have hx := X.hx
  have hb := X.hb
  have hown := X.hown
  have hts := X.hts
  rw [fX11_readSack_66] at hf
  refine lv_aload_n hx hb dX11_readSack_66 rfl (lv_at hl 0 rfl) ?_
  refine lv_ldcwS hx hb hown (kRat (q := ("GranaryWatchModel", 264, "shut", [115, 104, 117, 116])) X.ks 29 rfl) dX11_readSack_67 ?_
  obtain ⟨q, hc, hf⟩ := bd hf
  refine gCallVR X rfl (vX11_isWord hc) gRX11_X11_isWord hdX11_isWord rfl ⟨by decide, by decide⟩ (gBS_blind mOK) (gBS_at mOK X hP (mstr (q := ("GranaryWatchModel", 264, "shut", [115, 104, 117, 116])) hP 29 rfl)) (mrec hP) hl.1 (Nat.le_of_ble_eq_true rfl) ⟨Nat.le_refl _, Nat.le_refl _⟩ dX11_readSack_70 (As := [.ref (kA RX11 264)]) (rest := [.int s0, .int s1, .ref (ad 25)]) rfl ?_
  exact kX11_readSack_73 X hret hf hP hS (lv_sub hl [0] rfl)
set_option maxRecDepth 10000 in
theorem kX11_readSack_57 {r : Int32} {S1 : MS} {M : MS} {H : Heap} {locs : List Loc} {ls : Array Slot} (X : gX p s m args c cX11_readSack 1 RX11 (kR kTab kA)) (hret : gRetI p l e (rmL 6 0 0) s m args below meth c cX11_readSack (mΩ ad) (mP dC dI cI kA ad) Q r S1) (hf : fX11_readSack_57 M = some (r, S1)) (hP : (mP dC dI cI kA ad) M s H) (hS : va_S (Fr (mΩ ad) s.heap.size) s.heap H locs) (hl : lv_has ls 1 [(0, .ref (ad 25))]) : W p l e (rmL 6 0 0) s m args below meth c H locs 0 0 Q (F0 m 57 ls []) := by
  have hx := X.hx
  have hb := X.hb
  have hown := X.hown
  have hts := X.hts
  rw [fX11_readSack_57] at hf
  refine lv_aload_n hx hb dX11_readSack_57 rfl (lv_at hl 0 rfl) ?_
  refine lv_iconst (v := 2) hx hb dX11_readSack_58 (by decide) ?_
  refine lv_aload_n hx hb dX11_readSack_59 rfl (lv_at hl 0 rfl) ?_
  refine lv_ldcwS hx hb hown (kRat (q := ("GranaryWatchModel", 262, "open", [111, 112, 101, 110])) X.ks 28 rfl) dX11_readSack_60 ?_
  obtain ⟨q, hc, hf⟩ := bd hf
  refine gCallVR X rfl (vX11_isWord hc) gRX11_X11_isWord hdX11_isWord rfl ⟨by decide, by decide⟩ (gBS_blind mOK) (gBS_at mOK X hP (mstr (q := ("GranaryWatchModel", 262, "open", [111, 112, 101, 110])) hP 28 rfl)) (mrec hP) hl.1 (Nat.le_of_ble_eq_true rfl) ⟨Nat.le_refl _, Nat.le_refl _⟩ dX11_readSack_63 (As := [.ref (kA RX11 262)]) (rest := [.int 2, .ref (ad 25)]) rfl ?_
  exact kX11_readSack_66 X hret hf hP hS (lv_sub hl [0] rfl)
set_option maxRecDepth 10000 in
theorem kX11_readSack_52 {r : Int32} {S1 : MS} {M : MS} {s0 : Int32} {H : Heap} {locs : List Loc} {ls : Array Slot} (X : gX p s m args c cX11_readSack 1 RX11 (kR kTab kA)) (hret : gRetI p l e (rmL 6 0 0) s m args below meth c cX11_readSack (mΩ ad) (mP dC dI cI kA ad) Q r S1) (hf : fX11_readSack_52 M s0 = some (r, S1)) (hP : (mP dC dI cI kA ad) M s H) (hS : va_S (Fr (mΩ ad) s.heap.size) s.heap H locs) (hl : lv_has ls 1 [(0, .ref (ad 25))]) : W p l e (rmL 6 0 0) s m args below meth c H locs 0 0 Q (F0 m 52 ls [.int s0]) := by
  have hx := X.hx
  have hb := X.hb
  have hown := X.hown
  have hts := X.hts
  rw [fX11_readSack_52] at hf
  refine lv_if_ne (tgt := 57) hx hb dX11_readSack_52 (by decide) (fun c1 => ?_) (fun c1 => ?_)
  · exact kX11_readSack_57 X hret (ifn c1 hf) hP hS (lv_sub hl [0] rfl)
  · exact kX11_readSack_55 X hret (ifp c1 hf) hP hS (lv_sub hl [0] rfl)
set_option maxRecDepth 10000 in
theorem kX11_readSack_44 {r : Int32} {S1 : MS} {M : MS} {H : Heap} {locs : List Loc} {ls : Array Slot} (X : gX p s m args c cX11_readSack 1 RX11 (kR kTab kA)) (hret : gRetI p l e (rmL 6 0 0) s m args below meth c cX11_readSack (mΩ ad) (mP dC dI cI kA ad) Q r S1) (hf : fX11_readSack_44 M = some (r, S1)) (hP : (mP dC dI cI kA ad) M s H) (hS : va_S (Fr (mΩ ad) s.heap.size) s.heap H locs) (hl : lv_has ls 1 [(0, .ref (ad 25))]) : W p l e (rmL 6 0 0) s m args below meth c H locs 0 0 Q (F0 m 44 ls []) := by
  have hx := X.hx
  have hb := X.hb
  have hown := X.hown
  have hts := X.hts
  rw [fX11_readSack_44] at hf
  refine lv_aload_n hx hb dX11_readSack_44 rfl (lv_at hl 0 rfl) ?_
  refine lv_iconst (v := 1) hx hb dX11_readSack_45 (by decide) ?_
  refine lv_iconst (v := 0) hx hb dX11_readSack_46 (by decide) ?_
  refine lv_bipush (v := 99) hx hb dX11_readSack_47 (by decide) ?_
  obtain ⟨q, hc, hf⟩ := bd hf
  refine gCallVI X mOK rfl (vX11_takes hc) gRX11_X11_takes hdX11_takes rfl ⟨by decide, by decide⟩ hP hS (mrec hP) hl.1 (Nat.le_of_ble_eq_true rfl) ⟨Nat.le_refl _, Nat.le_refl _⟩ dX11_readSack_49 (As := [.int 1, .int 0, .int 99]) (rest := []) rfl (fun H locs hP hS => ?_)
  exact kX11_readSack_52 X hret hf hP hS (lv_sub hl [0] rfl)
set_option maxRecDepth 10000 in
theorem kX11_readSack_41 {r : Int32} {S1 : MS} {M : MS} {s0 : Int32} {H : Heap} {locs : List Loc} {ls : Array Slot} (X : gX p s m args c cX11_readSack 1 RX11 (kR kTab kA)) (hret : gRetI p l e (rmL 6 0 0) s m args below meth c cX11_readSack (mΩ ad) (mP dC dI cI kA ad) Q r S1) (hf : fX11_readSack_41 M s0 = some (r, S1)) (hP : (mP dC dI cI kA ad) M s H) (hS : va_S (Fr (mΩ ad) s.heap.size) s.heap H locs) (hl : lv_has ls 1 [(0, .ref (ad 25))]) : W p l e (rmL 6 0 0) s m args below meth c H locs 0 0 Q (F0 m 41 ls [.int s0]) := by
  have hx := X.hx
  have hb := X.hb
  have hown := X.hown
  have hts := X.hts
  rw [fX11_readSack_41] at hf
  refine lv_if_eq (tgt := 55) hx hb dX11_readSack_41 (by decide) (fun c1 => ?_) (fun c1 => ?_)
  · exact kX11_readSack_55 X hret (ifp c1 hf) hP hS (lv_sub hl [0] rfl)
  · exact kX11_readSack_44 X hret (ifn c1 hf) hP hS (lv_sub hl [0] rfl)
set_option maxRecDepth 10000 in
theorem kX11_readSack_32 {r : Int32} {S1 : MS} {M : MS} {H : Heap} {locs : List Loc} {ls : Array Slot} (X : gX p s m args c cX11_readSack 1 RX11 (kR kTab kA)) (hret : gRetI p l e (rmL 6 0 0) s m args below meth c cX11_readSack (mΩ ad) (mP dC dI cI kA ad) Q r S1) (hf : fX11_readSack_32 M = some (r, S1)) (hP : (mP dC dI cI kA ad) M s H) (hS : va_S (Fr (mΩ ad) s.heap.size) s.heap H locs) (hl : lv_has ls 1 [(0, .ref (ad 25))]) : W p l e (rmL 6 0 0) s m args below meth c H locs 0 0 Q (F0 m 32 ls []) := by
  have hx := X.hx
  have hb := X.hb
  have hown := X.hown
  have hts := X.hts
  rw [fX11_readSack_32] at hf
  refine lv_aload_n hx hb dX11_readSack_32 rfl (lv_at hl 0 rfl) ?_
  refine lv_iconst (v := 0) hx hb dX11_readSack_33 (by decide) ?_
  refine lv_iconst (v := 0) hx hb dX11_readSack_34 (by decide) ?_
  refine lv_sipush (v := 999) hx hb dX11_readSack_35 (by decide) ?_
  obtain ⟨q, hc, hf⟩ := bd hf
  refine gCallVI X mOK rfl (vX11_takes hc) gRX11_X11_takes hdX11_takes rfl ⟨by decide, by decide⟩ hP hS (mrec hP) hl.1 (Nat.le_of_ble_eq_true rfl) ⟨Nat.le_refl _, Nat.le_refl _⟩ dX11_readSack_38 (As := [.int 0, .int 0, .int 999]) (rest := []) rfl (fun H locs hP hS => ?_)
  exact kX11_readSack_41 X hret hf hP hS (lv_sub hl [0] rfl)
set_option maxRecDepth 10000 in
theorem kX11_readSack_29 {r : Int32} {S1 : MS} {M : MS} {s0 : Int32} {H : Heap} {locs : List Loc} {ls : Array Slot} (X : gX p s m args c cX11_readSack 1 RX11 (kR kTab kA)) (hret : gRetI p l e (rmL 6 0 0) s m args below meth c cX11_readSack (mΩ ad) (mP dC dI cI kA ad) Q r S1) (hf : fX11_readSack_29 M s0 = some (r, S1)) (hP : (mP dC dI cI kA ad) M s H) (hS : va_S (Fr (mΩ ad) s.heap.size) s.heap H locs) (hl : lv_has ls 1 [(0, .ref (ad 25))]) : W p l e (rmL 6 0 0) s m args below meth c H locs 0 0 Q (F0 m 29 ls [.int s0]) := by
  have hx := X.hx
  have hb := X.hb
  have hown := X.hown
  have hts := X.hts
  rw [fX11_readSack_29] at hf
  refine lv_if_eq (tgt := 55) hx hb dX11_readSack_29 (by decide) (fun c1 => ?_) (fun c1 => ?_)
  · exact kX11_readSack_55 X hret (ifp c1 hf) hP hS (lv_sub hl [0] rfl)
  · exact kX11_readSack_32 X hret (ifn c1 hf) hP hS (lv_sub hl [0] rfl)
set_option maxRecDepth 10000 in
theorem kX11_readSack_21 {r : Int32} {S1 : MS} {M : MS} {H : Heap} {locs : List Loc} {ls : Array Slot} (X : gX p s m args c cX11_readSack 1 RX11 (kR kTab kA)) (hret : gRetI p l e (rmL 6 0 0) s m args below meth c cX11_readSack (mΩ ad) (mP dC dI cI kA ad) Q r S1) (hf : fX11_readSack_21 M = some (r, S1)) (hP : (mP dC dI cI kA ad) M s H) (hS : va_S (Fr (mΩ ad) s.heap.size) s.heap H locs) (hl : lv_has ls 1 [(0, .ref (ad 25))]) : W p l e (rmL 6 0 0) s m args below meth c H locs 0 0 Q (F0 m 21 ls []) := by
  have hx := X.hx
  have hb := X.hb
  have hown := X.hown
  have hts := X.hts
  rw [fX11_readSack_21] at hf
  refine lv_aload_n hx hb dX11_readSack_21 rfl (lv_at hl 0 rfl) ?_
  refine lv_sipush (v := 161) hx hb dX11_readSack_22 (by decide) ?_
  refine lv_iconst (v := 1) hx hb dX11_readSack_25 (by decide) ?_
  obtain ⟨q, hc, hf⟩ := bd hf
  refine gCallVI X mOK rfl (vX11_takesNewName hc) gRX11_X11_takesNewName hdX11_takesNewName rfl ⟨by decide, by decide⟩ hP hS (mrec hP) hl.1 (Nat.le_of_ble_eq_true rfl) ⟨Nat.le_refl _, Nat.le_refl _⟩ dX11_readSack_26 (As := [.int 161, .int 1]) (rest := []) rfl (fun H locs hP hS => ?_)
  exact kX11_readSack_29 X hret hf hP hS (lv_sub hl [0] rfl)
set_option maxRecDepth 10000 in
theorem kX11_readSack_17 {r : Int32} {S1 : MS} {M : MS} {H : Heap} {locs : List Loc} {ls : Array Slot} (X : gX p s m args c cX11_readSack 1 RX11 (kR kTab kA)) (hret : gRetI p l e (rmL 6 0 0) s m args below meth c cX11_readSack (mΩ ad) (mP dC dI cI kA ad) Q r S1) (hf : fX11_readSack_17 M = some (r, S1)) (hP : (mP dC dI cI kA ad) M s H) (hS : va_S (Fr (mΩ ad) s.heap.size) s.heap H locs) (hl : lv_has ls 1 [(0, .ref (ad 25))]) : W p l e (rmL 6 0 0) s m args below meth c H locs 0 0 Q (F0 m 17 ls []) := by
  have hx := X.hx
  have hb := X.hb
  have hown := X.hown
  have hts := X.hts
  rw [fX11_readSack_17] at hf
  refine lv_aload_n hx hb dX11_readSack_17 rfl (lv_at hl 0 rfl) ?_
  obtain ⟨q, hc, hf⟩ := bd hf
  refine gCallVV X mOK rfl (vX11_advanceToken hc) gRX11_X11_advanceToken hdX11_advanceToken rfl ⟨by decide, by decide⟩ hP hS (mrec hP) hl.1 (Nat.le_of_ble_eq_true rfl) ⟨Nat.le_refl _, Nat.le_refl _⟩ dX11_readSack_18 (As := []) (rest := []) rfl (fun H locs hP hS => ?_)
  exact kX11_readSack_21 X hret hf hP hS (lv_sub hl [0] rfl)
set_option maxRecDepth 10000 in
theorem kX11_readSack_16 {r : Int32} {S1 : MS} {M : MS} {s0 : Int32} {H : Heap} {locs : List Loc} {ls : Array Slot} (X : gX p s m args c cX11_readSack 1 RX11 (kR kTab kA)) (hret : gRetI p l e (rmL 6 0 0) s m args below meth c cX11_readSack (mΩ ad) (mP dC dI cI kA ad) Q r S1) (hf : fX11_readSack_16 M s0 = some (r, S1)) (hP : (mP dC dI cI kA ad) M s H) (hS : va_S (Fr (mΩ ad) s.heap.size) s.heap H locs) (hl : lv_has ls 1 [(0, .ref (ad 25))]) : W p l e (rmL 6 0 0) s m args below meth c H locs 0 0 Q (F0 m 16 ls [.int s0]) := by
  have hx := X.hx
  have hb := X.hb
  have hown := X.hown
  have hts := X.hts
  rw [fX11_readSack_16] at hf
  cases hf
  exact hret _ _ _ _ dX11_readSack_16 hP hS
set_option maxRecDepth 10000 in
theorem kX11_readSack_11 {r : Int32} {S1 : MS} {M : MS} {H : Heap} {locs : List Loc} {ls : Array Slot} (X : gX p s m args c cX11_readSack 1 RX11 (kR kTab kA)) (hret : gRetI p l e (rmL 6 0 0) s m args below meth c cX11_readSack (mΩ ad) (mP dC dI cI kA ad) Q r S1) (hf : fX11_readSack_11 M = some (r, S1)) (hP : (mP dC dI cI kA ad) M s H) (hS : va_S (Fr (mΩ ad) s.heap.size) s.heap H locs) (hl : lv_has ls 1 [(0, .ref (ad 25))]) : W p l e (rmL 6 0 0) s m args below meth c H locs 0 0 Q (F0 m 11 ls []) := by
  have hx := X.hx
  have hb := X.hb
  have hown := X.hown
  have hts := X.hts
  rw [fX11_readSack_11] at hf
  refine lv_aload_n hx hb dX11_readSack_11 rfl (lv_at hl 0 rfl) ?_
  refine lv_iconst (v := 5) hx hb dX11_readSack_12 (by decide) ?_
  obtain ⟨q, hc, hf⟩ := bd hf
  refine gCallVI X mOK rfl (vX11_failsAt hc) gRX11_X11_failsAt hdX11_failsAt rfl ⟨by decide, by decide⟩ hP hS (mrec hP) hl.1 (Nat.le_of_ble_eq_true rfl) ⟨Nat.le_refl _, Nat.le_refl _⟩ dX11_readSack_13 (As := [.int 5]) (rest := []) rfl (fun H locs hP hS => ?_)
  exact kX11_readSack_16 X hret hf hP hS (lv_sub hl [0] rfl)
set_option maxRecDepth 10000 in
theorem kX11_readSack_0 {r : Int32} {S1 : MS} {M : MS} {H : Heap} {locs : List Loc} {ls : Array Slot} (X : gX p s m args c cX11_readSack 1 RX11 (kR kTab kA)) (hret : gRetI p l e (rmL 6 0 0) s m args below meth c cX11_readSack (mΩ ad) (mP dC dI cI kA ad) Q r S1) (hf : fX11_readSack_0 M = some (r, S1)) (hP : (mP dC dI cI kA ad) M s H) (hS : va_S (Fr (mΩ ad) s.heap.size) s.heap H locs) (hl : lv_has ls 1 [(0, .ref (ad 25))]) : W p l e (rmL 6 0 0) s m args below meth c H locs 0 0 Q (F0 m 0 ls []) := by
  have hx := X.hx
  have hb := X.hb
  have hown := X.hown
  have hts := X.hts
  rw [fX11_readSack_0] at hf
  refine lv_aload_n hx hb dX11_readSack_0 rfl (lv_at hl 0 rfl) ?_
  refine mr_get (k := 0) X hP (by decide) rfl rfl tw1665 dX11_readSack_1 ?_
  refine lv_iconst (v := 1) hx hb dX11_readSack_4 (by decide) ?_
  obtain ⟨g1, hf⟩ := gd hf
  refine mr_ald (a := 0) X hP rfl g1 dX11_readSack_5 ?_
  refine lv_bipush (v := 6) hx hb dX11_readSack_6 (by decide) ?_
  refine lv_icmp_ne (tgt := 17) hx hb dX11_readSack_8 (by decide) (fun c1 => ?_) (fun c1 => ?_)
  · exact kX11_readSack_17 X hret (ifn c1 hf) hP hS (lv_sub hl [0] rfl)
  · exact kX11_readSack_11 X hret (ifp c1 hf) hP hS (lv_sub hl [0] rfl)
theorem vX11_readSack {l : Launch} {dC : Nat → ClassId} {dI : Nat → Nat → Nat} {cI : ClassId} {kA : String → Nat → Nat} {ad : Nat → Nat} {M S1 : MS} {r : Int32} (hf : fX11_readSack M  = some (r, S1)) : gMetI l yX11_readSack cX11_readSack 1 (some .boolean) 6 (mΩ ad) (mP dC dI cI kA ad) (kR kTab kA) [.ref (ad 25)] M r S1 := gEntryI (ty := .boolean) (by decide) rfl (bz_n hf) mOK (Nat.le_of_ble_eq_true rfl) (fun p e s m args below meth c Q ls X hP hS hret hl => 
  kX11_readSack_0 X hret (bz_f hf) hP hS (lv_sub hl [0] rfl))
set_option maxRecDepth 10000 in
theorem kX11_readShift_42 {r : Int32} {S1 : MS} {M : MS} {H : Heap} {locs : List Loc} {ls : Array Slot} (X : gX p s m args c cX11_readShift 1 RX11 (kR kTab kA)) (hret : gRetI p l e (rmL 6 0 0) s m args below meth c cX11_readShift (mΩ ad) (mP dC dI cI kA ad) Q r S1) (hf : fX11_readShift_42 M = some (r, S1)) (hP : (mP dC dI cI kA ad) M s H) (hS : va_S (Fr (mΩ ad) s.heap.size) s.heap H locs) (hl : lv_has ls 1 [(0, .ref (ad 25))]) : W p l e (rmL 6 0 0) s m args below meth c H locs 0 0 Q (F0 m 42 ls []) := by
  have hx := X.hx
  have hb := X.hb
  have hown := X.hown
  have hts := X.hts
  rw [fX11_readShift_42] at hf
  refine lv_iconst (v := 0) hx hb dX11_readShift_42 (by decide) ?_
  cases hf
  exact hret _ _ _ _ dX11_readShift_43 hP hS
set_option maxRecDepth 10000 in
theorem kX11_readShift_64 {r : Int32} {S1 : MS} {M : MS} {s0 : Int32} {H : Heap} {locs : List Loc} {ls : Array Slot} (X : gX p s m args c cX11_readShift 1 RX11 (kR kTab kA)) (hret : gRetI p l e (rmL 6 0 0) s m args below meth c cX11_readShift (mΩ ad) (mP dC dI cI kA ad) Q r S1) (hf : fX11_readShift_64 M s0 = some (r, S1)) (hP : (mP dC dI cI kA ad) M s H) (hS : va_S (Fr (mΩ ad) s.heap.size) s.heap H locs) (hl : lv_has ls 1 [(0, .ref (ad 25))]) : W p l e (rmL 6 0 0) s m args below meth c H locs 0 0 Q (F0 m 64 ls [.int s0]) := by
  have hx := X.hx
  have hb := X.hb
  have hown := X.hown
  have hts := X.hts
  rw [fX11_readShift_64] at hf
  cases hf
  exact hret _ _ _ _ dX11_readShift_64 hP hS
set_option maxRecDepth 10000 in
theorem kX11_readShift_60 {r : Int32} {S1 : MS} {M : MS} {H : Heap} {locs : List Loc} {ls : Array Slot} (X : gX p s m args c cX11_readShift 1 RX11 (kR kTab kA)) (hret : gRetI p l e (rmL 6 0 0) s m args below meth c cX11_readShift (mΩ ad) (mP dC dI cI kA ad) Q r S1) (hf : fX11_readShift_60 M = some (r, S1)) (hP : (mP dC dI cI kA ad) M s H) (hS : va_S (Fr (mΩ ad) s.heap.size) s.heap H locs) (hl : lv_has ls 1 [(0, .ref (ad 25))]) : W p l e (rmL 6 0 0) s m args below meth c H locs 0 0 Q (F0 m 60 ls []) := by
  have hx := X.hx
  have hb := X.hb
  have hown := X.hown
  have hts := X.hts
  rw [fX11_readShift_60] at hf
  refine lv_aload_n hx hb dX11_readShift_60 rfl (lv_at hl 0 rfl) ?_
  obtain ⟨q, hc, hf⟩ := bd hf
  refine gCallVI X mOK rfl (vX11_takesSemicolon hc) gRX11_X11_takesSemicolon hdX11_takesSemicolon rfl ⟨by decide, by decide⟩ hP hS (mrec hP) hl.1 (Nat.le_of_ble_eq_true rfl) ⟨Nat.le_refl _, Nat.le_refl _⟩ dX11_readShift_61 (As := []) (rest := []) rfl (fun H locs hP hS => ?_)
  exact kX11_readShift_64 X hret hf hP hS (lv_sub hl [0] rfl)
set_option maxRecDepth 10000 in
theorem kX11_readShift_44 {r : Int32} {S1 : MS} {M : MS} {H : Heap} {locs : List Loc} {ls : Array Slot} (X : gX p s m args c cX11_readShift 1 RX11 (kR kTab kA)) (hret : gRetI p l e (rmL 6 0 0) s m args below meth c cX11_readShift (mΩ ad) (mP dC dI cI kA ad) Q r S1) (hf : fX11_readShift_44 M = some (r, S1)) (hP : (mP dC dI cI kA ad) M s H) (hS : va_S (Fr (mΩ ad) s.heap.size) s.heap H locs) (hl : lv_has ls 1 [(0, .ref (ad 25))]) : W p l e (rmL 6 0 0) s m args below meth c H locs 0 0 Q (F0 m 44 ls []) := by
  have hx := X.hx
  have hb := X.hb
  have hown := X.hown
  have hts := X.hts
  rw [fX11_readShift_44] at hf
  refine lv_aload_n hx hb dX11_readShift_44 rfl (lv_at hl 0 rfl) ?_
  refine lv_aload_n hx hb dX11_readShift_45 rfl (lv_at hl 0 rfl) ?_
  refine mr_get (k := 19) X hP (by decide) rfl rfl tw1684 dX11_readShift_46 ?_
  refine lv_iconst (v := 0) hx hb dX11_readShift_49 (by decide) ?_
  obtain ⟨g1, hf⟩ := gd hf
  refine mr_ald (a := 19) X hP rfl g1 dX11_readShift_50 ?_
  refine lv_aload_n hx hb dX11_readShift_51 rfl (lv_at hl 0 rfl) ?_
  refine mr_get (k := 19) X hP (by decide) rfl rfl tw1684 dX11_readShift_52 ?_
  refine lv_iconst (v := 1) hx hb dX11_readShift_55 (by decide) ?_
  obtain ⟨g2, hf⟩ := gd hf
  refine mr_ald (a := 19) X hP rfl g2 dX11_readShift_56 ?_
  obtain ⟨q, hc, hf⟩ := bd hf
  refine gCallVV X mOK rfl (vX11_addsShift hc) gRX11_X11_addsShift hdX11_addsShift rfl ⟨by decide, by decide⟩ hP hS (mrec hP) hl.1 (Nat.le_of_ble_eq_true rfl) ⟨Nat.le_refl _, Nat.le_refl _⟩ dX11_readShift_57 (As := [.int (M.2 19 (0 : Int32).toNatClampNeg), .int (M.2 19 (1 : Int32).toNatClampNeg)]) (rest := []) rfl (fun H locs hP hS => ?_)
  exact kX11_readShift_60 X hret hf hP hS (lv_sub hl [0] rfl)
set_option maxRecDepth 10000 in
theorem kX11_readShift_39 {r : Int32} {S1 : MS} {M : MS} {s0 : Int32} {H : Heap} {locs : List Loc} {ls : Array Slot} (X : gX p s m args c cX11_readShift 1 RX11 (kR kTab kA)) (hret : gRetI p l e (rmL 6 0 0) s m args below meth c cX11_readShift (mΩ ad) (mP dC dI cI kA ad) Q r S1) (hf : fX11_readShift_39 M s0 = some (r, S1)) (hP : (mP dC dI cI kA ad) M s H) (hS : va_S (Fr (mΩ ad) s.heap.size) s.heap H locs) (hl : lv_has ls 1 [(0, .ref (ad 25))]) : W p l e (rmL 6 0 0) s m args below meth c H locs 0 0 Q (F0 m 39 ls [.int s0]) := by
  have hx := X.hx
  have hb := X.hb
  have hown := X.hown
  have hts := X.hts
  rw [fX11_readShift_39] at hf
  refine lv_if_ne (tgt := 44) hx hb dX11_readShift_39 (by decide) (fun c1 => ?_) (fun c1 => ?_)
  · exact kX11_readShift_44 X hret (ifn c1 hf) hP hS (lv_sub hl [0] rfl)
  · exact kX11_readShift_42 X hret (ifp c1 hf) hP hS (lv_sub hl [0] rfl)
set_option maxRecDepth 10000 in
theorem kX11_readShift_31 {r : Int32} {S1 : MS} {M : MS} {H : Heap} {locs : List Loc} {ls : Array Slot} (X : gX p s m args c cX11_readShift 1 RX11 (kR kTab kA)) (hret : gRetI p l e (rmL 6 0 0) s m args below meth c cX11_readShift (mΩ ad) (mP dC dI cI kA ad) Q r S1) (hf : fX11_readShift_31 M = some (r, S1)) (hP : (mP dC dI cI kA ad) M s H) (hS : va_S (Fr (mΩ ad) s.heap.size) s.heap H locs) (hl : lv_has ls 1 [(0, .ref (ad 25))]) : W p l e (rmL 6 0 0) s m args below meth c H locs 0 0 Q (F0 m 31 ls []) := by
  have hx := X.hx
  have hb := X.hb
  have hown := X.hown
  have hts := X.hts
  rw [fX11_readShift_31] at hf
  refine lv_aload_n hx hb dX11_readShift_31 rfl (lv_at hl 0 rfl) ?_
  refine lv_iconst (v := 1) hx hb dX11_readShift_32 (by decide) ?_
  refine lv_iconst (v := 1) hx hb dX11_readShift_33 (by decide) ?_
  refine lv_bipush (v := 24) hx hb dX11_readShift_34 (by decide) ?_
  obtain ⟨q, hc, hf⟩ := bd hf
  refine gCallVI X mOK rfl (vX11_takes hc) gRX11_X11_takes hdX11_takes rfl ⟨by decide, by decide⟩ hP hS (mrec hP) hl.1 (Nat.le_of_ble_eq_true rfl) ⟨Nat.le_refl _, Nat.le_refl _⟩ dX11_readShift_36 (As := [.int 1, .int 1, .int 24]) (rest := []) rfl (fun H locs hP hS => ?_)
  exact kX11_readShift_39 X hret hf hP hS (lv_sub hl [0] rfl)
set_option maxRecDepth 10000 in
theorem kX11_readShift_28 {r : Int32} {S1 : MS} {M : MS} {s0 : Int32} {H : Heap} {locs : List Loc} {ls : Array Slot} (X : gX p s m args c cX11_readShift 1 RX11 (kR kTab kA)) (hret : gRetI p l e (rmL 6 0 0) s m args below meth c cX11_readShift (mΩ ad) (mP dC dI cI kA ad) Q r S1) (hf : fX11_readShift_28 M s0 = some (r, S1)) (hP : (mP dC dI cI kA ad) M s H) (hS : va_S (Fr (mΩ ad) s.heap.size) s.heap H locs) (hl : lv_has ls 1 [(0, .ref (ad 25))]) : W p l e (rmL 6 0 0) s m args below meth c H locs 0 0 Q (F0 m 28 ls [.int s0]) := by
  have hx := X.hx
  have hb := X.hb
  have hown := X.hown
  have hts := X.hts
  rw [fX11_readShift_28] at hf
  refine lv_if_eq (tgt := 42) hx hb dX11_readShift_28 (by decide) (fun c1 => ?_) (fun c1 => ?_)
  · exact kX11_readShift_42 X hret (ifp c1 hf) hP hS (lv_sub hl [0] rfl)
  · exact kX11_readShift_31 X hret (ifn c1 hf) hP hS (lv_sub hl [0] rfl)
set_option maxRecDepth 10000 in
theorem kX11_readShift_21 {r : Int32} {S1 : MS} {M : MS} {H : Heap} {locs : List Loc} {ls : Array Slot} (X : gX p s m args c cX11_readShift 1 RX11 (kR kTab kA)) (hret : gRetI p l e (rmL 6 0 0) s m args below meth c cX11_readShift (mΩ ad) (mP dC dI cI kA ad) Q r S1) (hf : fX11_readShift_21 M = some (r, S1)) (hP : (mP dC dI cI kA ad) M s H) (hS : va_S (Fr (mΩ ad) s.heap.size) s.heap H locs) (hl : lv_has ls 1 [(0, .ref (ad 25))]) : W p l e (rmL 6 0 0) s m args below meth c H locs 0 0 Q (F0 m 21 ls []) := by
  have hx := X.hx
  have hb := X.hb
  have hown := X.hown
  have hts := X.hts
  rw [fX11_readShift_21] at hf
  refine lv_aload_n hx hb dX11_readShift_21 rfl (lv_at hl 0 rfl) ?_
  refine lv_bipush (v := 65) hx hb dX11_readShift_22 (by decide) ?_
  refine lv_iconst (v := 0) hx hb dX11_readShift_24 (by decide) ?_
  obtain ⟨q, hc, hf⟩ := bd hf
  refine gCallVI X mOK rfl (vX11_takesKnown hc) gRX11_X11_takesKnown hdX11_takesKnown rfl ⟨by decide, by decide⟩ hP hS (mrec hP) hl.1 (Nat.le_of_ble_eq_true rfl) ⟨Nat.le_refl _, Nat.le_refl _⟩ dX11_readShift_25 (As := [.int 65, .int 0]) (rest := []) rfl (fun H locs hP hS => ?_)
  exact kX11_readShift_28 X hret hf hP hS (lv_sub hl [0] rfl)
set_option maxRecDepth 10000 in
theorem kX11_readShift_17 {r : Int32} {S1 : MS} {M : MS} {H : Heap} {locs : List Loc} {ls : Array Slot} (X : gX p s m args c cX11_readShift 1 RX11 (kR kTab kA)) (hret : gRetI p l e (rmL 6 0 0) s m args below meth c cX11_readShift (mΩ ad) (mP dC dI cI kA ad) Q r S1) (hf : fX11_readShift_17 M = some (r, S1)) (hP : (mP dC dI cI kA ad) M s H) (hS : va_S (Fr (mΩ ad) s.heap.size) s.heap H locs) (hl : lv_has ls 1 [(0, .ref (ad 25))]) : W p l e (rmL 6 0 0) s m args below meth c H locs 0 0 Q (F0 m 17 ls []) := by
  have hx := X.hx
  have hb := X.hb
  have hown := X.hown
  have hts := X.hts
  rw [fX11_readShift_17] at hf
  refine lv_aload_n hx hb dX11_readShift_17 rfl (lv_at hl 0 rfl) ?_
  obtain ⟨q, hc, hf⟩ := bd hf
  refine gCallVV X mOK rfl (vX11_advanceToken hc) gRX11_X11_advanceToken hdX11_advanceToken rfl ⟨by decide, by decide⟩ hP hS (mrec hP) hl.1 (Nat.le_of_ble_eq_true rfl) ⟨Nat.le_refl _, Nat.le_refl _⟩ dX11_readShift_18 (As := []) (rest := []) rfl (fun H locs hP hS => ?_)
  exact kX11_readShift_21 X hret hf hP hS (lv_sub hl [0] rfl)
set_option maxRecDepth 10000 in
theorem kX11_readShift_16 {r : Int32} {S1 : MS} {M : MS} {s0 : Int32} {H : Heap} {locs : List Loc} {ls : Array Slot} (X : gX p s m args c cX11_readShift 1 RX11 (kR kTab kA)) (hret : gRetI p l e (rmL 6 0 0) s m args below meth c cX11_readShift (mΩ ad) (mP dC dI cI kA ad) Q r S1) (hf : fX11_readShift_16 M s0 = some (r, S1)) (hP : (mP dC dI cI kA ad) M s H) (hS : va_S (Fr (mΩ ad) s.heap.size) s.heap H locs) (hl : lv_has ls 1 [(0, .ref (ad 25))]) : W p l e (rmL 6 0 0) s m args below meth c H locs 0 0 Q (F0 m 16 ls [.int s0]) := by
  have hx := X.hx
  have hb := X.hb
  have hown := X.hown
  have hts := X.hts
  rw [fX11_readShift_16] at hf
  cases hf
  exact hret _ _ _ _ dX11_readShift_16 hP hS
set_option maxRecDepth 10000 in
theorem kX11_readShift_11 {r : Int32} {S1 : MS} {M : MS} {H : Heap} {locs : List Loc} {ls : Array Slot} (X : gX p s m args c cX11_readShift 1 RX11 (kR kTab kA)) (hret : gRetI p l e (rmL 6 0 0) s m args below meth c cX11_readShift (mΩ ad) (mP dC dI cI kA ad) Q r S1) (hf : fX11_readShift_11 M = some (r, S1)) (hP : (mP dC dI cI kA ad) M s H) (hS : va_S (Fr (mΩ ad) s.heap.size) s.heap H locs) (hl : lv_has ls 1 [(0, .ref (ad 25))]) : W p l e (rmL 6 0 0) s m args below meth c H locs 0 0 Q (F0 m 11 ls []) := by
  have hx := X.hx
  have hb := X.hb
  have hown := X.hown
  have hts := X.hts
  rw [fX11_readShift_11] at hf
  refine lv_aload_n hx hb dX11_readShift_11 rfl (lv_at hl 0 rfl) ?_
  refine lv_iconst (v := 5) hx hb dX11_readShift_12 (by decide) ?_
  obtain ⟨q, hc, hf⟩ := bd hf
  refine gCallVI X mOK rfl (vX11_failsAt hc) gRX11_X11_failsAt hdX11_failsAt rfl ⟨by decide, by decide⟩ hP hS (mrec hP) hl.1 (Nat.le_of_ble_eq_true rfl) ⟨Nat.le_refl _, Nat.le_refl _⟩ dX11_readShift_13 (As := [.int 5]) (rest := []) rfl (fun H locs hP hS => ?_)
  exact kX11_readShift_16 X hret hf hP hS (lv_sub hl [0] rfl)
set_option maxRecDepth 10000 in
theorem kX11_readShift_0 {r : Int32} {S1 : MS} {M : MS} {H : Heap} {locs : List Loc} {ls : Array Slot} (X : gX p s m args c cX11_readShift 1 RX11 (kR kTab kA)) (hret : gRetI p l e (rmL 6 0 0) s m args below meth c cX11_readShift (mΩ ad) (mP dC dI cI kA ad) Q r S1) (hf : fX11_readShift_0 M = some (r, S1)) (hP : (mP dC dI cI kA ad) M s H) (hS : va_S (Fr (mΩ ad) s.heap.size) s.heap H locs) (hl : lv_has ls 1 [(0, .ref (ad 25))]) : W p l e (rmL 6 0 0) s m args below meth c H locs 0 0 Q (F0 m 0 ls []) := by
  have hx := X.hx
  have hb := X.hb
  have hown := X.hown
  have hts := X.hts
  rw [fX11_readShift_0] at hf
  refine lv_aload_n hx hb dX11_readShift_0 rfl (lv_at hl 0 rfl) ?_
  refine mr_get (k := 0) X hP (by decide) rfl rfl tw1665 dX11_readShift_1 ?_
  refine lv_iconst (v := 2) hx hb dX11_readShift_4 (by decide) ?_
  obtain ⟨g1, hf⟩ := gd hf
  refine mr_ald (a := 0) X hP rfl g1 dX11_readShift_5 ?_
  refine lv_bipush (v := 12) hx hb dX11_readShift_6 (by decide) ?_
  refine lv_icmp_ne (tgt := 17) hx hb dX11_readShift_8 (by decide) (fun c1 => ?_) (fun c1 => ?_)
  · exact kX11_readShift_17 X hret (ifn c1 hf) hP hS (lv_sub hl [0] rfl)
  · exact kX11_readShift_11 X hret (ifp c1 hf) hP hS (lv_sub hl [0] rfl)
theorem vX11_readShift {l : Launch} {dC : Nat → ClassId} {dI : Nat → Nat → Nat} {cI : ClassId} {kA : String → Nat → Nat} {ad : Nat → Nat} {M S1 : MS} {r : Int32} (hf : fX11_readShift M  = some (r, S1)) : gMetI l yX11_readShift cX11_readShift 1 (some .boolean) 6 (mΩ ad) (mP dC dI cI kA ad) (kR kTab kA) [.ref (ad 25)] M r S1 := gEntryI (ty := .boolean) (by decide) rfl (bz_n hf) mOK (Nat.le_of_ble_eq_true rfl) (fun p e s m args below meth c Q ls X hP hS hret hl => 
  kX11_readShift_0 X hret (bz_f hf) hP hS (lv_sub hl [0] rfl))
set_option maxRecDepth 10000 in
theorem kX11_readCell_32 {r : Int32} {S1 : MS} {M : MS} {s0 : Int32} {H : Heap} {locs : List Loc} {ls : Array Slot} (X : gX p s m args c cX11_readCell 3 RX11 (kR kTab kA)) (hret : gRetI p l e (rmL 6 0 0) s m args below meth c cX11_readCell (mΩ ad) (mP dC dI cI kA ad) Q r S1) (hf : fX11_readCell_32 M s0 = some (r, S1)) (hP : (mP dC dI cI kA ad) M s H) (hS : va_S (Fr (mΩ ad) s.heap.size) s.heap H locs) (hl : lv_has ls 3 [(0, .ref (ad 25))]) : W p l e (rmL 6 0 0) s m args below meth c H locs 0 0 Q (F0 m 32 ls [.int s0]) := by
  have hx := X.hx
  have hb := X.hb
  have hown := X.hown
  have hts := X.hts
  rw [fX11_readCell_32] at hf
  cases hf
  exact hret _ _ _ _ dX11_readCell_32 hP hS
set_option maxRecDepth 10000 in
theorem kX11_readCell_28 {r : Int32} {S1 : MS} {M : MS} {H : Heap} {locs : List Loc} {ls : Array Slot} (X : gX p s m args c cX11_readCell 3 RX11 (kR kTab kA)) (hret : gRetI p l e (rmL 6 0 0) s m args below meth c cX11_readCell (mΩ ad) (mP dC dI cI kA ad) Q r S1) (hf : fX11_readCell_28 M = some (r, S1)) (hP : (mP dC dI cI kA ad) M s H) (hS : va_S (Fr (mΩ ad) s.heap.size) s.heap H locs) (hl : lv_has ls 3 [(0, .ref (ad 25))]) : W p l e (rmL 6 0 0) s m args below meth c H locs 0 0 Q (F0 m 28 ls []) := by
  have hx := X.hx
  have hb := X.hb
  have hown := X.hown
  have hts := X.hts
  rw [fX11_readCell_28] at hf
  refine lv_aload_n hx hb dX11_readCell_28 rfl (lv_at hl 0 rfl) ?_
  obtain ⟨q, hc, hf⟩ := bd hf
  refine gCallVI X mOK rfl (vX11_takesSemicolon hc) gRX11_X11_takesSemicolon hdX11_takesSemicolon rfl ⟨by decide, by decide⟩ hP hS (mrec hP) hl.1 (Nat.le_of_ble_eq_true rfl) ⟨Nat.le_refl _, Nat.le_refl _⟩ dX11_readCell_29 (As := []) (rest := []) rfl (fun H locs hP hS => ?_)
  exact kX11_readCell_32 X hret hf hP hS (lv_sub hl [0] rfl)
set_option maxRecDepth 10000 in
theorem kX11_readCell_16 {r : Int32} {S1 : MS} {M : MS} {x1 : Int32} {H : Heap} {locs : List Loc} {ls : Array Slot} (X : gX p s m args c cX11_readCell 3 RX11 (kR kTab kA)) (hret : gRetI p l e (rmL 6 0 0) s m args below meth c cX11_readCell (mΩ ad) (mP dC dI cI kA ad) Q r S1) (hf : fX11_readCell_16 M x1 = some (r, S1)) (hP : (mP dC dI cI kA ad) M s H) (hS : va_S (Fr (mΩ ad) s.heap.size) s.heap H locs) (hl : lv_has ls 3 [(0, .ref (ad 25)), (1, .int x1)]) : W p l e (rmL 6 0 0) s m args below meth c H locs 0 0 Q (F0 m 16 ls []) := by
  have hx := X.hx
  have hb := X.hb
  have hown := X.hown
  have hts := X.hts
  rw [fX11_readCell_16] at hf
  refine lv_aload_n hx hb dX11_readCell_16 rfl (lv_at hl 0 rfl) ?_
  refine mr_get (k := 0) X hP (by decide) rfl rfl tw1665 dX11_readCell_17 ?_
  refine lv_iload_n hx hb dX11_readCell_20 rfl (lv_at hl 1 rfl) ?_
  refine lv_aload_n hx hb dX11_readCell_21 rfl (lv_at hl 0 rfl) ?_
  refine mr_get (k := 19) X hP (by decide) rfl rfl tw1684 dX11_readCell_22 ?_
  refine lv_iconst (v := 0) hx hb dX11_readCell_25 (by decide) ?_
  obtain ⟨g1, hf⟩ := gd hf
  refine mr_ald (a := 19) X hP rfl g1 dX11_readCell_26 ?_
  obtain ⟨g2, hf⟩ := gd hf
  refine mr_ast (a := 0) X hP hS rfl g2 dX11_readCell_27 (fun H locs hP hS => ?_)
  exact kX11_readCell_28 X hret hf hP hS (lv_sub hl [0] rfl)
set_option maxRecDepth 10000 in
theorem kX11_readCell_14 {r : Int32} {S1 : MS} {M : MS} {H : Heap} {locs : List Loc} {ls : Array Slot} (X : gX p s m args c cX11_readCell 3 RX11 (kR kTab kA)) (hret : gRetI p l e (rmL 6 0 0) s m args below meth c cX11_readCell (mΩ ad) (mP dC dI cI kA ad) Q r S1) (hf : fX11_readCell_14 M = some (r, S1)) (hP : (mP dC dI cI kA ad) M s H) (hS : va_S (Fr (mΩ ad) s.heap.size) s.heap H locs) (hl : lv_has ls 3 [(0, .ref (ad 25))]) : W p l e (rmL 6 0 0) s m args below meth c H locs 0 0 Q (F0 m 14 ls []) := by
  have hx := X.hx
  have hb := X.hb
  have hown := X.hown
  have hts := X.hts
  rw [fX11_readCell_14] at hf
  refine lv_iconst (v := 0) hx hb dX11_readCell_14 (by decide) ?_
  cases hf
  exact hret _ _ _ _ dX11_readCell_15 hP hS
set_option maxRecDepth 10000 in
theorem kX11_readCell_11 {r : Int32} {S1 : MS} {M : MS} {x1 : Int32} {s0 : Int32} {H : Heap} {locs : List Loc} {ls : Array Slot} (X : gX p s m args c cX11_readCell 3 RX11 (kR kTab kA)) (hret : gRetI p l e (rmL 6 0 0) s m args below meth c cX11_readCell (mΩ ad) (mP dC dI cI kA ad) Q r S1) (hf : fX11_readCell_11 M x1 s0 = some (r, S1)) (hP : (mP dC dI cI kA ad) M s H) (hS : va_S (Fr (mΩ ad) s.heap.size) s.heap H locs) (hl : lv_has ls 3 [(0, .ref (ad 25)), (1, .int x1)]) : W p l e (rmL 6 0 0) s m args below meth c H locs 0 0 Q (F0 m 11 ls [.int s0]) := by
  have hx := X.hx
  have hb := X.hb
  have hown := X.hown
  have hts := X.hts
  rw [fX11_readCell_11] at hf
  refine lv_if_ne (tgt := 16) hx hb dX11_readCell_11 (by decide) (fun c1 => ?_) (fun c1 => ?_)
  · exact kX11_readCell_16 X hret (ifn c1 hf) hP hS (lv_sub hl [0, 1] rfl)
  · exact kX11_readCell_14 X hret (ifp c1 hf) hP hS (lv_sub hl [0] rfl)
set_option maxRecDepth 10000 in
theorem kX11_readCell_4 {r : Int32} {S1 : MS} {M : MS} {x1 : Int32} {x2 : Int32} {H : Heap} {locs : List Loc} {ls : Array Slot} (X : gX p s m args c cX11_readCell 3 RX11 (kR kTab kA)) (hret : gRetI p l e (rmL 6 0 0) s m args below meth c cX11_readCell (mΩ ad) (mP dC dI cI kA ad) Q r S1) (hf : fX11_readCell_4 M x1 x2 = some (r, S1)) (hP : (mP dC dI cI kA ad) M s H) (hS : va_S (Fr (mΩ ad) s.heap.size) s.heap H locs) (hl : lv_has ls 3 [(0, .ref (ad 25)), (1, .int x1), (2, .int x2)]) : W p l e (rmL 6 0 0) s m args below meth c H locs 0 0 Q (F0 m 4 ls []) := by
  have hx := X.hx
  have hb := X.hb
  have hown := X.hown
  have hts := X.hts
  rw [fX11_readCell_4] at hf
  refine lv_aload_n hx hb dX11_readCell_4 rfl (lv_at hl 0 rfl) ?_
  refine lv_iconst (v := 0) hx hb dX11_readCell_5 (by decide) ?_
  refine lv_iconst (v := 0) hx hb dX11_readCell_6 (by decide) ?_
  refine lv_iload_n hx hb dX11_readCell_7 rfl (lv_at hl 2 rfl) ?_
  obtain ⟨q, hc, hf⟩ := bd hf
  refine gCallVI X mOK rfl (vX11_takes hc) gRX11_X11_takes hdX11_takes rfl ⟨by decide, by decide⟩ hP hS (mrec hP) hl.1 (Nat.le_of_ble_eq_true rfl) ⟨Nat.le_refl _, Nat.le_refl _⟩ dX11_readCell_8 (As := [.int 0, .int 0, .int x2]) (rest := []) rfl (fun H locs hP hS => ?_)
  exact kX11_readCell_11 X hret hf hP hS (lv_sub hl [0, 1] rfl)
set_option maxRecDepth 10000 in
theorem kX11_readCell_0 {r : Int32} {S1 : MS} {M : MS} {a1 : Int32} {a2 : Int32} {H : Heap} {locs : List Loc} {ls : Array Slot} (X : gX p s m args c cX11_readCell 3 RX11 (kR kTab kA)) (hret : gRetI p l e (rmL 6 0 0) s m args below meth c cX11_readCell (mΩ ad) (mP dC dI cI kA ad) Q r S1) (hf : fX11_readCell_0 M a1 a2 = some (r, S1)) (hP : (mP dC dI cI kA ad) M s H) (hS : va_S (Fr (mΩ ad) s.heap.size) s.heap H locs) (hl : lv_has ls 3 [(0, .ref (ad 25)), (1, .int a1), (2, .int a2)]) : W p l e (rmL 6 0 0) s m args below meth c H locs 0 0 Q (F0 m 0 ls []) := by
  have hx := X.hx
  have hb := X.hb
  have hown := X.hown
  have hts := X.hts
  rw [fX11_readCell_0] at hf
  refine lv_aload_n hx hb dX11_readCell_0 rfl (lv_at hl 0 rfl) ?_
  obtain ⟨q, hc, hf⟩ := bd hf
  refine gCallVV X mOK rfl (vX11_advanceToken hc) gRX11_X11_advanceToken hdX11_advanceToken rfl ⟨by decide, by decide⟩ hP hS (mrec hP) hl.1 (Nat.le_of_ble_eq_true rfl) ⟨Nat.le_refl _, Nat.le_refl _⟩ dX11_readCell_1 (As := []) (rest := []) rfl (fun H locs hP hS => ?_)
  exact kX11_readCell_4 X hret hf hP hS (lv_sub hl [0, 1, 2] rfl)
theorem vX11_readCell {l : Launch} {dC : Nat → ClassId} {dI : Nat → Nat → Nat} {cI : ClassId} {kA : String → Nat → Nat} {ad : Nat → Nat} {M S1 : MS} {r : Int32} {a1 : Int32} {a2 : Int32} (hf : fX11_readCell M a1 a2 = some (r, S1)) : gMetI l yX11_readCell cX11_readCell 3 (some .boolean) 6 (mΩ ad) (mP dC dI cI kA ad) (kR kTab kA) [.ref (ad 25), .int a1, .int a2] M r S1 := gEntryI (ty := .boolean) (by decide) rfl (bz_n hf) mOK (Nat.le_of_ble_eq_true rfl) (fun p e s m args below meth c Q ls X hP hS hret hl => 
  kX11_readCell_0 X hret (bz_f hf) hP hS (lv_sub hl [0, 1, 2] rfl))
set_option maxRecDepth 10000 in
theorem kX11_scriptHere_89 {r : Int32} {M : MS} {s0 : Int32} (X : gX p s m args c cX11_scriptHere 1 RX11 (kR kTab kA)) (hret : gRetR p l e (rmL 6 0 0) s m args below meth c cX11_scriptHere Q r) (hf : fX11_scriptHere_89 M s0 = some r) {ls : Array Slot} (hP : (mP dC dI cI kA ad) M s s.heap) (hl : lv_has ls 1 [(0, .ref (ad 25))]) : W p l e (rmL 6 0 0) s m args below meth c s.heap [] 0 0 Q (F0 m 89 ls [.int s0]) := by
  have hx := X.hx
  have hb := X.hb
  have hown := X.hown
  have hts := X.hts
  rw [fX11_scriptHere_89] at hf
  cases hf
  exact hret _ _ dX11_scriptHere_89
set_option maxRecDepth 10000 in
theorem kX11_scriptHere_88 {r : Int32} {M : MS} (X : gX p s m args c cX11_scriptHere 1 RX11 (kR kTab kA)) (hret : gRetR p l e (rmL 6 0 0) s m args below meth c cX11_scriptHere Q r) (hf : fX11_scriptHere_88 M = some r) {ls : Array Slot} (hP : (mP dC dI cI kA ad) M s s.heap) (hl : lv_has ls 1 [(0, .ref (ad 25))]) : W p l e (rmL 6 0 0) s m args below meth c s.heap [] 0 0 Q (F0 m 88 ls []) := by
  have hx := X.hx
  have hb := X.hb
  have hown := X.hown
  have hts := X.hts
  rw [fX11_scriptHere_88] at hf
  refine lv_iconst (v := 0) hx hb dX11_scriptHere_88 (by decide) ?_
  exact kX11_scriptHere_89 X hret hf hP (lv_sub hl [0] rfl)
set_option maxRecDepth 10000 in
theorem kX11_scriptHere_83 {r : Int32} {M : MS} (X : gX p s m args c cX11_scriptHere 1 RX11 (kR kTab kA)) (hret : gRetR p l e (rmL 6 0 0) s m args below meth c cX11_scriptHere Q r) (hf : fX11_scriptHere_83 M = some r) {ls : Array Slot} (hP : (mP dC dI cI kA ad) M s s.heap) (hl : lv_has ls 1 [(0, .ref (ad 25))]) : W p l e (rmL 6 0 0) s m args below meth c s.heap [] 0 0 Q (F0 m 83 ls []) := by
  have hx := X.hx
  have hb := X.hb
  have hown := X.hown
  have hts := X.hts
  rw [fX11_scriptHere_83] at hf
  refine lv_bipush (v := 7) hx hb dX11_scriptHere_83 (by decide) ?_
  refine lv_goto (tgt := 89) hx hb dX11_scriptHere_85 (by decide) ?_
  exact kX11_scriptHere_89 X hret hf hP (lv_sub hl [0] rfl)
set_option maxRecDepth 10000 in
theorem kX11_scriptHere_80 {r : Int32} {M : MS} {s0 : Int32} (X : gX p s m args c cX11_scriptHere 1 RX11 (kR kTab kA)) (hret : gRetR p l e (rmL 6 0 0) s m args below meth c cX11_scriptHere Q r) (hf : fX11_scriptHere_80 M s0 = some r) {ls : Array Slot} (hP : (mP dC dI cI kA ad) M s s.heap) (hl : lv_has ls 1 [(0, .ref (ad 25))]) : W p l e (rmL 6 0 0) s m args below meth c s.heap [] 0 0 Q (F0 m 80 ls [.int s0]) := by
  have hx := X.hx
  have hb := X.hb
  have hown := X.hown
  have hts := X.hts
  rw [fX11_scriptHere_80] at hf
  refine lv_if_eq (tgt := 88) hx hb dX11_scriptHere_80 (by decide) (fun c1 => ?_) (fun c1 => ?_)
  · exact kX11_scriptHere_88 X hret (ifp c1 hf) hP (lv_sub hl [0] rfl)
  · exact kX11_scriptHere_83 X hret (ifn c1 hf) hP (lv_sub hl [0] rfl)
set_option maxRecDepth 10000 in
theorem kX11_scriptHere_73 {r : Int32} {M : MS} (X : gX p s m args c cX11_scriptHere 1 RX11 (kR kTab kA)) (hret : gRetR p l e (rmL 6 0 0) s m args below meth c cX11_scriptHere Q r) (hf : fX11_scriptHere_73 M = some r) {ls : Array Slot} (hP : (mP dC dI cI kA ad) M s s.heap) (hl : lv_has ls 1 [(0, .ref (ad 25))]) : W p l e (rmL 6 0 0) s m args below meth c s.heap [] 0 0 Q (F0 m 73 ls []) := by
  have hx := X.hx
  have hb := X.hb
  have hown := X.hown
  have hts := X.hts
  rw [fX11_scriptHere_73] at hf
  refine lv_aload_n hx hb dX11_scriptHere_73 rfl (lv_at hl 0 rfl) ?_
  refine lv_ldcwS hx hb hown (kRat (q := ("GranaryWatchModel", 284, "milk", [109, 105, 108, 107])) X.ks 33 rfl) dX11_scriptHere_74 ?_
  obtain ⟨q, hc, hf⟩ := bd hf
  refine gCallVR X rfl (vX11_isWord hc) gRX11_X11_isWord hdX11_isWord rfl ⟨by decide, by decide⟩ (gBS_blind mOK) (gBS_at mOK X hP (mstr (q := ("GranaryWatchModel", 284, "milk", [109, 105, 108, 107])) hP 33 rfl)) (mrec hP) hl.1 (Nat.le_of_ble_eq_true rfl) ⟨Nat.le_refl _, Nat.le_refl _⟩ dX11_scriptHere_77 (As := [.ref (kA RX11 284)]) (rest := []) rfl ?_
  exact kX11_scriptHere_80 X hret hf hP (lv_sub hl [0] rfl)
set_option maxRecDepth 10000 in
theorem kX11_scriptHere_70 {r : Int32} {M : MS} (X : gX p s m args c cX11_scriptHere 1 RX11 (kR kTab kA)) (hret : gRetR p l e (rmL 6 0 0) s m args below meth c cX11_scriptHere Q r) (hf : fX11_scriptHere_70 M = some r) {ls : Array Slot} (hP : (mP dC dI cI kA ad) M s s.heap) (hl : lv_has ls 1 [(0, .ref (ad 25))]) : W p l e (rmL 6 0 0) s m args below meth c s.heap [] 0 0 Q (F0 m 70 ls []) := by
  have hx := X.hx
  have hb := X.hb
  have hown := X.hown
  have hts := X.hts
  rw [fX11_scriptHere_70] at hf
  refine lv_bipush (v := 6) hx hb dX11_scriptHere_70 (by decide) ?_
  cases hf
  exact hret _ _ dX11_scriptHere_72
set_option maxRecDepth 10000 in
theorem kX11_scriptHere_67 {r : Int32} {M : MS} {s0 : Int32} (X : gX p s m args c cX11_scriptHere 1 RX11 (kR kTab kA)) (hret : gRetR p l e (rmL 6 0 0) s m args below meth c cX11_scriptHere Q r) (hf : fX11_scriptHere_67 M s0 = some r) {ls : Array Slot} (hP : (mP dC dI cI kA ad) M s s.heap) (hl : lv_has ls 1 [(0, .ref (ad 25))]) : W p l e (rmL 6 0 0) s m args below meth c s.heap [] 0 0 Q (F0 m 67 ls [.int s0]) := by
  have hx := X.hx
  have hb := X.hb
  have hown := X.hown
  have hts := X.hts
  rw [fX11_scriptHere_67] at hf
  refine lv_if_eq (tgt := 73) hx hb dX11_scriptHere_67 (by decide) (fun c1 => ?_) (fun c1 => ?_)
  · exact kX11_scriptHere_73 X hret (ifp c1 hf) hP (lv_sub hl [0] rfl)
  · exact kX11_scriptHere_70 X hret (ifn c1 hf) hP (lv_sub hl [0] rfl)
set_option maxRecDepth 10000 in
theorem kX11_scriptHere_60 {r : Int32} {M : MS} (X : gX p s m args c cX11_scriptHere 1 RX11 (kR kTab kA)) (hret : gRetR p l e (rmL 6 0 0) s m args below meth c cX11_scriptHere Q r) (hf : fX11_scriptHere_60 M = some r) {ls : Array Slot} (hP : (mP dC dI cI kA ad) M s s.heap) (hl : lv_has ls 1 [(0, .ref (ad 25))]) : W p l e (rmL 6 0 0) s m args below meth c s.heap [] 0 0 Q (F0 m 60 ls []) := by
  have hx := X.hx
  have hb := X.hb
  have hown := X.hown
  have hts := X.hts
  rw [fX11_scriptHere_60] at hf
  refine lv_aload_n hx hb dX11_scriptHere_60 rfl (lv_at hl 0 rfl) ?_
  refine lv_ldcwS hx hb hown (kRat (q := ("GranaryWatchModel", 319, "dismiss", [100, 105, 115, 109, 105, 115, 115])) X.ks 38 rfl) dX11_scriptHere_61 ?_
  obtain ⟨q, hc, hf⟩ := bd hf
  refine gCallVR X rfl (vX11_isWord hc) gRX11_X11_isWord hdX11_isWord rfl ⟨by decide, by decide⟩ (gBS_blind mOK) (gBS_at mOK X hP (mstr (q := ("GranaryWatchModel", 319, "dismiss", [100, 105, 115, 109, 105, 115, 115])) hP 38 rfl)) (mrec hP) hl.1 (Nat.le_of_ble_eq_true rfl) ⟨Nat.le_refl _, Nat.le_refl _⟩ dX11_scriptHere_64 (As := [.ref (kA RX11 319)]) (rest := []) rfl ?_
  exact kX11_scriptHere_67 X hret hf hP (lv_sub hl [0] rfl)
set_option maxRecDepth 10000 in
theorem kX11_scriptHere_58 {r : Int32} {M : MS} (X : gX p s m args c cX11_scriptHere 1 RX11 (kR kTab kA)) (hret : gRetR p l e (rmL 6 0 0) s m args below meth c cX11_scriptHere Q r) (hf : fX11_scriptHere_58 M = some r) {ls : Array Slot} (hP : (mP dC dI cI kA ad) M s s.heap) (hl : lv_has ls 1 [(0, .ref (ad 25))]) : W p l e (rmL 6 0 0) s m args below meth c s.heap [] 0 0 Q (F0 m 58 ls []) := by
  have hx := X.hx
  have hb := X.hb
  have hown := X.hown
  have hts := X.hts
  rw [fX11_scriptHere_58] at hf
  refine lv_iconst (v := 5) hx hb dX11_scriptHere_58 (by decide) ?_
  cases hf
  exact hret _ _ dX11_scriptHere_59
set_option maxRecDepth 10000 in
theorem kX11_scriptHere_55 {r : Int32} {M : MS} {s0 : Int32} (X : gX p s m args c cX11_scriptHere 1 RX11 (kR kTab kA)) (hret : gRetR p l e (rmL 6 0 0) s m args below meth c cX11_scriptHere Q r) (hf : fX11_scriptHere_55 M s0 = some r) {ls : Array Slot} (hP : (mP dC dI cI kA ad) M s s.heap) (hl : lv_has ls 1 [(0, .ref (ad 25))]) : W p l e (rmL 6 0 0) s m args below meth c s.heap [] 0 0 Q (F0 m 55 ls [.int s0]) := by
  have hx := X.hx
  have hb := X.hb
  have hown := X.hown
  have hts := X.hts
  rw [fX11_scriptHere_55] at hf
  refine lv_if_eq (tgt := 60) hx hb dX11_scriptHere_55 (by decide) (fun c1 => ?_) (fun c1 => ?_)
  · exact kX11_scriptHere_60 X hret (ifp c1 hf) hP (lv_sub hl [0] rfl)
  · exact kX11_scriptHere_58 X hret (ifn c1 hf) hP (lv_sub hl [0] rfl)
set_option maxRecDepth 10000 in
theorem kX11_scriptHere_48 {r : Int32} {M : MS} (X : gX p s m args c cX11_scriptHere 1 RX11 (kR kTab kA)) (hret : gRetR p l e (rmL 6 0 0) s m args below meth c cX11_scriptHere Q r) (hf : fX11_scriptHere_48 M = some r) {ls : Array Slot} (hP : (mP dC dI cI kA ad) M s s.heap) (hl : lv_has ls 1 [(0, .ref (ad 25))]) : W p l e (rmL 6 0 0) s m args below meth c s.heap [] 0 0 Q (F0 m 48 ls []) := by
  have hx := X.hx
  have hb := X.hb
  have hown := X.hown
  have hts := X.hts
  rw [fX11_scriptHere_48] at hf
  refine lv_aload_n hx hb dX11_scriptHere_48 rfl (lv_at hl 0 rfl) ?_
  refine lv_ldcwS hx hb hown (kRat (q := ("GranaryWatchModel", 317, "grain", [103, 114, 97, 105, 110])) X.ks 37 rfl) dX11_scriptHere_49 ?_
  obtain ⟨q, hc, hf⟩ := bd hf
  refine gCallVR X rfl (vX11_isWord hc) gRX11_X11_isWord hdX11_isWord rfl ⟨by decide, by decide⟩ (gBS_blind mOK) (gBS_at mOK X hP (mstr (q := ("GranaryWatchModel", 317, "grain", [103, 114, 97, 105, 110])) hP 37 rfl)) (mrec hP) hl.1 (Nat.le_of_ble_eq_true rfl) ⟨Nat.le_refl _, Nat.le_refl _⟩ dX11_scriptHere_52 (As := [.ref (kA RX11 317)]) (rest := []) rfl ?_
  exact kX11_scriptHere_55 X hret hf hP (lv_sub hl [0] rfl)
set_option maxRecDepth 10000 in
theorem kX11_scriptHere_46 {r : Int32} {M : MS} (X : gX p s m args c cX11_scriptHere 1 RX11 (kR kTab kA)) (hret : gRetR p l e (rmL 6 0 0) s m args below meth c cX11_scriptHere Q r) (hf : fX11_scriptHere_46 M = some r) {ls : Array Slot} (hP : (mP dC dI cI kA ad) M s s.heap) (hl : lv_has ls 1 [(0, .ref (ad 25))]) : W p l e (rmL 6 0 0) s m args below meth c s.heap [] 0 0 Q (F0 m 46 ls []) := by
  have hx := X.hx
  have hb := X.hb
  have hown := X.hown
  have hts := X.hts
  rw [fX11_scriptHere_46] at hf
  refine lv_iconst (v := 4) hx hb dX11_scriptHere_46 (by decide) ?_
  cases hf
  exact hret _ _ dX11_scriptHere_47
set_option maxRecDepth 10000 in
theorem kX11_scriptHere_43 {r : Int32} {M : MS} {s0 : Int32} (X : gX p s m args c cX11_scriptHere 1 RX11 (kR kTab kA)) (hret : gRetR p l e (rmL 6 0 0) s m args below meth c cX11_scriptHere Q r) (hf : fX11_scriptHere_43 M s0 = some r) {ls : Array Slot} (hP : (mP dC dI cI kA ad) M s s.heap) (hl : lv_has ls 1 [(0, .ref (ad 25))]) : W p l e (rmL 6 0 0) s m args below meth c s.heap [] 0 0 Q (F0 m 43 ls [.int s0]) := by
  have hx := X.hx
  have hb := X.hb
  have hown := X.hown
  have hts := X.hts
  rw [fX11_scriptHere_43] at hf
  refine lv_if_eq (tgt := 48) hx hb dX11_scriptHere_43 (by decide) (fun c1 => ?_) (fun c1 => ?_)
  · exact kX11_scriptHere_48 X hret (ifp c1 hf) hP (lv_sub hl [0] rfl)
  · exact kX11_scriptHere_46 X hret (ifn c1 hf) hP (lv_sub hl [0] rfl)
set_option maxRecDepth 10000 in
theorem kX11_scriptHere_36 {r : Int32} {M : MS} (X : gX p s m args c cX11_scriptHere 1 RX11 (kR kTab kA)) (hret : gRetR p l e (rmL 6 0 0) s m args below meth c cX11_scriptHere Q r) (hf : fX11_scriptHere_36 M = some r) {ls : Array Slot} (hP : (mP dC dI cI kA ad) M s s.heap) (hl : lv_has ls 1 [(0, .ref (ad 25))]) : W p l e (rmL 6 0 0) s m args below meth c s.heap [] 0 0 Q (F0 m 36 ls []) := by
  have hx := X.hx
  have hb := X.hb
  have hown := X.hown
  have hts := X.hts
  rw [fX11_scriptHere_36] at hf
  refine lv_aload_n hx hb dX11_scriptHere_36 rfl (lv_at hl 0 rfl) ?_
  refine lv_ldcwS hx hb hown (kRat (q := ("GranaryWatchModel", 315, "mice", [109, 105, 99, 101])) X.ks 36 rfl) dX11_scriptHere_37 ?_
  obtain ⟨q, hc, hf⟩ := bd hf
  refine gCallVR X rfl (vX11_isWord hc) gRX11_X11_isWord hdX11_isWord rfl ⟨by decide, by decide⟩ (gBS_blind mOK) (gBS_at mOK X hP (mstr (q := ("GranaryWatchModel", 315, "mice", [109, 105, 99, 101])) hP 36 rfl)) (mrec hP) hl.1 (Nat.le_of_ble_eq_true rfl) ⟨Nat.le_refl _, Nat.le_refl _⟩ dX11_scriptHere_40 (As := [.ref (kA RX11 315)]) (rest := []) rfl ?_
  exact kX11_scriptHere_43 X hret hf hP (lv_sub hl [0] rfl)
set_option maxRecDepth 10000 in
theorem kX11_scriptHere_34 {r : Int32} {M : MS} (X : gX p s m args c cX11_scriptHere 1 RX11 (kR kTab kA)) (hret : gRetR p l e (rmL 6 0 0) s m args below meth c cX11_scriptHere Q r) (hf : fX11_scriptHere_34 M = some r) {ls : Array Slot} (hP : (mP dC dI cI kA ad) M s s.heap) (hl : lv_has ls 1 [(0, .ref (ad 25))]) : W p l e (rmL 6 0 0) s m args below meth c s.heap [] 0 0 Q (F0 m 34 ls []) := by
  have hx := X.hx
  have hb := X.hb
  have hown := X.hown
  have hts := X.hts
  rw [fX11_scriptHere_34] at hf
  refine lv_iconst (v := 3) hx hb dX11_scriptHere_34 (by decide) ?_
  cases hf
  exact hret _ _ dX11_scriptHere_35
set_option maxRecDepth 10000 in
theorem kX11_scriptHere_31 {r : Int32} {M : MS} {s0 : Int32} (X : gX p s m args c cX11_scriptHere 1 RX11 (kR kTab kA)) (hret : gRetR p l e (rmL 6 0 0) s m args below meth c cX11_scriptHere Q r) (hf : fX11_scriptHere_31 M s0 = some r) {ls : Array Slot} (hP : (mP dC dI cI kA ad) M s s.heap) (hl : lv_has ls 1 [(0, .ref (ad 25))]) : W p l e (rmL 6 0 0) s m args below meth c s.heap [] 0 0 Q (F0 m 31 ls [.int s0]) := by
  have hx := X.hx
  have hb := X.hb
  have hown := X.hown
  have hts := X.hts
  rw [fX11_scriptHere_31] at hf
  refine lv_if_eq (tgt := 36) hx hb dX11_scriptHere_31 (by decide) (fun c1 => ?_) (fun c1 => ?_)
  · exact kX11_scriptHere_36 X hret (ifp c1 hf) hP (lv_sub hl [0] rfl)
  · exact kX11_scriptHere_34 X hret (ifn c1 hf) hP (lv_sub hl [0] rfl)
set_option maxRecDepth 10000 in
theorem kX11_scriptHere_24 {r : Int32} {M : MS} (X : gX p s m args c cX11_scriptHere 1 RX11 (kR kTab kA)) (hret : gRetR p l e (rmL 6 0 0) s m args below meth c cX11_scriptHere Q r) (hf : fX11_scriptHere_24 M = some r) {ls : Array Slot} (hP : (mP dC dI cI kA ad) M s s.heap) (hl : lv_has ls 1 [(0, .ref (ad 25))]) : W p l e (rmL 6 0 0) s m args below meth c s.heap [] 0 0 Q (F0 m 24 ls []) := by
  have hx := X.hx
  have hb := X.hb
  have hown := X.hown
  have hts := X.hts
  rw [fX11_scriptHere_24] at hf
  refine lv_aload_n hx hb dX11_scriptHere_24 rfl (lv_at hl 0 rfl) ?_
  refine lv_ldcwS hx hb hown (kRat (q := ("GranaryWatchModel", 264, "shut", [115, 104, 117, 116])) X.ks 29 rfl) dX11_scriptHere_25 ?_
  obtain ⟨q, hc, hf⟩ := bd hf
  refine gCallVR X rfl (vX11_isWord hc) gRX11_X11_isWord hdX11_isWord rfl ⟨by decide, by decide⟩ (gBS_blind mOK) (gBS_at mOK X hP (mstr (q := ("GranaryWatchModel", 264, "shut", [115, 104, 117, 116])) hP 29 rfl)) (mrec hP) hl.1 (Nat.le_of_ble_eq_true rfl) ⟨Nat.le_refl _, Nat.le_refl _⟩ dX11_scriptHere_28 (As := [.ref (kA RX11 264)]) (rest := []) rfl ?_
  exact kX11_scriptHere_31 X hret hf hP (lv_sub hl [0] rfl)
set_option maxRecDepth 10000 in
theorem kX11_scriptHere_22 {r : Int32} {M : MS} (X : gX p s m args c cX11_scriptHere 1 RX11 (kR kTab kA)) (hret : gRetR p l e (rmL 6 0 0) s m args below meth c cX11_scriptHere Q r) (hf : fX11_scriptHere_22 M = some r) {ls : Array Slot} (hP : (mP dC dI cI kA ad) M s s.heap) (hl : lv_has ls 1 [(0, .ref (ad 25))]) : W p l e (rmL 6 0 0) s m args below meth c s.heap [] 0 0 Q (F0 m 22 ls []) := by
  have hx := X.hx
  have hb := X.hb
  have hown := X.hown
  have hts := X.hts
  rw [fX11_scriptHere_22] at hf
  refine lv_iconst (v := 2) hx hb dX11_scriptHere_22 (by decide) ?_
  cases hf
  exact hret _ _ dX11_scriptHere_23
set_option maxRecDepth 10000 in
theorem kX11_scriptHere_19 {r : Int32} {M : MS} {s0 : Int32} (X : gX p s m args c cX11_scriptHere 1 RX11 (kR kTab kA)) (hret : gRetR p l e (rmL 6 0 0) s m args below meth c cX11_scriptHere Q r) (hf : fX11_scriptHere_19 M s0 = some r) {ls : Array Slot} (hP : (mP dC dI cI kA ad) M s s.heap) (hl : lv_has ls 1 [(0, .ref (ad 25))]) : W p l e (rmL 6 0 0) s m args below meth c s.heap [] 0 0 Q (F0 m 19 ls [.int s0]) := by
  have hx := X.hx
  have hb := X.hb
  have hown := X.hown
  have hts := X.hts
  rw [fX11_scriptHere_19] at hf
  refine lv_if_eq (tgt := 24) hx hb dX11_scriptHere_19 (by decide) (fun c1 => ?_) (fun c1 => ?_)
  · exact kX11_scriptHere_24 X hret (ifp c1 hf) hP (lv_sub hl [0] rfl)
  · exact kX11_scriptHere_22 X hret (ifn c1 hf) hP (lv_sub hl [0] rfl)
set_option maxRecDepth 10000 in
theorem kX11_scriptHere_12 {r : Int32} {M : MS} (X : gX p s m args c cX11_scriptHere 1 RX11 (kR kTab kA)) (hret : gRetR p l e (rmL 6 0 0) s m args below meth c cX11_scriptHere Q r) (hf : fX11_scriptHere_12 M = some r) {ls : Array Slot} (hP : (mP dC dI cI kA ad) M s s.heap) (hl : lv_has ls 1 [(0, .ref (ad 25))]) : W p l e (rmL 6 0 0) s m args below meth c s.heap [] 0 0 Q (F0 m 12 ls []) := by
  have hx := X.hx
  have hb := X.hb
  have hown := X.hown
  have hts := X.hts
  rw [fX11_scriptHere_12] at hf
  refine lv_aload_n hx hb dX11_scriptHere_12 rfl (lv_at hl 0 rfl) ?_
  refine lv_ldcwS hx hb hown (kRat (q := ("GranaryWatchModel", 262, "open", [111, 112, 101, 110])) X.ks 28 rfl) dX11_scriptHere_13 ?_
  obtain ⟨q, hc, hf⟩ := bd hf
  refine gCallVR X rfl (vX11_isWord hc) gRX11_X11_isWord hdX11_isWord rfl ⟨by decide, by decide⟩ (gBS_blind mOK) (gBS_at mOK X hP (mstr (q := ("GranaryWatchModel", 262, "open", [111, 112, 101, 110])) hP 28 rfl)) (mrec hP) hl.1 (Nat.le_of_ble_eq_true rfl) ⟨Nat.le_refl _, Nat.le_refl _⟩ dX11_scriptHere_16 (As := [.ref (kA RX11 262)]) (rest := []) rfl ?_
  exact kX11_scriptHere_19 X hret hf hP (lv_sub hl [0] rfl)
set_option maxRecDepth 10000 in
theorem kX11_scriptHere_10 {r : Int32} {M : MS} (X : gX p s m args c cX11_scriptHere 1 RX11 (kR kTab kA)) (hret : gRetR p l e (rmL 6 0 0) s m args below meth c cX11_scriptHere Q r) (hf : fX11_scriptHere_10 M = some r) {ls : Array Slot} (hP : (mP dC dI cI kA ad) M s s.heap) (hl : lv_has ls 1 [(0, .ref (ad 25))]) : W p l e (rmL 6 0 0) s m args below meth c s.heap [] 0 0 Q (F0 m 10 ls []) := by
  have hx := X.hx
  have hb := X.hb
  have hown := X.hown
  have hts := X.hts
  rw [fX11_scriptHere_10] at hf
  refine lv_iconst (v := 1) hx hb dX11_scriptHere_10 (by decide) ?_
  cases hf
  exact hret _ _ dX11_scriptHere_11
set_option maxRecDepth 10000 in
theorem kX11_scriptHere_7 {r : Int32} {M : MS} {s0 : Int32} (X : gX p s m args c cX11_scriptHere 1 RX11 (kR kTab kA)) (hret : gRetR p l e (rmL 6 0 0) s m args below meth c cX11_scriptHere Q r) (hf : fX11_scriptHere_7 M s0 = some r) {ls : Array Slot} (hP : (mP dC dI cI kA ad) M s s.heap) (hl : lv_has ls 1 [(0, .ref (ad 25))]) : W p l e (rmL 6 0 0) s m args below meth c s.heap [] 0 0 Q (F0 m 7 ls [.int s0]) := by
  have hx := X.hx
  have hb := X.hb
  have hown := X.hown
  have hts := X.hts
  rw [fX11_scriptHere_7] at hf
  refine lv_if_eq (tgt := 12) hx hb dX11_scriptHere_7 (by decide) (fun c1 => ?_) (fun c1 => ?_)
  · exact kX11_scriptHere_12 X hret (ifp c1 hf) hP (lv_sub hl [0] rfl)
  · exact kX11_scriptHere_10 X hret (ifn c1 hf) hP (lv_sub hl [0] rfl)
set_option maxRecDepth 10000 in
theorem kX11_scriptHere_0 {r : Int32} {M : MS} (X : gX p s m args c cX11_scriptHere 1 RX11 (kR kTab kA)) (hret : gRetR p l e (rmL 6 0 0) s m args below meth c cX11_scriptHere Q r) (hf : fX11_scriptHere_0 M = some r) {ls : Array Slot} (hP : (mP dC dI cI kA ad) M s s.heap) (hl : lv_has ls 1 [(0, .ref (ad 25))]) : W p l e (rmL 6 0 0) s m args below meth c s.heap [] 0 0 Q (F0 m 0 ls []) := by
  have hx := X.hx
  have hb := X.hb
  have hown := X.hown
  have hts := X.hts
  rw [fX11_scriptHere_0] at hf
  refine lv_aload_n hx hb dX11_scriptHere_0 rfl (lv_at hl 0 rfl) ?_
  refine lv_ldcwS hx hb hown (kRat (q := ("GranaryWatchModel", 313, "wait", [119, 97, 105, 116])) X.ks 35 rfl) dX11_scriptHere_1 ?_
  obtain ⟨q, hc, hf⟩ := bd hf
  refine gCallVR X rfl (vX11_isWord hc) gRX11_X11_isWord hdX11_isWord rfl ⟨by decide, by decide⟩ (gBS_blind mOK) (gBS_at mOK X hP (mstr (q := ("GranaryWatchModel", 313, "wait", [119, 97, 105, 116])) hP 35 rfl)) (mrec hP) hl.1 (Nat.le_of_ble_eq_true rfl) ⟨Nat.le_refl _, Nat.le_refl _⟩ dX11_scriptHere_4 (As := [.ref (kA RX11 313)]) (rest := []) rfl ?_
  exact kX11_scriptHere_7 X hret hf hP (lv_sub hl [0] rfl)
theorem vX11_scriptHere {l : Launch} {dC : Nat → ClassId} {dI : Nat → Nat → Nat} {cI : ClassId} {kA : String → Nat → Nat} {ad : Nat → Nat} {M : MS} {r : Int32} (hf : fX11_scriptHere M  = some r) : gMetR l yX11_scriptHere cX11_scriptHere 1 (some .int) 6 (gB (mP dC dI cI kA ad) (kR kTab kA) M) [.ref (ad 25)] r := gEntryR (ty := .int) (by decide) rfl rfl (Nat.le_of_ble_eq_true rfl) (fun _ h => h.2) (fun p e s m args below meth c Q ls X hB hret hl => 
  kX11_scriptHere_0 X hret hf hB.1 (lv_sub hl [0] rfl))
