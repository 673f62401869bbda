variable {l : Launch} {p : Program} {e : Env} {s : State} {m : MethodId} {args : Array Value} {below : List Frame} {meth : Method} {c : Code} {A : Nat → Prop} {Q : State → Prop}
variable {dC : Nat → ClassId} {dI : Nat → Nat → Nat} {cI : ClassId} {ad : Nat → Nat}
def fX11_hunts_22 (M : MS) : Option (Int32 × MS) := some ((-1), M)
def fX11_hunts_111 (M : MS) (x1 : Int32) : Option (Int32 × MS) := some (x1, M)
def fX11_hunts_104 (M : MS) (x1 : Int32) (x3 : Int32) : Option (Int32 × MS) := (fX11_logs M 1 x1 x3).bind fun q => fX11_hunts_111 q x1
def fX11_hunts_96 (M : MS) (x1 : Int32) (x3 : Int32) (s0 : Int32) (s1 : Int32) (s2 : Int32) (s3 : Int32) : Option (Int32 × MS) := (fX11_putsCat M s3 s2 (if (s0 + 1) < s1 then (s0 + 1) else s1)).bind fun q => fX11_hunts_104 q x1 x3
def fX11_hunts_83 (M : MS) (x1 : Int32) (x3 : Int32) : Option (Int32 × MS) := (fX11_ofCat M x1 9).bind fun q => fX11_hunts_96 q.2 x1 x3 q.1 20 9 x1
def fX11_hunts_72 (M : MS) (x1 : Int32) (x3 : Int32) : Option (Int32 × MS) := if gIn 8 257 then if gIn 8 257 then fX11_hunts_83 (M.1, va_up M.2 0 (upd (M.2 0) (8 : Int32).toNatClampNeg ((M.2 0 (8 : Int32).toNatClampNeg) + x3))) x1 x3 else none else none
def fX11_hunts_67 (M : MS) (x1 : Int32) (x3 : Int32) (s0 : Int32) (s1 : Int32) (s2 : Int32) : Option (Int32 × MS) := (fX11_putsCat M s2 s1 (s0 + x3)).bind fun q => fX11_hunts_72 q x1 x3
def fX11_hunts_56 (M : MS) (x1 : Int32) (x3 : Int32) : Option (Int32 × MS) := (fX11_ofCat M x1 10).bind fun q => fX11_hunts_67 q.2 x1 x3 q.1 10 x1
def fX11_hunts_51 (M : MS) (x1 : Int32) (x3 : Int32) (s0 : Int32) (s1 : Int32) (s2 : Int32) : Option (Int32 × MS) := (fX11_putsSack M s2 s1 (s0 - x3)).bind fun q => fX11_hunts_56 q x1 x3
def fX11_hunts_36 (M : MS) (x1 : Int32) (x2 : Int32) (s0 : Int32) (s1 : Int32) : Option (Int32 × MS) := (fX11_ofSack M x2 8).bind fun q => fX11_hunts_51 q.2 x1 (if s0 < s1 then s0 else s1) q.1 8 x2
def fX11_hunts_29 (M : MS) (x1 : Int32) (x2 : Int32) (s0 : Int32) : Option (Int32 × MS) := (fX11_ofSack M x2 8).bind fun q => fX11_hunts_36 q.2 x1 x2 q.1 s0
def fX11_hunts_24 (M : MS) (x1 : Int32) (x2 : Int32) : Option (Int32 × MS) := (fX11_strength M x1).bind fun q => fX11_hunts_29 q.2 x1 x2 q.1
def fX11_hunts_17 (M : MS) (x1 : Int32) (x2 : Int32) : Option (Int32 × MS) := if x2 = (-1) then fX11_hunts_22 M else fX11_hunts_24 M x1 x2
def fX11_hunts_11 (M : MS) (x1 : Int32) (s0 : Int32) : Option (Int32 × MS) := if x1 = (-1) then fX11_hunts_22 M else fX11_hunts_17 M x1 s0
def fX11_hunts_0 (M : MS) : Option (Int32 × MS) := if gIn 5 257 then (fX11_hunted M ).bind fun q => fX11_hunts_11 q.2 (M.2 0 (5 : Int32).toNatClampNeg) q.1 else none
def fX11_hunts (M : MS) : Option (Int32 × MS) := fX11_hunts_0 M
def fX11_shiftGoes_78 (M : MS) : Option (MS) := some M
def fX11_shiftGoes_75 (M : MS) (s0 : Int32) : Option (MS) := (fX11_swears M s0).bind fun q => fX11_shiftGoes_78 q
def fX11_shiftGoes_63 (M : MS) : Option (MS) := if gIn 6 257 then (fX11_shiftCat M (M.2 0 (6 : Int32).toNatClampNeg)).bind fun q => fX11_shiftGoes_75 q.2 q.1 else none
def fX11_shiftGoes_62 (M : MS) (s0 : Int32) (s1 : Int32) : Option (MS) := if gIn s1 257 then fX11_shiftGoes_63 (M.1, va_up M.2 0 (upd (M.2 0) s1.toNatClampNeg s0)) else none
def fX11_shiftGoes_45 (M : MS) : Option (MS) := if gIn 6 257 then (fX11_shiftHours M (M.2 0 (6 : Int32).toNatClampNeg)).bind fun q => fX11_shiftGoes_62 q.2 q.1 7 else none
def fX11_shiftGoes_22 (M : MS) : Option (MS) := if gIn 6 257 then if gIn 2 257 then if ¬ (M.2 0 (2 : Int32).toNatClampNeg) = 0 then if gIn 6 257 then fX11_shiftGoes_45 (M.1, va_up M.2 0 (upd (M.2 0) (6 : Int32).toNatClampNeg (((M.2 0 (6 : Int32).toNatClampNeg) + 1) - ((M.2 0 (6 : Int32).toNatClampNeg) + 1) / (M.2 0 (2 : Int32).toNatClampNeg) * (M.2 0 (2 : Int32).toNatClampNeg)))) else none else none else none else none
def fX11_shiftGoes_21 (M : MS) : Option (MS) := some M
def fX11_shiftGoes_11 (M : MS) : Option (MS) := if gIn 7 257 then if (M.2 0 (7 : Int32).toNatClampNeg) ≤ 0 then fX11_shiftGoes_22 M else fX11_shiftGoes_21 M else none
def fX11_shiftGoes_0 (M : MS) : Option (MS) := if gIn 7 257 then if gIn 7 257 then fX11_shiftGoes_11 (M.1, va_up M.2 0 (upd (M.2 0) (7 : Int32).toNatClampNeg ((M.2 0 (7 : Int32).toNatClampNeg) - 1))) else none else none
def fX11_shiftGoes (M : MS) : Option (MS) := fX11_shiftGoes_0 M
def fX11_takesNumber_15 (M : MS) : Option (Int32 × MS) := some (1, M)
def fX11_takesNumber_11 (M : MS) : Option (Int32 × MS) := (fX11_advanceToken M ).bind fun q => fX11_takesNumber_15 q
def fX11_takesNumber_9 (M : MS) : Option (Int32 × MS) := some (0, M)
def fX11_takesNumber_6 (M : MS) (s0 : Int32) : Option (Int32 × MS) := if s0 = 0 then fX11_takesNumber_9 M else fX11_takesNumber_11 M
def fX11_takesNumber_0 (M : MS) (a1 : Int32) (a2 : Int32) : Option (Int32 × MS) := (fX11_seesNumber M a1 a2).bind fun q => fX11_takesNumber_6 q.2 q.1
def fX11_takesNumber (M : MS) (a1 : Int32) (a2 : Int32) : Option (Int32 × MS) := bz (fX11_takesNumber_0 M a1 a2)
def fX11_takesSemicolon_18 (M : MS) : Option (Int32 × MS) := some (1, M)
def fX11_takesSemicolon_14 (M : MS) : Option (Int32 × MS) := (fX11_advanceToken M ).bind fun q => fX11_takesSemicolon_18 q
def fX11_takesSemicolon_13 (M : MS) (s0 : Int32) : Option (Int32 × MS) := some (s0, M)
def fX11_takesSemicolon_8 (M : MS) : Option (Int32 × MS) := (fX11_failsAt M 1).bind fun q => fX11_takesSemicolon_13 q.2 q.1
def fX11_takesSemicolon_0 (M : MS) : Option (Int32 × MS) := if (M.1 17) = 3 then fX11_takesSemicolon_14 M else fX11_takesSemicolon_8 M
def fX11_takesSemicolon (M : MS) : Option (Int32 × MS) := bz (fX11_takesSemicolon_0 M)
def fX11_takesKnown_41 (M : MS) : Option (Int32 × MS) := some (1, M)
def fX11_takesKnown_37 (M : MS) : Option (Int32 × MS) := (fX11_advanceToken M ).bind fun q => fX11_takesKnown_41 q
def fX11_takesKnown_36 (M : MS) (s0 : Int32) : Option (Int32 × MS) := some (s0, M)
def fX11_takesKnown_31 (M : MS) : Option (Int32 × MS) := (fX11_failsAt M 4).bind fun q => fX11_takesKnown_36 q.2 q.1
def fX11_takesKnown_21 (M : MS) : Option (Int32 × MS) := if gIn 0 4 then if (M.2 19 (0 : Int32).toNatClampNeg) = (-1) then fX11_takesKnown_31 M else fX11_takesKnown_37 M else none
def fX11_takesKnown_20 (M : MS) (s0 : Int32) (s1 : Int32) : Option (Int32 × MS) := if gIn s1 4 then fX11_takesKnown_21 (M.1, va_up M.2 19 (upd (M.2 19) s1.toNatClampNeg s0)) else none
def fX11_takesKnown_9 (M : MS) (x1 : Int32) (x2 : Int32) : Option (Int32 × MS) := (fX11_nameHere M x1 x2).bind fun q => fX11_takesKnown_20 q.2 q.1 0
def fX11_takesKnown_7 (M : MS) : Option (Int32 × MS) := some (0, M)
def fX11_takesKnown_4 (M : MS) (x1 : Int32) (x2 : Int32) (s0 : Int32) : Option (Int32 × MS) := if s0 = 0 then fX11_takesKnown_7 M else fX11_takesKnown_9 M x1 x2
def fX11_takesKnown_0 (M : MS) (a1 : Int32) (a2 : Int32) : Option (Int32 × MS) := (fX11_seesName M ).bind fun q => fX11_takesKnown_4 q.2 a1 a2 q.1
def fX11_takesKnown (M : MS) (a1 : Int32) (a2 : Int32) : Option (Int32 × MS) := bz (fX11_takesKnown_0 M a1 a2)
def fX11_takesNewName_113 (M : MS) : Option (Int32 × MS) := some (1, M)
def fX11_takesNewName_109 (M : MS) : Option (Int32 × MS) := (fX11_advanceToken M ).bind fun q => fX11_takesNewName_113 q
def fX11_takesNewName_94 (M : MS) : Option (Int32 × MS) := if gIn 3 4 then fX11_takesNewName_109 (M.1, va_up M.2 19 (upd (M.2 19) (3 : Int32).toNatClampNeg ((M.1 14) - (M.1 15)))) else none
def fX11_takesNewName_88 (K40 : MS → Int32 → Int32 → Option (Int32 × MS)) (M : MS) (x3 : Int32) (x4 : Int32) : Option (Int32 × MS) := K40 M x3 (x4 + 1)
def fX11_takesNewName_87 (K40 : MS → Int32 → Int32 → Option (Int32 × MS)) (M : MS) (x3 : Int32) (x4 : Int32) (s0 : Int32) (s1 : Int32) : Option (Int32 × MS) := if gIn s1 257 then fX11_takesNewName_88 K40 (M.1, va_up M.2 0 (upd (M.2 0) s1.toNatClampNeg s0)) x3 x4 else none
def fX11_takesNewName_86 (K40 : MS → Int32 → Int32 → Option (Int32 × MS)) (M : MS) (x3 : Int32) (x4 : Int32) (s0 : Int32) : Option (Int32 × MS) := fX11_takesNewName_87 K40 M x3 x4 0 s0
def fX11_takesNewName_71 (K40 : MS → Int32 → Int32 → Option (Int32 × MS)) (M : MS) (x3 : Int32) (x4 : Int32) (s0 : Int32) : Option (Int32 × MS) := if gIn ((M.1 15) + x4) 600 then fX11_takesNewName_87 K40 M x3 x4 (M.2 8 ((M.1 15) + x4).toNatClampNeg) s0 else none
def fX11_takesNewName_47 (K40 : MS → Int32 → Int32 → Option (Int32 × MS)) (M : MS) (x3 : Int32) (x4 : Int32) : Option (Int32 × MS) := if ((M.1 14) - (M.1 15)) ≤ x4 then fX11_takesNewName_86 K40 M x3 x4 ((x3 + 1) + x4) else fX11_takesNewName_71 K40 M x3 x4 ((x3 + 1) + x4)
def fX11_takesNewName_40 : Nat → MS → Int32 → Int32 → Option (Int32 × MS)
  | 0 => fun _ _ _ => none
  | k + 1 => fun M x3 x4 => if 6 ≤ x4 then fX11_takesNewName_94 M else fX11_takesNewName_47 (fX11_takesNewName_40 k) M x3 x4
def fX11_takesNewName_25 (M : MS) (x1 : Int32) (x2 : Int32) : Option (Int32 × MS) := if gIn x2 257 then fX11_takesNewName_40 FU M (x1 + (12 * (M.2 0 x2.toNatClampNeg))) 0 else none
def fX11_takesNewName_24 (M : MS) (s0 : Int32) : Option (Int32 × MS) := some (s0, M)
def fX11_takesNewName_19 (M : MS) : Option (Int32 × MS) := (fX11_failsAt M 3).bind fun q => fX11_takesNewName_24 q.2 q.1
def fX11_takesNewName_15 (M : MS) (x1 : Int32) (x2 : Int32) (s0 : Int32) : Option (Int32 × MS) := if s0 = (-1) then fX11_takesNewName_25 M x1 x2 else fX11_takesNewName_19 M
def fX11_takesNewName_9 (M : MS) (x1 : Int32) (x2 : Int32) : Option (Int32 × MS) := (fX11_nameHere M x1 x2).bind fun q => fX11_takesNewName_15 q.2 x1 x2 q.1
def fX11_takesNewName_7 (M : MS) : Option (Int32 × MS) := some (0, M)
def fX11_takesNewName_4 (M : MS) (x1 : Int32) (x2 : Int32) (s0 : Int32) : Option (Int32 × MS) := if s0 = 0 then fX11_takesNewName_7 M else fX11_takesNewName_9 M x1 x2
def fX11_takesNewName_0 (M : MS) (a1 : Int32) (a2 : Int32) : Option (Int32 × MS) := (fX11_seesName M ).bind fun q => fX11_takesNewName_4 q.2 a1 a2 q.1
def fX11_takesNewName (M : MS) (a1 : Int32) (a2 : Int32) : Option (Int32 × MS) := bz (fX11_takesNewName_0 M a1 a2)
def fX11_takesChoice_28 (M : MS) : Option (Int32 × MS) := some (1, M)
def fX11_takesChoice_24 (M : MS) : Option (Int32 × MS) := (fX11_advanceToken M ).bind fun q => fX11_takesChoice_28 q
def fX11_takesChoice_23 (M : MS) (s0 : Int32) (s1 : Int32) : Option (Int32 × MS) := if gIn s1 4 then fX11_takesChoice_24 (M.1, va_up M.2 19 (upd (M.2 19) s1.toNatClampNeg s0)) else none
def fX11_takesChoice_14 (M : MS) (x1 : Int32) (x2 : Int32) : Option (Int32 × MS) := (fX11_one M x2).bind fun q => fX11_takesChoice_23 q.2 q.1 x1
def fX11_takesChoice_13 (M : MS) (s0 : Int32) : Option (Int32 × MS) := some (s0, M)
def fX11_takesChoice_8 (M : MS) : Option (Int32 × MS) := (fX11_failsAt M 1).bind fun q => fX11_takesChoice_13 q.2 q.1
def fX11_takesChoice_4 (M : MS) (x1 : Int32) (x2 : Int32) (x3 : Int32) : Option (Int32 × MS) := if x3 = 0 then fX11_takesChoice_8 M else fX11_takesChoice_14 M x1 x2
def fX11_takesChoice_0 (M : MS) (a1 : Int32) (a2 : Int32) (a3 : Int32) : Option (Int32 × MS) := if a2 = 0 then fX11_takesChoice_4 M a1 a2 a3 else fX11_takesChoice_14 M a1 a2
def fX11_takesChoice (M : MS) (a1 : Int32) (a2 : Int32) (a3 : Int32) : Option (Int32 × MS) := bz (fX11_takesChoice_0 M a1 a2 a3)
def fX11_startsText_24 (M : MS) : Option (MS) := some M
def fX11_startsText_20 (M : MS) : Option (MS) := (fX11_advanceToken M ).bind fun q => fX11_startsText_24 q
def fX11_startsText_15 (M : MS) : Option (MS) := fX11_startsText_20 (va_up M.1 14 0, M.2)
def fX11_startsText_10 (M : MS) : Option (MS) := fX11_startsText_15 (va_up M.1 22 0, M.2)
def fX11_startsText_5 (M : MS) : Option (MS) := fX11_startsText_10 (va_up M.1 13 (-1), M.2)
def fX11_startsText_0 (M : MS) : Option (MS) := fX11_startsText_5 (va_up M.1 12 0, M.2)
def fX11_startsText (M : MS) : Option (MS) := fX11_startsText_0 M
def fX11_oathReason_22 (M : MS) (s0 : Int32) : Option (Int32 × MS) := some (s0, M)
def fX11_oathReason_17 (M : MS) (x1 : Int32) : Option (Int32 × MS) := (fX11_reasonOf M x1).bind fun q => fX11_oathReason_22 q.2 q.1
def fX11_oathReason_13 (M : MS) : Option (Int32 × MS) := fX11_oathReason_22 M 0
def fX11_oathReason_10 (M : MS) (x1 : Int32) (s0 : Int32) : Option (Int32 × MS) := if s0 = 0 then fX11_oathReason_17 M x1 else fX11_oathReason_13 M
def fX11_oathReason_5 (M : MS) (x1 : Int32) : Option (Int32 × MS) := (fX11_noCat M x1).bind fun q => fX11_oathReason_10 q.2 x1 q.1
def fX11_oathReason_0 (M : MS) (a1 : Int32) : Option (Int32 × MS) := fX11_oathReason_5 (va_up M.1 7 0, M.2) a1
def fX11_oathReason (M : MS) (a1 : Int32) : Option (Int32 × MS) := fX11_oathReason_0 M a1
def fX11_huntingSack_9 (M : MS) (s0 : Int32) : Option (Int32 × MS) := some (s0, M)
def fX11_huntingSack_5 (M : MS) : Option (Int32 × MS) := (fX11_hunted M ).bind fun q => fX11_huntingSack_9 q.2 q.1
def fX11_huntingSack_0 (M : MS) : Option (Int32 × MS) := fX11_huntingSack_5 (va_up M.1 7 0, M.2)
def fX11_huntingSack (M : MS) : Option (Int32 × MS) := fX11_huntingSack_0 M
def fX11_openFlap_26 (M : MS) : Option (Int32 × MS) := some (0, M)
def fX11_openFlap_38 (M : MS) (s0 : Int32) : Option (Int32 × MS) := some (s0, M)
def fX11_openFlap_32 (M : MS) (x1 : Int32) : Option (Int32 × MS) := (fX11_setsFlap M x1 1).bind fun q => fX11_openFlap_38 q.2 q.1
def fX11_openFlap_28 (M : MS) (x1 : Int32) : Option (Int32 × MS) := (fX11_remembers M ).bind fun q => fX11_openFlap_32 q x1
def fX11_openFlap_23 (M : MS) (x1 : Int32) (s0 : Int32) : Option (Int32 × MS) := if s0 = 0 then fX11_openFlap_28 M x1 else fX11_openFlap_26 M
def fX11_openFlap_19 (M : MS) (x1 : Int32) (s0 : Int32) : Option (Int32 × MS) := (fX11_fails M s0 2).bind fun q => fX11_openFlap_23 q.2 x1 q.1
def fX11_openFlap_13 (M : MS) (x1 : Int32) : Option (Int32 × MS) := (fX11_isOpenSack M x1).bind fun q => fX11_openFlap_19 q.2 x1 q.1
def fX11_openFlap_10 (M : MS) (x1 : Int32) (s0 : Int32) : Option (Int32 × MS) := if s0 = 0 then fX11_openFlap_13 M x1 else fX11_openFlap_26 M
def fX11_openFlap_5 (M : MS) (x1 : Int32) : Option (Int32 × MS) := (fX11_noSack M x1).bind fun q => fX11_openFlap_10 q.2 x1 q.1
def fX11_openFlap_0 (M : MS) (a1 : Int32) : Option (Int32 × MS) := fX11_openFlap_5 (va_up M.1 7 0, M.2) a1
def fX11_openFlap (M : MS) (a1 : Int32) : Option (Int32 × MS) := fX11_openFlap_0 M a1
def fX11_shutFlap_34 (M : MS) : Option (Int32 × MS) := some (0, M)
def fX11_shutFlap_46 (M : MS) (s0 : Int32) : Option (Int32 × MS) := some (s0, M)
def fX11_shutFlap_40 (M : MS) (x1 : Int32) : Option (Int32 × MS) := (fX11_setsFlap M x1 0).bind fun q => fX11_shutFlap_46 q.2 q.1
def fX11_shutFlap_36 (M : MS) (x1 : Int32) : Option (Int32 × MS) := (fX11_remembers M ).bind fun q => fX11_shutFlap_40 q x1
def fX11_shutFlap_31 (M : MS) (x1 : Int32) (s0 : Int32) : Option (Int32 × MS) := if s0 = 0 then fX11_shutFlap_36 M x1 else fX11_shutFlap_34 M
def fX11_shutFlap_27 (M : MS) (x1 : Int32) (s0 : Int32) : Option (Int32 × MS) := (fX11_fails M s0 2).bind fun q => fX11_shutFlap_31 q.2 x1 q.1
def fX11_shutFlap_26 (M : MS) (x1 : Int32) : Option (Int32 × MS) := fX11_shutFlap_27 M x1 0
def fX11_shutFlap_22 (M : MS) (x1 : Int32) : Option (Int32 × MS) := fX11_shutFlap_27 M x1 1
def fX11_shutFlap_19 (M : MS) (x1 : Int32) (s0 : Int32) : Option (Int32 × MS) := if s0 = 0 then fX11_shutFlap_22 M x1 else fX11_shutFlap_26 M x1
def fX11_shutFlap_13 (M : MS) (x1 : Int32) : Option (Int32 × MS) := (fX11_isOpenSack M x1).bind fun q => fX11_shutFlap_19 q.2 x1 q.1
def fX11_shutFlap_10 (M : MS) (x1 : Int32) (s0 : Int32) : Option (Int32 × MS) := if s0 = 0 then fX11_shutFlap_13 M x1 else fX11_shutFlap_34 M
def fX11_shutFlap_5 (M : MS) (x1 : Int32) : Option (Int32 × MS) := (fX11_noSack M x1).bind fun q => fX11_shutFlap_10 q.2 x1 q.1
def fX11_shutFlap_0 (M : MS) (a1 : Int32) : Option (Int32 × MS) := fX11_shutFlap_5 (va_up M.1 7 0, M.2) a1
def fX11_shutFlap (M : MS) (a1 : Int32) : Option (Int32 × MS) := fX11_shutFlap_0 M a1
def fX11_hourPasses_124 (M : MS) : Option (MS) := some M
def fX11_hourPasses_120 (M : MS) : Option (MS) := (fX11_dawns M ).bind fun q => fX11_hourPasses_124 q
def fX11_hourPasses_106 (M : MS) : Option (MS) := if gIn 3 257 then if ((M.2 0 (3 : Int32).toNatClampNeg) - (M.2 0 (3 : Int32).toNatClampNeg) / 24 * 24) = 6 then fX11_hourPasses_120 M else fX11_hourPasses_124 M else none
def fX11_hourPasses_102 (M : MS) : Option (MS) := (fX11_shiftGoes M ).bind fun q => fX11_hourPasses_106 q
def fX11_hourPasses_96 (K75 : MS → Int32 → Int32 → Option (MS)) (M : MS) (x1 : Int32) (x2 : Int32) : Option (MS) := K75 M x1 (x2 + 1)
def fX11_hourPasses_90 (K75 : MS → Int32 → Int32 → Option (MS)) (M : MS) (x1 : Int32) (x2 : Int32) : Option (MS) := (fX11_rests M x2 1).bind fun q => fX11_hourPasses_96 K75 q x1 x2
def fX11_hourPasses_85 (K75 : MS → Int32 → Int32 → Option (MS)) (M : MS) (x1 : Int32) (x2 : Int32) : Option (MS) := if x2 = x1 then fX11_hourPasses_96 K75 M x1 x2 else fX11_hourPasses_90 K75 M x1 x2
def fX11_hourPasses_75 : Nat → MS → Int32 → Int32 → Option (MS)
  | 0 => fun _ _ _ => none
  | k + 1 => fun M x1 x2 => if gIn 0 257 then if (M.2 0 (0 : Int32).toNatClampNeg) ≤ x2 then fX11_hourPasses_102 M else fX11_hourPasses_85 (fX11_hourPasses_75 k) M x1 x2 else none
def fX11_hourPasses_72 (M : MS) (s0 : Int32) : Option (MS) := fX11_hourPasses_75 FU M s0 0
def fX11_hourPasses_68 (M : MS) : Option (MS) := (fX11_hunts M ).bind fun q => fX11_hourPasses_72 q.2 q.1
def fX11_hourPasses_62 (K35 : MS → Int32 → Option (MS)) (M : MS) (x1 : Int32) : Option (MS) := K35 M (x1 + 1)
def fX11_hourPasses_57 (K35 : MS → Int32 → Option (MS)) (M : MS) (x1 : Int32) : Option (MS) := (fX11_breeds M x1).bind fun q => fX11_hourPasses_62 K35 q x1
def fX11_hourPasses_45 (K35 : MS → Int32 → Option (MS)) (M : MS) (x1 : Int32) : Option (MS) := if gIn 3 257 then if ((M.2 0 (3 : Int32).toNatClampNeg) - (M.2 0 (3 : Int32).toNatClampNeg) / 24 * 24) = 0 then fX11_hourPasses_57 K35 M x1 else fX11_hourPasses_68 M else none
def fX11_hourPasses_35 : Nat → MS → Int32 → Option (MS)
  | 0 => fun _ _ => none
  | k + 1 => fun M x1 => if gIn 1 257 then if (M.2 0 (1 : Int32).toNatClampNeg) ≤ x1 then fX11_hourPasses_68 M else fX11_hourPasses_45 (fX11_hourPasses_35 k) M x1 else none
def fX11_hourPasses_33 (M : MS) : Option (MS) := fX11_hourPasses_35 FU M 0
def fX11_hourPasses_27 (K12 : MS → Int32 → Option (MS)) (M : MS) (x1 : Int32) : Option (MS) := K12 M (x1 + 1)
def fX11_hourPasses_22 (K12 : MS → Int32 → Option (MS)) (M : MS) (x1 : Int32) : Option (MS) := (fX11_eats M x1).bind fun q => fX11_hourPasses_27 K12 q x1
def fX11_hourPasses_12 : Nat → MS → Int32 → Option (MS)
  | 0 => fun _ _ => none
  | k + 1 => fun M x1 => if gIn 1 257 then if (M.2 0 (1 : Int32).toNatClampNeg) ≤ x1 then fX11_hourPasses_33 M else fX11_hourPasses_22 (fX11_hourPasses_12 k) M x1 else none
def fX11_hourPasses_10 (M : MS) : Option (MS) := fX11_hourPasses_12 FU M 0
def fX11_hourPasses_0 (M : MS) : Option (MS) := if gIn 3 257 then if gIn 3 257 then fX11_hourPasses_10 (M.1, va_up M.2 0 (upd (M.2 0) (3 : Int32).toNatClampNeg ((M.2 0 (3 : Int32).toNatClampNeg) + 1))) else none else none
def fX11_hourPasses (M : MS) : Option (MS) := fX11_hourPasses_0 M
def fX11_takes_21 (M : MS) : Option (Int32 × MS) := some (1, M)
def fX11_takes_11 (M : MS) (x1 : Int32) : Option (Int32 × MS) := if gIn x1 4 then fX11_takes_21 (M.1, va_up M.2 19 (upd (M.2 19) x1.toNatClampNeg (M.1 18))) else none
def fX11_takes_9 (M : MS) : Option (Int32 × MS) := some (0, M)
def fX11_takes_6 (M : MS) (x1 : Int32) (s0 : Int32) : Option (Int32 × MS) := if s0 = 0 then fX11_takes_9 M else fX11_takes_11 M x1
def fX11_takes_0 (M : MS) (a1 : Int32) (a2 : Int32) (a3 : Int32) : Option (Int32 × MS) := (fX11_takesNumber M a2 a3).bind fun q => fX11_takes_6 q.2 a1 q.1
def fX11_takes (M : MS) (a1 : Int32) (a2 : Int32) (a3 : Int32) : Option (Int32 × MS) := bz (fX11_takes_0 M a1 a2 a3)
def fX11_passes_25 (M : MS) (x2 : Int32) : Option (Int32 × MS) := if gIn 8 257 then some (((M.2 0 (8 : Int32).toNatClampNeg) - x2), M) else none
def fX11_passes_19 (K10 : MS → Int32 → Int32 → Int32 → Option (Int32 × MS)) (M : MS) (x1 : Int32) (x2 : Int32) (x3 : Int32) : Option (Int32 × MS) := K10 M x1 x2 (x3 + 1)
def fX11_passes_15 (K10 : MS → Int32 → Int32 → Int32 → Option (Int32 × MS)) (M : MS) (x1 : Int32) (x2 : Int32) (x3 : Int32) : Option (Int32 × MS) := (fX11_hourPasses M ).bind fun q => fX11_passes_19 K10 q x1 x2 x3
def fX11_passes_10 : Nat → MS → Int32 → Int32 → Int32 → Option (Int32 × MS)
  | 0 => fun _ _ _ _ => none
  | k + 1 => fun M x1 x2 x3 => if x1 ≤ x3 then fX11_passes_25 M x2 else fX11_passes_15 (fX11_passes_10 k) M x1 x2 x3
def fX11_passes_0 (M : MS) (a1 : Int32) : Option (Int32 × MS) := if gIn 8 257 then fX11_passes_10 FU M a1 (M.2 0 (8 : Int32).toNatClampNeg) 0 else none
def fX11_passes (M : MS) (a1 : Int32) : Option (Int32 × MS) := fX11_passes_0 M a1
def fX11_readShift_42 (M : MS) : Option (Int32 × MS) := some (0, M)
def fX11_readShift_64 (M : MS) (s0 : Int32) : Option (Int32 × MS) := some (s0, M)
def fX11_readShift_60 (M : MS) : Option (Int32 × MS) := (fX11_takesSemicolon M ).bind fun q => fX11_readShift_64 q.2 q.1
def fX11_readShift_44 (M : MS) : Option (Int32 × MS) := if gIn 0 4 then if gIn 1 4 then (fX11_addsShift M (M.2 19 (0 : Int32).toNatClampNeg) (M.2 19 (1 : Int32).toNatClampNeg)).bind fun q => fX11_readShift_60 q else none else none
def fX11_readShift_39 (M : MS) (s0 : Int32) : Option (Int32 × MS) := if s0 = 0 then fX11_readShift_42 M else fX11_readShift_44 M
def fX11_readShift_31 (M : MS) : Option (Int32 × MS) := (fX11_takes M 1 1 24).bind fun q => fX11_readShift_39 q.2 q.1
def fX11_readShift_28 (M : MS) (s0 : Int32) : Option (Int32 × MS) := if s0 = 0 then fX11_readShift_42 M else fX11_readShift_31 M
def fX11_readShift_21 (M : MS) : Option (Int32 × MS) := (fX11_takesKnown M 65 0).bind fun q => fX11_readShift_28 q.2 q.1
def fX11_readShift_17 (M : MS) : Option (Int32 × MS) := (fX11_advanceToken M ).bind fun q => fX11_readShift_21 q
def fX11_readShift_16 (M : MS) (s0 : Int32) : Option (Int32 × MS) := some (s0, M)
def fX11_readShift_11 (M : MS) : Option (Int32 × MS) := (fX11_failsAt M 5).bind fun q => fX11_readShift_16 q.2 q.1
def fX11_readShift_0 (M : MS) : Option (Int32 × MS) := if gIn 2 257 then if (M.2 0 (2 : Int32).toNatClampNeg) = 12 then fX11_readShift_11 M else fX11_readShift_17 M else none
def fX11_readShift (M : MS) : Option (Int32 × MS) := bz (fX11_readShift_0 M)
def fX11_readCell_32 (M : MS) (s0 : Int32) : Option (Int32 × MS) := some (s0, M)
def fX11_readCell_28 (M : MS) : Option (Int32 × MS) := (fX11_takesSemicolon M ).bind fun q => fX11_readCell_32 q.2 q.1
def fX11_readCell_16 (M : MS) (x1 : Int32) : Option (Int32 × MS) := if gIn 0 4 then if gIn x1 257 then fX11_readCell_28 (M.1, va_up M.2 0 (upd (M.2 0) x1.toNatClampNeg (M.2 19 (0 : Int32).toNatClampNeg))) else none else none
def fX11_readCell_14 (M : MS) : Option (Int32 × MS) := some (0, M)
def fX11_readCell_11 (M : MS) (x1 : Int32) (s0 : Int32) : Option (Int32 × MS) := if s0 = 0 then fX11_readCell_14 M else fX11_readCell_16 M x1
def fX11_readCell_4 (M : MS) (x1 : Int32) (x2 : Int32) : Option (Int32 × MS) := (fX11_takes M 0 0 x2).bind fun q => fX11_readCell_11 q.2 x1 q.1
def fX11_readCell_0 (M : MS) (a1 : Int32) (a2 : Int32) : Option (Int32 × MS) := (fX11_advanceToken M ).bind fun q => fX11_readCell_4 q a1 a2
def fX11_readCell (M : MS) (a1 : Int32) (a2 : Int32) : Option (Int32 × MS) := bz (fX11_readCell_0 M a1 a2)
def fX11_takesRest_52 (M : MS) (s0 : Int32) : Option (Int32 × MS) := some (s0, M)
def fX11_takesRest_44 (M : MS) : Option (Int32 × MS) := (fX11_takes M 0 1 99).bind fun q => fX11_takesRest_52 q.2 q.1
def fX11_takesRest_61 (M : MS) (s0 : Int32) : Option (Int32 × MS) := some (s0, M)
def fX11_takesRest_53 (M : MS) : Option (Int32 × MS) := (fX11_takesKnown M 161 1).bind fun q => fX11_takesRest_61 q.2 q.1
def fX11_takesRest_89 (M : MS) (s0 : Int32) : Option (Int32 × MS) := some (s0, M)
def fX11_takesRest_88 (M : MS) : Option (Int32 × MS) := fX11_takesRest_89 M 0
def fX11_takesRest_84 (M : MS) : Option (Int32 × MS) := fX11_takesRest_89 M 1
def fX11_takesRest_81 (M : MS) (s0 : Int32) : Option (Int32 × MS) := if s0 = 0 then fX11_takesRest_88 M else fX11_takesRest_84 M
def fX11_takesRest_73 (M : MS) : Option (Int32 × MS) := (fX11_takes M 1 1 99).bind fun q => fX11_takesRest_81 q.2 q.1
def fX11_takesRest_70 (M : MS) (s0 : Int32) : Option (Int32 × MS) := if s0 = 0 then fX11_takesRest_88 M else fX11_takesRest_73 M
def fX11_takesRest_62 (M : MS) : Option (Int32 × MS) := (fX11_takesKnown M 161 1).bind fun q => fX11_takesRest_70 q.2 q.1
def fX11_takesRest_118 (M : MS) (s0 : Int32) : Option (Int32 × MS) := some (s0, M)
def fX11_takesRest_117 (M : MS) : Option (Int32 × MS) := fX11_takesRest_118 M 0
def fX11_takesRest_113 (M : MS) : Option (Int32 × MS) := fX11_takesRest_118 M 1
def fX11_takesRest_110 (M : MS) (s0 : Int32) : Option (Int32 × MS) := if s0 = 0 then fX11_takesRest_117 M else fX11_takesRest_113 M
def fX11_takesRest_101 (M : MS) : Option (Int32 × MS) := (fX11_takes M 1 1 999).bind fun q => fX11_takesRest_110 q.2 q.1
def fX11_takesRest_98 (M : MS) (s0 : Int32) : Option (Int32 × MS) := if s0 = 0 then fX11_takesRest_117 M else fX11_takesRest_101 M
def fX11_takesRest_90 (M : MS) : Option (Int32 × MS) := (fX11_takesKnown M 161 1).bind fun q => fX11_takesRest_98 q.2 q.1
def fX11_takesRest_119 (M : MS) : Option (Int32 × MS) := some (1, M)
def fX11_takesRest_129 (M : MS) (s0 : Int32) : Option (Int32 × MS) := some (s0, M)
def fX11_takesRest_121 (M : MS) : Option (Int32 × MS) := (fX11_takes M 0 0 9).bind fun q => fX11_takesRest_129 q.2 q.1
def fX11_takesRest_4 (M : MS) (x1 : Int32) : Option (Int32 × MS) := if x1 = 1 then fX11_takesRest_44 M else if x1 = 2 then fX11_takesRest_53 M else if x1 = 3 then fX11_takesRest_53 M else if x1 = 4 then fX11_takesRest_62 M else if x1 = 5 then fX11_takesRest_90 M else if x1 = 6 then fX11_takesRest_119 M else fX11_takesRest_121 M
def fX11_takesRest_0 (M : MS) (a1 : Int32) : Option (Int32 × MS) := (fX11_advanceToken M ).bind fun q => fX11_takesRest_4 q a1
def fX11_takesRest (M : MS) (a1 : Int32) : Option (Int32 × MS) := bz (fX11_takesRest_0 M a1)
def fX11_hoursUntil_44 (M : MS) (s0 : Int32) : Option (Int32 × MS) := some (s0, M)
def fX11_hoursUntil_39 (M : MS) : Option (Int32 × MS) := (fX11_goesBack M (-1)).bind fun q => fX11_hoursUntil_44 q.2 q.1
def fX11_hoursUntil_33 (K6 : MS → Int32 → Int32 → Int32 → Option (Int32 × MS)) (M : MS) (x1 : Int32) (x2 : Int32) (x3 : Int32) : Option (Int32 × MS) := K6 M x1 x2 (x3 + 1)
def fX11_hoursUntil_29 (K6 : MS → Int32 → Int32 → Int32 → Option (Int32 × MS)) (M : MS) (x1 : Int32) (x2 : Int32) (x3 : Int32) : Option (Int32 × MS) := (fX11_hourPasses M ).bind fun q => fX11_hoursUntil_33 K6 q x1 x2 x3
def fX11_hoursUntil_28 (M : MS) (s0 : Int32) : Option (Int32 × MS) := some (s0, M)
def fX11_hoursUntil_23 (M : MS) (x3 : Int32) : Option (Int32 × MS) := (fX11_goesBack M x3).bind fun q => fX11_hoursUntil_28 q.2 q.1
def fX11_hoursUntil_13 (K6 : MS → Int32 → Int32 → Int32 → Option (Int32 × MS)) (M : MS) (x1 : Int32) (x2 : Int32) (x3 : Int32) : Option (Int32 × MS) := if gIn x1 257 then if (M.2 0 x1.toNatClampNeg) = x2 then fX11_hoursUntil_23 M x3 else fX11_hoursUntil_29 K6 M x1 x2 x3 else none
def fX11_hoursUntil_6 : Nat → MS → Int32 → Int32 → Int32 → Option (Int32 × MS)
  | 0 => fun _ _ _ _ => none
  | k + 1 => fun M x1 x2 x3 => if 200 < x3 then fX11_hoursUntil_39 M else fX11_hoursUntil_13 (fX11_hoursUntil_6 k) M x1 x2 x3
def fX11_hoursUntil_4 (M : MS) (x1 : Int32) (x2 : Int32) : Option (Int32 × MS) := fX11_hoursUntil_6 FU M x1 x2 0
def fX11_hoursUntil_0 (M : MS) (a1 : Int32) (a2 : Int32) : Option (Int32 × MS) := (fX11_goesAside M ).bind fun q => fX11_hoursUntil_4 q a1 a2
def fX11_hoursUntil (M : MS) (a1 : Int32) (a2 : Int32) : Option (Int32 × MS) := fX11_hoursUntil_0 M a1 a2
def fX11_does_91 (M : MS) (s0 : Int32) : Option (Int32 × MS) := some (s0, M)
def fX11_does_90 (M : MS) : Option (Int32 × MS) := fX11_does_91 M 0
def fX11_does_86 (M : MS) : Option (Int32 × MS) := fX11_does_91 M 1
def fX11_does_83 (M : MS) (s0 : Int32) : Option (Int32 × MS) := if s0 < 0 then fX11_does_90 M else fX11_does_86 M
def fX11_does_78 (M : MS) (x2 : Int32) : Option (Int32 × MS) := (fX11_passes M x2).bind fun q => fX11_does_83 q.2 q.1
def fX11_does_64 (M : MS) (x2 : Int32) : Option (Int32 × MS) := if gIn 3 257 then if 9999 < ((M.2 0 (3 : Int32).toNatClampNeg) + x2) then fX11_does_90 M else fX11_does_78 M x2 else none
def fX11_does_114 (M : MS) (s0 : Int32) : Option (Int32 × MS) := some (s0, M)
def fX11_does_113 (M : MS) : Option (Int32 × MS) := fX11_does_114 M 0
def fX11_does_109 (M : MS) : Option (Int32 × MS) := fX11_does_114 M 1
def fX11_does_106 (M : MS) (s0 : Int32) : Option (Int32 × MS) := if s0 < 0 then fX11_does_113 M else fX11_does_109 M
def fX11_does_100 (M : MS) (x2 : Int32) : Option (Int32 × MS) := (fX11_setsFlap M x2 1).bind fun q => fX11_does_106 q.2 q.1
def fX11_does_97 (M : MS) (x2 : Int32) (s0 : Int32) : Option (Int32 × MS) := if s0 = 0 then fX11_does_100 M x2 else fX11_does_113 M
def fX11_does_92 (M : MS) (x2 : Int32) : Option (Int32 × MS) := (fX11_isOpenSack M x2).bind fun q => fX11_does_97 q.2 x2 q.1
def fX11_does_137 (M : MS) (s0 : Int32) : Option (Int32 × MS) := some (s0, M)
def fX11_does_136 (M : MS) : Option (Int32 × MS) := fX11_does_137 M 0
def fX11_does_132 (M : MS) : Option (Int32 × MS) := fX11_does_137 M 1
def fX11_does_129 (M : MS) (s0 : Int32) : Option (Int32 × MS) := if s0 < 0 then fX11_does_136 M else fX11_does_132 M
def fX11_does_123 (M : MS) (x2 : Int32) : Option (Int32 × MS) := (fX11_setsFlap M x2 0).bind fun q => fX11_does_129 q.2 q.1
def fX11_does_120 (M : MS) (x2 : Int32) (s0 : Int32) : Option (Int32 × MS) := if s0 = 0 then fX11_does_136 M else fX11_does_123 M x2
def fX11_does_115 (M : MS) (x2 : Int32) : Option (Int32 × MS) := (fX11_isOpenSack M x2).bind fun q => fX11_does_120 q.2 x2 q.1
def fX11_does_161 (M : MS) (s0 : Int32) : Option (Int32 × MS) := some (s0, M)
def fX11_does_160 (M : MS) : Option (Int32 × MS) := fX11_does_161 M 0
def fX11_does_156 (M : MS) : Option (Int32 × MS) := fX11_does_161 M 1
def fX11_does_153 (M : MS) (s0 : Int32) : Option (Int32 × MS) := if s0 < 0 then fX11_does_160 M else fX11_does_156 M
def fX11_does_147 (M : MS) (x2 : Int32) (x3 : Int32) : Option (Int32 × MS) := (fX11_addsMice M x2 x3).bind fun q => fX11_does_153 q.2 q.1
def fX11_does_144 (M : MS) (x2 : Int32) (x3 : Int32) (s0 : Int32) : Option (Int32 × MS) := if s0 = 0 then fX11_does_160 M else fX11_does_147 M x2 x3
def fX11_does_138 (M : MS) (x2 : Int32) (x3 : Int32) : Option (Int32 × MS) := (fX11_mayAddMice M x2 x3).bind fun q => fX11_does_144 q.2 x2 x3 q.1
def fX11_does_185 (M : MS) (s0 : Int32) : Option (Int32 × MS) := some (s0, M)
def fX11_does_184 (M : MS) : Option (Int32 × MS) := fX11_does_185 M 0
def fX11_does_180 (M : MS) : Option (Int32 × MS) := fX11_does_185 M 1
def fX11_does_177 (M : MS) (s0 : Int32) : Option (Int32 × MS) := if s0 < 0 then fX11_does_184 M else fX11_does_180 M
def fX11_does_171 (M : MS) (x2 : Int32) (x3 : Int32) : Option (Int32 × MS) := (fX11_addsGrain M x2 x3).bind fun q => fX11_does_177 q.2 q.1
def fX11_does_168 (M : MS) (x2 : Int32) (x3 : Int32) (s0 : Int32) : Option (Int32 × MS) := if s0 = 0 then fX11_does_184 M else fX11_does_171 M x2 x3
def fX11_does_162 (M : MS) (x2 : Int32) (x3 : Int32) : Option (Int32 × MS) := (fX11_mayAddGrain M x2 x3).bind fun q => fX11_does_168 q.2 x2 x3 q.1
def fX11_does_210 (M : MS) (s0 : Int32) : Option (Int32 × MS) := some (s0, M)
def fX11_does_209 (M : MS) : Option (Int32 × MS) := fX11_does_210 M 0
def fX11_does_205 (M : MS) : Option (Int32 × MS) := fX11_does_210 M 1
def fX11_does_202 (M : MS) (s0 : Int32) : Option (Int32 × MS) := if s0 < 0 then fX11_does_209 M else fX11_does_205 M
def fX11_does_196 (M : MS) : Option (Int32 × MS) := (fX11_sets M 5 (-1)).bind fun q => fX11_does_202 q.2 q.1
def fX11_does_186 (M : MS) : Option (Int32 × MS) := if gIn 5 257 then if (M.2 0 (5 : Int32).toNatClampNeg) = (-1) then fX11_does_209 M else fX11_does_196 M else none
def fX11_does_225 (M : MS) (s0 : Int32) : Option (Int32 × MS) := some (s0, M)
def fX11_does_224 (M : MS) : Option (Int32 × MS) := fX11_does_225 M 0
def fX11_does_220 (M : MS) : Option (Int32 × MS) := fX11_does_225 M 1
def fX11_does_217 (M : MS) (s0 : Int32) : Option (Int32 × MS) := if s0 < 0 then fX11_does_224 M else fX11_does_220 M
def fX11_does_211 (M : MS) (x2 : Int32) : Option (Int32 × MS) := (fX11_sets M 4 x2).bind fun q => fX11_does_217 q.2 q.1
def fX11_does_0 (M : MS) (a1 : Int32) : Option (Int32 × MS) := if gIn (2 * a1) 62 then if gIn ((2 * a1) + 1) 62 then if gIn a1 31 then if (M.2 20 a1.toNatClampNeg) = 1 then fX11_does_64 M (M.2 21 (2 * a1).toNatClampNeg) else if (M.2 20 a1.toNatClampNeg) = 2 then fX11_does_92 M (M.2 21 (2 * a1).toNatClampNeg) else if (M.2 20 a1.toNatClampNeg) = 3 then fX11_does_115 M (M.2 21 (2 * a1).toNatClampNeg) else if (M.2 20 a1.toNatClampNeg) = 4 then fX11_does_138 M (M.2 21 (2 * a1).toNatClampNeg) (M.2 21 ((2 * a1) + 1).toNatClampNeg) else if (M.2 20 a1.toNatClampNeg) = 5 then fX11_does_162 M (M.2 21 (2 * a1).toNatClampNeg) (M.2 21 ((2 * a1) + 1).toNatClampNeg) else if (M.2 20 a1.toNatClampNeg) = 6 then fX11_does_186 M else fX11_does_211 M (M.2 21 (2 * a1).toNatClampNeg) else none else none else none
def fX11_does (M : MS) (a1 : Int32) : Option (Int32 × MS) := bz (fX11_does_0 M a1)
set_option maxRecDepth 10000 in
theorem kX11_hunts_22  {r : Int32} {S1 : MS} {M : MS} (X : gX p s m args c cX11_hunts 4 RX11 (dC, dI) [(cI, .int)] A) (hDA : ∀ S, va_D A ((mW cI ad) S)) (hret : gRetI p l e (rmL 4 0 0) s m args below meth c cX11_hunts (dC, dI) A (mW cI ad) Q r S1) (hf : fX11_hunts_22 M = some (r, S1)) {H : Heap} {locs : List Loc} {ls : Array Slot} (hP : va_P (dC, dI) vwCl ((mW cI ad) M) H) (hS : va_S A s.heap H locs) (hl : lv_has ls 4 [(0, .ref (ad 25))]) : W p l e (rmL 4 0 0) s m args below meth c H locs 0 0 Q (F0 m 22 ls []) := by
  have hx := X.hx
  have hb := X.hb
  have hown := X.hown
  have hts := X.hts
  rw [fX11_hunts_22] at hf
  refine lv_iconst (v := (-1)) hx hb dX11_hunts_22 (by decide) ?_
  cases hf
  exact hret _ _ _ _ dX11_hunts_23 hP hS
set_option maxRecDepth 10000 in
theorem kX11_hunts_111  {r : Int32} {S1 : MS} {M : MS} {x1 : Int32} (X : gX p s m args c cX11_hunts 4 RX11 (dC, dI) [(cI, .int)] A) (hDA : ∀ S, va_D A ((mW cI ad) S)) (hret : gRetI p l e (rmL 4 0 0) s m args below meth c cX11_hunts (dC, dI) A (mW cI ad) Q r S1) (hf : fX11_hunts_111 M x1 = some (r, S1)) {H : Heap} {locs : List Loc} {ls : Array Slot} (hP : va_P (dC, dI) vwCl ((mW cI ad) M) H) (hS : va_S A s.heap H locs) (hl : lv_has ls 4 [(0, .ref (ad 25)), (1, .int x1)]) : W p l e (rmL 4 0 0) s m args below meth c H locs 0 0 Q (F0 m 111 ls []) := by
  have hx := X.hx
  have hb := X.hb
  have hown := X.hown
  have hts := X.hts
  rw [fX11_hunts_111] at hf
  refine lv_iload_n hx hb dX11_hunts_111 rfl (lv_at hl 1 rfl) ?_
  cases hf
  exact hret _ _ _ _ dX11_hunts_112 hP hS
set_option maxRecDepth 10000 in
theorem kX11_hunts_104  {r : Int32} {S1 : MS} {M : MS} {x1 : Int32} {x3 : Int32} (X : gX p s m args c cX11_hunts 4 RX11 (dC, dI) [(cI, .int)] A) (hDA : ∀ S, va_D A ((mW cI ad) S)) (hret : gRetI p l e (rmL 4 0 0) s m args below meth c cX11_hunts (dC, dI) A (mW cI ad) Q r S1) (hf : fX11_hunts_104 M x1 x3 = some (r, S1)) {H : Heap} {locs : List Loc} {ls : Array Slot} (hP : va_P (dC, dI) vwCl ((mW cI ad) M) H) (hS : va_S A s.heap H locs) (hl : lv_has ls 4 [(0, .ref (ad 25)), (1, .int x1), (3, .int x3)]) : W p l e (rmL 4 0 0) s m args below meth c H locs 0 0 Q (F0 m 104 ls []) := by
  have hx := X.hx
  have hb := X.hb
  have hown := X.hown
  have hts := X.hts
  rw [fX11_hunts_104] at hf
  refine lv_aload_n hx hb dX11_hunts_104 rfl (lv_at hl 0 rfl) ?_
  refine lv_iconst (v := 1) hx hb dX11_hunts_105 (by decide) ?_
  refine lv_iload_n hx hb dX11_hunts_106 rfl (lv_at hl 1 rfl) ?_
  refine lv_iload_n hx hb dX11_hunts_107 rfl (lv_at hl 2 rfl) ?_
  obtain ⟨q, hc, hf⟩ := bd hf
  refine gCallVV X hDA rfl (vX11_logs hc) gRX11_X11_logs hdX11_logs rfl ⟨by decide, by decide⟩ hP hS (k0 := 0) (ci := 15) rfl rfl hl.1 (Nat.le_of_ble_eq_true rfl) ⟨Nat.le_refl _, Nat.le_refl _⟩ dX11_hunts_108 (As := [.int 1, .int x1, .int x3]) (rest := []) rfl (fun H locs hP hS => ?_)
  exact kX11_hunts_111 X hDA hret hf hP hS (lv_sub hl [0, 1] rfl)
set_option maxRecDepth 10000 in
theorem kX11_hunts_96  {r : Int32} {S1 : MS} {M : MS} {x1 : Int32} {x3 : Int32} {s0 : Int32} {s1 : Int32} {s2 : Int32} {s3 : Int32} (X : gX p s m args c cX11_hunts 4 RX11 (dC, dI) [(cI, .int)] A) (hDA : ∀ S, va_D A ((mW cI ad) S)) (hret : gRetI p l e (rmL 4 0 0) s m args below meth c cX11_hunts (dC, dI) A (mW cI ad) Q r S1) (hf : fX11_hunts_96 M x1 x3 s0 s1 s2 s3 = some (r, S1)) {H : Heap} {locs : List Loc} {ls : Array Slot} (hP : va_P (dC, dI) vwCl ((mW cI ad) M) H) (hS : va_S A s.heap H locs) (hl : lv_has ls 4 [(0, .ref (ad 25)), (1, .int x1), (3, .int x3)]) : W p l e (rmL 4 0 0) s m args below meth c H locs 0 0 Q (F0 m 96 ls [.int s0, .int s1, .int s2, .int s3, .ref (ad 25)]) := by
  have hx := X.hx
  have hb := X.hb
  have hown := X.hown
  have hts := X.hts
  rw [fX11_hunts_96] at hf
  refine lv_iconst (v := 1) hx hb dX11_hunts_96 (by decide) ?_
  refine lv_iadd hx hb dX11_hunts_97 ?_
  refine gMin X rfl tw1917 tw592 tw24 tw593 (by decide) hl.1 (Nat.le_of_ble_eq_true rfl) ⟨Nat.zero_le _, Nat.zero_le _⟩ dX11_hunts_98 ?_
  obtain ⟨q, hc, hf⟩ := bd hf
  refine gCallVV X hDA rfl (vX11_putsCat hc) gRX11_X11_putsCat hdX11_putsCat rfl ⟨by decide, by decide⟩ hP hS (k0 := 0) (ci := 15) rfl rfl hl.1 (Nat.le_of_ble_eq_true rfl) ⟨Nat.le_refl _, Nat.le_refl _⟩ dX11_hunts_101 (As := [.int s3, .int s2, .int (if (s0 + 1) < s1 then (s0 + 1) else s1)]) (rest := []) rfl (fun H locs hP hS => ?_)
  exact kX11_hunts_104 X hDA hret hf hP hS (lv_sub hl [0, 1, 2] rfl)
set_option maxRecDepth 10000 in
theorem kX11_hunts_83  {r : Int32} {S1 : MS} {M : MS} {x1 : Int32} {x3 : Int32} (X : gX p s m args c cX11_hunts 4 RX11 (dC, dI) [(cI, .int)] A) (hDA : ∀ S, va_D A ((mW cI ad) S)) (hret : gRetI p l e (rmL 4 0 0) s m args below meth c cX11_hunts (dC, dI) A (mW cI ad) Q r S1) (hf : fX11_hunts_83 M x1 x3 = some (r, S1)) {H : Heap} {locs : List Loc} {ls : Array Slot} (hP : va_P (dC, dI) vwCl ((mW cI ad) M) H) (hS : va_S A s.heap H locs) (hl : lv_has ls 4 [(0, .ref (ad 25)), (1, .int x1), (3, .int x3)]) : W p l e (rmL 4 0 0) s m args below meth c H locs 0 0 Q (F0 m 83 ls []) := by
  have hx := X.hx
  have hb := X.hb
  have hown := X.hown
  have hts := X.hts
  rw [fX11_hunts_83] at hf
  refine lv_aload_n hx hb dX11_hunts_83 rfl (lv_at hl 0 rfl) ?_
  refine lv_iload_n hx hb dX11_hunts_84 rfl (lv_at hl 1 rfl) ?_
  refine lv_bipush (v := 9) hx hb dX11_hunts_85 (by decide) ?_
  refine lv_bipush (v := 20) hx hb dX11_hunts_87 (by decide) ?_
  refine lv_aload_n hx hb dX11_hunts_89 rfl (lv_at hl 0 rfl) ?_
  refine lv_iload_n hx hb dX11_hunts_90 rfl (lv_at hl 1 rfl) ?_
  refine lv_bipush (v := 9) hx hb dX11_hunts_91 (by decide) ?_
  obtain ⟨q, hc, hf⟩ := bd hf
  refine gCallVI X hDA rfl (vX11_ofCat hc) gRX11_X11_ofCat hdX11_ofCat rfl ⟨by decide, by decide⟩ hP hS (k0 := 0) (ci := 15) rfl rfl hl.1 (Nat.le_of_ble_eq_true rfl) ⟨Nat.le_refl _, Nat.le_refl _⟩ dX11_hunts_93 (As := [.int x1, .int 9]) (rest := [.int 20, .int 9, .int x1, .ref (ad 25)]) rfl (fun H locs hP hS => ?_)
  exact kX11_hunts_96 X hDA hret hf hP hS (lv_sub hl [0, 1, 2] rfl)
set_option maxRecDepth 10000 in
theorem kX11_hunts_72  {r : Int32} {S1 : MS} {M : MS} {x1 : Int32} {x3 : Int32} (X : gX p s m args c cX11_hunts 4 RX11 (dC, dI) [(cI, .int)] A) (hDA : ∀ S, va_D A ((mW cI ad) S)) (hret : gRetI p l e (rmL 4 0 0) s m args below meth c cX11_hunts (dC, dI) A (mW cI ad) Q r S1) (hf : fX11_hunts_72 M x1 x3 = some (r, S1)) {H : Heap} {locs : List Loc} {ls : Array Slot} (hP : va_P (dC, dI) vwCl ((mW cI ad) M) H) (hS : va_S A s.heap H locs) (hl : lv_has ls 4 [(0, .ref (ad 25)), (1, .int x1), (3, .int x3)]) : W p l e (rmL 4 0 0) s m args below meth c H locs 0 0 Q (F0 m 72 ls []) := by
  have hx := X.hx
  have hb := X.hb
  have hown := X.hown
  have hts := X.hts
  rw [fX11_hunts_72] at hf
  refine lv_aload_n hx hb dX11_hunts_72 rfl (lv_at hl 0 rfl) ?_
  refine mr_get (k := 0) X hP (by decide) rfl rfl tw1665 dX11_hunts_73 ?_
  refine lv_bipush (v := 8) hx hb dX11_hunts_76 (by decide) ?_
  refine lv_dup2_11 hx hb dX11_hunts_78 rfl rfl ?_
  obtain ⟨g1, hf⟩ := gd hf
  refine mr_ald (a := 0) X hP rfl g1 dX11_hunts_79 ?_
  refine lv_iload_n hx hb dX11_hunts_80 rfl (lv_at hl 2 rfl) ?_
  refine lv_iadd hx hb dX11_hunts_81 ?_
  obtain ⟨g2, hf⟩ := gd hf
  refine mr_ast (a := 0) X hDA hP hS rfl g2 dX11_hunts_82 (fun H locs hP hS => ?_)
  exact kX11_hunts_83 X hDA hret hf hP hS (lv_sub hl [0, 1, 2] rfl)
set_option maxRecDepth 10000 in
theorem kX11_hunts_67  {r : Int32} {S1 : MS} {M : MS} {x1 : Int32} {x3 : Int32} {s0 : Int32} {s1 : Int32} {s2 : Int32} (X : gX p s m args c cX11_hunts 4 RX11 (dC, dI) [(cI, .int)] A) (hDA : ∀ S, va_D A ((mW cI ad) S)) (hret : gRetI p l e (rmL 4 0 0) s m args below meth c cX11_hunts (dC, dI) A (mW cI ad) Q r S1) (hf : fX11_hunts_67 M x1 x3 s0 s1 s2 = some (r, S1)) {H : Heap} {locs : List Loc} {ls : Array Slot} (hP : va_P (dC, dI) vwCl ((mW cI ad) M) H) (hS : va_S A s.heap H locs) (hl : lv_has ls 4 [(0, .ref (ad 25)), (1, .int x1), (3, .int x3)]) : W p l e (rmL 4 0 0) s m args below meth c H locs 0 0 Q (F0 m 67 ls [.int s0, .int s1, .int s2, .ref (ad 25)]) := by
  have hx := X.hx
  have hb := X.hb
  have hown := X.hown
  have hts := X.hts
  rw [fX11_hunts_67] at hf
  refine lv_iload_n hx hb dX11_hunts_67 rfl (lv_at hl 2 rfl) ?_
  refine lv_iadd hx hb dX11_hunts_68 ?_
  obtain ⟨q, hc, hf⟩ := bd hf
  refine gCallVV X hDA rfl (vX11_putsCat hc) gRX11_X11_putsCat hdX11_putsCat rfl ⟨by decide, by decide⟩ hP hS (k0 := 0) (ci := 15) rfl rfl hl.1 (Nat.le_of_ble_eq_true rfl) ⟨Nat.le_refl _, Nat.le_refl _⟩ dX11_hunts_69 (As := [.int s2, .int s1, .int (s0 + x3)]) (rest := []) rfl (fun H locs hP hS => ?_)
  exact kX11_hunts_72 X hDA hret hf hP hS (lv_sub hl [0, 1, 2] rfl)
set_option maxRecDepth 10000 in
theorem kX11_hunts_56  {r : Int32} {S1 : MS} {M : MS} {x1 : Int32} {x3 : Int32} (X : gX p s m args c cX11_hunts 4 RX11 (dC, dI) [(cI, .int)] A) (hDA : ∀ S, va_D A ((mW cI ad) S)) (hret : gRetI p l e (rmL 4 0 0) s m args below meth c cX11_hunts (dC, dI) A (mW cI ad) Q r S1) (hf : fX11_hunts_56 M x1 x3 = some (r, S1)) {H : Heap} {locs : List Loc} {ls : Array Slot} (hP : va_P (dC, dI) vwCl ((mW cI ad) M) H) (hS : va_S A s.heap H locs) (hl : lv_has ls 4 [(0, .ref (ad 25)), (1, .int x1), (3, .int x3)]) : W p l e (rmL 4 0 0) s m args below meth c H locs 0 0 Q (F0 m 56 ls []) := by
  have hx := X.hx
  have hb := X.hb
  have hown := X.hown
  have hts := X.hts
  rw [fX11_hunts_56] at hf
  refine lv_aload_n hx hb dX11_hunts_56 rfl (lv_at hl 0 rfl) ?_
  refine lv_iload_n hx hb dX11_hunts_57 rfl (lv_at hl 1 rfl) ?_
  refine lv_bipush (v := 10) hx hb dX11_hunts_58 (by decide) ?_
  refine lv_aload_n hx hb dX11_hunts_60 rfl (lv_at hl 0 rfl) ?_
  refine lv_iload_n hx hb dX11_hunts_61 rfl (lv_at hl 1 rfl) ?_
  refine lv_bipush (v := 10) hx hb dX11_hunts_62 (by decide) ?_
  obtain ⟨q, hc, hf⟩ := bd hf
  refine gCallVI X hDA rfl (vX11_ofCat hc) gRX11_X11_ofCat hdX11_ofCat rfl ⟨by decide, by decide⟩ hP hS (k0 := 0) (ci := 15) rfl rfl hl.1 (Nat.le_of_ble_eq_true rfl) ⟨Nat.le_refl _, Nat.le_refl _⟩ dX11_hunts_64 (As := [.int x1, .int 10]) (rest := [.int 10, .int x1, .ref (ad 25)]) rfl (fun H locs hP hS => ?_)
  exact kX11_hunts_67 X hDA hret hf hP hS (lv_sub hl [0, 1, 2] rfl)
set_option maxRecDepth 10000 in
theorem kX11_hunts_51  {r : Int32} {S1 : MS} {M : MS} {x1 : Int32} {x3 : Int32} {s0 : Int32} {s1 : Int32} {s2 : Int32} (X : gX p s m args c cX11_hunts 4 RX11 (dC, dI) [(cI, .int)] A) (hDA : ∀ S, va_D A ((mW cI ad) S)) (hret : gRetI p l e (rmL 4 0 0) s m args below meth c cX11_hunts (dC, dI) A (mW cI ad) Q r S1) (hf : fX11_hunts_51 M x1 x3 s0 s1 s2 = some (r, S1)) {H : Heap} {locs : List Loc} {ls : Array Slot} (hP : va_P (dC, dI) vwCl ((mW cI ad) M) H) (hS : va_S A s.heap H locs) (hl : lv_has ls 4 [(0, .ref (ad 25)), (1, .int x1), (3, .int x3)]) : W p l e (rmL 4 0 0) s m args below meth c H locs 0 0 Q (F0 m 51 ls [.int s0, .int s1, .int s2, .ref (ad 25)]) := by
  have hx := X.hx
  have hb := X.hb
  have hown := X.hown
  have hts := X.hts
  rw [fX11_hunts_51] at hf
  refine lv_iload_n hx hb dX11_hunts_51 rfl (lv_at hl 2 rfl) ?_
  refine lv_isub hx hb dX11_hunts_52 ?_
  obtain ⟨q, hc, hf⟩ := bd hf
  refine gCallVV X hDA rfl (vX11_putsSack hc) gRX11_X11_putsSack hdX11_putsSack rfl ⟨by decide, by decide⟩ hP hS (k0 := 0) (ci := 15) rfl rfl hl.1 (Nat.le_of_ble_eq_true rfl) ⟨Nat.le_refl _, Nat.le_refl _⟩ dX11_hunts_53 (As := [.int s2, .int s1, .int (s0 - x3)]) (rest := []) rfl (fun H locs hP hS => ?_)
  exact kX11_hunts_56 X hDA hret hf hP hS (lv_sub hl [0, 1, 2] rfl)
set_option maxRecDepth 10000 in
theorem kX11_hunts_36  {r : Int32} {S1 : MS} {M : MS} {x1 : Int32} {x2 : Int32} {s0 : Int32} {s1 : Int32} (X : gX p s m args c cX11_hunts 4 RX11 (dC, dI) [(cI, .int)] A) (hDA : ∀ S, va_D A ((mW cI ad) S)) (hret : gRetI p l e (rmL 4 0 0) s m args below meth c cX11_hunts (dC, dI) A (mW cI ad) Q r S1) (hf : fX11_hunts_36 M x1 x2 s0 s1 = some (r, S1)) {H : Heap} {locs : List Loc} {ls : Array Slot} (hP : va_P (dC, dI) vwCl ((mW cI ad) M) H) (hS : va_S A s.heap H locs) (hl : lv_has ls 4 [(0, .ref (ad 25)), (1, .int x1), (2, .int x2)]) : W p l e (rmL 4 0 0) s m args below meth c H locs 0 0 Q (F0 m 36 ls [.int s0, .int s1]) := by
  have hx := X.hx
  have hb := X.hb
  have hown := X.hown
  have hts := X.hts
  rw [fX11_hunts_36] at hf
  refine gMin X rfl tw1917 tw592 tw24 tw593 (by decide) hl.1 (Nat.le_of_ble_eq_true rfl) ⟨Nat.zero_le _, Nat.zero_le _⟩ dX11_hunts_36 ?_
  refine lv_istore_n (lv' := [(3, .int (if s0 < s1 then s0 else s1)), (0, .ref (ad 25)), (1, .int x1), (2, .int x2)]) hx hb dX11_hunts_39 rfl hl (by decide) rfl (fun ls hl => ?_)
  refine lv_aload_n hx hb dX11_hunts_40 rfl (lv_at hl 1 rfl) ?_
  refine lv_iload_n hx hb dX11_hunts_41 rfl (lv_at hl 3 rfl) ?_
  refine lv_bipush (v := 8) hx hb dX11_hunts_42 (by decide) ?_
  refine lv_aload_n hx hb dX11_hunts_44 rfl (lv_at hl 1 rfl) ?_
  refine lv_iload_n hx hb dX11_hunts_45 rfl (lv_at hl 3 rfl) ?_
  refine lv_bipush (v := 8) hx hb dX11_hunts_46 (by decide) ?_
  obtain ⟨q, hc, hf⟩ := bd hf
  refine gCallVI X hDA rfl (vX11_ofSack hc) gRX11_X11_ofSack hdX11_ofSack rfl ⟨by decide, by decide⟩ hP hS (k0 := 0) (ci := 15) rfl rfl hl.1 (Nat.le_of_ble_eq_true rfl) ⟨Nat.le_refl _, Nat.le_refl _⟩ dX11_hunts_48 (As := [.int x2, .int 8]) (rest := [.int 8, .int x2, .ref (ad 25)]) rfl (fun H locs hP hS => ?_)
  exact kX11_hunts_51 X hDA hret hf hP hS (lv_sub hl [1, 2, 0] rfl)
set_option maxRecDepth 10000 in
theorem kX11_hunts_29  {r : Int32} {S1 : MS} {M : MS} {x1 : Int32} {x2 : Int32} {s0 : Int32} (X : gX p s m args c cX11_hunts 4 RX11 (dC, dI) [(cI, .int)] A) (hDA : ∀ S, va_D A ((mW cI ad) S)) (hret : gRetI p l e (rmL 4 0 0) s m args below meth c cX11_hunts (dC, dI) A (mW cI ad) Q r S1) (hf : fX11_hunts_29 M x1 x2 s0 = some (r, S1)) {H : Heap} {locs : List Loc} {ls : Array Slot} (hP : va_P (dC, dI) vwCl ((mW cI ad) M) H) (hS : va_S A s.heap H locs) (hl : lv_has ls 4 [(0, .ref (ad 25)), (1, .int x1), (2, .int x2)]) : W p l e (rmL 4 0 0) s m args below meth c H locs 0 0 Q (F0 m 29 ls [.int s0]) := by
  have hx := X.hx
  have hb := X.hb
  have hown := X.hown
  have hts := X.hts
  rw [fX11_hunts_29] at hf
  refine lv_aload_n hx hb dX11_hunts_29 rfl (lv_at hl 0 rfl) ?_
  refine lv_iload_n hx hb dX11_hunts_30 rfl (lv_at hl 2 rfl) ?_
  refine lv_bipush (v := 8) hx hb dX11_hunts_31 (by decide) ?_
  obtain ⟨q, hc, hf⟩ := bd hf
  refine gCallVI X hDA rfl (vX11_ofSack hc) gRX11_X11_ofSack hdX11_ofSack rfl ⟨by decide, by decide⟩ hP hS (k0 := 0) (ci := 15) rfl rfl hl.1 (Nat.le_of_ble_eq_true rfl) ⟨Nat.le_refl _, Nat.le_refl _⟩ dX11_hunts_33 (As := [.int x2, .int 8]) (rest := [.int s0]) rfl (fun H locs hP hS => ?_)
  exact kX11_hunts_36 X hDA hret hf hP hS (lv_sub hl [0, 1, 2] rfl)
set_option maxRecDepth 10000 in
theorem kX11_hunts_24  {r : Int32} {S1 : MS} {M : MS} {x1 : Int32} {x2 : Int32} (X : gX p s m args c cX11_hunts 4 RX11 (dC, dI) [(cI, .int)] A) (hDA : ∀ S, va_D A ((mW cI ad) S)) (hret : gRetI p l e (rmL 4 0 0) s m args below meth c cX11_hunts (dC, dI) A (mW cI ad) Q r S1) (hf : fX11_hunts_24 M x1 x2 = some (r, S1)) {H : Heap} {locs : List Loc} {ls : Array Slot} (hP : va_P (dC, dI) vwCl ((mW cI ad) M) H) (hS : va_S A s.heap H locs) (hl : lv_has ls 4 [(0, .ref (ad 25)), (1, .int x1), (2, .int x2)]) : W p l e (rmL 4 0 0) s m args below meth c H locs 0 0 Q (F0 m 24 ls []) := by
  have hx := X.hx
  have hb := X.hb
  have hown := X.hown
  have hts := X.hts
  rw [fX11_hunts_24] at hf
  refine lv_aload_n hx hb dX11_hunts_24 rfl (lv_at hl 0 rfl) ?_
  refine lv_iload_n hx hb dX11_hunts_25 rfl (lv_at hl 1 rfl) ?_
  obtain ⟨q, hc, hf⟩ := bd hf
  refine gCallVI X hDA rfl (vX11_strength hc) gRX11_X11_strength hdX11_strength rfl ⟨by decide, by decide⟩ hP hS (k0 := 0) (ci := 15) rfl rfl hl.1 (Nat.le_of_ble_eq_true rfl) ⟨Nat.le_refl _, Nat.le_refl _⟩ dX11_hunts_26 (As := [.int x1]) (rest := []) rfl (fun H locs hP hS => ?_)
  exact kX11_hunts_29 X hDA hret hf hP hS (lv_sub hl [0, 1, 2] rfl)
set_option maxRecDepth 10000 in
theorem kX11_hunts_17  {r : Int32} {S1 : MS} {M : MS} {x1 : Int32} {x2 : Int32} (X : gX p s m args c cX11_hunts 4 RX11 (dC, dI) [(cI, .int)] A) (hDA : ∀ S, va_D A ((mW cI ad) S)) (hret : gRetI p l e (rmL 4 0 0) s m args below meth c cX11_hunts (dC, dI) A (mW cI ad) Q r S1) (hf : fX11_hunts_17 M x1 x2 = some (r, S1)) {H : Heap} {locs : List Loc} {ls : Array Slot} (hP : va_P (dC, dI) vwCl ((mW cI ad) M) H) (hS : va_S A s.heap H locs) (hl : lv_has ls 4 [(0, .ref (ad 25)), (1, .int x1), (2, .int x2)]) : W p l e (rmL 4 0 0) s m args below meth c H locs 0 0 Q (F0 m 17 ls []) := by
  have hx := X.hx
  have hb := X.hb
  have hown := X.hown
  have hts := X.hts
  rw [fX11_hunts_17] at hf
  refine lv_iload_n hx hb dX11_hunts_17 rfl (lv_at hl 2 rfl) ?_
  refine lv_iconst (v := (-1)) hx hb dX11_hunts_18 (by decide) ?_
  refine lv_icmp_ne (tgt := 24) hx hb dX11_hunts_19 (by decide) (fun c1 => ?_) (fun c1 => ?_)
  · exact kX11_hunts_24 X hDA hret (ifn c1 hf) hP hS (lv_sub hl [0, 1, 2] rfl)
  · exact kX11_hunts_22 X hDA hret (ifp c1 hf) hP hS (lv_sub hl [0] rfl)
set_option maxRecDepth 10000 in
theorem kX11_hunts_11  {r : Int32} {S1 : MS} {M : MS} {x1 : Int32} {s0 : Int32} (X : gX p s m args c cX11_hunts 4 RX11 (dC, dI) [(cI, .int)] A) (hDA : ∀ S, va_D A ((mW cI ad) S)) (hret : gRetI p l e (rmL 4 0 0) s m args below meth c cX11_hunts (dC, dI) A (mW cI ad) Q r S1) (hf : fX11_hunts_11 M x1 s0 = some (r, S1)) {H : Heap} {locs : List Loc} {ls : Array Slot} (hP : va_P (dC, dI) vwCl ((mW cI ad) M) H) (hS : va_S A s.heap H locs) (hl : lv_has ls 4 [(0, .ref (ad 25)), (1, .int x1)]) : W p l e (rmL 4 0 0) s m args below meth c H locs 0 0 Q (F0 m 11 ls [.int s0]) := by
  have hx := X.hx
  have hb := X.hb
  have hown := X.hown
  have hts := X.hts
  rw [fX11_hunts_11] at hf
  refine lv_istore_n (lv' := [(2, .int s0), (0, .ref (ad 25)), (1, .int x1)]) hx hb dX11_hunts_11 rfl hl (by decide) rfl (fun ls hl => ?_)
  refine lv_iload_n hx hb dX11_hunts_12 rfl (lv_at hl 2 rfl) ?_
  refine lv_iconst (v := (-1)) hx hb dX11_hunts_13 (by decide) ?_
  refine lv_icmp_eq (tgt := 22) hx hb dX11_hunts_14 (by decide) (fun c1 => ?_) (fun c1 => ?_)
  · exact kX11_hunts_22 X hDA hret (ifp c1 hf) hP hS (lv_sub hl [1] rfl)
  · exact kX11_hunts_17 X hDA hret (ifn c1 hf) hP hS (lv_sub hl [1, 2, 0] rfl)
set_option maxRecDepth 10000 in
theorem kX11_hunts_0  {r : Int32} {S1 : MS} {M : MS} (X : gX p s m args c cX11_hunts 4 RX11 (dC, dI) [(cI, .int)] A) (hDA : ∀ S, va_D A ((mW cI ad) S)) (hret : gRetI p l e (rmL 4 0 0) s m args below meth c cX11_hunts (dC, dI) A (mW cI ad) Q r S1) (hf : fX11_hunts_0 M = some (r, S1)) {H : Heap} {locs : List Loc} {ls : Array Slot} (hP : va_P (dC, dI) vwCl ((mW cI ad) M) H) (hS : va_S A s.heap H locs) (hl : lv_has ls 4 [(0, .ref (ad 25))]) : W p l e (rmL 4 0 0) s m args below meth c H locs 0 0 Q (F0 m 0 ls []) := by
  have hx := X.hx
  have hb := X.hb
  have hown := X.hown
  have hts := X.hts
  rw [fX11_hunts_0] at hf
  refine lv_aload_n hx hb dX11_hunts_0 rfl (lv_at hl 0 rfl) ?_
  refine mr_get (k := 0) X hP (by decide) rfl rfl tw1665 dX11_hunts_1 ?_
  refine lv_iconst (v := 5) hx hb dX11_hunts_4 (by decide) ?_
  obtain ⟨g1, hf⟩ := gd hf
  refine mr_ald (a := 0) X hP rfl g1 dX11_hunts_5 ?_
  refine lv_istore_n (lv' := [(1, .int (M.2 0 (5 : Int32).toNatClampNeg)), (0, .ref (ad 25))]) hx hb dX11_hunts_6 rfl hl (by decide) rfl (fun ls hl => ?_)
  refine lv_aload_n hx hb dX11_hunts_7 rfl (lv_at hl 1 rfl) ?_
  obtain ⟨q, hc, hf⟩ := bd hf
  refine gCallVI X hDA rfl (vX11_hunted hc) gRX11_X11_hunted hdX11_hunted rfl ⟨by decide, by decide⟩ hP hS (k0 := 0) (ci := 15) rfl rfl hl.1 (Nat.le_of_ble_eq_true rfl) ⟨Nat.le_refl _, Nat.le_refl _⟩ dX11_hunts_8 (As := []) (rest := []) rfl (fun H locs hP hS => ?_)
  exact kX11_hunts_11 X hDA hret hf hP hS (lv_sub hl [1, 0] rfl)
theorem vX11_hunts {l : Launch} {dC : Nat → ClassId} {dI : Nat → Nat → Nat} {cI : ClassId} {ad : Nat → Nat} {M S1 : MS} {r : Int32} (hf : fX11_hunts M  = some (r, S1)) : gMetI l yX11_hunts cX11_hunts 4 (some .int) 4 (dC, dI) [(cI, .int)] (mW cI ad) [.ref (ad 25)] M r S1 := gEntryI (ty := .int) (by decide) rfl rfl mW_fix (Nat.le_of_ble_eq_true rfl) (fun p e s m args below meth c A Q ls X hDA hP hS hret hl => 
  kX11_hunts_0 X hDA hret hf hP hS (lv_sub hl [0] rfl))
set_option maxRecDepth 10000 in
theorem kX11_shiftGoes_78  {S1 : MS} {M : MS} (X : gX p s m args c cX11_shiftGoes 1 RX11 (dC, dI) [(cI, .int)] A) (hDA : ∀ S, va_D A ((mW cI ad) S)) (hret : gRetV p l e (rmL 4 0 0) s m args below meth c cX11_shiftGoes (dC, dI) A (mW cI ad) Q S1) (hf : fX11_shiftGoes_78 M = some S1) {H : Heap} {locs : List Loc} {ls : Array Slot} (hP : va_P (dC, dI) vwCl ((mW cI ad) M) H) (hS : va_S A s.heap H locs) (hl : lv_has ls 1 [(0, .ref (ad 25))]) : W p l e (rmL 4 0 0) s m args below meth c H locs 0 0 Q (F0 m 78 ls []) := by
  have hx := X.hx
  have hb := X.hb
  have hown := X.hown
  have hts := X.hts
  rw [fX11_shiftGoes_78] at hf
  cases hf
  exact hret _ _ _ _ dX11_shiftGoes_78 hP hS
set_option maxRecDepth 10000 in
theorem kX11_shiftGoes_75  {S1 : MS} {M : MS} {s0 : Int32} (X : gX p s m args c cX11_shiftGoes 1 RX11 (dC, dI) [(cI, .int)] A) (hDA : ∀ S, va_D A ((mW cI ad) S)) (hret : gRetV p l e (rmL 4 0 0) s m args below meth c cX11_shiftGoes (dC, dI) A (mW cI ad) Q S1) (hf : fX11_shiftGoes_75 M s0 = some S1) {H : Heap} {locs : List Loc} {ls : Array Slot} (hP : va_P (dC, dI) vwCl ((mW cI ad) M) H) (hS : va_S A s.heap H locs) (hl : lv_has ls 1 [(0, .ref (ad 25))]) : W p l e (rmL 4 0 0) s m args below meth c H locs 0 0 Q (F0 m 75 ls [.int s0, .ref (ad 25)]) := by
  have hx := X.hx
  have hb := X.hb
  have hown := X.hown
  have hts := X.hts
  rw [fX11_shiftGoes_75] at hf
  obtain ⟨q, hc, hf⟩ := bd hf
  refine gCallVV X hDA rfl (vX11_swears hc) gRX11_X11_swears hdX11_swears rfl ⟨by decide, by decide⟩ hP hS (k0 := 0) (ci := 15) rfl rfl hl.1 (Nat.le_of_ble_eq_true rfl) ⟨Nat.le_refl _, Nat.le_refl _⟩ dX11_shiftGoes_75 (As := [.int s0]) (rest := []) rfl (fun H locs hP hS => ?_)
  exact kX11_shiftGoes_78 X hDA hret hf hP hS (lv_sub hl [0] rfl)
set_option maxRecDepth 10000 in
theorem kX11_shiftGoes_63  {S1 : MS} {M : MS} (X : gX p s m args c cX11_shiftGoes 1 RX11 (dC, dI) [(cI, .int)] A) (hDA : ∀ S, va_D A ((mW cI ad) S)) (hret : gRetV p l e (rmL 4 0 0) s m args below meth c cX11_shiftGoes (dC, dI) A (mW cI ad) Q S1) (hf : fX11_shiftGoes_63 M = some S1) {H : Heap} {locs : List Loc} {ls : Array Slot} (hP : va_P (dC, dI) vwCl ((mW cI ad) M) H) (hS : va_S A s.heap H locs) (hl : lv_has ls 1 [(0, .ref (ad 25))]) : W p l e (rmL 4 0 0) s m args below meth c H locs 0 0 Q (F0 m 63 ls []) := by
  have hx := X.hx
  have hb := X.hb
  have hown := X.hown
  have hts := X.hts
  rw [fX11_shiftGoes_63] at hf
  refine lv_aload_n hx hb dX11_shiftGoes_63 rfl (lv_at hl 0 rfl) ?_
  refine lv_aload_n hx hb dX11_shiftGoes_64 rfl (lv_at hl 0 rfl) ?_
  refine lv_aload_n hx hb dX11_shiftGoes_65 rfl (lv_at hl 0 rfl) ?_
  refine mr_get (k := 0) X hP (by decide) rfl rfl tw1665 dX11_shiftGoes_66 ?_
  refine lv_bipush (v := 6) hx hb dX11_shiftGoes_69 (by decide) ?_
  obtain ⟨g1, hf⟩ := gd hf
  refine mr_ald (a := 0) X hP rfl g1 dX11_shiftGoes_71 ?_
  obtain ⟨q, hc, hf⟩ := bd hf
  refine gCallVI X hDA rfl (vX11_shiftCat hc) gRX11_X11_shiftCat hdX11_shiftCat rfl ⟨by decide, by decide⟩ hP hS (k0 := 0) (ci := 15) rfl rfl hl.1 (Nat.le_of_ble_eq_true rfl) ⟨Nat.le_refl _, Nat.le_refl _⟩ dX11_shiftGoes_72 (As := [.int (M.2 0 (6 : Int32).toNatClampNeg)]) (rest := [.ref (ad 25)]) rfl (fun H locs hP hS => ?_)
  exact kX11_shiftGoes_75 X hDA hret hf hP hS (lv_sub hl [0] rfl)
set_option maxRecDepth 10000 in
theorem kX11_shiftGoes_62  {S1 : MS} {M : MS} {s0 : Int32} {s1 : Int32} (X : gX p s m args c cX11_shiftGoes 1 RX11 (dC, dI) [(cI, .int)] A) (hDA : ∀ S, va_D A ((mW cI ad) S)) (hret : gRetV p l e (rmL 4 0 0) s m args below meth c cX11_shiftGoes (dC, dI) A (mW cI ad) Q S1) (hf : fX11_shiftGoes_62 M s0 s1 = some S1) {H : Heap} {locs : List Loc} {ls : Array Slot} (hP : va_P (dC, dI) vwCl ((mW cI ad) M) H) (hS : va_S A s.heap H locs) (hl : lv_has ls 1 [(0, .ref (ad 25))]) : W p l e (rmL 4 0 0) s m args below meth c H locs 0 0 Q (F0 m 62 ls [.int s0, .int s1, .ref (ad 0)]) := by
  have hx := X.hx
  have hb := X.hb
  have hown := X.hown
  have hts := X.hts
  rw [fX11_shiftGoes_62] at hf
  obtain ⟨g1, hf⟩ := gd hf
  refine mr_ast (a := 0) X hDA hP hS rfl g1 dX11_shiftGoes_62 (fun H locs hP hS => ?_)
  exact kX11_shiftGoes_63 X hDA hret hf hP hS (lv_sub hl [0] rfl)
set_option maxRecDepth 10000 in
theorem kX11_shiftGoes_45  {S1 : MS} {M : MS} (X : gX p s m args c cX11_shiftGoes 1 RX11 (dC, dI) [(cI, .int)] A) (hDA : ∀ S, va_D A ((mW cI ad) S)) (hret : gRetV p l e (rmL 4 0 0) s m args below meth c cX11_shiftGoes (dC, dI) A (mW cI ad) Q S1) (hf : fX11_shiftGoes_45 M = some S1) {H : Heap} {locs : List Loc} {ls : Array Slot} (hP : va_P (dC, dI) vwCl ((mW cI ad) M) H) (hS : va_S A s.heap H locs) (hl : lv_has ls 1 [(0, .ref (ad 25))]) : W p l e (rmL 4 0 0) s m args below meth c H locs 0 0 Q (F0 m 45 ls []) := by
  have hx := X.hx
  have hb := X.hb
  have hown := X.hown
  have hts := X.hts
  rw [fX11_shiftGoes_45] at hf
  refine lv_aload_n hx hb dX11_shiftGoes_45 rfl (lv_at hl 0 rfl) ?_
  refine mr_get (k := 0) X hP (by decide) rfl rfl tw1665 dX11_shiftGoes_46 ?_
  refine lv_bipush (v := 7) hx hb dX11_shiftGoes_49 (by decide) ?_
  refine lv_aload_n hx hb dX11_shiftGoes_51 rfl (lv_at hl 0 rfl) ?_
  refine lv_aload_n hx hb dX11_shiftGoes_52 rfl (lv_at hl 0 rfl) ?_
  refine mr_get (k := 0) X hP (by decide) rfl rfl tw1665 dX11_shiftGoes_53 ?_
  refine lv_bipush (v := 6) hx hb dX11_shiftGoes_56 (by decide) ?_
  obtain ⟨g1, hf⟩ := gd hf
  refine mr_ald (a := 0) X hP rfl g1 dX11_shiftGoes_58 ?_
  obtain ⟨q, hc, hf⟩ := bd hf
  refine gCallVI X hDA rfl (vX11_shiftHours hc) gRX11_X11_shiftHours hdX11_shiftHours rfl ⟨by decide, by decide⟩ hP hS (k0 := 0) (ci := 15) rfl rfl hl.1 (Nat.le_of_ble_eq_true rfl) ⟨Nat.le_refl _, Nat.le_refl _⟩ dX11_shiftGoes_59 (As := [.int (M.2 0 (6 : Int32).toNatClampNeg)]) (rest := [.int 7, .ref (ad 0)]) rfl (fun H locs hP hS => ?_)
  exact kX11_shiftGoes_62 X hDA hret hf hP hS (lv_sub hl [0] rfl)
set_option maxRecDepth 10000 in
theorem kX11_shiftGoes_22  {S1 : MS} {M : MS} (X : gX p s m args c cX11_shiftGoes 1 RX11 (dC, dI) [(cI, .int)] A) (hDA : ∀ S, va_D A ((mW cI ad) S)) (hret : gRetV p l e (rmL 4 0 0) s m args below meth c cX11_shiftGoes (dC, dI) A (mW cI ad) Q S1) (hf : fX11_shiftGoes_22 M = some S1) {H : Heap} {locs : List Loc} {ls : Array Slot} (hP : va_P (dC, dI) vwCl ((mW cI ad) M) H) (hS : va_S A s.heap H locs) (hl : lv_has ls 1 [(0, .ref (ad 25))]) : W p l e (rmL 4 0 0) s m args below meth c H locs 0 0 Q (F0 m 22 ls []) := by
  have hx := X.hx
  have hb := X.hb
  have hown := X.hown
  have hts := X.hts
  rw [fX11_shiftGoes_22] at hf
  refine lv_aload_n hx hb dX11_shiftGoes_22 rfl (lv_at hl 0 rfl) ?_
  refine mr_get (k := 0) X hP (by decide) rfl rfl tw1665 dX11_shiftGoes_23 ?_
  refine lv_bipush (v := 6) hx hb dX11_shiftGoes_26 (by decide) ?_
  refine lv_aload_n hx hb dX11_shiftGoes_28 rfl (lv_at hl 0 rfl) ?_
  refine mr_get (k := 0) X hP (by decide) rfl rfl tw1665 dX11_shiftGoes_29 ?_
  refine lv_bipush (v := 6) hx hb dX11_shiftGoes_32 (by decide) ?_
  obtain ⟨g1, hf⟩ := gd hf
  refine mr_ald (a := 0) X hP rfl g1 dX11_shiftGoes_34 ?_
  refine lv_iconst (v := 1) hx hb dX11_shiftGoes_35 (by decide) ?_
  refine lv_iadd hx hb dX11_shiftGoes_36 ?_
  refine lv_aload_n hx hb dX11_shiftGoes_37 rfl (lv_at hl 0 rfl) ?_
  refine mr_get (k := 0) X hP (by decide) rfl rfl tw1665 dX11_shiftGoes_38 ?_
  refine lv_iconst (v := 2) hx hb dX11_shiftGoes_41 (by decide) ?_
  obtain ⟨g2, hf⟩ := gd hf
  refine mr_ald (a := 0) X hP rfl g2 dX11_shiftGoes_42 ?_
  obtain ⟨g3, hf⟩ := gd hf
  refine lv_irem hx hb dX11_shiftGoes_43 g3 ?_
  obtain ⟨g4, hf⟩ := gd hf
  refine mr_ast (a := 0) X hDA hP hS rfl g4 dX11_shiftGoes_44 (fun H locs hP hS => ?_)
  exact kX11_shiftGoes_45 X hDA hret hf hP hS (lv_sub hl [0] rfl)
set_option maxRecDepth 10000 in
theorem kX11_shiftGoes_21  {S1 : MS} {M : MS} (X : gX p s m args c cX11_shiftGoes 1 RX11 (dC, dI) [(cI, .int)] A) (hDA : ∀ S, va_D A ((mW cI ad) S)) (hret : gRetV p l e (rmL 4 0 0) s m args below meth c cX11_shiftGoes (dC, dI) A (mW cI ad) Q S1) (hf : fX11_shiftGoes_21 M = some S1) {H : Heap} {locs : List Loc} {ls : Array Slot} (hP : va_P (dC, dI) vwCl ((mW cI ad) M) H) (hS : va_S A s.heap H locs) (hl : lv_has ls 1 [(0, .ref (ad 25))]) : W p l e (rmL 4 0 0) s m args below meth c H locs 0 0 Q (F0 m 21 ls []) := by
  have hx := X.hx
  have hb := X.hb
  have hown := X.hown
  have hts := X.hts
  rw [fX11_shiftGoes_21] at hf
  cases hf
  exact hret _ _ _ _ dX11_shiftGoes_21 hP hS
set_option maxRecDepth 10000 in
theorem kX11_shiftGoes_11  {S1 : MS} {M : MS} (X : gX p s m args c cX11_shiftGoes 1 RX11 (dC, dI) [(cI, .int)] A) (hDA : ∀ S, va_D A ((mW cI ad) S)) (hret : gRetV p l e (rmL 4 0 0) s m args below meth c cX11_shiftGoes (dC, dI) A (mW cI ad) Q S1) (hf : fX11_shiftGoes_11 M = some S1) {H : Heap} {locs : List Loc} {ls : Array Slot} (hP : va_P (dC, dI) vwCl ((mW cI ad) M) H) (hS : va_S A s.heap H locs) (hl : lv_has ls 1 [(0, .ref (ad 25))]) : W p l e (rmL 4 0 0) s m args below meth c H locs 0 0 Q (F0 m 11 ls []) := by
  have hx := X.hx
  have hb := X.hb
  have hown := X.hown
  have hts := X.hts
  rw [fX11_shiftGoes_11] at hf
  refine lv_aload_n hx hb dX11_shiftGoes_11 rfl (lv_at hl 0 rfl) ?_
  refine mr_get (k := 0) X hP (by decide) rfl rfl tw1665 dX11_shiftGoes_12 ?_
  refine lv_bipush (v := 7) hx hb dX11_shiftGoes_15 (by decide) ?_
  obtain ⟨g1, hf⟩ := gd hf
  refine mr_ald (a := 0) X hP rfl g1 dX11_shiftGoes_17 ?_
  refine lv_if_le (tgt := 22) hx hb dX11_shiftGoes_18 (by decide) (fun c1 => ?_) (fun c1 => ?_)
  · exact kX11_shiftGoes_22 X hDA hret (ifp c1 hf) hP hS (lv_sub hl [0] rfl)
  · exact kX11_shiftGoes_21 X hDA hret (ifn c1 hf) hP hS (lv_sub hl [0] rfl)
set_option maxRecDepth 10000 in
theorem kX11_shiftGoes_0  {S1 : MS} {M : MS} (X : gX p s m args c cX11_shiftGoes 1 RX11 (dC, dI) [(cI, .int)] A) (hDA : ∀ S, va_D A ((mW cI ad) S)) (hret : gRetV p l e (rmL 4 0 0) s m args below meth c cX11_shiftGoes (dC, dI) A (mW cI ad) Q S1) (hf : fX11_shiftGoes_0 M = some S1) {H : Heap} {locs : List Loc} {ls : Array Slot} (hP : va_P (dC, dI) vwCl ((mW cI ad) M) H) (hS : va_S A s.heap H locs) (hl : lv_has ls 1 [(0, .ref (ad 25))]) : W p l e (rmL 4 0 0) s m args below meth c H locs 0 0 Q (F0 m 0 ls []) := by
  have hx := X.hx
  have hb := X.hb
  have hown := X.hown
  have hts := X.hts
  rw [fX11_shiftGoes_0] at hf
  refine lv_aload_n hx hb dX11_shiftGoes_0 rfl (lv_at hl 0 rfl) ?_
  refine mr_get (k := 0) X hP (by decide) rfl rfl tw1665 dX11_shiftGoes_1 ?_
  refine lv_bipush (v := 7) hx hb dX11_shiftGoes_4 (by decide) ?_
  refine lv_dup2_11 hx hb dX11_shiftGoes_6 rfl rfl ?_
  obtain ⟨g1, hf⟩ := gd hf
  refine mr_ald (a := 0) X hP rfl g1 dX11_shiftGoes_7 ?_
  refine lv_iconst (v := 1) hx hb dX11_shiftGoes_8 (by decide) ?_
  refine lv_isub hx hb dX11_shiftGoes_9 ?_
  obtain ⟨g2, hf⟩ := gd hf
  refine mr_ast (a := 0) X hDA hP hS rfl g2 dX11_shiftGoes_10 (fun H locs hP hS => ?_)
  exact kX11_shiftGoes_11 X hDA hret hf hP hS (lv_sub hl [0] rfl)
theorem vX11_shiftGoes {l : Launch} {dC : Nat → ClassId} {dI : Nat → Nat → Nat} {cI : ClassId} {ad : Nat → Nat} {M S1 : MS} (hf : fX11_shiftGoes M  = some S1) : gMetV l yX11_shiftGoes cX11_shiftGoes 1 4 (dC, dI) [(cI, .int)] (mW cI ad) [.ref (ad 25)] M S1 := gEntryV (by decide) mW_fix (Nat.le_of_ble_eq_true rfl) (fun p e s m args below meth c A Q ls X hDA hP hS hret hl => 
  kX11_shiftGoes_0 X hDA hret hf hP hS (lv_sub hl [0] rfl))
set_option maxRecDepth 10000 in
theorem kX11_takesNumber_15  {r : Int32} {S1 : MS} {M : MS} (X : gX p s m args c cX11_takesNumber 3 RX11 (dC, dI) [(cI, .int)] A) (hDA : ∀ S, va_D A ((mW cI ad) S)) (hret : gRetI p l e (rmL 4 0 0) s m args below meth c cX11_takesNumber (dC, dI) A (mW cI ad) Q r S1) (hf : fX11_takesNumber_15 M = some (r, S1)) {H : Heap} {locs : List Loc} {ls : Array Slot} (hP : va_P (dC, dI) vwCl ((mW cI ad) M) H) (hS : va_S A s.heap H locs) (hl : lv_has ls 3 [(0, .ref (ad 25))]) : W p l e (rmL 4 0 0) s m args below meth c H locs 0 0 Q (F0 m 15 ls []) := by
  have hx := X.hx
  have hb := X.hb
  have hown := X.hown
  have hts := X.hts
  rw [fX11_takesNumber_15] at hf
  refine lv_iconst (v := 1) hx hb dX11_takesNumber_15 (by decide) ?_
  cases hf
  exact hret _ _ _ _ dX11_takesNumber_16 hP hS
set_option maxRecDepth 10000 in
theorem kX11_takesNumber_11  {r : Int32} {S1 : MS} {M : MS} (X : gX p s m args c cX11_takesNumber 3 RX11 (dC, dI) [(cI, .int)] A) (hDA : ∀ S, va_D A ((mW cI ad) S)) (hret : gRetI p l e (rmL 4 0 0) s m args below meth c cX11_takesNumber (dC, dI) A (mW cI ad) Q r S1) (hf : fX11_takesNumber_11 M = some (r, S1)) {H : Heap} {locs : List Loc} {ls : Array Slot} (hP : va_P (dC, dI) vwCl ((mW cI ad) M) H) (hS : va_S A s.heap H locs) (hl : lv_has ls 3 [(0, .ref (ad 25))]) : W p l e (rmL 4 0 0) s m args below meth c H locs 0 0 Q (F0 m 11 ls []) := by
  have hx := X.hx
  have hb := X.hb
  have hown := X.hown
  have hts := X.hts
  rw [fX11_takesNumber_11] at hf
  refine lv_aload_n hx hb dX11_takesNumber_11 rfl (lv_at hl 0 rfl) ?_
  obtain ⟨q, hc, hf⟩ := bd hf
  refine gCallVV X hDA rfl (vX11_advanceToken hc) gRX11_X11_advanceToken hdX11_advanceToken rfl ⟨by decide, by decide⟩ hP hS (k0 := 0) (ci := 15) rfl rfl hl.1 (Nat.le_of_ble_eq_true rfl) ⟨Nat.le_refl _, Nat.le_refl _⟩ dX11_takesNumber_12 (As := []) (rest := []) rfl (fun H locs hP hS => ?_)
  exact kX11_takesNumber_15 X hDA hret hf hP hS (lv_sub hl [0] rfl)
set_option maxRecDepth 10000 in
theorem kX11_takesNumber_9  {r : Int32} {S1 : MS} {M : MS} (X : gX p s m args c cX11_takesNumber 3 RX11 (dC, dI) [(cI, .int)] A) (hDA : ∀ S, va_D A ((mW cI ad) S)) (hret : gRetI p l e (rmL 4 0 0) s m args below meth c cX11_takesNumber (dC, dI) A (mW cI ad) Q r S1) (hf : fX11_takesNumber_9 M = some (r, S1)) {H : Heap} {locs : List Loc} {ls : Array Slot} (hP : va_P (dC, dI) vwCl ((mW cI ad) M) H) (hS : va_S A s.heap H locs) (hl : lv_has ls 3 [(0, .ref (ad 25))]) : W p l e (rmL 4 0 0) s m args below meth c H locs 0 0 Q (F0 m 9 ls []) := by
  have hx := X.hx
  have hb := X.hb
  have hown := X.hown
  have hts := X.hts
  rw [fX11_takesNumber_9] at hf
  refine lv_iconst (v := 0) hx hb dX11_takesNumber_9 (by decide) ?_
  cases hf
  exact hret _ _ _ _ dX11_takesNumber_10 hP hS
set_option maxRecDepth 10000 in
theorem kX11_takesNumber_6  {r : Int32} {S1 : MS} {M : MS} {s0 : Int32} (X : gX p s m args c cX11_takesNumber 3 RX11 (dC, dI) [(cI, .int)] A) (hDA : ∀ S, va_D A ((mW cI ad) S)) (hret : gRetI p l e (rmL 4 0 0) s m args below meth c cX11_takesNumber (dC, dI) A (mW cI ad) Q r S1) (hf : fX11_takesNumber_6 M s0 = some (r, S1)) {H : Heap} {locs : List Loc} {ls : Array Slot} (hP : va_P (dC, dI) vwCl ((mW cI ad) M) H) (hS : va_S A s.heap H locs) (hl : lv_has ls 3 [(0, .ref (ad 25))]) : W p l e (rmL 4 0 0) s m args below meth c H locs 0 0 Q (F0 m 6 ls [.int s0]) := by
  have hx := X.hx
  have hb := X.hb
  have hown := X.hown
  have hts := X.hts
  rw [fX11_takesNumber_6] at hf
  refine lv_if_ne (tgt := 11) hx hb dX11_takesNumber_6 (by decide) (fun c1 => ?_) (fun c1 => ?_)
  · exact kX11_takesNumber_11 X hDA hret (ifn c1 hf) hP hS (lv_sub hl [0] rfl)
  · exact kX11_takesNumber_9 X hDA hret (ifp c1 hf) hP hS (lv_sub hl [0] rfl)
set_option maxRecDepth 10000 in
theorem kX11_takesNumber_0  {r : Int32} {S1 : MS} {M : MS} {a1 : Int32} {a2 : Int32} (X : gX p s m args c cX11_takesNumber 3 RX11 (dC, dI) [(cI, .int)] A) (hDA : ∀ S, va_D A ((mW cI ad) S)) (hret : gRetI p l e (rmL 4 0 0) s m args below meth c cX11_takesNumber (dC, dI) A (mW cI ad) Q r S1) (hf : fX11_takesNumber_0 M a1 a2 = some (r, S1)) {H : Heap} {locs : List Loc} {ls : Array Slot} (hP : va_P (dC, dI) vwCl ((mW cI ad) M) H) (hS : va_S A s.heap H locs) (hl : lv_has ls 3 [(0, .ref (ad 25)), (1, .int a1), (2, .int a2)]) : W p l e (rmL 4 0 0) s m args below meth c H locs 0 0 Q (F0 m 0 ls []) := by
  have hx := X.hx
  have hb := X.hb
  have hown := X.hown
  have hts := X.hts
  rw [fX11_takesNumber_0] at hf
  refine lv_aload_n hx hb dX11_takesNumber_0 rfl (lv_at hl 0 rfl) ?_
  refine lv_iload_n hx hb dX11_takesNumber_1 rfl (lv_at hl 1 rfl) ?_
  refine lv_iload_n hx hb dX11_takesNumber_2 rfl (lv_at hl 2 rfl) ?_
  obtain ⟨q, hc, hf⟩ := bd hf
  refine gCallVI X hDA rfl (vX11_seesNumber hc) gRX11_X11_seesNumber hdX11_seesNumber rfl ⟨by decide, by decide⟩ hP hS (k0 := 0) (ci := 15) rfl rfl hl.1 (Nat.le_of_ble_eq_true rfl) ⟨Nat.le_refl _, Nat.le_refl _⟩ dX11_takesNumber_3 (As := [.int a1, .int a2]) (rest := []) rfl (fun H locs hP hS => ?_)
  exact kX11_takesNumber_6 X hDA hret hf hP hS (lv_sub hl [0] rfl)
theorem vX11_takesNumber {l : Launch} {dC : Nat → ClassId} {dI : Nat → Nat → Nat} {cI : ClassId} {ad : Nat → Nat} {M S1 : MS} {r : Int32} {a1 : Int32} {a2 : Int32} (hf : fX11_takesNumber M a1 a2 = some (r, S1)) : gMetI l yX11_takesNumber cX11_takesNumber 3 (some .boolean) 4 (dC, dI) [(cI, .int)] (mW cI ad) [.ref (ad 25), .int a1, .int a2] M r S1 := gEntryI (ty := .boolean) (by decide) rfl (bz_n hf) mW_fix (Nat.le_of_ble_eq_true rfl) (fun p e s m args below meth c A Q ls X hDA hP hS hret hl => 
  kX11_takesNumber_0 X hDA hret (bz_f hf) hP hS (lv_sub hl [0, 1, 2] rfl))
set_option maxRecDepth 10000 in
theorem kX11_takesSemicolon_18  {r : Int32} {S1 : MS} {M : MS} (X : gX p s m args c cX11_takesSemicolon 1 RX11 (dC, dI) [(cI, .int)] A) (hDA : ∀ S, va_D A ((mW cI ad) S)) (hret : gRetI p l e (rmL 4 0 0) s m args below meth c cX11_takesSemicolon (dC, dI) A (mW cI ad) Q r S1) (hf : fX11_takesSemicolon_18 M = some (r, S1)) {H : Heap} {locs : List Loc} {ls : Array Slot} (hP : va_P (dC, dI) vwCl ((mW cI ad) M) H) (hS : va_S A s.heap H locs) (hl : lv_has ls 1 [(0, .ref (ad 25))]) : W p l e (rmL 4 0 0) s m args below meth c H locs 0 0 Q (F0 m 18 ls []) := by
  have hx := X.hx
  have hb := X.hb
  have hown := X.hown
  have hts := X.hts
  rw [fX11_takesSemicolon_18] at hf
  refine lv_iconst (v := 1) hx hb dX11_takesSemicolon_18 (by decide) ?_
  cases hf
  exact hret _ _ _ _ dX11_takesSemicolon_19 hP hS
set_option maxRecDepth 10000 in
theorem kX11_takesSemicolon_14  {r : Int32} {S1 : MS} {M : MS} (X : gX p s m args c cX11_takesSemicolon 1 RX11 (dC, dI) [(cI, .int)] A) (hDA : ∀ S, va_D A ((mW cI ad) S)) (hret : gRetI p l e (rmL 4 0 0) s m args below meth c cX11_takesSemicolon (dC, dI) A (mW cI ad) Q r S1) (hf : fX11_takesSemicolon_14 M = some (r, S1)) {H : Heap} {locs : List Loc} {ls : Array Slot} (hP : va_P (dC, dI) vwCl ((mW cI ad) M) H) (hS : va_S A s.heap H locs) (hl : lv_has ls 1 [(0, .ref (ad 25))]) : W p l e (rmL 4 0 0) s m args below meth c H locs 0 0 Q (F0 m 14 ls []) := by
  have hx := X.hx
  have hb := X.hb
  have hown := X.hown
  have hts := X.hts
  rw [fX11_takesSemicolon_14] at hf
  refine lv_aload_n hx hb dX11_takesSemicolon_14 rfl (lv_at hl 0 rfl) ?_
  obtain ⟨q, hc, hf⟩ := bd hf
  refine gCallVV X hDA rfl (vX11_advanceToken hc) gRX11_X11_advanceToken hdX11_advanceToken rfl ⟨by decide, by decide⟩ hP hS (k0 := 0) (ci := 15) rfl rfl hl.1 (Nat.le_of_ble_eq_true rfl) ⟨Nat.le_refl _, Nat.le_refl _⟩ dX11_takesSemicolon_15 (As := []) (rest := []) rfl (fun H locs hP hS => ?_)
  exact kX11_takesSemicolon_18 X hDA hret hf hP hS (lv_sub hl [0] rfl)
set_option maxRecDepth 10000 in
theorem kX11_takesSemicolon_13  {r : Int32} {S1 : MS} {M : MS} {s0 : Int32} (X : gX p s m args c cX11_takesSemicolon 1 RX11 (dC, dI) [(cI, .int)] A) (hDA : ∀ S, va_D A ((mW cI ad) S)) (hret : gRetI p l e (rmL 4 0 0) s m args below meth c cX11_takesSemicolon (dC, dI) A (mW cI ad) Q r S1) (hf : fX11_takesSemicolon_13 M s0 = some (r, S1)) {H : Heap} {locs : List Loc} {ls : Array Slot} (hP : va_P (dC, dI) vwCl ((mW cI ad) M) H) (hS : va_S A s.heap H locs) (hl : lv_has ls 1 [(0, .ref (ad 25))]) : W p l e (rmL 4 0 0) s m args below meth c H locs 0 0 Q (F0 m 13 ls [.int s0]) := by
  have hx := X.hx
  have hb := X.hb
  have hown := X.hown
  have hts := X.hts
  rw [fX11_takesSemicolon_13] at hf
  cases hf
  exact hret _ _ _ _ dX11_takesSemicolon_13 hP hS
set_option maxRecDepth 10000 in
theorem kX11_takesSemicolon_8  {r : Int32} {S1 : MS} {M : MS} (X : gX p s m args c cX11_takesSemicolon 1 RX11 (dC, dI) [(cI, .int)] A) (hDA : ∀ S, va_D A ((mW cI ad) S)) (hret : gRetI p l e (rmL 4 0 0) s m args below meth c cX11_takesSemicolon (dC, dI) A (mW cI ad) Q r S1) (hf : fX11_takesSemicolon_8 M = some (r, S1)) {H : Heap} {locs : List Loc} {ls : Array Slot} (hP : va_P (dC, dI) vwCl ((mW cI ad) M) H) (hS : va_S A s.heap H locs) (hl : lv_has ls 1 [(0, .ref (ad 25))]) : W p l e (rmL 4 0 0) s m args below meth c H locs 0 0 Q (F0 m 8 ls []) := by
  have hx := X.hx
  have hb := X.hb
  have hown := X.hown
  have hts := X.hts
  rw [fX11_takesSemicolon_8] at hf
  refine lv_aload_n hx hb dX11_takesSemicolon_8 rfl (lv_at hl 0 rfl) ?_
  refine lv_iconst (v := 1) hx hb dX11_takesSemicolon_9 (by decide) ?_
  obtain ⟨q, hc, hf⟩ := bd hf
  refine gCallVI X hDA rfl (vX11_failsAt hc) gRX11_X11_failsAt hdX11_failsAt rfl ⟨by decide, by decide⟩ hP hS (k0 := 0) (ci := 15) rfl rfl hl.1 (Nat.le_of_ble_eq_true rfl) ⟨Nat.le_refl _, Nat.le_refl _⟩ dX11_takesSemicolon_10 (As := [.int 1]) (rest := []) rfl (fun H locs hP hS => ?_)
  exact kX11_takesSemicolon_13 X hDA hret hf hP hS (lv_sub hl [0] rfl)
set_option maxRecDepth 10000 in
theorem kX11_takesSemicolon_0  {r : Int32} {S1 : MS} {M : MS} (X : gX p s m args c cX11_takesSemicolon 1 RX11 (dC, dI) [(cI, .int)] A) (hDA : ∀ S, va_D A ((mW cI ad) S)) (hret : gRetI p l e (rmL 4 0 0) s m args below meth c cX11_takesSemicolon (dC, dI) A (mW cI ad) Q r S1) (hf : fX11_takesSemicolon_0 M = some (r, S1)) {H : Heap} {locs : List Loc} {ls : Array Slot} (hP : va_P (dC, dI) vwCl ((mW cI ad) M) H) (hS : va_S A s.heap H locs) (hl : lv_has ls 1 [(0, .ref (ad 25))]) : W p l e (rmL 4 0 0) s m args below meth c H locs 0 0 Q (F0 m 0 ls []) := by
  have hx := X.hx
  have hb := X.hb
  have hown := X.hown
  have hts := X.hts
  rw [fX11_takesSemicolon_0] at hf
  refine lv_aload_n hx hb dX11_takesSemicolon_0 rfl (lv_at hl 0 rfl) ?_
  refine mr_get (k := 17) X hP (by decide) rfl rfl tw1682 dX11_takesSemicolon_1 ?_
  refine lv_iconst (v := 3) hx hb dX11_takesSemicolon_4 (by decide) ?_
  refine lv_icmp_eq (tgt := 14) hx hb dX11_takesSemicolon_5 (by decide) (fun c1 => ?_) (fun c1 => ?_)
  · exact kX11_takesSemicolon_14 X hDA hret (ifp c1 hf) hP hS (lv_sub hl [0] rfl)
  · exact kX11_takesSemicolon_8 X hDA hret (ifn c1 hf) hP hS (lv_sub hl [0] rfl)
theorem vX11_takesSemicolon {l : Launch} {dC : Nat → ClassId} {dI : Nat → Nat → Nat} {cI : ClassId} {ad : Nat → Nat} {M S1 : MS} {r : Int32} (hf : fX11_takesSemicolon M  = some (r, S1)) : gMetI l yX11_takesSemicolon cX11_takesSemicolon 1 (some .boolean) 4 (dC, dI) [(cI, .int)] (mW cI ad) [.ref (ad 25)] M r S1 := gEntryI (ty := .boolean) (by decide) rfl (bz_n hf) mW_fix (Nat.le_of_ble_eq_true rfl) (fun p e s m args below meth c A Q ls X hDA hP hS hret hl => 
  kX11_takesSemicolon_0 X hDA hret (bz_f hf) hP hS (lv_sub hl [0] rfl))
set_option maxRecDepth 10000 in
theorem kX11_takesKnown_41  {r : Int32} {S1 : MS} {M : MS} (X : gX p s m args c cX11_takesKnown 3 RX11 (dC, dI) [(cI, .int)] A) (hDA : ∀ S, va_D A ((mW cI ad) S)) (hret : gRetI p l e (rmL 4 0 0) s m args below meth c cX11_takesKnown (dC, dI) A (mW cI ad) Q r S1) (hf : fX11_takesKnown_41 M = some (r, S1)) {H : Heap} {locs : List Loc} {ls : Array Slot} (hP : va_P (dC, dI) vwCl ((mW cI ad) M) H) (hS : va_S A s.heap H locs) (hl : lv_has ls 3 [(0, .ref (ad 25))]) : W p l e (rmL 4 0 0) s m args below meth c H locs 0 0 Q (F0 m 41 ls []) := by
  have hx := X.hx
  have hb := X.hb
  have hown := X.hown
  have hts := X.hts
  rw [fX11_takesKnown_41] at hf
  refine lv_iconst (v := 1) hx hb dX11_takesKnown_41 (by decide) ?_
  cases hf
  exact hret _ _ _ _ dX11_takesKnown_42 hP hS
set_option maxRecDepth 10000 in
theorem kX11_takesKnown_37  {r : Int32} {S1 : MS} {M : MS} (X : gX p s m args c cX11_takesKnown 3 RX11 (dC, dI) [(cI, .int)] A) (hDA : ∀ S, va_D A ((mW cI ad) S)) (hret : gRetI p l e (rmL 4 0 0) s m args below meth c cX11_takesKnown (dC, dI) A (mW cI ad) Q r S1) (hf : fX11_takesKnown_37 M = some (r, S1)) {H : Heap} {locs : List Loc} {ls : Array Slot} (hP : va_P (dC, dI) vwCl ((mW cI ad) M) H) (hS : va_S A s.heap H locs) (hl : lv_has ls 3 [(0, .ref (ad 25))]) : W p l e (rmL 4 0 0) s m args below meth c H locs 0 0 Q (F0 m 37 ls []) := by
  have hx := X.hx
  have hb := X.hb
  have hown := X.hown
  have hts := X.hts
  rw [fX11_takesKnown_37] at hf
  refine lv_aload_n hx hb dX11_takesKnown_37 rfl (lv_at hl 0 rfl) ?_
  obtain ⟨q, hc, hf⟩ := bd hf
  refine gCallVV X hDA rfl (vX11_advanceToken hc) gRX11_X11_advanceToken hdX11_advanceToken rfl ⟨by decide, by decide⟩ hP hS (k0 := 0) (ci := 15) rfl rfl hl.1 (Nat.le_of_ble_eq_true rfl) ⟨Nat.le_refl _, Nat.le_refl _⟩ dX11_takesKnown_38 (As := []) (rest := []) rfl (fun H locs hP hS => ?_)
  exact kX11_takesKnown_41 X hDA hret hf hP hS (lv_sub hl [0] rfl)
set_option maxRecDepth 10000 in
theorem kX11_takesKnown_36  {r : Int32} {S1 : MS} {M : MS} {s0 : Int32} (X : gX p s m args c cX11_takesKnown 3 RX11 (dC, dI) [(cI, .int)] A) (hDA : ∀ S, va_D A ((mW cI ad) S)) (hret : gRetI p l e (rmL 4 0 0) s m args below meth c cX11_takesKnown (dC, dI) A (mW cI ad) Q r S1) (hf : fX11_takesKnown_36 M s0 = some (r, S1)) {H : Heap} {locs : List Loc} {ls : Array Slot} (hP : va_P (dC, dI) vwCl ((mW cI ad) M) H) (hS : va_S A s.heap H locs) (hl : lv_has ls 3 [(0, .ref (ad 25))]) : W p l e (rmL 4 0 0) s m args below meth c H locs 0 0 Q (F0 m 36 ls [.int s0]) := by
  have hx := X.hx
  have hb := X.hb
  have hown := X.hown
  have hts := X.hts
  rw [fX11_takesKnown_36] at hf
  cases hf
  exact hret _ _ _ _ dX11_takesKnown_36 hP hS
set_option maxRecDepth 10000 in
theorem kX11_takesKnown_31  {r : Int32} {S1 : MS} {M : MS} (X : gX p s m args c cX11_takesKnown 3 RX11 (dC, dI) [(cI, .int)] A) (hDA : ∀ S, va_D A ((mW cI ad) S)) (hret : gRetI p l e (rmL 4 0 0) s m args below meth c cX11_takesKnown (dC, dI) A (mW cI ad) Q r S1) (hf : fX11_takesKnown_31 M = some (r, S1)) {H : Heap} {locs : List Loc} {ls : Array Slot} (hP : va_P (dC, dI) vwCl ((mW cI ad) M) H) (hS : va_S A s.heap H locs) (hl : lv_has ls 3 [(0, .ref (ad 25))]) : W p l e (rmL 4 0 0) s m args below meth c H locs 0 0 Q (F0 m 31 ls []) := by
  have hx := X.hx
  have hb := X.hb
  have hown := X.hown
  have hts := X.hts
  rw [fX11_takesKnown_31] at hf
  refine lv_aload_n hx hb dX11_takesKnown_31 rfl (lv_at hl 0 rfl) ?_
  refine lv_iconst (v := 4) hx hb dX11_takesKnown_32 (by decide) ?_
  obtain ⟨q, hc, hf⟩ := bd hf
  refine gCallVI X hDA rfl (vX11_failsAt hc) gRX11_X11_failsAt hdX11_failsAt rfl ⟨by decide, by decide⟩ hP hS (k0 := 0) (ci := 15) rfl rfl hl.1 (Nat.le_of_ble_eq_true rfl) ⟨Nat.le_refl _, Nat.le_refl _⟩ dX11_takesKnown_33 (As := [.int 4]) (rest := []) rfl (fun H locs hP hS => ?_)
  exact kX11_takesKnown_36 X hDA hret hf hP hS (lv_sub hl [0] rfl)
set_option maxRecDepth 10000 in
theorem kX11_takesKnown_21  {r : Int32} {S1 : MS} {M : MS} (X : gX p s m args c cX11_takesKnown 3 RX11 (dC, dI) [(cI, .int)] A) (hDA : ∀ S, va_D A ((mW cI ad) S)) (hret : gRetI p l e (rmL 4 0 0) s m args below meth c cX11_takesKnown (dC, dI) A (mW cI ad) Q r S1) (hf : fX11_takesKnown_21 M = some (r, S1)) {H : Heap} {locs : List Loc} {ls : Array Slot} (hP : va_P (dC, dI) vwCl ((mW cI ad) M) H) (hS : va_S A s.heap H locs) (hl : lv_has ls 3 [(0, .ref (ad 25))]) : W p l e (rmL 4 0 0) s m args below meth c H locs 0 0 Q (F0 m 21 ls []) := by
  have hx := X.hx
  have hb := X.hb
  have hown := X.hown
  have hts := X.hts
  rw [fX11_takesKnown_21] at hf
  refine lv_aload_n hx hb dX11_takesKnown_21 rfl (lv_at hl 0 rfl) ?_
  refine mr_get (k := 19) X hP (by decide) rfl rfl tw1684 dX11_takesKnown_22 ?_
  refine lv_iconst (v := 0) hx hb dX11_takesKnown_25 (by decide) ?_
  obtain ⟨g1, hf⟩ := gd hf
  refine mr_ald (a := 19) X hP rfl g1 dX11_takesKnown_26 ?_
  refine lv_iconst (v := (-1)) hx hb dX11_takesKnown_27 (by decide) ?_
  refine lv_icmp_ne (tgt := 37) hx hb dX11_takesKnown_28 (by decide) (fun c1 => ?_) (fun c1 => ?_)
  · exact kX11_takesKnown_37 X hDA hret (ifn c1 hf) hP hS (lv_sub hl [0] rfl)
  · exact kX11_takesKnown_31 X hDA hret (ifp c1 hf) hP hS (lv_sub hl [0] rfl)
set_option maxRecDepth 10000 in
theorem kX11_takesKnown_20  {r : Int32} {S1 : MS} {M : MS} {s0 : Int32} {s1 : Int32} (X : gX p s m args c cX11_takesKnown 3 RX11 (dC, dI) [(cI, .int)] A) (hDA : ∀ S, va_D A ((mW cI ad) S)) (hret : gRetI p l e (rmL 4 0 0) s m args below meth c cX11_takesKnown (dC, dI) A (mW cI ad) Q r S1) (hf : fX11_takesKnown_20 M s0 s1 = some (r, S1)) {H : Heap} {locs : List Loc} {ls : Array Slot} (hP : va_P (dC, dI) vwCl ((mW cI ad) M) H) (hS : va_S A s.heap H locs) (hl : lv_has ls 3 [(0, .ref (ad 25))]) : W p l e (rmL 4 0 0) s m args below meth c H locs 0 0 Q (F0 m 20 ls [.int s0, .int s1, .ref (ad 19)]) := by
  have hx := X.hx
  have hb := X.hb
  have hown := X.hown
  have hts := X.hts
  rw [fX11_takesKnown_20] at hf
  obtain ⟨g1, hf⟩ := gd hf
  refine mr_ast (a := 19) X hDA hP hS rfl g1 dX11_takesKnown_20 (fun H locs hP hS => ?_)
  exact kX11_takesKnown_21 X hDA hret hf hP hS (lv_sub hl [0] rfl)
set_option maxRecDepth 10000 in
theorem kX11_takesKnown_9  {r : Int32} {S1 : MS} {M : MS} {x1 : Int32} {x2 : Int32} (X : gX p s m args c cX11_takesKnown 3 RX11 (dC, dI) [(cI, .int)] A) (hDA : ∀ S, va_D A ((mW cI ad) S)) (hret : gRetI p l e (rmL 4 0 0) s m args below meth c cX11_takesKnown (dC, dI) A (mW cI ad) Q r S1) (hf : fX11_takesKnown_9 M x1 x2 = some (r, S1)) {H : Heap} {locs : List Loc} {ls : Array Slot} (hP : va_P (dC, dI) vwCl ((mW cI ad) M) H) (hS : va_S A s.heap H locs) (hl : lv_has ls 3 [(0, .ref (ad 25)), (1, .int x1), (2, .int x2)]) : W p l e (rmL 4 0 0) s m args below meth c H locs 0 0 Q (F0 m 9 ls []) := by
  have hx := X.hx
  have hb := X.hb
  have hown := X.hown
  have hts := X.hts
  rw [fX11_takesKnown_9] at hf
  refine lv_aload_n hx hb dX11_takesKnown_9 rfl (lv_at hl 0 rfl) ?_
  refine mr_get (k := 19) X hP (by decide) rfl rfl tw1684 dX11_takesKnown_10 ?_
  refine lv_iconst (v := 0) hx hb dX11_takesKnown_13 (by decide) ?_
  refine lv_aload_n hx hb dX11_takesKnown_14 rfl (lv_at hl 0 rfl) ?_
  refine lv_iload_n hx hb dX11_takesKnown_15 rfl (lv_at hl 1 rfl) ?_
  refine lv_iload_n hx hb dX11_takesKnown_16 rfl (lv_at hl 2 rfl) ?_
  obtain ⟨q, hc, hf⟩ := bd hf
  refine gCallVI X hDA rfl (vX11_nameHere hc) gRX11_X11_nameHere hdX11_nameHere rfl ⟨by decide, by decide⟩ hP hS (k0 := 0) (ci := 15) rfl rfl hl.1 (Nat.le_of_ble_eq_true rfl) ⟨Nat.le_refl _, Nat.le_refl _⟩ dX11_takesKnown_17 (As := [.int x1, .int x2]) (rest := [.int 0, .ref (ad 19)]) rfl (fun H locs hP hS => ?_)
  exact kX11_takesKnown_20 X hDA hret hf hP hS (lv_sub hl [0] rfl)
set_option maxRecDepth 10000 in
theorem kX11_takesKnown_7  {r : Int32} {S1 : MS} {M : MS} (X : gX p s m args c cX11_takesKnown 3 RX11 (dC, dI) [(cI, .int)] A) (hDA : ∀ S, va_D A ((mW cI ad) S)) (hret : gRetI p l e (rmL 4 0 0) s m args below meth c cX11_takesKnown (dC, dI) A (mW cI ad) Q r S1) (hf : fX11_takesKnown_7 M = some (r, S1)) {H : Heap} {locs : List Loc} {ls : Array Slot} (hP : va_P (dC, dI) vwCl ((mW cI ad) M) H) (hS : va_S A s.heap H locs) (hl : lv_has ls 3 [(0, .ref (ad 25))]) : W p l e (rmL 4 0 0) s m args below meth c H locs 0 0 Q (F0 m 7 ls []) := by
  have hx := X.hx
  have hb := X.hb
  have hown := X.hown
  have hts := X.hts
  rw [fX11_takesKnown_7] at hf
  refine lv_iconst (v := 0) hx hb dX11_takesKnown_7 (by decide) ?_
  cases hf
  exact hret _ _ _ _ dX11_takesKnown_8 hP hS
set_option maxRecDepth 10000 in
theorem kX11_takesKnown_4  {r : Int32} {S1 : MS} {M : MS} {x1 : Int32} {x2 : Int32} {s0 : Int32} (X : gX p s m args c cX11_takesKnown 3 RX11 (dC, dI) [(cI, .int)] A) (hDA : ∀ S, va_D A ((mW cI ad) S)) (hret : gRetI p l e (rmL 4 0 0) s m args below meth c cX11_takesKnown (dC, dI) A (mW cI ad) Q r S1) (hf : fX11_takesKnown_4 M x1 x2 s0 = some (r, S1)) {H : Heap} {locs : List Loc} {ls : Array Slot} (hP : va_P (dC, dI) vwCl ((mW cI ad) M) H) (hS : va_S A s.heap H locs) (hl : lv_has ls 3 [(0, .ref (ad 25)), (1, .int x1), (2, .int x2)]) : W p l e (rmL 4 0 0) s m args below meth c H locs 0 0 Q (F0 m 4 ls [.int s0]) := by
  have hx := X.hx
  have hb := X.hb
  have hown := X.hown
  have hts := X.hts
  rw [fX11_takesKnown_4] at hf
  refine lv_if_ne (tgt := 9) hx hb dX11_takesKnown_4 (by decide) (fun c1 => ?_) (fun c1 => ?_)
  · exact kX11_takesKnown_9 X hDA hret (ifn c1 hf) hP hS (lv_sub hl [0, 1, 2] rfl)
  · exact kX11_takesKnown_7 X hDA hret (ifp c1 hf) hP hS (lv_sub hl [0] rfl)
set_option maxRecDepth 10000 in
theorem kX11_takesKnown_0  {r : Int32} {S1 : MS} {M : MS} {a1 : Int32} {a2 : Int32} (X : gX p s m args c cX11_takesKnown 3 RX11 (dC, dI) [(cI, .int)] A) (hDA : ∀ S, va_D A ((mW cI ad) S)) (hret : gRetI p l e (rmL 4 0 0) s m args below meth c cX11_takesKnown (dC, dI) A (mW cI ad) Q r S1) (hf : fX11_takesKnown_0 M a1 a2 = some (r, S1)) {H : Heap} {locs : List Loc} {ls : Array Slot} (hP : va_P (dC, dI) vwCl ((mW cI ad) M) H) (hS : va_S A s.heap H locs) (hl : lv_has ls 3 [(0, .ref (ad 25)), (1, .int a1), (2, .int a2)]) : W p l e (rmL 4 0 0) s m args below meth c H locs 0 0 Q (F0 m 0 ls []) := by
  have hx := X.hx
  have hb := X.hb
  have hown := X.hown
  have hts := X.hts
  rw [fX11_takesKnown_0] at hf
  refine lv_aload_n hx hb dX11_takesKnown_0 rfl (lv_at hl 0 rfl) ?_
  obtain ⟨q, hc, hf⟩ := bd hf
  refine gCallVI X hDA rfl (vX11_seesName hc) gRX11_X11_seesName hdX11_seesName rfl ⟨by decide, by decide⟩ hP hS (k0 := 0) (ci := 15) rfl rfl hl.1 (Nat.le_of_ble_eq_true rfl) ⟨Nat.le_refl _, Nat.le_refl _⟩ dX11_takesKnown_1 (As := []) (rest := []) rfl (fun H locs hP hS => ?_)
  exact kX11_takesKnown_4 X hDA hret hf hP hS (lv_sub hl [0, 1, 2] rfl)
theorem vX11_takesKnown {l : Launch} {dC : Nat → ClassId} {dI : Nat → Nat → Nat} {cI : ClassId} {ad : Nat → Nat} {M S1 : MS} {r : Int32} {a1 : Int32} {a2 : Int32} (hf : fX11_takesKnown M a1 a2 = some (r, S1)) : gMetI l yX11_takesKnown cX11_takesKnown 3 (some .boolean) 4 (dC, dI) [(cI, .int)] (mW cI ad) [.ref (ad 25), .int a1, .int a2] M r S1 := gEntryI (ty := .boolean) (by decide) rfl (bz_n hf) mW_fix (Nat.le_of_ble_eq_true rfl) (fun p e s m args below meth c A Q ls X hDA hP hS hret hl => 
  kX11_takesKnown_0 X hDA hret (bz_f hf) hP hS (lv_sub hl [0, 1, 2] rfl))
set_option maxRecDepth 10000 in
theorem kX11_takesNewName_113  {r : Int32} {S1 : MS} {M : MS} (X : gX p s m args c cX11_takesNewName 5 RX11 (dC, dI) [(cI, .int)] A) (hDA : ∀ S, va_D A ((mW cI ad) S)) (hret : gRetI p l e (rmL 4 0 0) s m args below meth c cX11_takesNewName (dC, dI) A (mW cI ad) Q r S1) (hf : fX11_takesNewName_113 M = some (r, S1)) {H : Heap} {locs : List Loc} {ls : Array Slot} (hP : va_P (dC, dI) vwCl ((mW cI ad) M) H) (hS : va_S A s.heap H locs) (hl : lv_has ls 5 [(0, .ref (ad 25))]) : W p l e (rmL 4 0 0) s m args below meth c H locs 0 0 Q (F0 m 113 ls []) := by
  have hx := X.hx
  have hb := X.hb
  have hown := X.hown
  have hts := X.hts
  rw [fX11_takesNewName_113] at hf
  refine lv_iconst (v := 1) hx hb dX11_takesNewName_113 (by decide) ?_
  cases hf
  exact hret _ _ _ _ dX11_takesNewName_114 hP hS
set_option maxRecDepth 10000 in
theorem kX11_takesNewName_109  {r : Int32} {S1 : MS} {M : MS} (X : gX p s m args c cX11_takesNewName 5 RX11 (dC, dI) [(cI, .int)] A) (hDA : ∀ S, va_D A ((mW cI ad) S)) (hret : gRetI p l e (rmL 4 0 0) s m args below meth c cX11_takesNewName (dC, dI) A (mW cI ad) Q r S1) (hf : fX11_takesNewName_109 M = some (r, S1)) {H : Heap} {locs : List Loc} {ls : Array Slot} (hP : va_P (dC, dI) vwCl ((mW cI ad) M) H) (hS : va_S A s.heap H locs) (hl : lv_has ls 5 [(0, .ref (ad 25))]) : W p l e (rmL 4 0 0) s m args below meth c H locs 0 0 Q (F0 m 109 ls []) := by
  have hx := X.hx
  have hb := X.hb
  have hown := X.hown
  have hts := X.hts
  rw [fX11_takesNewName_109] at hf
  refine lv_aload_n hx hb dX11_takesNewName_109 rfl (lv_at hl 0 rfl) ?_
  obtain ⟨q, hc, hf⟩ := bd hf
  refine gCallVV X hDA rfl (vX11_advanceToken hc) gRX11_X11_advanceToken hdX11_advanceToken rfl ⟨by decide, by decide⟩ hP hS (k0 := 0) (ci := 15) rfl rfl hl.1 (Nat.le_of_ble_eq_true rfl) ⟨Nat.le_refl _, Nat.le_refl _⟩ dX11_takesNewName_110 (As := []) (rest := []) rfl (fun H locs hP hS => ?_)
  exact kX11_takesNewName_113 X hDA hret hf hP hS (lv_sub hl [0] rfl)
set_option maxRecDepth 10000 in
theorem kX11_takesNewName_94  {r : Int32} {S1 : MS} {M : MS} (X : gX p s m args c cX11_takesNewName 5 RX11 (dC, dI) [(cI, .int)] A) (hDA : ∀ S, va_D A ((mW cI ad) S)) (hret : gRetI p l e (rmL 4 0 0) s m args below meth c cX11_takesNewName (dC, dI) A (mW cI ad) Q r S1) (hf : fX11_takesNewName_94 M = some (r, S1)) {H : Heap} {locs : List Loc} {ls : Array Slot} (hP : va_P (dC, dI) vwCl ((mW cI ad) M) H) (hS : va_S A s.heap H locs) (hl : lv_has ls 5 [(0, .ref (ad 25))]) : W p l e (rmL 4 0 0) s m args below meth c H locs 0 0 Q (F0 m 94 ls []) := by
  have hx := X.hx
  have hb := X.hb
  have hown := X.hown
  have hts := X.hts
  rw [fX11_takesNewName_94] at hf
  refine lv_aload_n hx hb dX11_takesNewName_94 rfl (lv_at hl 0 rfl) ?_
  refine mr_get (k := 19) X hP (by decide) rfl rfl tw1684 dX11_takesNewName_95 ?_
  refine lv_iconst (v := 3) hx hb dX11_takesNewName_98 (by decide) ?_
  refine lv_aload_n hx hb dX11_takesNewName_99 rfl (lv_at hl 0 rfl) ?_
  refine mr_get (k := 14) X hP (by decide) rfl rfl tw1679 dX11_takesNewName_100 ?_
  refine lv_aload_n hx hb dX11_takesNewName_103 rfl (lv_at hl 0 rfl) ?_
  refine mr_get (k := 15) X hP (by decide) rfl rfl tw1680 dX11_takesNewName_104 ?_
  refine lv_isub hx hb dX11_takesNewName_107 ?_
  obtain ⟨g1, hf⟩ := gd hf
  refine mr_ast (a := 19) X hDA hP hS rfl g1 dX11_takesNewName_108 (fun H locs hP hS => ?_)
  exact kX11_takesNewName_109 X hDA hret hf hP hS (lv_sub hl [0] rfl)
set_option maxRecDepth 10000 in
theorem kX11_takesNewName_88  {r : Int32} {S1 : MS} {K40 : MS → Int32 → Int32 → Option (Int32 × MS)} {M : MS} {x3 : Int32} {x4 : Int32} (X : gX p s m args c cX11_takesNewName 5 RX11 (dC, dI) [(cI, .int)] A) (hDA : ∀ S, va_D A ((mW cI ad) S)) (hret : gRetI p l e (rmL 4 0 0) s m args below meth c cX11_takesNewName (dC, dI) A (mW cI ad) Q r S1) (hK40 : ∀ (M : MS) (x3 : Int32) (x4 : Int32) (H : Heap) (locs : List Loc) (ls : Array Slot), K40 M x3 x4 = some (r, S1) → va_P (dC, dI) vwCl ((mW cI ad) M) H → va_S A s.heap H locs → lv_has ls 5 [(0, .ref (ad 25)), (3, .int x3), (4, .int x4)] → W p l e (rmL 4 0 0) s m args below meth c H locs 0 0 Q (F0 m 40 ls [])) (hf : fX11_takesNewName_88 K40 M x3 x4 = some (r, S1)) {H : Heap} {locs : List Loc} {ls : Array Slot} (hP : va_P (dC, dI) vwCl ((mW cI ad) M) H) (hS : va_S A s.heap H locs) (hl : lv_has ls 5 [(0, .ref (ad 25)), (3, .int x3), (4, .int x4)]) : W p l e (rmL 4 0 0) s m args below meth c H locs 0 0 Q (F0 m 88 ls []) := by
  have hx := X.hx
  have hb := X.hb
  have hown := X.hown
  have hts := X.hts
  rw [fX11_takesNewName_88] at hf
  refine lv_iinc (v := (x4 + 1)) (lv' := [(4, .int (x4 + 1)), (0, .ref (ad 25)), (3, .int x3)]) hx hb dX11_takesNewName_88 hl (k := 2) rfl (by rfl) (by decide) rfl (fun ls hl => ?_)
  refine lv_goto (tgt := 40) hx hb dX11_takesNewName_91 (by decide) ?_
  exact hK40 _ _ _ _ _ _ hf hP hS (lv_sub hl [1, 2, 0] rfl)
set_option maxRecDepth 10000 in
theorem kX11_takesNewName_87  {r : Int32} {S1 : MS} {K40 : MS → Int32 → Int32 → Option (Int32 × MS)} {M : MS} {x3 : Int32} {x4 : Int32} {s0 : Int32} {s1 : Int32} (X : gX p s m args c cX11_takesNewName 5 RX11 (dC, dI) [(cI, .int)] A) (hDA : ∀ S, va_D A ((mW cI ad) S)) (hret : gRetI p l e (rmL 4 0 0) s m args below meth c cX11_takesNewName (dC, dI) A (mW cI ad) Q r S1) (hK40 : ∀ (M : MS) (x3 : Int32) (x4 : Int32) (H : Heap) (locs : List Loc) (ls : Array Slot), K40 M x3 x4 = some (r, S1) → va_P (dC, dI) vwCl ((mW cI ad) M) H → va_S A s.heap H locs → lv_has ls 5 [(0, .ref (ad 25)), (3, .int x3), (4, .int x4)] → W p l e (rmL 4 0 0) s m args below meth c H locs 0 0 Q (F0 m 40 ls [])) (hf : fX11_takesNewName_87 K40 M x3 x4 s0 s1 = some (r, S1)) {H : Heap} {locs : List Loc} {ls : Array Slot} (hP : va_P (dC, dI) vwCl ((mW cI ad) M) H) (hS : va_S A s.heap H locs) (hl : lv_has ls 5 [(0, .ref (ad 25)), (3, .int x3), (4, .int x4)]) : W p l e (rmL 4 0 0) s m args below meth c H locs 0 0 Q (F0 m 87 ls [.int s0, .int s1, .ref (ad 0)]) := by
  have hx := X.hx
  have hb := X.hb
  have hown := X.hown
  have hts := X.hts
  rw [fX11_takesNewName_87] at hf
  obtain ⟨g1, hf⟩ := gd hf
  refine mr_ast (a := 0) X hDA hP hS rfl g1 dX11_takesNewName_87 (fun H locs hP hS => ?_)
  exact kX11_takesNewName_88 X hDA hret hK40 hf hP hS (lv_sub hl [0, 1, 2] rfl)
set_option maxRecDepth 10000 in
theorem kX11_takesNewName_86  {r : Int32} {S1 : MS} {K40 : MS → Int32 → Int32 → Option (Int32 × MS)} {M : MS} {x3 : Int32} {x4 : Int32} {s0 : Int32} (X : gX p s m args c cX11_takesNewName 5 RX11 (dC, dI) [(cI, .int)] A) (hDA : ∀ S, va_D A ((mW cI ad) S)) (hret : gRetI p l e (rmL 4 0 0) s m args below meth c cX11_takesNewName (dC, dI) A (mW cI ad) Q r S1) (hK40 : ∀ (M : MS) (x3 : Int32) (x4 : Int32) (H : Heap) (locs : List Loc) (ls : Array Slot), K40 M x3 x4 = some (r, S1) → va_P (dC, dI) vwCl ((mW cI ad) M) H → va_S A s.heap H locs → lv_has ls 5 [(0, .ref (ad 25)), (3, .int x3), (4, .int x4)] → W p l e (rmL 4 0 0) s m args below meth c H locs 0 0 Q (F0 m 40 ls [])) (hf : fX11_takesNewName_86 K40 M x3 x4 s0 = some (r, S1)) {H : Heap} {locs : List Loc} {ls : Array Slot} (hP : va_P (dC, dI) vwCl ((mW cI ad) M) H) (hS : va_S A s.heap H locs) (hl : lv_has ls 5 [(0, .ref (ad 25)), (3, .int x3), (4, .int x4)]) : W p l e (rmL 4 0 0) s m args below meth c H locs 0 0 Q (F0 m 86 ls [.int s0, .ref (ad 0)]) := by
  have hx := X.hx
  have hb := X.hb
  have hown := X.hown
  have hts := X.hts
  rw [fX11_takesNewName_86] at hf
  refine lv_iconst (v := 0) hx hb dX11_takesNewName_86 (by decide) ?_
  exact kX11_takesNewName_87 X hDA hret hK40 hf hP hS (lv_sub hl [0, 1, 2] rfl)
set_option maxRecDepth 10000 in
theorem kX11_takesNewName_71  {r : Int32} {S1 : MS} {K40 : MS → Int32 → Int32 → Option (Int32 × MS)} {M : MS} {x3 : Int32} {x4 : Int32} {s0 : Int32} (X : gX p s m args c cX11_takesNewName 5 RX11 (dC, dI) [(cI, .int)] A) (hDA : ∀ S, va_D A ((mW cI ad) S)) (hret : gRetI p l e (rmL 4 0 0) s m args below meth c cX11_takesNewName (dC, dI) A (mW cI ad) Q r S1) (hK40 : ∀ (M : MS) (x3 : Int32) (x4 : Int32) (H : Heap) (locs : List Loc) (ls : Array Slot), K40 M x3 x4 = some (r, S1) → va_P (dC, dI) vwCl ((mW cI ad) M) H → va_S A s.heap H locs → lv_has ls 5 [(0, .ref (ad 25)), (3, .int x3), (4, .int x4)] → W p l e (rmL 4 0 0) s m args below meth c H locs 0 0 Q (F0 m 40 ls [])) (hf : fX11_takesNewName_71 K40 M x3 x4 s0 = some (r, S1)) {H : Heap} {locs : List Loc} {ls : Array Slot} (hP : va_P (dC, dI) vwCl ((mW cI ad) M) H) (hS : va_S A s.heap H locs) (hl : lv_has ls 5 [(0, .ref (ad 25)), (3, .int x3), (4, .int x4)]) : W p l e (rmL 4 0 0) s m args below meth c H locs 0 0 Q (F0 m 71 ls [.int s0, .ref (ad 0)]) := by
  have hx := X.hx
  have hb := X.hb
  have hown := X.hown
  have hts := X.hts
  rw [fX11_takesNewName_71] at hf
  refine lv_aload_n hx hb dX11_takesNewName_71 rfl (lv_at hl 0 rfl) ?_
  refine mr_get (k := 8) X hP (by decide) rfl rfl tw1673 dX11_takesNewName_72 ?_
  refine lv_aload_n hx hb dX11_takesNewName_75 rfl (lv_at hl 0 rfl) ?_
  refine mr_get (k := 15) X hP (by decide) rfl rfl tw1680 dX11_takesNewName_76 ?_
  refine lv_iload hx hb dX11_takesNewName_79 (lv_at hl 2 rfl) ?_
  refine lv_iadd hx hb dX11_takesNewName_81 ?_
  obtain ⟨g1, hf⟩ := gd hf
  refine mr_ald (a := 8) X hP rfl g1 dX11_takesNewName_82 ?_
  refine lv_goto (tgt := 87) hx hb dX11_takesNewName_83 (by decide) ?_
  exact kX11_takesNewName_87 X hDA hret hK40 hf hP hS (lv_sub hl [0, 1, 2] rfl)
set_option maxRecDepth 10000 in
theorem kX11_takesNewName_47  {r : Int32} {S1 : MS} {K40 : MS → Int32 → Int32 → Option (Int32 × MS)} {M : MS} {x3 : Int32} {x4 : Int32} (X : gX p s m args c cX11_takesNewName 5 RX11 (dC, dI) [(cI, .int)] A) (hDA : ∀ S, va_D A ((mW cI ad) S)) (hret : gRetI p l e (rmL 4 0 0) s m args below meth c cX11_takesNewName (dC, dI) A (mW cI ad) Q r S1) (hK40 : ∀ (M : MS) (x3 : Int32) (x4 : Int32) (H : Heap) (locs : List Loc) (ls : Array Slot), K40 M x3 x4 = some (r, S1) → va_P (dC, dI) vwCl ((mW cI ad) M) H → va_S A s.heap H locs → lv_has ls 5 [(0, .ref (ad 25)), (3, .int x3), (4, .int x4)] → W p l e (rmL 4 0 0) s m args below meth c H locs 0 0 Q (F0 m 40 ls [])) (hf : fX11_takesNewName_47 K40 M x3 x4 = some (r, S1)) {H : Heap} {locs : List Loc} {ls : Array Slot} (hP : va_P (dC, dI) vwCl ((mW cI ad) M) H) (hS : va_S A s.heap H locs) (hl : lv_has ls 5 [(0, .ref (ad 25)), (3, .int x3), (4, .int x4)]) : W p l e (rmL 4 0 0) s m args below meth c H locs 0 0 Q (F0 m 47 ls []) := by
  have hx := X.hx
  have hb := X.hb
  have hown := X.hown
  have hts := X.hts
  rw [fX11_takesNewName_47] at hf
  refine lv_aload_n hx hb dX11_takesNewName_47 rfl (lv_at hl 0 rfl) ?_
  refine mr_get (k := 0) X hP (by decide) rfl rfl tw1665 dX11_takesNewName_48 ?_
  refine lv_iload_n hx hb dX11_takesNewName_51 rfl (lv_at hl 1 rfl) ?_
  refine lv_iconst (v := 1) hx hb dX11_takesNewName_52 (by decide) ?_
  refine lv_iadd hx hb dX11_takesNewName_53 ?_
  refine lv_iload hx hb dX11_takesNewName_54 (lv_at hl 2 rfl) ?_
  refine lv_iadd hx hb dX11_takesNewName_56 ?_
  refine lv_iload hx hb dX11_takesNewName_57 (lv_at hl 2 rfl) ?_
  refine lv_aload_n hx hb dX11_takesNewName_59 rfl (lv_at hl 0 rfl) ?_
  refine mr_get (k := 14) X hP (by decide) rfl rfl tw1679 dX11_takesNewName_60 ?_
  refine lv_aload_n hx hb dX11_takesNewName_63 rfl (lv_at hl 0 rfl) ?_
  refine mr_get (k := 15) X hP (by decide) rfl rfl tw1680 dX11_takesNewName_64 ?_
  refine lv_isub hx hb dX11_takesNewName_67 ?_
  refine lv_icmp_ge (tgt := 86) hx hb dX11_takesNewName_68 (by decide) (fun c1 => ?_) (fun c1 => ?_)
  · exact kX11_takesNewName_86 X hDA hret hK40 (ifp c1 hf) hP hS (lv_sub hl [0, 1, 2] rfl)
  · exact kX11_takesNewName_71 X hDA hret hK40 (ifn c1 hf) hP hS (lv_sub hl [0, 1, 2] rfl)
set_option maxRecDepth 10000 in
theorem kX11_takesNewName_40  {r : Int32} {S1 : MS} (X : gX p s m args c cX11_takesNewName 5 RX11 (dC, dI) [(cI, .int)] A) (hDA : ∀ S, va_D A ((mW cI ad) S)) (hret : gRetI p l e (rmL 4 0 0) s m args below meth c cX11_takesNewName (dC, dI) A (mW cI ad) Q r S1)  : ∀ (n : Nat) (M : MS) (x3 : Int32) (x4 : Int32) (H : Heap) (locs : List Loc) (ls : Array Slot), fX11_takesNewName_40 n M x3 x4 = some (r, S1) → va_P (dC, dI) vwCl ((mW cI ad) M) H → va_S A s.heap H locs → lv_has ls 5 [(0, .ref (ad 25)), (3, .int x3), (4, .int x4)] → W p l e (rmL 4 0 0) s m args below meth c H locs 0 0 Q (F0 m 40 ls []) := by
  intro n
  induction n with
  | zero => intro M x3 x4 H locs ls hf; cases hf
  | succ k ih =>
    intro M x3 x4 H locs ls hf hP hS hl
    have hx := X.hx
    have hb := X.hb
    have hown := X.hown
    have hts := X.hts
    rw [fX11_takesNewName_40] at hf
    try dsimp only at hf
    refine lv_iload hx hb dX11_takesNewName_40 (lv_at hl 2 rfl) ?_
    refine lv_bipush (v := 6) hx hb dX11_takesNewName_42 (by decide) ?_
    refine lv_icmp_ge (tgt := 94) hx hb dX11_takesNewName_44 (by decide) (fun c1 => ?_) (fun c1 => ?_)
    · exact kX11_takesNewName_94 X hDA hret (ifp c1 hf) hP hS (lv_sub hl [0] rfl)
    · exact kX11_takesNewName_47 X hDA hret ih (ifn c1 hf) hP hS (lv_sub hl [0, 1, 2] rfl)
set_option maxRecDepth 10000 in
theorem kX11_takesNewName_25  {r : Int32} {S1 : MS} {M : MS} {x1 : Int32} {x2 : Int32} (X : gX p s m args c cX11_takesNewName 5 RX11 (dC, dI) [(cI, .int)] A) (hDA : ∀ S, va_D A ((mW cI ad) S)) (hret : gRetI p l e (rmL 4 0 0) s m args below meth c cX11_takesNewName (dC, dI) A (mW cI ad) Q r S1) (hf : fX11_takesNewName_25 M x1 x2 = some (r, S1)) {H : Heap} {locs : List Loc} {ls : Array Slot} (hP : va_P (dC, dI) vwCl ((mW cI ad) M) H) (hS : va_S A s.heap H locs) (hl : lv_has ls 5 [(0, .ref (ad 25)), (1, .int x1), (2, .int x2)]) : W p l e (rmL 4 0 0) s m args below meth c H locs 0 0 Q (F0 m 25 ls []) := by
  have hx := X.hx
  have hb := X.hb
  have hown := X.hown
  have hts := X.hts
  rw [fX11_takesNewName_25] at hf
  refine lv_iload_n hx hb dX11_takesNewName_25 rfl (lv_at hl 1 rfl) ?_
  refine lv_bipush (v := 12) hx hb dX11_takesNewName_26 (by decide) ?_
  refine lv_aload_n hx hb dX11_takesNewName_28 rfl (lv_at hl 0 rfl) ?_
  refine mr_get (k := 0) X hP (by decide) rfl rfl tw1665 dX11_takesNewName_29 ?_
  refine lv_iload_n hx hb dX11_takesNewName_32 rfl (lv_at hl 2 rfl) ?_
  obtain ⟨g1, hf⟩ := gd hf
  refine mr_ald (a := 0) X hP rfl g1 dX11_takesNewName_33 ?_
  refine lv_imul hx hb dX11_takesNewName_34 ?_
  refine lv_iadd hx hb dX11_takesNewName_35 ?_
  refine lv_istore_n (lv' := [(3, .int (x1 + (12 * (M.2 0 x2.toNatClampNeg)))), (0, .ref (ad 25)), (1, .int x1), (2, .int x2)]) hx hb dX11_takesNewName_36 rfl hl (by decide) rfl (fun ls hl => ?_)
  refine lv_iconst (v := 0) hx hb dX11_takesNewName_37 (by decide) ?_
  refine lv_istore (lv' := [(4, .int 0), (3, .int (x1 + (12 * (M.2 0 x2.toNatClampNeg)))), (0, .ref (ad 25)), (1, .int x1), (2, .int x2)]) hx hb dX11_takesNewName_38 hl (by decide) rfl (fun ls hl => ?_)
  exact kX11_takesNewName_40 X hDA hret FU _ _ _ _ _ _ hf hP hS (lv_sub hl [2, 1, 0] rfl)
set_option maxRecDepth 10000 in
theorem kX11_takesNewName_24  {r : Int32} {S1 : MS} {M : MS} {s0 : Int32} (X : gX p s m args c cX11_takesNewName 5 RX11 (dC, dI) [(cI, .int)] A) (hDA : ∀ S, va_D A ((mW cI ad) S)) (hret : gRetI p l e (rmL 4 0 0) s m args below meth c cX11_takesNewName (dC, dI) A (mW cI ad) Q r S1) (hf : fX11_takesNewName_24 M s0 = some (r, S1)) {H : Heap} {locs : List Loc} {ls : Array Slot} (hP : va_P (dC, dI) vwCl ((mW cI ad) M) H) (hS : va_S A s.heap H locs) (hl : lv_has ls 5 [(0, .ref (ad 25))]) : W p l e (rmL 4 0 0) s m args below meth c H locs 0 0 Q (F0 m 24 ls [.int s0]) := by
  have hx := X.hx
  have hb := X.hb
  have hown := X.hown
  have hts := X.hts
  rw [fX11_takesNewName_24] at hf
  cases hf
  exact hret _ _ _ _ dX11_takesNewName_24 hP hS
set_option maxRecDepth 10000 in
theorem kX11_takesNewName_19  {r : Int32} {S1 : MS} {M : MS} (X : gX p s m args c cX11_takesNewName 5 RX11 (dC, dI) [(cI, .int)] A) (hDA : ∀ S, va_D A ((mW cI ad) S)) (hret : gRetI p l e (rmL 4 0 0) s m args below meth c cX11_takesNewName (dC, dI) A (mW cI ad) Q r S1) (hf : fX11_takesNewName_19 M = some (r, S1)) {H : Heap} {locs : List Loc} {ls : Array Slot} (hP : va_P (dC, dI) vwCl ((mW cI ad) M) H) (hS : va_S A s.heap H locs) (hl : lv_has ls 5 [(0, .ref (ad 25))]) : W p l e (rmL 4 0 0) s m args below meth c H locs 0 0 Q (F0 m 19 ls []) := by
  have hx := X.hx
  have hb := X.hb
  have hown := X.hown
  have hts := X.hts
  rw [fX11_takesNewName_19] at hf
  refine lv_aload_n hx hb dX11_takesNewName_19 rfl (lv_at hl 0 rfl) ?_
  refine lv_iconst (v := 3) hx hb dX11_takesNewName_20 (by decide) ?_
  obtain ⟨q, hc, hf⟩ := bd hf
  refine gCallVI X hDA rfl (vX11_failsAt hc) gRX11_X11_failsAt hdX11_failsAt rfl ⟨by decide, by decide⟩ hP hS (k0 := 0) (ci := 15) rfl rfl hl.1 (Nat.le_of_ble_eq_true rfl) ⟨Nat.le_refl _, Nat.le_refl _⟩ dX11_takesNewName_21 (As := [.int 3]) (rest := []) rfl (fun H locs hP hS => ?_)
  exact kX11_takesNewName_24 X hDA hret hf hP hS (lv_sub hl [0] rfl)
set_option maxRecDepth 10000 in
theorem kX11_takesNewName_15  {r : Int32} {S1 : MS} {M : MS} {x1 : Int32} {x2 : Int32} {s0 : Int32} (X : gX p s m args c cX11_takesNewName 5 RX11 (dC, dI) [(cI, .int)] A) (hDA : ∀ S, va_D A ((mW cI ad) S)) (hret : gRetI p l e (rmL 4 0 0) s m args below meth c cX11_takesNewName (dC, dI) A (mW cI ad) Q r S1) (hf : fX11_takesNewName_15 M x1 x2 s0 = some (r, S1)) {H : Heap} {locs : List Loc} {ls : Array Slot} (hP : va_P (dC, dI) vwCl ((mW cI ad) M) H) (hS : va_S A s.heap H locs) (hl : lv_has ls 5 [(0, .ref (ad 25)), (1, .int x1), (2, .int x2)]) : W p l e (rmL 4 0 0) s m args below meth c H locs 0 0 Q (F0 m 15 ls [.int s0]) := by
  have hx := X.hx
  have hb := X.hb
  have hown := X.hown
  have hts := X.hts
  rw [fX11_takesNewName_15] at hf
  refine lv_iconst (v := (-1)) hx hb dX11_takesNewName_15 (by decide) ?_
  refine lv_icmp_eq (tgt := 25) hx hb dX11_takesNewName_16 (by decide) (fun c1 => ?_) (fun c1 => ?_)
  · exact kX11_takesNewName_25 X hDA hret (ifp c1 hf) hP hS (lv_sub hl [0, 1, 2] rfl)
  · exact kX11_takesNewName_19 X hDA hret (ifn c1 hf) hP hS (lv_sub hl [0] rfl)
set_option maxRecDepth 10000 in
theorem kX11_takesNewName_9  {r : Int32} {S1 : MS} {M : MS} {x1 : Int32} {x2 : Int32} (X : gX p s m args c cX11_takesNewName 5 RX11 (dC, dI) [(cI, .int)] A) (hDA : ∀ S, va_D A ((mW cI ad) S)) (hret : gRetI p l e (rmL 4 0 0) s m args below meth c cX11_takesNewName (dC, dI) A (mW cI ad) Q r S1) (hf : fX11_takesNewName_9 M x1 x2 = some (r, S1)) {H : Heap} {locs : List Loc} {ls : Array Slot} (hP : va_P (dC, dI) vwCl ((mW cI ad) M) H) (hS : va_S A s.heap H locs) (hl : lv_has ls 5 [(0, .ref (ad 25)), (1, .int x1), (2, .int x2)]) : W p l e (rmL 4 0 0) s m args below meth c H locs 0 0 Q (F0 m 9 ls []) := by
  have hx := X.hx
  have hb := X.hb
  have hown := X.hown
  have hts := X.hts
  rw [fX11_takesNewName_9] at hf
  refine lv_aload_n hx hb dX11_takesNewName_9 rfl (lv_at hl 0 rfl) ?_
  refine lv_iload_n hx hb dX11_takesNewName_10 rfl (lv_at hl 1 rfl) ?_
  refine lv_iload_n hx hb dX11_takesNewName_11 rfl (lv_at hl 2 rfl) ?_
  obtain ⟨q, hc, hf⟩ := bd hf
  refine gCallVI X hDA rfl (vX11_nameHere hc) gRX11_X11_nameHere hdX11_nameHere rfl ⟨by decide, by decide⟩ hP hS (k0 := 0) (ci := 15) rfl rfl hl.1 (Nat.le_of_ble_eq_true rfl) ⟨Nat.le_refl _, Nat.le_refl _⟩ dX11_takesNewName_12 (As := [.int x1, .int x2]) (rest := []) rfl (fun H locs hP hS => ?_)
  exact kX11_takesNewName_15 X hDA hret hf hP hS (lv_sub hl [0, 1, 2] rfl)
set_option maxRecDepth 10000 in
theorem kX11_takesNewName_7  {r : Int32} {S1 : MS} {M : MS} (X : gX p s m args c cX11_takesNewName 5 RX11 (dC, dI) [(cI, .int)] A) (hDA : ∀ S, va_D A ((mW cI ad) S)) (hret : gRetI p l e (rmL 4 0 0) s m args below meth c cX11_takesNewName (dC, dI) A (mW cI ad) Q r S1) (hf : fX11_takesNewName_7 M = some (r, S1)) {H : Heap} {locs : List Loc} {ls : Array Slot} (hP : va_P (dC, dI) vwCl ((mW cI ad) M) H) (hS : va_S A s.heap H locs) (hl : lv_has ls 5 [(0, .ref (ad 25))]) : W p l e (rmL 4 0 0) s m args below meth c H locs 0 0 Q (F0 m 7 ls []) := by
  have hx := X.hx
  have hb := X.hb
  have hown := X.hown
  have hts := X.hts
  rw [fX11_takesNewName_7] at hf
  refine lv_iconst (v := 0) hx hb dX11_takesNewName_7 (by decide) ?_
  cases hf
  exact hret _ _ _ _ dX11_takesNewName_8 hP hS
set_option maxRecDepth 10000 in
theorem kX11_takesNewName_4  {r : Int32} {S1 : MS} {M : MS} {x1 : Int32} {x2 : Int32} {s0 : Int32} (X : gX p s m args c cX11_takesNewName 5 RX11 (dC, dI) [(cI, .int)] A) (hDA : ∀ S, va_D A ((mW cI ad) S)) (hret : gRetI p l e (rmL 4 0 0) s m args below meth c cX11_takesNewName (dC, dI) A (mW cI ad) Q r S1) (hf : fX11_takesNewName_4 M x1 x2 s0 = some (r, S1)) {H : Heap} {locs : List Loc} {ls : Array Slot} (hP : va_P (dC, dI) vwCl ((mW cI ad) M) H) (hS : va_S A s.heap H locs) (hl : lv_has ls 5 [(0, .ref (ad 25)), (1, .int x1), (2, .int x2)]) : W p l e (rmL 4 0 0) s m args below meth c H locs 0 0 Q (F0 m 4 ls [.int s0]) := by
  have hx := X.hx
  have hb := X.hb
  have hown := X.hown
  have hts := X.hts
  rw [fX11_takesNewName_4] at hf
  refine lv_if_ne (tgt := 9) hx hb dX11_takesNewName_4 (by decide) (fun c1 => ?_) (fun c1 => ?_)
  · exact kX11_takesNewName_9 X hDA hret (ifn c1 hf) hP hS (lv_sub hl [0, 1, 2] rfl)
  · exact kX11_takesNewName_7 X hDA hret (ifp c1 hf) hP hS (lv_sub hl [0] rfl)
set_option maxRecDepth 10000 in
theorem kX11_takesNewName_0  {r : Int32} {S1 : MS} {M : MS} {a1 : Int32} {a2 : Int32} (X : gX p s m args c cX11_takesNewName 5 RX11 (dC, dI) [(cI, .int)] A) (hDA : ∀ S, va_D A ((mW cI ad) S)) (hret : gRetI p l e (rmL 4 0 0) s m args below meth c cX11_takesNewName (dC, dI) A (mW cI ad) Q r S1) (hf : fX11_takesNewName_0 M a1 a2 = some (r, S1)) {H : Heap} {locs : List Loc} {ls : Array Slot} (hP : va_P (dC, dI) vwCl ((mW cI ad) M) H) (hS : va_S A s.heap H locs) (hl : lv_has ls 5 [(0, .ref (ad 25)), (1, .int a1), (2, .int a2)]) : W p l e (rmL 4 0 0) s m args below meth c H locs 0 0 Q (F0 m 0 ls []) := by
  have hx := X.hx
  have hb := X.hb
  have hown := X.hown
  have hts := X.hts
  rw [fX11_takesNewName_0] at hf
  refine lv_aload_n hx hb dX11_takesNewName_0 rfl (lv_at hl 0 rfl) ?_
  obtain ⟨q, hc, hf⟩ := bd hf
  refine gCallVI X hDA rfl (vX11_seesName hc) gRX11_X11_seesName hdX11_seesName rfl ⟨by decide, by decide⟩ hP hS (k0 := 0) (ci := 15) rfl rfl hl.1 (Nat.le_of_ble_eq_true rfl) ⟨Nat.le_refl _, Nat.le_refl _⟩ dX11_takesNewName_1 (As := []) (rest := []) rfl (fun H locs hP hS => ?_)
  exact kX11_takesNewName_4 X hDA hret hf hP hS (lv_sub hl [0, 1, 2] rfl)
theorem vX11_takesNewName {l : Launch} {dC : Nat → ClassId} {dI : Nat → Nat → Nat} {cI : ClassId} {ad : Nat → Nat} {M S1 : MS} {r : Int32} {a1 : Int32} {a2 : Int32} (hf : fX11_takesNewName M a1 a2 = some (r, S1)) : gMetI l yX11_takesNewName cX11_takesNewName 5 (some .boolean) 4 (dC, dI) [(cI, .int)] (mW cI ad) [.ref (ad 25), .int a1, .int a2] M r S1 := gEntryI (ty := .boolean) (by decide) rfl (bz_n hf) mW_fix (Nat.le_of_ble_eq_true rfl) (fun p e s m args below meth c A Q ls X hDA hP hS hret hl => 
  kX11_takesNewName_0 X hDA hret (bz_f hf) hP hS (lv_sub hl [0, 1, 2] rfl))
set_option maxRecDepth 10000 in
theorem kX11_takesChoice_28  {r : Int32} {S1 : MS} {M : MS} (X : gX p s m args c cX11_takesChoice 4 RX11 (dC, dI) [(cI, .int)] A) (hDA : ∀ S, va_D A ((mW cI ad) S)) (hret : gRetI p l e (rmL 4 0 0) s m args below meth c cX11_takesChoice (dC, dI) A (mW cI ad) Q r S1) (hf : fX11_takesChoice_28 M = some (r, S1)) {H : Heap} {locs : List Loc} {ls : Array Slot} (hP : va_P (dC, dI) vwCl ((mW cI ad) M) H) (hS : va_S A s.heap H locs) (hl : lv_has ls 4 [(0, .ref (ad 25))]) : W p l e (rmL 4 0 0) s m args below meth c H locs 0 0 Q (F0 m 28 ls []) := by
  have hx := X.hx
  have hb := X.hb
  have hown := X.hown
  have hts := X.hts
  rw [fX11_takesChoice_28] at hf
  refine lv_iconst (v := 1) hx hb dX11_takesChoice_28 (by decide) ?_
  cases hf
  exact hret _ _ _ _ dX11_takesChoice_29 hP hS
set_option maxRecDepth 10000 in
theorem kX11_takesChoice_24  {r : Int32} {S1 : MS} {M : MS} (X : gX p s m args c cX11_takesChoice 4 RX11 (dC, dI) [(cI, .int)] A) (hDA : ∀ S, va_D A ((mW cI ad) S)) (hret : gRetI p l e (rmL 4 0 0) s m args below meth c cX11_takesChoice (dC, dI) A (mW cI ad) Q r S1) (hf : fX11_takesChoice_24 M = some (r, S1)) {H : Heap} {locs : List Loc} {ls : Array Slot} (hP : va_P (dC, dI) vwCl ((mW cI ad) M) H) (hS : va_S A s.heap H locs) (hl : lv_has ls 4 [(0, .ref (ad 25))]) : W p l e (rmL 4 0 0) s m args below meth c H locs 0 0 Q (F0 m 24 ls []) := by
  have hx := X.hx
  have hb := X.hb
  have hown := X.hown
  have hts := X.hts
  rw [fX11_takesChoice_24] at hf
  refine lv_aload_n hx hb dX11_takesChoice_24 rfl (lv_at hl 0 rfl) ?_
  obtain ⟨q, hc, hf⟩ := bd hf
  refine gCallVV X hDA rfl (vX11_advanceToken hc) gRX11_X11_advanceToken hdX11_advanceToken rfl ⟨by decide, by decide⟩ hP hS (k0 := 0) (ci := 15) rfl rfl hl.1 (Nat.le_of_ble_eq_true rfl) ⟨Nat.le_refl _, Nat.le_refl _⟩ dX11_takesChoice_25 (As := []) (rest := []) rfl (fun H locs hP hS => ?_)
  exact kX11_takesChoice_28 X hDA hret hf hP hS (lv_sub hl [0] rfl)
set_option maxRecDepth 10000 in
theorem kX11_takesChoice_23  {r : Int32} {S1 : MS} {M : MS} {s0 : Int32} {s1 : Int32} (X : gX p s m args c cX11_takesChoice 4 RX11 (dC, dI) [(cI, .int)] A) (hDA : ∀ S, va_D A ((mW cI ad) S)) (hret : gRetI p l e (rmL 4 0 0) s m args below meth c cX11_takesChoice (dC, dI) A (mW cI ad) Q r S1) (hf : fX11_takesChoice_23 M s0 s1 = some (r, S1)) {H : Heap} {locs : List Loc} {ls : Array Slot} (hP : va_P (dC, dI) vwCl ((mW cI ad) M) H) (hS : va_S A s.heap H locs) (hl : lv_has ls 4 [(0, .ref (ad 25))]) : W p l e (rmL 4 0 0) s m args below meth c H locs 0 0 Q (F0 m 23 ls [.int s0, .int s1, .ref (ad 19)]) := by
  have hx := X.hx
  have hb := X.hb
  have hown := X.hown
  have hts := X.hts
  rw [fX11_takesChoice_23] at hf
  obtain ⟨g1, hf⟩ := gd hf
  refine mr_ast (a := 19) X hDA hP hS rfl g1 dX11_takesChoice_23 (fun H locs hP hS => ?_)
  exact kX11_takesChoice_24 X hDA hret hf hP hS (lv_sub hl [0] rfl)
set_option maxRecDepth 10000 in
theorem kX11_takesChoice_14  {r : Int32} {S1 : MS} {M : MS} {x1 : Int32} {x2 : Int32} (X : gX p s m args c cX11_takesChoice 4 RX11 (dC, dI) [(cI, .int)] A) (hDA : ∀ S, va_D A ((mW cI ad) S)) (hret : gRetI p l e (rmL 4 0 0) s m args below meth c cX11_takesChoice (dC, dI) A (mW cI ad) Q r S1) (hf : fX11_takesChoice_14 M x1 x2 = some (r, S1)) {H : Heap} {locs : List Loc} {ls : Array Slot} (hP : va_P (dC, dI) vwCl ((mW cI ad) M) H) (hS : va_S A s.heap H locs) (hl : lv_has ls 4 [(0, .ref (ad 25)), (1, .int x1), (2, .int x2)]) : W p l e (rmL 4 0 0) s m args below meth c H locs 0 0 Q (F0 m 14 ls []) := by
  have hx := X.hx
  have hb := X.hb
  have hown := X.hown
  have hts := X.hts
  rw [fX11_takesChoice_14] at hf
  refine lv_aload_n hx hb dX11_takesChoice_14 rfl (lv_at hl 0 rfl) ?_
  refine mr_get (k := 19) X hP (by decide) rfl rfl tw1684 dX11_takesChoice_15 ?_
  refine lv_iload_n hx hb dX11_takesChoice_18 rfl (lv_at hl 1 rfl) ?_
  refine lv_iload_n hx hb dX11_takesChoice_19 rfl (lv_at hl 2 rfl) ?_
  obtain ⟨q, hc, hf⟩ := bd hf
  refine gCallSI X hDA rfl (vX11_one hc) gRX11_X11_one hdX11_one rfl ⟨by decide, by decide⟩ hP hS hl.1 (Nat.le_of_ble_eq_true rfl) ⟨Nat.le_refl _, Nat.le_refl _⟩ dX11_takesChoice_20 (As := [.int x2]) (rest := [.int x1, .ref (ad 19)]) rfl (fun H locs hP hS => ?_)
  exact kX11_takesChoice_23 X hDA hret hf hP hS (lv_sub hl [0] rfl)
set_option maxRecDepth 10000 in
theorem kX11_takesChoice_13  {r : Int32} {S1 : MS} {M : MS} {s0 : Int32} (X : gX p s m args c cX11_takesChoice 4 RX11 (dC, dI) [(cI, .int)] A) (hDA : ∀ S, va_D A ((mW cI ad) S)) (hret : gRetI p l e (rmL 4 0 0) s m args below meth c cX11_takesChoice (dC, dI) A (mW cI ad) Q r S1) (hf : fX11_takesChoice_13 M s0 = some (r, S1)) {H : Heap} {locs : List Loc} {ls : Array Slot} (hP : va_P (dC, dI) vwCl ((mW cI ad) M) H) (hS : va_S A s.heap H locs) (hl : lv_has ls 4 [(0, .ref (ad 25))]) : W p l e (rmL 4 0 0) s m args below meth c H locs 0 0 Q (F0 m 13 ls [.int s0]) := by
  have hx := X.hx
  have hb := X.hb
  have hown := X.hown
  have hts := X.hts
  rw [fX11_takesChoice_13] at hf
  cases hf
  exact hret _ _ _ _ dX11_takesChoice_13 hP hS
set_option maxRecDepth 10000 in
theorem kX11_takesChoice_8  {r : Int32} {S1 : MS} {M : MS} (X : gX p s m args c cX11_takesChoice 4 RX11 (dC, dI) [(cI, .int)] A) (hDA : ∀ S, va_D A ((mW cI ad) S)) (hret : gRetI p l e (rmL 4 0 0) s m args below meth c cX11_takesChoice (dC, dI) A (mW cI ad) Q r S1) (hf : fX11_takesChoice_8 M = some (r, S1)) {H : Heap} {locs : List Loc} {ls : Array Slot} (hP : va_P (dC, dI) vwCl ((mW cI ad) M) H) (hS : va_S A s.heap H locs) (hl : lv_has ls 4 [(0, .ref (ad 25))]) : W p l e (rmL 4 0 0) s m args below meth c H locs 0 0 Q (F0 m 8 ls []) := by
  have hx := X.hx
  have hb := X.hb
  have hown := X.hown
  have hts := X.hts
  rw [fX11_takesChoice_8] at hf
  refine lv_aload_n hx hb dX11_takesChoice_8 rfl (lv_at hl 0 rfl) ?_
  refine lv_iconst (v := 1) hx hb dX11_takesChoice_9 (by decide) ?_
  obtain ⟨q, hc, hf⟩ := bd hf
  refine gCallVI X hDA rfl (vX11_failsAt hc) gRX11_X11_failsAt hdX11_failsAt rfl ⟨by decide, by decide⟩ hP hS (k0 := 0) (ci := 15) rfl rfl hl.1 (Nat.le_of_ble_eq_true rfl) ⟨Nat.le_refl _, Nat.le_refl _⟩ dX11_takesChoice_10 (As := [.int 1]) (rest := []) rfl (fun H locs hP hS => ?_)
  exact kX11_takesChoice_13 X hDA hret hf hP hS (lv_sub hl [0] rfl)
set_option maxRecDepth 10000 in
theorem kX11_takesChoice_4  {r : Int32} {S1 : MS} {M : MS} {x1 : Int32} {x2 : Int32} {x3 : Int32} (X : gX p s m args c cX11_takesChoice 4 RX11 (dC, dI) [(cI, .int)] A) (hDA : ∀ S, va_D A ((mW cI ad) S)) (hret : gRetI p l e (rmL 4 0 0) s m args below meth c cX11_takesChoice (dC, dI) A (mW cI ad) Q r S1) (hf : fX11_takesChoice_4 M x1 x2 x3 = some (r, S1)) {H : Heap} {locs : List Loc} {ls : Array Slot} (hP : va_P (dC, dI) vwCl ((mW cI ad) M) H) (hS : va_S A s.heap H locs) (hl : lv_has ls 4 [(0, .ref (ad 25)), (1, .int x1), (2, .int x2), (3, .int x3)]) : W p l e (rmL 4 0 0) s m args below meth c H locs 0 0 Q (F0 m 4 ls []) := by
  have hx := X.hx
  have hb := X.hb
  have hown := X.hown
  have hts := X.hts
  rw [fX11_takesChoice_4] at hf
  refine lv_iload_n hx hb dX11_takesChoice_4 rfl (lv_at hl 3 rfl) ?_
  refine lv_if_ne (tgt := 14) hx hb dX11_takesChoice_5 (by decide) (fun c1 => ?_) (fun c1 => ?_)
  · exact kX11_takesChoice_14 X hDA hret (ifn c1 hf) hP hS (lv_sub hl [0, 1, 2] rfl)
  · exact kX11_takesChoice_8 X hDA hret (ifp c1 hf) hP hS (lv_sub hl [0] rfl)
set_option maxRecDepth 10000 in
theorem kX11_takesChoice_0  {r : Int32} {S1 : MS} {M : MS} {a1 : Int32} {a2 : Int32} {a3 : Int32} (X : gX p s m args c cX11_takesChoice 4 RX11 (dC, dI) [(cI, .int)] A) (hDA : ∀ S, va_D A ((mW cI ad) S)) (hret : gRetI p l e (rmL 4 0 0) s m args below meth c cX11_takesChoice (dC, dI) A (mW cI ad) Q r S1) (hf : fX11_takesChoice_0 M a1 a2 a3 = some (r, S1)) {H : Heap} {locs : List Loc} {ls : Array Slot} (hP : va_P (dC, dI) vwCl ((mW cI ad) M) H) (hS : va_S A s.heap H locs) (hl : lv_has ls 4 [(0, .ref (ad 25)), (1, .int a1), (2, .int a2), (3, .int a3)]) : W p l e (rmL 4 0 0) s m args below meth c H locs 0 0 Q (F0 m 0 ls []) := by
  have hx := X.hx
  have hb := X.hb
  have hown := X.hown
  have hts := X.hts
  rw [fX11_takesChoice_0] at hf
  refine lv_iload_n hx hb dX11_takesChoice_0 rfl (lv_at hl 2 rfl) ?_
  refine lv_if_ne (tgt := 14) hx hb dX11_takesChoice_1 (by decide) (fun c1 => ?_) (fun c1 => ?_)
  · exact kX11_takesChoice_14 X hDA hret (ifn c1 hf) hP hS (lv_sub hl [0, 1, 2] rfl)
  · exact kX11_takesChoice_4 X hDA hret (ifp c1 hf) hP hS (lv_sub hl [0, 1, 2, 3] rfl)
theorem vX11_takesChoice {l : Launch} {dC : Nat → ClassId} {dI : Nat → Nat → Nat} {cI : ClassId} {ad : Nat → Nat} {M S1 : MS} {r : Int32} {a1 : Int32} {a2 : Int32} {a3 : Int32} (hf : fX11_takesChoice M a1 a2 a3 = some (r, S1)) : gMetI l yX11_takesChoice cX11_takesChoice 4 (some .boolean) 4 (dC, dI) [(cI, .int)] (mW cI ad) [.ref (ad 25), .int a1, .int a2, .int a3] M r S1 := gEntryI (ty := .boolean) (by decide) rfl (bz_n hf) mW_fix (Nat.le_of_ble_eq_true rfl) (fun p e s m args below meth c A Q ls X hDA hP hS hret hl => 
  kX11_takesChoice_0 X hDA hret (bz_f hf) hP hS (lv_sub hl [0, 1, 2, 3] rfl))
set_option maxRecDepth 10000 in
theorem kX11_startsText_24  {S1 : MS} {M : MS} (X : gX p s m args c cX11_startsText 1 RX11 (dC, dI) [(cI, .int)] A) (hDA : ∀ S, va_D A ((mW cI ad) S)) (hret : gRetV p l e (rmL 4 0 0) s m args below meth c cX11_startsText (dC, dI) A (mW cI ad) Q S1) (hf : fX11_startsText_24 M = some S1) {H : Heap} {locs : List Loc} {ls : Array Slot} (hP : va_P (dC, dI) vwCl ((mW cI ad) M) H) (hS : va_S A s.heap H locs) (hl : lv_has ls 1 [(0, .ref (ad 25))]) : W p l e (rmL 4 0 0) s m args below meth c H locs 0 0 Q (F0 m 24 ls []) := by
  have hx := X.hx
  have hb := X.hb
  have hown := X.hown
  have hts := X.hts
  rw [fX11_startsText_24] at hf
  cases hf
  exact hret _ _ _ _ dX11_startsText_24 hP hS
set_option maxRecDepth 10000 in
theorem kX11_startsText_20  {S1 : MS} {M : MS} (X : gX p s m args c cX11_startsText 1 RX11 (dC, dI) [(cI, .int)] A) (hDA : ∀ S, va_D A ((mW cI ad) S)) (hret : gRetV p l e (rmL 4 0 0) s m args below meth c cX11_startsText (dC, dI) A (mW cI ad) Q S1) (hf : fX11_startsText_20 M = some S1) {H : Heap} {locs : List Loc} {ls : Array Slot} (hP : va_P (dC, dI) vwCl ((mW cI ad) M) H) (hS : va_S A s.heap H locs) (hl : lv_has ls 1 [(0, .ref (ad 25))]) : W p l e (rmL 4 0 0) s m args below meth c H locs 0 0 Q (F0 m 20 ls []) := by
  have hx := X.hx
  have hb := X.hb
  have hown := X.hown
  have hts := X.hts
  rw [fX11_startsText_20] at hf
  refine lv_aload_n hx hb dX11_startsText_20 rfl (lv_at hl 0 rfl) ?_
  obtain ⟨q, hc, hf⟩ := bd hf
  refine gCallVV X hDA rfl (vX11_advanceToken hc) gRX11_X11_advanceToken hdX11_advanceToken rfl ⟨by decide, by decide⟩ hP hS (k0 := 0) (ci := 15) rfl rfl hl.1 (Nat.le_of_ble_eq_true rfl) ⟨Nat.le_refl _, Nat.le_refl _⟩ dX11_startsText_21 (As := []) (rest := []) rfl (fun H locs hP hS => ?_)
  exact kX11_startsText_24 X hDA hret hf hP hS (lv_sub hl [0] rfl)
set_option maxRecDepth 10000 in
theorem kX11_startsText_15  {S1 : MS} {M : MS} (X : gX p s m args c cX11_startsText 1 RX11 (dC, dI) [(cI, .int)] A) (hDA : ∀ S, va_D A ((mW cI ad) S)) (hret : gRetV p l e (rmL 4 0 0) s m args below meth c cX11_startsText (dC, dI) A (mW cI ad) Q S1) (hf : fX11_startsText_15 M = some S1) {H : Heap} {locs : List Loc} {ls : Array Slot} (hP : va_P (dC, dI) vwCl ((mW cI ad) M) H) (hS : va_S A s.heap H locs) (hl : lv_has ls 1 [(0, .ref (ad 25))]) : W p l e (rmL 4 0 0) s m args below meth c H locs 0 0 Q (F0 m 15 ls []) := by
  have hx := X.hx
  have hb := X.hb
  have hown := X.hown
  have hts := X.hts
  rw [fX11_startsText_15] at hf
  refine lv_aload_n hx hb dX11_startsText_15 rfl (lv_at hl 0 rfl) ?_
  refine lv_iconst (v := 0) hx hb dX11_startsText_16 (by decide) ?_
  refine mr_put (k := 14) X hDA hP hS (by decide) rfl rfl rfl rfl tw1679 dX11_startsText_17 (fun H locs hP hS => ?_)
  exact kX11_startsText_20 X hDA hret hf hP hS (lv_sub hl [0] rfl)
set_option maxRecDepth 10000 in
theorem kX11_startsText_10  {S1 : MS} {M : MS} (X : gX p s m args c cX11_startsText 1 RX11 (dC, dI) [(cI, .int)] A) (hDA : ∀ S, va_D A ((mW cI ad) S)) (hret : gRetV p l e (rmL 4 0 0) s m args below meth c cX11_startsText (dC, dI) A (mW cI ad) Q S1) (hf : fX11_startsText_10 M = some S1) {H : Heap} {locs : List Loc} {ls : Array Slot} (hP : va_P (dC, dI) vwCl ((mW cI ad) M) H) (hS : va_S A s.heap H locs) (hl : lv_has ls 1 [(0, .ref (ad 25))]) : W p l e (rmL 4 0 0) s m args below meth c H locs 0 0 Q (F0 m 10 ls []) := by
  have hx := X.hx
  have hb := X.hb
  have hown := X.hown
  have hts := X.hts
  rw [fX11_startsText_10] at hf
  refine lv_aload_n hx hb dX11_startsText_10 rfl (lv_at hl 0 rfl) ?_
  refine lv_iconst (v := 0) hx hb dX11_startsText_11 (by decide) ?_
  refine mr_put (k := 22) X hDA hP hS (by decide) rfl rfl rfl rfl tw1687 dX11_startsText_12 (fun H locs hP hS => ?_)
  exact kX11_startsText_15 X hDA hret hf hP hS (lv_sub hl [0] rfl)
set_option maxRecDepth 10000 in
theorem kX11_startsText_5  {S1 : MS} {M : MS} (X : gX p s m args c cX11_startsText 1 RX11 (dC, dI) [(cI, .int)] A) (hDA : ∀ S, va_D A ((mW cI ad) S)) (hret : gRetV p l e (rmL 4 0 0) s m args below meth c cX11_startsText (dC, dI) A (mW cI ad) Q S1) (hf : fX11_startsText_5 M = some S1) {H : Heap} {locs : List Loc} {ls : Array Slot} (hP : va_P (dC, dI) vwCl ((mW cI ad) M) H) (hS : va_S A s.heap H locs) (hl : lv_has ls 1 [(0, .ref (ad 25))]) : W p l e (rmL 4 0 0) s m args below meth c H locs 0 0 Q (F0 m 5 ls []) := by
  have hx := X.hx
  have hb := X.hb
  have hown := X.hown
  have hts := X.hts
  rw [fX11_startsText_5] at hf
  refine lv_aload_n hx hb dX11_startsText_5 rfl (lv_at hl 0 rfl) ?_
  refine lv_iconst (v := (-1)) hx hb dX11_startsText_6 (by decide) ?_
  refine mr_put (k := 13) X hDA hP hS (by decide) rfl rfl rfl rfl tw1678 dX11_startsText_7 (fun H locs hP hS => ?_)
  exact kX11_startsText_10 X hDA hret hf hP hS (lv_sub hl [0] rfl)
set_option maxRecDepth 10000 in
theorem kX11_startsText_0  {S1 : MS} {M : MS} (X : gX p s m args c cX11_startsText 1 RX11 (dC, dI) [(cI, .int)] A) (hDA : ∀ S, va_D A ((mW cI ad) S)) (hret : gRetV p l e (rmL 4 0 0) s m args below meth c cX11_startsText (dC, dI) A (mW cI ad) Q S1) (hf : fX11_startsText_0 M = some S1) {H : Heap} {locs : List Loc} {ls : Array Slot} (hP : va_P (dC, dI) vwCl ((mW cI ad) M) H) (hS : va_S A s.heap H locs) (hl : lv_has ls 1 [(0, .ref (ad 25))]) : W p l e (rmL 4 0 0) s m args below meth c H locs 0 0 Q (F0 m 0 ls []) := by
  have hx := X.hx
  have hb := X.hb
  have hown := X.hown
  have hts := X.hts
  rw [fX11_startsText_0] at hf
  refine lv_aload_n hx hb dX11_startsText_0 rfl (lv_at hl 0 rfl) ?_
  refine lv_iconst (v := 0) hx hb dX11_startsText_1 (by decide) ?_
  refine mr_put (k := 12) X hDA hP hS (by decide) rfl rfl rfl rfl tw1677 dX11_startsText_2 (fun H locs hP hS => ?_)
  exact kX11_startsText_5 X hDA hret hf hP hS (lv_sub hl [0] rfl)
theorem vX11_startsText {l : Launch} {dC : Nat → ClassId} {dI : Nat → Nat → Nat} {cI : ClassId} {ad : Nat → Nat} {M S1 : MS} (hf : fX11_startsText M  = some S1) : gMetV l yX11_startsText cX11_startsText 1 4 (dC, dI) [(cI, .int)] (mW cI ad) [.ref (ad 25)] M S1 := gEntryV (by decide) mW_fix (Nat.le_of_ble_eq_true rfl) (fun p e s m args below meth c A Q ls X hDA hP hS hret hl => 
  kX11_startsText_0 X hDA hret hf hP hS (lv_sub hl [0] rfl))
set_option maxRecDepth 10000 in
theorem kX11_oathReason_22  {r : Int32} {S1 : MS} {M : MS} {s0 : Int32} (X : gX p s m args c cX11_oathReason 2 RX11 (dC, dI) [(cI, .int)] A) (hDA : ∀ S, va_D A ((mW cI ad) S)) (hret : gRetI p l e (rmL 4 0 0) s m args below meth c cX11_oathReason (dC, dI) A (mW cI ad) Q r S1) (hf : fX11_oathReason_22 M s0 = some (r, S1)) {H : Heap} {locs : List Loc} {ls : Array Slot} (hP : va_P (dC, dI) vwCl ((mW cI ad) M) H) (hS : va_S A s.heap H locs) (hl : lv_has ls 2 [(0, .ref (ad 25))]) : W p l e (rmL 4 0 0) s m args below meth c H locs 0 0 Q (F0 m 22 ls [.int s0]) := by
  have hx := X.hx
  have hb := X.hb
  have hown := X.hown
  have hts := X.hts
  rw [fX11_oathReason_22] at hf
  cases hf
  exact hret _ _ _ _ dX11_oathReason_22 hP hS
set_option maxRecDepth 10000 in
theorem kX11_oathReason_17  {r : Int32} {S1 : MS} {M : MS} {x1 : Int32} (X : gX p s m args c cX11_oathReason 2 RX11 (dC, dI) [(cI, .int)] A) (hDA : ∀ S, va_D A ((mW cI ad) S)) (hret : gRetI p l e (rmL 4 0 0) s m args below meth c cX11_oathReason (dC, dI) A (mW cI ad) Q r S1) (hf : fX11_oathReason_17 M x1 = some (r, S1)) {H : Heap} {locs : List Loc} {ls : Array Slot} (hP : va_P (dC, dI) vwCl ((mW cI ad) M) H) (hS : va_S A s.heap H locs) (hl : lv_has ls 2 [(0, .ref (ad 25)), (1, .int x1)]) : W p l e (rmL 4 0 0) s m args below meth c H locs 0 0 Q (F0 m 17 ls []) := by
  have hx := X.hx
  have hb := X.hb
  have hown := X.hown
  have hts := X.hts
  rw [fX11_oathReason_17] at hf
  refine lv_aload_n hx hb dX11_oathReason_17 rfl (lv_at hl 0 rfl) ?_
  refine lv_iload_n hx hb dX11_oathReason_18 rfl (lv_at hl 1 rfl) ?_
  obtain ⟨q, hc, hf⟩ := bd hf
  refine gCallVI X hDA rfl (vX11_reasonOf hc) gRX11_X11_reasonOf hdX11_reasonOf rfl ⟨by decide, by decide⟩ hP hS (k0 := 0) (ci := 15) rfl rfl hl.1 (Nat.le_of_ble_eq_true rfl) ⟨Nat.le_refl _, Nat.le_refl _⟩ dX11_oathReason_19 (As := [.int x1]) (rest := []) rfl (fun H locs hP hS => ?_)
  exact kX11_oathReason_22 X hDA hret hf hP hS (lv_sub hl [0] rfl)
set_option maxRecDepth 10000 in
theorem kX11_oathReason_13  {r : Int32} {S1 : MS} {M : MS} (X : gX p s m args c cX11_oathReason 2 RX11 (dC, dI) [(cI, .int)] A) (hDA : ∀ S, va_D A ((mW cI ad) S)) (hret : gRetI p l e (rmL 4 0 0) s m args below meth c cX11_oathReason (dC, dI) A (mW cI ad) Q r S1) (hf : fX11_oathReason_13 M = some (r, S1)) {H : Heap} {locs : List Loc} {ls : Array Slot} (hP : va_P (dC, dI) vwCl ((mW cI ad) M) H) (hS : va_S A s.heap H locs) (hl : lv_has ls 2 [(0, .ref (ad 25))]) : W p l e (rmL 4 0 0) s m args below meth c H locs 0 0 Q (F0 m 13 ls []) := by
  have hx := X.hx
  have hb := X.hb
  have hown := X.hown
  have hts := X.hts
  rw [fX11_oathReason_13] at hf
  refine lv_iconst (v := 0) hx hb dX11_oathReason_13 (by decide) ?_
  refine lv_goto (tgt := 22) hx hb dX11_oathReason_14 (by decide) ?_
  exact kX11_oathReason_22 X hDA hret hf hP hS (lv_sub hl [0] rfl)
set_option maxRecDepth 10000 in
theorem kX11_oathReason_10  {r : Int32} {S1 : MS} {M : MS} {x1 : Int32} {s0 : Int32} (X : gX p s m args c cX11_oathReason 2 RX11 (dC, dI) [(cI, .int)] A) (hDA : ∀ S, va_D A ((mW cI ad) S)) (hret : gRetI p l e (rmL 4 0 0) s m args below meth c cX11_oathReason (dC, dI) A (mW cI ad) Q r S1) (hf : fX11_oathReason_10 M x1 s0 = some (r, S1)) {H : Heap} {locs : List Loc} {ls : Array Slot} (hP : va_P (dC, dI) vwCl ((mW cI ad) M) H) (hS : va_S A s.heap H locs) (hl : lv_has ls 2 [(0, .ref (ad 25)), (1, .int x1)]) : W p l e (rmL 4 0 0) s m args below meth c H locs 0 0 Q (F0 m 10 ls [.int s0]) := by
  have hx := X.hx
  have hb := X.hb
  have hown := X.hown
  have hts := X.hts
  rw [fX11_oathReason_10] at hf
  refine lv_if_eq (tgt := 17) hx hb dX11_oathReason_10 (by decide) (fun c1 => ?_) (fun c1 => ?_)
  · exact kX11_oathReason_17 X hDA hret (ifp c1 hf) hP hS (lv_sub hl [0, 1] rfl)
  · exact kX11_oathReason_13 X hDA hret (ifn c1 hf) hP hS (lv_sub hl [0] rfl)
set_option maxRecDepth 10000 in
theorem kX11_oathReason_5  {r : Int32} {S1 : MS} {M : MS} {x1 : Int32} (X : gX p s m args c cX11_oathReason 2 RX11 (dC, dI) [(cI, .int)] A) (hDA : ∀ S, va_D A ((mW cI ad) S)) (hret : gRetI p l e (rmL 4 0 0) s m args below meth c cX11_oathReason (dC, dI) A (mW cI ad) Q r S1) (hf : fX11_oathReason_5 M x1 = some (r, S1)) {H : Heap} {locs : List Loc} {ls : Array Slot} (hP : va_P (dC, dI) vwCl ((mW cI ad) M) H) (hS : va_S A s.heap H locs) (hl : lv_has ls 2 [(0, .ref (ad 25)), (1, .int x1)]) : W p l e (rmL 4 0 0) s m args below meth c H locs 0 0 Q (F0 m 5 ls []) := by
  have hx := X.hx
  have hb := X.hb
  have hown := X.hown
  have hts := X.hts
  rw [fX11_oathReason_5] at hf
  refine lv_aload_n hx hb dX11_oathReason_5 rfl (lv_at hl 0 rfl) ?_
  refine lv_iload_n hx hb dX11_oathReason_6 rfl (lv_at hl 1 rfl) ?_
  obtain ⟨q, hc, hf⟩ := bd hf
  refine gCallVI X hDA rfl (vX11_noCat hc) gRX11_X11_noCat hdX11_noCat rfl ⟨by decide, by decide⟩ hP hS (k0 := 0) (ci := 15) rfl rfl hl.1 (Nat.le_of_ble_eq_true rfl) ⟨Nat.le_refl _, Nat.le_refl _⟩ dX11_oathReason_7 (As := [.int x1]) (rest := []) rfl (fun H locs hP hS => ?_)
  exact kX11_oathReason_10 X hDA hret hf hP hS (lv_sub hl [0, 1] rfl)
set_option maxRecDepth 10000 in
theorem kX11_oathReason_0  {r : Int32} {S1 : MS} {M : MS} {a1 : Int32} (X : gX p s m args c cX11_oathReason 2 RX11 (dC, dI) [(cI, .int)] A) (hDA : ∀ S, va_D A ((mW cI ad) S)) (hret : gRetI p l e (rmL 4 0 0) s m args below meth c cX11_oathReason (dC, dI) A (mW cI ad) Q r S1) (hf : fX11_oathReason_0 M a1 = some (r, S1)) {H : Heap} {locs : List Loc} {ls : Array Slot} (hP : va_P (dC, dI) vwCl ((mW cI ad) M) H) (hS : va_S A s.heap H locs) (hl : lv_has ls 2 [(0, .ref (ad 25)), (1, .int a1)]) : W p l e (rmL 4 0 0) s m args below meth c H locs 0 0 Q (F0 m 0 ls []) := by
  have hx := X.hx
  have hb := X.hb
  have hown := X.hown
  have hts := X.hts
  rw [fX11_oathReason_0] at hf
  refine lv_aload_n hx hb dX11_oathReason_0 rfl (lv_at hl 0 rfl) ?_
  refine lv_iconst (v := 0) hx hb dX11_oathReason_1 (by decide) ?_
  refine mr_put (k := 7) X hDA hP hS (by decide) rfl rfl rfl rfl tw1672 dX11_oathReason_2 (fun H locs hP hS => ?_)
  exact kX11_oathReason_5 X hDA hret hf hP hS (lv_sub hl [0, 1] rfl)
theorem vX11_oathReason {l : Launch} {dC : Nat → ClassId} {dI : Nat → Nat → Nat} {cI : ClassId} {ad : Nat → Nat} {M S1 : MS} {r : Int32} {a1 : Int32} (hf : fX11_oathReason M a1 = some (r, S1)) : gMetI l yX11_oathReason cX11_oathReason 2 (some .int) 4 (dC, dI) [(cI, .int)] (mW cI ad) [.ref (ad 25), .int a1] M r S1 := gEntryI (ty := .int) (by decide) rfl rfl mW_fix (Nat.le_of_ble_eq_true rfl) (fun p e s m args below meth c A Q ls X hDA hP hS hret hl => 
  kX11_oathReason_0 X hDA hret hf hP hS (lv_sub hl [0, 1] rfl))
set_option maxRecDepth 10000 in
theorem kX11_huntingSack_9  {r : Int32} {S1 : MS} {M : MS} {s0 : Int32} (X : gX p s m args c cX11_huntingSack 1 RX11 (dC, dI) [(cI, .int)] A) (hDA : ∀ S, va_D A ((mW cI ad) S)) (hret : gRetI p l e (rmL 4 0 0) s m args below meth c cX11_huntingSack (dC, dI) A (mW cI ad) Q r S1) (hf : fX11_huntingSack_9 M s0 = some (r, S1)) {H : Heap} {locs : List Loc} {ls : Array Slot} (hP : va_P (dC, dI) vwCl ((mW cI ad) M) H) (hS : va_S A s.heap H locs) (hl : lv_has ls 1 [(0, .ref (ad 25))]) : W p l e (rmL 4 0 0) s m args below meth c H locs 0 0 Q (F0 m 9 ls [.int s0]) := by
  have hx := X.hx
  have hb := X.hb
  have hown := X.hown
  have hts := X.hts
  rw [fX11_huntingSack_9] at hf
  cases hf
  exact hret _ _ _ _ dX11_huntingSack_9 hP hS
set_option maxRecDepth 10000 in
theorem kX11_huntingSack_5  {r : Int32} {S1 : MS} {M : MS} (X : gX p s m args c cX11_huntingSack 1 RX11 (dC, dI) [(cI, .int)] A) (hDA : ∀ S, va_D A ((mW cI ad) S)) (hret : gRetI p l e (rmL 4 0 0) s m args below meth c cX11_huntingSack (dC, dI) A (mW cI ad) Q r S1) (hf : fX11_huntingSack_5 M = some (r, S1)) {H : Heap} {locs : List Loc} {ls : Array Slot} (hP : va_P (dC, dI) vwCl ((mW cI ad) M) H) (hS : va_S A s.heap H locs) (hl : lv_has ls 1 [(0, .ref (ad 25))]) : W p l e (rmL 4 0 0) s m args below meth c H locs 0 0 Q (F0 m 5 ls []) := by
  have hx := X.hx
  have hb := X.hb
  have hown := X.hown
  have hts := X.hts
  rw [fX11_huntingSack_5] at hf
  refine lv_aload_n hx hb dX11_huntingSack_5 rfl (lv_at hl 0 rfl) ?_
  obtain ⟨q, hc, hf⟩ := bd hf
  refine gCallVI X hDA rfl (vX11_hunted hc) gRX11_X11_hunted hdX11_hunted rfl ⟨by decide, by decide⟩ hP hS (k0 := 0) (ci := 15) rfl rfl hl.1 (Nat.le_of_ble_eq_true rfl) ⟨Nat.le_refl _, Nat.le_refl _⟩ dX11_huntingSack_6 (As := []) (rest := []) rfl (fun H locs hP hS => ?_)
  exact kX11_huntingSack_9 X hDA hret hf hP hS (lv_sub hl [0] rfl)
set_option maxRecDepth 10000 in
theorem kX11_huntingSack_0  {r : Int32} {S1 : MS} {M : MS} (X : gX p s m args c cX11_huntingSack 1 RX11 (dC, dI) [(cI, .int)] A) (hDA : ∀ S, va_D A ((mW cI ad) S)) (hret : gRetI p l e (rmL 4 0 0) s m args below meth c cX11_huntingSack (dC, dI) A (mW cI ad) Q r S1) (hf : fX11_huntingSack_0 M = some (r, S1)) {H : Heap} {locs : List Loc} {ls : Array Slot} (hP : va_P (dC, dI) vwCl ((mW cI ad) M) H) (hS : va_S A s.heap H locs) (hl : lv_has ls 1 [(0, .ref (ad 25))]) : W p l e (rmL 4 0 0) s m args below meth c H locs 0 0 Q (F0 m 0 ls []) := by
  have hx := X.hx
  have hb := X.hb
  have hown := X.hown
  have hts := X.hts
  rw [fX11_huntingSack_0] at hf
  refine lv_aload_n hx hb dX11_huntingSack_0 rfl (lv_at hl 0 rfl) ?_
  refine lv_iconst (v := 0) hx hb dX11_huntingSack_1 (by decide) ?_
  refine mr_put (k := 7) X hDA hP hS (by decide) rfl rfl rfl rfl tw1672 dX11_huntingSack_2 (fun H locs hP hS => ?_)
  exact kX11_huntingSack_5 X hDA hret hf hP hS (lv_sub hl [0] rfl)
theorem vX11_huntingSack {l : Launch} {dC : Nat → ClassId} {dI : Nat → Nat → Nat} {cI : ClassId} {ad : Nat → Nat} {M S1 : MS} {r : Int32} (hf : fX11_huntingSack M  = some (r, S1)) : gMetI l yX11_huntingSack cX11_huntingSack 1 (some .int) 4 (dC, dI) [(cI, .int)] (mW cI ad) [.ref (ad 25)] M r S1 := gEntryI (ty := .int) (by decide) rfl rfl mW_fix (Nat.le_of_ble_eq_true rfl) (fun p e s m args below meth c A Q ls X hDA hP hS hret hl => 
  kX11_huntingSack_0 X hDA hret hf hP hS (lv_sub hl [0] rfl))
set_option maxRecDepth 10000 in
theorem kX11_openFlap_26  {r : Int32} {S1 : MS} {M : MS} (X : gX p s m args c cX11_openFlap 2 RX11 (dC, dI) [(cI, .int)] A) (hDA : ∀ S, va_D A ((mW cI ad) S)) (hret : gRetI p l e (rmL 4 0 0) s m args below meth c cX11_openFlap (dC, dI) A (mW cI ad) Q r S1) (hf : fX11_openFlap_26 M = some (r, S1)) {H : Heap} {locs : List Loc} {ls : Array Slot} (hP : va_P (dC, dI) vwCl ((mW cI ad) M) H) (hS : va_S A s.heap H locs) (hl : lv_has ls 2 [(0, .ref (ad 25))]) : W p l e (rmL 4 0 0) s m args below meth c H locs 0 0 Q (F0 m 26 ls []) := by
  have hx := X.hx
  have hb := X.hb
  have hown := X.hown
  have hts := X.hts
  rw [fX11_openFlap_26] at hf
  refine lv_iconst (v := 0) hx hb dX11_openFlap_26 (by decide) ?_
  cases hf
  exact hret _ _ _ _ dX11_openFlap_27 hP hS
set_option maxRecDepth 10000 in
theorem kX11_openFlap_38  {r : Int32} {S1 : MS} {M : MS} {s0 : Int32} (X : gX p s m args c cX11_openFlap 2 RX11 (dC, dI) [(cI, .int)] A) (hDA : ∀ S, va_D A ((mW cI ad) S)) (hret : gRetI p l e (rmL 4 0 0) s m args below meth c cX11_openFlap (dC, dI) A (mW cI ad) Q r S1) (hf : fX11_openFlap_38 M s0 = some (r, S1)) {H : Heap} {locs : List Loc} {ls : Array Slot} (hP : va_P (dC, dI) vwCl ((mW cI ad) M) H) (hS : va_S A s.heap H locs) (hl : lv_has ls 2 [(0, .ref (ad 25))]) : W p l e (rmL 4 0 0) s m args below meth c H locs 0 0 Q (F0 m 38 ls [.int s0]) := by
  have hx := X.hx
  have hb := X.hb
  have hown := X.hown
  have hts := X.hts
  rw [fX11_openFlap_38] at hf
  cases hf
  exact hret _ _ _ _ dX11_openFlap_38 hP hS
set_option maxRecDepth 10000 in
theorem kX11_openFlap_32  {r : Int32} {S1 : MS} {M : MS} {x1 : Int32} (X : gX p s m args c cX11_openFlap 2 RX11 (dC, dI) [(cI, .int)] A) (hDA : ∀ S, va_D A ((mW cI ad) S)) (hret : gRetI p l e (rmL 4 0 0) s m args below meth c cX11_openFlap (dC, dI) A (mW cI ad) Q r S1) (hf : fX11_openFlap_32 M x1 = some (r, S1)) {H : Heap} {locs : List Loc} {ls : Array Slot} (hP : va_P (dC, dI) vwCl ((mW cI ad) M) H) (hS : va_S A s.heap H locs) (hl : lv_has ls 2 [(0, .ref (ad 25)), (1, .int x1)]) : W p l e (rmL 4 0 0) s m args below meth c H locs 0 0 Q (F0 m 32 ls []) := by
  have hx := X.hx
  have hb := X.hb
  have hown := X.hown
  have hts := X.hts
  rw [fX11_openFlap_32] at hf
  refine lv_aload_n hx hb dX11_openFlap_32 rfl (lv_at hl 0 rfl) ?_
  refine lv_iload_n hx hb dX11_openFlap_33 rfl (lv_at hl 1 rfl) ?_
  refine lv_iconst (v := 1) hx hb dX11_openFlap_34 (by decide) ?_
  obtain ⟨q, hc, hf⟩ := bd hf
  refine gCallVI X hDA rfl (vX11_setsFlap hc) gRX11_X11_setsFlap hdX11_setsFlap rfl ⟨by decide, by decide⟩ hP hS (k0 := 0) (ci := 15) rfl rfl hl.1 (Nat.le_of_ble_eq_true rfl) ⟨Nat.le_refl _, Nat.le_refl _⟩ dX11_openFlap_35 (As := [.int x1, .int 1]) (rest := []) rfl (fun H locs hP hS => ?_)
  exact kX11_openFlap_38 X hDA hret hf hP hS (lv_sub hl [0] rfl)
set_option maxRecDepth 10000 in
theorem kX11_openFlap_28  {r : Int32} {S1 : MS} {M : MS} {x1 : Int32} (X : gX p s m args c cX11_openFlap 2 RX11 (dC, dI) [(cI, .int)] A) (hDA : ∀ S, va_D A ((mW cI ad) S)) (hret : gRetI p l e (rmL 4 0 0) s m args below meth c cX11_openFlap (dC, dI) A (mW cI ad) Q r S1) (hf : fX11_openFlap_28 M x1 = some (r, S1)) {H : Heap} {locs : List Loc} {ls : Array Slot} (hP : va_P (dC, dI) vwCl ((mW cI ad) M) H) (hS : va_S A s.heap H locs) (hl : lv_has ls 2 [(0, .ref (ad 25)), (1, .int x1)]) : W p l e (rmL 4 0 0) s m args below meth c H locs 0 0 Q (F0 m 28 ls []) := by
  have hx := X.hx
  have hb := X.hb
  have hown := X.hown
  have hts := X.hts
  rw [fX11_openFlap_28] at hf
  refine lv_aload_n hx hb dX11_openFlap_28 rfl (lv_at hl 0 rfl) ?_
  obtain ⟨q, hc, hf⟩ := bd hf
  refine gCallVV X hDA rfl (vX11_remembers hc) gRX11_X11_remembers hdX11_remembers rfl ⟨by decide, by decide⟩ hP hS (k0 := 0) (ci := 15) rfl rfl hl.1 (Nat.le_of_ble_eq_true rfl) ⟨Nat.le_refl _, Nat.le_refl _⟩ dX11_openFlap_29 (As := []) (rest := []) rfl (fun H locs hP hS => ?_)
  exact kX11_openFlap_32 X hDA hret hf hP hS (lv_sub hl [0, 1] rfl)
set_option maxRecDepth 10000 in
theorem kX11_openFlap_23  {r : Int32} {S1 : MS} {M : MS} {x1 : Int32} {s0 : Int32} (X : gX p s m args c cX11_openFlap 2 RX11 (dC, dI) [(cI, .int)] A) (hDA : ∀ S, va_D A ((mW cI ad) S)) (hret : gRetI p l e (rmL 4 0 0) s m args below meth c cX11_openFlap (dC, dI) A (mW cI ad) Q r S1) (hf : fX11_openFlap_23 M x1 s0 = some (r, S1)) {H : Heap} {locs : List Loc} {ls : Array Slot} (hP : va_P (dC, dI) vwCl ((mW cI ad) M) H) (hS : va_S A s.heap H locs) (hl : lv_has ls 2 [(0, .ref (ad 25)), (1, .int x1)]) : W p l e (rmL 4 0 0) s m args below meth c H locs 0 0 Q (F0 m 23 ls [.int s0]) := by
  have hx := X.hx
  have hb := X.hb
  have hown := X.hown
  have hts := X.hts
  rw [fX11_openFlap_23] at hf
  refine lv_if_eq (tgt := 28) hx hb dX11_openFlap_23 (by decide) (fun c1 => ?_) (fun c1 => ?_)
  · exact kX11_openFlap_28 X hDA hret (ifp c1 hf) hP hS (lv_sub hl [0, 1] rfl)
  · exact kX11_openFlap_26 X hDA hret (ifn c1 hf) hP hS (lv_sub hl [0] rfl)
set_option maxRecDepth 10000 in
theorem kX11_openFlap_19  {r : Int32} {S1 : MS} {M : MS} {x1 : Int32} {s0 : Int32} (X : gX p s m args c cX11_openFlap 2 RX11 (dC, dI) [(cI, .int)] A) (hDA : ∀ S, va_D A ((mW cI ad) S)) (hret : gRetI p l e (rmL 4 0 0) s m args below meth c cX11_openFlap (dC, dI) A (mW cI ad) Q r S1) (hf : fX11_openFlap_19 M x1 s0 = some (r, S1)) {H : Heap} {locs : List Loc} {ls : Array Slot} (hP : va_P (dC, dI) vwCl ((mW cI ad) M) H) (hS : va_S A s.heap H locs) (hl : lv_has ls 2 [(0, .ref (ad 25)), (1, .int x1)]) : W p l e (rmL 4 0 0) s m args below meth c H locs 0 0 Q (F0 m 19 ls [.int s0, .ref (ad 25)]) := by
  have hx := X.hx
  have hb := X.hb
  have hown := X.hown
  have hts := X.hts
  rw [fX11_openFlap_19] at hf
  refine lv_iconst (v := 2) hx hb dX11_openFlap_19 (by decide) ?_
  obtain ⟨q, hc, hf⟩ := bd hf
  refine gCallVI X hDA rfl (vX11_fails hc) gRX11_X11_fails hdX11_fails rfl ⟨by decide, by decide⟩ hP hS (k0 := 0) (ci := 15) rfl rfl hl.1 (Nat.le_of_ble_eq_true rfl) ⟨Nat.le_refl _, Nat.le_refl _⟩ dX11_openFlap_20 (As := [.int s0, .int 2]) (rest := []) rfl (fun H locs hP hS => ?_)
  exact kX11_openFlap_23 X hDA hret hf hP hS (lv_sub hl [0, 1] rfl)
set_option maxRecDepth 10000 in
theorem kX11_openFlap_13  {r : Int32} {S1 : MS} {M : MS} {x1 : Int32} (X : gX p s m args c cX11_openFlap 2 RX11 (dC, dI) [(cI, .int)] A) (hDA : ∀ S, va_D A ((mW cI ad) S)) (hret : gRetI p l e (rmL 4 0 0) s m args below meth c cX11_openFlap (dC, dI) A (mW cI ad) Q r S1) (hf : fX11_openFlap_13 M x1 = some (r, S1)) {H : Heap} {locs : List Loc} {ls : Array Slot} (hP : va_P (dC, dI) vwCl ((mW cI ad) M) H) (hS : va_S A s.heap H locs) (hl : lv_has ls 2 [(0, .ref (ad 25)), (1, .int x1)]) : W p l e (rmL 4 0 0) s m args below meth c H locs 0 0 Q (F0 m 13 ls []) := by
  have hx := X.hx
  have hb := X.hb
  have hown := X.hown
  have hts := X.hts
  rw [fX11_openFlap_13] at hf
  refine lv_aload_n hx hb dX11_openFlap_13 rfl (lv_at hl 0 rfl) ?_
  refine lv_aload_n hx hb dX11_openFlap_14 rfl (lv_at hl 0 rfl) ?_
  refine lv_iload_n hx hb dX11_openFlap_15 rfl (lv_at hl 1 rfl) ?_
  obtain ⟨q, hc, hf⟩ := bd hf
  refine gCallVI X hDA rfl (vX11_isOpenSack hc) gRX11_X11_isOpenSack hdX11_isOpenSack rfl ⟨by decide, by decide⟩ hP hS (k0 := 0) (ci := 15) rfl rfl hl.1 (Nat.le_of_ble_eq_true rfl) ⟨Nat.le_refl _, Nat.le_refl _⟩ dX11_openFlap_16 (As := [.int x1]) (rest := [.ref (ad 25)]) rfl (fun H locs hP hS => ?_)
  exact kX11_openFlap_19 X hDA hret hf hP hS (lv_sub hl [0, 1] rfl)
set_option maxRecDepth 10000 in
theorem kX11_openFlap_10  {r : Int32} {S1 : MS} {M : MS} {x1 : Int32} {s0 : Int32} (X : gX p s m args c cX11_openFlap 2 RX11 (dC, dI) [(cI, .int)] A) (hDA : ∀ S, va_D A ((mW cI ad) S)) (hret : gRetI p l e (rmL 4 0 0) s m args below meth c cX11_openFlap (dC, dI) A (mW cI ad) Q r S1) (hf : fX11_openFlap_10 M x1 s0 = some (r, S1)) {H : Heap} {locs : List Loc} {ls : Array Slot} (hP : va_P (dC, dI) vwCl ((mW cI ad) M) H) (hS : va_S A s.heap H locs) (hl : lv_has ls 2 [(0, .ref (ad 25)), (1, .int x1)]) : W p l e (rmL 4 0 0) s m args below meth c H locs 0 0 Q (F0 m 10 ls [.int s0]) := by
  have hx := X.hx
  have hb := X.hb
  have hown := X.hown
  have hts := X.hts
  rw [fX11_openFlap_10] at hf
  refine lv_if_ne (tgt := 26) hx hb dX11_openFlap_10 (by decide) (fun c1 => ?_) (fun c1 => ?_)
  · exact kX11_openFlap_26 X hDA hret (ifn c1 hf) hP hS (lv_sub hl [0] rfl)
  · exact kX11_openFlap_13 X hDA hret (ifp c1 hf) hP hS (lv_sub hl [0, 1] rfl)
set_option maxRecDepth 10000 in
theorem kX11_openFlap_5  {r : Int32} {S1 : MS} {M : MS} {x1 : Int32} (X : gX p s m args c cX11_openFlap 2 RX11 (dC, dI) [(cI, .int)] A) (hDA : ∀ S, va_D A ((mW cI ad) S)) (hret : gRetI p l e (rmL 4 0 0) s m args below meth c cX11_openFlap (dC, dI) A (mW cI ad) Q r S1) (hf : fX11_openFlap_5 M x1 = some (r, S1)) {H : Heap} {locs : List Loc} {ls : Array Slot} (hP : va_P (dC, dI) vwCl ((mW cI ad) M) H) (hS : va_S A s.heap H locs) (hl : lv_has ls 2 [(0, .ref (ad 25)), (1, .int x1)]) : W p l e (rmL 4 0 0) s m args below meth c H locs 0 0 Q (F0 m 5 ls []) := by
  have hx := X.hx
  have hb := X.hb
  have hown := X.hown
  have hts := X.hts
  rw [fX11_openFlap_5] at hf
  refine lv_aload_n hx hb dX11_openFlap_5 rfl (lv_at hl 0 rfl) ?_
  refine lv_iload_n hx hb dX11_openFlap_6 rfl (lv_at hl 1 rfl) ?_
  obtain ⟨q, hc, hf⟩ := bd hf
  refine gCallVI X hDA rfl (vX11_noSack hc) gRX11_X11_noSack hdX11_noSack rfl ⟨by decide, by decide⟩ hP hS (k0 := 0) (ci := 15) rfl rfl hl.1 (Nat.le_of_ble_eq_true rfl) ⟨Nat.le_refl _, Nat.le_refl _⟩ dX11_openFlap_7 (As := [.int x1]) (rest := []) rfl (fun H locs hP hS => ?_)
  exact kX11_openFlap_10 X hDA hret hf hP hS (lv_sub hl [0, 1] rfl)
set_option maxRecDepth 10000 in
theorem kX11_openFlap_0  {r : Int32} {S1 : MS} {M : MS} {a1 : Int32} (X : gX p s m args c cX11_openFlap 2 RX11 (dC, dI) [(cI, .int)] A) (hDA : ∀ S, va_D A ((mW cI ad) S)) (hret : gRetI p l e (rmL 4 0 0) s m args below meth c cX11_openFlap (dC, dI) A (mW cI ad) Q r S1) (hf : fX11_openFlap_0 M a1 = some (r, S1)) {H : Heap} {locs : List Loc} {ls : Array Slot} (hP : va_P (dC, dI) vwCl ((mW cI ad) M) H) (hS : va_S A s.heap H locs) (hl : lv_has ls 2 [(0, .ref (ad 25)), (1, .int a1)]) : W p l e (rmL 4 0 0) s m args below meth c H locs 0 0 Q (F0 m 0 ls []) := by
  have hx := X.hx
  have hb := X.hb
  have hown := X.hown
  have hts := X.hts
  rw [fX11_openFlap_0] at hf
  refine lv_aload_n hx hb dX11_openFlap_0 rfl (lv_at hl 0 rfl) ?_
  refine lv_iconst (v := 0) hx hb dX11_openFlap_1 (by decide) ?_
  refine mr_put (k := 7) X hDA hP hS (by decide) rfl rfl rfl rfl tw1672 dX11_openFlap_2 (fun H locs hP hS => ?_)
  exact kX11_openFlap_5 X hDA hret hf hP hS (lv_sub hl [0, 1] rfl)
theorem vX11_openFlap {l : Launch} {dC : Nat → ClassId} {dI : Nat → Nat → Nat} {cI : ClassId} {ad : Nat → Nat} {M S1 : MS} {r : Int32} {a1 : Int32} (hf : fX11_openFlap M a1 = some (r, S1)) : gMetI l yX11_openFlap cX11_openFlap 2 (some .int) 4 (dC, dI) [(cI, .int)] (mW cI ad) [.ref (ad 25), .int a1] M r S1 := gEntryI (ty := .int) (by decide) rfl rfl mW_fix (Nat.le_of_ble_eq_true rfl) (fun p e s m args below meth c A Q ls X hDA hP hS hret hl => 
  kX11_openFlap_0 X hDA hret hf hP hS (lv_sub hl [0, 1] rfl))
set_option maxRecDepth 10000 in
theorem kX11_shutFlap_34  {r : Int32} {S1 : MS} {M : MS} (X : gX p s m args c cX11_shutFlap 2 RX11 (dC, dI) [(cI, .int)] A) (hDA : ∀ S, va_D A ((mW cI ad) S)) (hret : gRetI p l e (rmL 4 0 0) s m args below meth c cX11_shutFlap (dC, dI) A (mW cI ad) Q r S1) (hf : fX11_shutFlap_34 M = some (r, S1)) {H : Heap} {locs : List Loc} {ls : Array Slot} (hP : va_P (dC, dI) vwCl ((mW cI ad) M) H) (hS : va_S A s.heap H locs) (hl : lv_has ls 2 [(0, .ref (ad 25))]) : W p l e (rmL 4 0 0) s m args below meth c H locs 0 0 Q (F0 m 34 ls []) := by
  have hx := X.hx
  have hb := X.hb
  have hown := X.hown
  have hts := X.hts
  rw [fX11_shutFlap_34] at hf
  refine lv_iconst (v := 0) hx hb dX11_shutFlap_34 (by decide) ?_
  cases hf
  exact hret _ _ _ _ dX11_shutFlap_35 hP hS
set_option maxRecDepth 10000 in
theorem kX11_shutFlap_46  {r : Int32} {S1 : MS} {M : MS} {s0 : Int32} (X : gX p s m args c cX11_shutFlap 2 RX11 (dC, dI) [(cI, .int)] A) (hDA : ∀ S, va_D A ((mW cI ad) S)) (hret : gRetI p l e (rmL 4 0 0) s m args below meth c cX11_shutFlap (dC, dI) A (mW cI ad) Q r S1) (hf : fX11_shutFlap_46 M s0 = some (r, S1)) {H : Heap} {locs : List Loc} {ls : Array Slot} (hP : va_P (dC, dI) vwCl ((mW cI ad) M) H) (hS : va_S A s.heap H locs) (hl : lv_has ls 2 [(0, .ref (ad 25))]) : W p l e (rmL 4 0 0) s m args below meth c H locs 0 0 Q (F0 m 46 ls [.int s0]) := by
  have hx := X.hx
  have hb := X.hb
  have hown := X.hown
  have hts := X.hts
  rw [fX11_shutFlap_46] at hf
  cases hf
  exact hret _ _ _ _ dX11_shutFlap_46 hP hS
set_option maxRecDepth 10000 in
theorem kX11_shutFlap_40  {r : Int32} {S1 : MS} {M : MS} {x1 : Int32} (X : gX p s m args c cX11_shutFlap 2 RX11 (dC, dI) [(cI, .int)] A) (hDA : ∀ S, va_D A ((mW cI ad) S)) (hret : gRetI p l e (rmL 4 0 0) s m args below meth c cX11_shutFlap (dC, dI) A (mW cI ad) Q r S1) (hf : fX11_shutFlap_40 M x1 = some (r, S1)) {H : Heap} {locs : List Loc} {ls : Array Slot} (hP : va_P (dC, dI) vwCl ((mW cI ad) M) H) (hS : va_S A s.heap H locs) (hl : lv_has ls 2 [(0, .ref (ad 25)), (1, .int x1)]) : W p l e (rmL 4 0 0) s m args below meth c H locs 0 0 Q (F0 m 40 ls []) := by
  have hx := X.hx
  have hb := X.hb
  have hown := X.hown
  have hts := X.hts
  rw [fX11_shutFlap_40] at hf
  refine lv_aload_n hx hb dX11_shutFlap_40 rfl (lv_at hl 0 rfl) ?_
  refine lv_iload_n hx hb dX11_shutFlap_41 rfl (lv_at hl 1 rfl) ?_
  refine lv_iconst (v := 0) hx hb dX11_shutFlap_42 (by decide) ?_
  obtain ⟨q, hc, hf⟩ := bd hf
  refine gCallVI X hDA rfl (vX11_setsFlap hc) gRX11_X11_setsFlap hdX11_setsFlap rfl ⟨by decide, by decide⟩ hP hS (k0 := 0) (ci := 15) rfl rfl hl.1 (Nat.le_of_ble_eq_true rfl) ⟨Nat.le_refl _, Nat.le_refl _⟩ dX11_shutFlap_43 (As := [.int x1, .int 0]) (rest := []) rfl (fun H locs hP hS => ?_)
  exact kX11_shutFlap_46 X hDA hret hf hP hS (lv_sub hl [0] rfl)
set_option maxRecDepth 10000 in
theorem kX11_shutFlap_36  {r : Int32} {S1 : MS} {M : MS} {x1 : Int32} (X : gX p s m args c cX11_shutFlap 2 RX11 (dC, dI) [(cI, .int)] A) (hDA : ∀ S, va_D A ((mW cI ad) S)) (hret : gRetI p l e (rmL 4 0 0) s m args below meth c cX11_shutFlap (dC, dI) A (mW cI ad) Q r S1) (hf : fX11_shutFlap_36 M x1 = some (r, S1)) {H : Heap} {locs : List Loc} {ls : Array Slot} (hP : va_P (dC, dI) vwCl ((mW cI ad) M) H) (hS : va_S A s.heap H locs) (hl : lv_has ls 2 [(0, .ref (ad 25)), (1, .int x1)]) : W p l e (rmL 4 0 0) s m args below meth c H locs 0 0 Q (F0 m 36 ls []) := by
  have hx := X.hx
  have hb := X.hb
  have hown := X.hown
  have hts := X.hts
  rw [fX11_shutFlap_36] at hf
  refine lv_aload_n hx hb dX11_shutFlap_36 rfl (lv_at hl 0 rfl) ?_
  obtain ⟨q, hc, hf⟩ := bd hf
  refine gCallVV X hDA rfl (vX11_remembers hc) gRX11_X11_remembers hdX11_remembers rfl ⟨by decide, by decide⟩ hP hS (k0 := 0) (ci := 15) rfl rfl hl.1 (Nat.le_of_ble_eq_true rfl) ⟨Nat.le_refl _, Nat.le_refl _⟩ dX11_shutFlap_37 (As := []) (rest := []) rfl (fun H locs hP hS => ?_)
  exact kX11_shutFlap_40 X hDA hret hf hP hS (lv_sub hl [0, 1] rfl)
set_option maxRecDepth 10000 in
theorem kX11_shutFlap_31  {r : Int32} {S1 : MS} {M : MS} {x1 : Int32} {s0 : Int32} (X : gX p s m args c cX11_shutFlap 2 RX11 (dC, dI) [(cI, .int)] A) (hDA : ∀ S, va_D A ((mW cI ad) S)) (hret : gRetI p l e (rmL 4 0 0) s m args below meth c cX11_shutFlap (dC, dI) A (mW cI ad) Q r S1) (hf : fX11_shutFlap_31 M x1 s0 = some (r, S1)) {H : Heap} {locs : List Loc} {ls : Array Slot} (hP : va_P (dC, dI) vwCl ((mW cI ad) M) H) (hS : va_S A s.heap H locs) (hl : lv_has ls 2 [(0, .ref (ad 25)), (1, .int x1)]) : W p l e (rmL 4 0 0) s m args below meth c H locs 0 0 Q (F0 m 31 ls [.int s0]) := by
  have hx := X.hx
  have hb := X.hb
  have hown := X.hown
  have hts := X.hts
  rw [fX11_shutFlap_31] at hf
  refine lv_if_eq (tgt := 36) hx hb dX11_shutFlap_31 (by decide) (fun c1 => ?_) (fun c1 => ?_)
  · exact kX11_shutFlap_36 X hDA hret (ifp c1 hf) hP hS (lv_sub hl [0, 1] rfl)
  · exact kX11_shutFlap_34 X hDA hret (ifn c1 hf) hP hS (lv_sub hl [0] rfl)
set_option maxRecDepth 10000 in
theorem kX11_shutFlap_27  {r : Int32} {S1 : MS} {M : MS} {x1 : Int32} {s0 : Int32} (X : gX p s m args c cX11_shutFlap 2 RX11 (dC, dI) [(cI, .int)] A) (hDA : ∀ S, va_D A ((mW cI ad) S)) (hret : gRetI p l e (rmL 4 0 0) s m args below meth c cX11_shutFlap (dC, dI) A (mW cI ad) Q r S1) (hf : fX11_shutFlap_27 M x1 s0 = some (r, S1)) {H : Heap} {locs : List Loc} {ls : Array Slot} (hP : va_P (dC, dI) vwCl ((mW cI ad) M) H) (hS : va_S A s.heap H locs) (hl : lv_has ls 2 [(0, .ref (ad 25)), (1, .int x1)]) : W p l e (rmL 4 0 0) s m args below meth c H locs 0 0 Q (F0 m 27 ls [.int s0, .ref (ad 25)]) := by
  have hx := X.hx
  have hb := X.hb
  have hown := X.hown
  have hts := X.hts
  rw [fX11_shutFlap_27] at hf
  refine lv_iconst (v := 2) hx hb dX11_shutFlap_27 (by decide) ?_
  obtain ⟨q, hc, hf⟩ := bd hf
  refine gCallVI X hDA rfl (vX11_fails hc) gRX11_X11_fails hdX11_fails rfl ⟨by decide, by decide⟩ hP hS (k0 := 0) (ci := 15) rfl rfl hl.1 (Nat.le_of_ble_eq_true rfl) ⟨Nat.le_refl _, Nat.le_refl _⟩ dX11_shutFlap_28 (As := [.int s0, .int 2]) (rest := []) rfl (fun H locs hP hS => ?_)
  exact kX11_shutFlap_31 X hDA hret hf hP hS (lv_sub hl [0, 1] rfl)
set_option maxRecDepth 10000 in
theorem kX11_shutFlap_26  {r : Int32} {S1 : MS} {M : MS} {x1 : Int32} (X : gX p s m args c cX11_shutFlap 2 RX11 (dC, dI) [(cI, .int)] A) (hDA : ∀ S, va_D A ((mW cI ad) S)) (hret : gRetI p l e (rmL 4 0 0) s m args below meth c cX11_shutFlap (dC, dI) A (mW cI ad) Q r S1) (hf : fX11_shutFlap_26 M x1 = some (r, S1)) {H : Heap} {locs : List Loc} {ls : Array Slot} (hP : va_P (dC, dI) vwCl ((mW cI ad) M) H) (hS : va_S A s.heap H locs) (hl : lv_has ls 2 [(0, .ref (ad 25)), (1, .int x1)]) : W p l e (rmL 4 0 0) s m args below meth c H locs 0 0 Q (F0 m 26 ls [.ref (ad 25)]) := by
  have hx := X.hx
  have hb := X.hb
  have hown := X.hown
  have hts := X.hts
  rw [fX11_shutFlap_26] at hf
  refine lv_iconst (v := 0) hx hb dX11_shutFlap_26 (by decide) ?_
  exact kX11_shutFlap_27 X hDA hret hf hP hS (lv_sub hl [0, 1] rfl)
set_option maxRecDepth 10000 in
theorem kX11_shutFlap_22  {r : Int32} {S1 : MS} {M : MS} {x1 : Int32} (X : gX p s m args c cX11_shutFlap 2 RX11 (dC, dI) [(cI, .int)] A) (hDA : ∀ S, va_D A ((mW cI ad) S)) (hret : gRetI p l e (rmL 4 0 0) s m args below meth c cX11_shutFlap (dC, dI) A (mW cI ad) Q r S1) (hf : fX11_shutFlap_22 M x1 = some (r, S1)) {H : Heap} {locs : List Loc} {ls : Array Slot} (hP : va_P (dC, dI) vwCl ((mW cI ad) M) H) (hS : va_S A s.heap H locs) (hl : lv_has ls 2 [(0, .ref (ad 25)), (1, .int x1)]) : W p l e (rmL 4 0 0) s m args below meth c H locs 0 0 Q (F0 m 22 ls [.ref (ad 25)]) := by
  have hx := X.hx
  have hb := X.hb
  have hown := X.hown
  have hts := X.hts
  rw [fX11_shutFlap_22] at hf
  refine lv_iconst (v := 1) hx hb dX11_shutFlap_22 (by decide) ?_
  refine lv_goto (tgt := 27) hx hb dX11_shutFlap_23 (by decide) ?_
  exact kX11_shutFlap_27 X hDA hret hf hP hS (lv_sub hl [0, 1] rfl)
set_option maxRecDepth 10000 in
theorem kX11_shutFlap_19  {r : Int32} {S1 : MS} {M : MS} {x1 : Int32} {s0 : Int32} (X : gX p s m args c cX11_shutFlap 2 RX11 (dC, dI) [(cI, .int)] A) (hDA : ∀ S, va_D A ((mW cI ad) S)) (hret : gRetI p l e (rmL 4 0 0) s m args below meth c cX11_shutFlap (dC, dI) A (mW cI ad) Q r S1) (hf : fX11_shutFlap_19 M x1 s0 = some (r, S1)) {H : Heap} {locs : List Loc} {ls : Array Slot} (hP : va_P (dC, dI) vwCl ((mW cI ad) M) H) (hS : va_S A s.heap H locs) (hl : lv_has ls 2 [(0, .ref (ad 25)), (1, .int x1)]) : W p l e (rmL 4 0 0) s m args below meth c H locs 0 0 Q (F0 m 19 ls [.int s0, .ref (ad 25)]) := by
  have hx := X.hx
  have hb := X.hb
  have hown := X.hown
  have hts := X.hts
  rw [fX11_shutFlap_19] at hf
  refine lv_if_ne (tgt := 26) hx hb dX11_shutFlap_19 (by decide) (fun c1 => ?_) (fun c1 => ?_)
  · exact kX11_shutFlap_26 X hDA hret (ifn c1 hf) hP hS (lv_sub hl [0, 1] rfl)
  · exact kX11_shutFlap_22 X hDA hret (ifp c1 hf) hP hS (lv_sub hl [0, 1] rfl)
set_option maxRecDepth 10000 in
theorem kX11_shutFlap_13  {r : Int32} {S1 : MS} {M : MS} {x1 : Int32} (X : gX p s m args c cX11_shutFlap 2 RX11 (dC, dI) [(cI, .int)] A) (hDA : ∀ S, va_D A ((mW cI ad) S)) (hret : gRetI p l e (rmL 4 0 0) s m args below meth c cX11_shutFlap (dC, dI) A (mW cI ad) Q r S1) (hf : fX11_shutFlap_13 M x1 = some (r, S1)) {H : Heap} {locs : List Loc} {ls : Array Slot} (hP : va_P (dC, dI) vwCl ((mW cI ad) M) H) (hS : va_S A s.heap H locs) (hl : lv_has ls 2 [(0, .ref (ad 25)), (1, .int x1)]) : W p l e (rmL 4 0 0) s m args below meth c H locs 0 0 Q (F0 m 13 ls []) := by
  have hx := X.hx
  have hb := X.hb
  have hown := X.hown
  have hts := X.hts
  rw [fX11_shutFlap_13] at hf
  refine lv_aload_n hx hb dX11_shutFlap_13 rfl (lv_at hl 0 rfl) ?_
  refine lv_aload_n hx hb dX11_shutFlap_14 rfl (lv_at hl 0 rfl) ?_
  refine lv_iload_n hx hb dX11_shutFlap_15 rfl (lv_at hl 1 rfl) ?_
  obtain ⟨q, hc, hf⟩ := bd hf
  refine gCallVI X hDA rfl (vX11_isOpenSack hc) gRX11_X11_isOpenSack hdX11_isOpenSack rfl ⟨by decide, by decide⟩ hP hS (k0 := 0) (ci := 15) rfl rfl hl.1 (Nat.le_of_ble_eq_true rfl) ⟨Nat.le_refl _, Nat.le_refl _⟩ dX11_shutFlap_16 (As := [.int x1]) (rest := [.ref (ad 25)]) rfl (fun H locs hP hS => ?_)
  exact kX11_shutFlap_19 X hDA hret hf hP hS (lv_sub hl [0, 1] rfl)
set_option maxRecDepth 10000 in
theorem kX11_shutFlap_10  {r : Int32} {S1 : MS} {M : MS} {x1 : Int32} {s0 : Int32} (X : gX p s m args c cX11_shutFlap 2 RX11 (dC, dI) [(cI, .int)] A) (hDA : ∀ S, va_D A ((mW cI ad) S)) (hret : gRetI p l e (rmL 4 0 0) s m args below meth c cX11_shutFlap (dC, dI) A (mW cI ad) Q r S1) (hf : fX11_shutFlap_10 M x1 s0 = some (r, S1)) {H : Heap} {locs : List Loc} {ls : Array Slot} (hP : va_P (dC, dI) vwCl ((mW cI ad) M) H) (hS : va_S A s.heap H locs) (hl : lv_has ls 2 [(0, .ref (ad 25)), (1, .int x1)]) : W p l e (rmL 4 0 0) s m args below meth c H locs 0 0 Q (F0 m 10 ls [.int s0]) := by
  have hx := X.hx
  have hb := X.hb
  have hown := X.hown
  have hts := X.hts
  rw [fX11_shutFlap_10] at hf
  refine lv_if_ne (tgt := 34) hx hb dX11_shutFlap_10 (by decide) (fun c1 => ?_) (fun c1 => ?_)
  · exact kX11_shutFlap_34 X hDA hret (ifn c1 hf) hP hS (lv_sub hl [0] rfl)
  · exact kX11_shutFlap_13 X hDA hret (ifp c1 hf) hP hS (lv_sub hl [0, 1] rfl)
set_option maxRecDepth 10000 in
theorem kX11_shutFlap_5  {r : Int32} {S1 : MS} {M : MS} {x1 : Int32} (X : gX p s m args c cX11_shutFlap 2 RX11 (dC, dI) [(cI, .int)] A) (hDA : ∀ S, va_D A ((mW cI ad) S)) (hret : gRetI p l e (rmL 4 0 0) s m args below meth c cX11_shutFlap (dC, dI) A (mW cI ad) Q r S1) (hf : fX11_shutFlap_5 M x1 = some (r, S1)) {H : Heap} {locs : List Loc} {ls : Array Slot} (hP : va_P (dC, dI) vwCl ((mW cI ad) M) H) (hS : va_S A s.heap H locs) (hl : lv_has ls 2 [(0, .ref (ad 25)), (1, .int x1)]) : W p l e (rmL 4 0 0) s m args below meth c H locs 0 0 Q (F0 m 5 ls []) := by
  have hx := X.hx
  have hb := X.hb
  have hown := X.hown
  have hts := X.hts
  rw [fX11_shutFlap_5] at hf
  refine lv_aload_n hx hb dX11_shutFlap_5 rfl (lv_at hl 0 rfl) ?_
  refine lv_iload_n hx hb dX11_shutFlap_6 rfl (lv_at hl 1 rfl) ?_
  obtain ⟨q, hc, hf⟩ := bd hf
  refine gCallVI X hDA rfl (vX11_noSack hc) gRX11_X11_noSack hdX11_noSack rfl ⟨by decide, by decide⟩ hP hS (k0 := 0) (ci := 15) rfl rfl hl.1 (Nat.le_of_ble_eq_true rfl) ⟨Nat.le_refl _, Nat.le_refl _⟩ dX11_shutFlap_7 (As := [.int x1]) (rest := []) rfl (fun H locs hP hS => ?_)
  exact kX11_shutFlap_10 X hDA hret hf hP hS (lv_sub hl [0, 1] rfl)
set_option maxRecDepth 10000 in
theorem kX11_shutFlap_0  {r : Int32} {S1 : MS} {M : MS} {a1 : Int32} (X : gX p s m args c cX11_shutFlap 2 RX11 (dC, dI) [(cI, .int)] A) (hDA : ∀ S, va_D A ((mW cI ad) S)) (hret : gRetI p l e (rmL 4 0 0) s m args below meth c cX11_shutFlap (dC, dI) A (mW cI ad) Q r S1) (hf : fX11_shutFlap_0 M a1 = some (r, S1)) {H : Heap} {locs : List Loc} {ls : Array Slot} (hP : va_P (dC, dI) vwCl ((mW cI ad) M) H) (hS : va_S A s.heap H locs) (hl : lv_has ls 2 [(0, .ref (ad 25)), (1, .int a1)]) : W p l e (rmL 4 0 0) s m args below meth c H locs 0 0 Q (F0 m 0 ls []) := by
  have hx := X.hx
  have hb := X.hb
  have hown := X.hown
  have hts := X.hts
  rw [fX11_shutFlap_0] at hf
  refine lv_aload_n hx hb dX11_shutFlap_0 rfl (lv_at hl 0 rfl) ?_
  refine lv_iconst (v := 0) hx hb dX11_shutFlap_1 (by decide) ?_
  refine mr_put (k := 7) X hDA hP hS (by decide) rfl rfl rfl rfl tw1672 dX11_shutFlap_2 (fun H locs hP hS => ?_)
  exact kX11_shutFlap_5 X hDA hret hf hP hS (lv_sub hl [0, 1] rfl)
theorem vX11_shutFlap {l : Launch} {dC : Nat → ClassId} {dI : Nat → Nat → Nat} {cI : ClassId} {ad : Nat → Nat} {M S1 : MS} {r : Int32} {a1 : Int32} (hf : fX11_shutFlap M a1 = some (r, S1)) : gMetI l yX11_shutFlap cX11_shutFlap 2 (some .int) 4 (dC, dI) [(cI, .int)] (mW cI ad) [.ref (ad 25), .int a1] M r S1 := gEntryI (ty := .int) (by decide) rfl rfl mW_fix (Nat.le_of_ble_eq_true rfl) (fun p e s m args below meth c A Q ls X hDA hP hS hret hl => 
  kX11_shutFlap_0 X hDA hret hf hP hS (lv_sub hl [0, 1] rfl))
set_option maxRecDepth 10000 in
theorem kX11_hourPasses_124  {S1 : MS} {M : MS} (X : gX p s m args c cX11_hourPasses 3 RX11 (dC, dI) [(cI, .int)] A) (hDA : ∀ S, va_D A ((mW cI ad) S)) (hret : gRetV p l e (rmL 5 0 0) s m args below meth c cX11_hourPasses (dC, dI) A (mW cI ad) Q S1) (hf : fX11_hourPasses_124 M = some S1) {H : Heap} {locs : List Loc} {ls : Array Slot} (hP : va_P (dC, dI) vwCl ((mW cI ad) M) H) (hS : va_S A s.heap H locs) (hl : lv_has ls 3 [(0, .ref (ad 25))]) : W p l e (rmL 5 0 0) s m args below meth c H locs 0 0 Q (F0 m 124 ls []) := by
  have hx := X.hx
  have hb := X.hb
  have hown := X.hown
  have hts := X.hts
  rw [fX11_hourPasses_124] at hf
  cases hf
  exact hret _ _ _ _ dX11_hourPasses_124 hP hS
set_option maxRecDepth 10000 in
theorem kX11_hourPasses_120  {S1 : MS} {M : MS} (X : gX p s m args c cX11_hourPasses 3 RX11 (dC, dI) [(cI, .int)] A) (hDA : ∀ S, va_D A ((mW cI ad) S)) (hret : gRetV p l e (rmL 5 0 0) s m args below meth c cX11_hourPasses (dC, dI) A (mW cI ad) Q S1) (hf : fX11_hourPasses_120 M = some S1) {H : Heap} {locs : List Loc} {ls : Array Slot} (hP : va_P (dC, dI) vwCl ((mW cI ad) M) H) (hS : va_S A s.heap H locs) (hl : lv_has ls 3 [(0, .ref (ad 25))]) : W p l e (rmL 5 0 0) s m args below meth c H locs 0 0 Q (F0 m 120 ls []) := by
  have hx := X.hx
  have hb := X.hb
  have hown := X.hown
  have hts := X.hts
  rw [fX11_hourPasses_120] at hf
  refine lv_aload_n hx hb dX11_hourPasses_120 rfl (lv_at hl 0 rfl) ?_
  obtain ⟨q, hc, hf⟩ := bd hf
  refine gCallVV X hDA rfl (vX11_dawns hc) gRX11_X11_dawns hdX11_dawns rfl ⟨by decide, by decide⟩ hP hS (k0 := 0) (ci := 15) rfl rfl hl.1 (Nat.le_of_ble_eq_true rfl) ⟨Nat.le_refl _, Nat.le_refl _⟩ dX11_hourPasses_121 (As := []) (rest := []) rfl (fun H locs hP hS => ?_)
  exact kX11_hourPasses_124 X hDA hret hf hP hS (lv_sub hl [0] rfl)
set_option maxRecDepth 10000 in
theorem kX11_hourPasses_106  {S1 : MS} {M : MS} (X : gX p s m args c cX11_hourPasses 3 RX11 (dC, dI) [(cI, .int)] A) (hDA : ∀ S, va_D A ((mW cI ad) S)) (hret : gRetV p l e (rmL 5 0 0) s m args below meth c cX11_hourPasses (dC, dI) A (mW cI ad) Q S1) (hf : fX11_hourPasses_106 M = some S1) {H : Heap} {locs : List Loc} {ls : Array Slot} (hP : va_P (dC, dI) vwCl ((mW cI ad) M) H) (hS : va_S A s.heap H locs) (hl : lv_has ls 3 [(0, .ref (ad 25))]) : W p l e (rmL 5 0 0) s m args below meth c H locs 0 0 Q (F0 m 106 ls []) := by
  have hx := X.hx
  have hb := X.hb
  have hown := X.hown
  have hts := X.hts
  rw [fX11_hourPasses_106] at hf
  refine lv_aload_n hx hb dX11_hourPasses_106 rfl (lv_at hl 0 rfl) ?_
  refine mr_get (k := 0) X hP (by decide) rfl rfl tw1665 dX11_hourPasses_107 ?_
  refine lv_iconst (v := 3) hx hb dX11_hourPasses_110 (by decide) ?_
  obtain ⟨g1, hf⟩ := gd hf
  refine mr_ald (a := 0) X hP rfl g1 dX11_hourPasses_111 ?_
  refine lv_bipush (v := 24) hx hb dX11_hourPasses_112 (by decide) ?_
  refine lv_irem hx hb dX11_hourPasses_114 (by decide) ?_
  refine lv_bipush (v := 6) hx hb dX11_hourPasses_115 (by decide) ?_
  refine lv_icmp_ne (tgt := 124) hx hb dX11_hourPasses_117 (by decide) (fun c1 => ?_) (fun c1 => ?_)
  · exact kX11_hourPasses_124 X hDA hret (ifn c1 hf) hP hS (lv_sub hl [0] rfl)
  · exact kX11_hourPasses_120 X hDA hret (ifp c1 hf) hP hS (lv_sub hl [0] rfl)
set_option maxRecDepth 10000 in
theorem kX11_hourPasses_102  {S1 : MS} {M : MS} (X : gX p s m args c cX11_hourPasses 3 RX11 (dC, dI) [(cI, .int)] A) (hDA : ∀ S, va_D A ((mW cI ad) S)) (hret : gRetV p l e (rmL 5 0 0) s m args below meth c cX11_hourPasses (dC, dI) A (mW cI ad) Q S1) (hf : fX11_hourPasses_102 M = some S1) {H : Heap} {locs : List Loc} {ls : Array Slot} (hP : va_P (dC, dI) vwCl ((mW cI ad) M) H) (hS : va_S A s.heap H locs) (hl : lv_has ls 3 [(0, .ref (ad 25))]) : W p l e (rmL 5 0 0) s m args below meth c H locs 0 0 Q (F0 m 102 ls []) := by
  have hx := X.hx
  have hb := X.hb
  have hown := X.hown
  have hts := X.hts
  rw [fX11_hourPasses_102] at hf
  refine lv_aload_n hx hb dX11_hourPasses_102 rfl (lv_at hl 0 rfl) ?_
  obtain ⟨q, hc, hf⟩ := bd hf
  refine gCallVV X hDA rfl (vX11_shiftGoes hc) gRX11_X11_shiftGoes hdX11_shiftGoes rfl ⟨by decide, by decide⟩ hP hS (k0 := 0) (ci := 15) rfl rfl hl.1 (Nat.le_of_ble_eq_true rfl) ⟨Nat.le_refl _, Nat.le_refl _⟩ dX11_hourPasses_103 (As := []) (rest := []) rfl (fun H locs hP hS => ?_)
  exact kX11_hourPasses_106 X hDA hret hf hP hS (lv_sub hl [0] rfl)
set_option maxRecDepth 10000 in
theorem kX11_hourPasses_96  {S1 : MS} {K75 : MS → Int32 → Int32 → Option (MS)} {M : MS} {x1 : Int32} {x2 : Int32} (X : gX p s m args c cX11_hourPasses 3 RX11 (dC, dI) [(cI, .int)] A) (hDA : ∀ S, va_D A ((mW cI ad) S)) (hret : gRetV p l e (rmL 5 0 0) s m args below meth c cX11_hourPasses (dC, dI) A (mW cI ad) Q S1) (hK75 : ∀ (M : MS) (x1 : Int32) (x2 : Int32) (H : Heap) (locs : List Loc) (ls : Array Slot), K75 M x1 x2 = some S1 → va_P (dC, dI) vwCl ((mW cI ad) M) H → va_S A s.heap H locs → lv_has ls 3 [(0, .ref (ad 25)), (1, .int x1), (2, .int x2)] → W p l e (rmL 5 0 0) s m args below meth c H locs 0 0 Q (F0 m 75 ls [])) (hf : fX11_hourPasses_96 K75 M x1 x2 = some S1) {H : Heap} {locs : List Loc} {ls : Array Slot} (hP : va_P (dC, dI) vwCl ((mW cI ad) M) H) (hS : va_S A s.heap H locs) (hl : lv_has ls 3 [(0, .ref (ad 25)), (1, .int x1), (2, .int x2)]) : W p l e (rmL 5 0 0) s m args below meth c H locs 0 0 Q (F0 m 96 ls []) := by
  have hx := X.hx
  have hb := X.hb
  have hown := X.hown
  have hts := X.hts
  rw [fX11_hourPasses_96] at hf
  refine lv_iinc (v := (x2 + 1)) (lv' := [(2, .int (x2 + 1)), (0, .ref (ad 25)), (1, .int x1)]) hx hb dX11_hourPasses_96 hl (k := 2) rfl (by rfl) (by decide) rfl (fun ls hl => ?_)
  refine lv_goto (tgt := 75) hx hb dX11_hourPasses_99 (by decide) ?_
  exact hK75 _ _ _ _ _ _ hf hP hS (lv_sub hl [1, 2, 0] rfl)
set_option maxRecDepth 10000 in
theorem kX11_hourPasses_90  {S1 : MS} {K75 : MS → Int32 → Int32 → Option (MS)} {M : MS} {x1 : Int32} {x2 : Int32} (X : gX p s m args c cX11_hourPasses 3 RX11 (dC, dI) [(cI, .int)] A) (hDA : ∀ S, va_D A ((mW cI ad) S)) (hret : gRetV p l e (rmL 5 0 0) s m args below meth c cX11_hourPasses (dC, dI) A (mW cI ad) Q S1) (hK75 : ∀ (M : MS) (x1 : Int32) (x2 : Int32) (H : Heap) (locs : List Loc) (ls : Array Slot), K75 M x1 x2 = some S1 → va_P (dC, dI) vwCl ((mW cI ad) M) H → va_S A s.heap H locs → lv_has ls 3 [(0, .ref (ad 25)), (1, .int x1), (2, .int x2)] → W p l e (rmL 5 0 0) s m args below meth c H locs 0 0 Q (F0 m 75 ls [])) (hf : fX11_hourPasses_90 K75 M x1 x2 = some S1) {H : Heap} {locs : List Loc} {ls : Array Slot} (hP : va_P (dC, dI) vwCl ((mW cI ad) M) H) (hS : va_S A s.heap H locs) (hl : lv_has ls 3 [(0, .ref (ad 25)), (1, .int x1), (2, .int x2)]) : W p l e (rmL 5 0 0) s m args below meth c H locs 0 0 Q (F0 m 90 ls []) := by
  have hx := X.hx
  have hb := X.hb
  have hown := X.hown
  have hts := X.hts
  rw [fX11_hourPasses_90] at hf
  refine lv_aload_n hx hb dX11_hourPasses_90 rfl (lv_at hl 0 rfl) ?_
  refine lv_iload_n hx hb dX11_hourPasses_91 rfl (lv_at hl 2 rfl) ?_
  refine lv_iconst (v := 1) hx hb dX11_hourPasses_92 (by decide) ?_
  obtain ⟨q, hc, hf⟩ := bd hf
  refine gCallVV X hDA rfl (vX11_rests hc) gRX11_X11_rests hdX11_rests rfl ⟨by decide, by decide⟩ hP hS (k0 := 0) (ci := 15) rfl rfl hl.1 (Nat.le_of_ble_eq_true rfl) ⟨Nat.le_refl _, Nat.le_refl _⟩ dX11_hourPasses_93 (As := [.int x2, .int 1]) (rest := []) rfl (fun H locs hP hS => ?_)
  exact kX11_hourPasses_96 X hDA hret hK75 hf hP hS (lv_sub hl [0, 1, 2] rfl)
set_option maxRecDepth 10000 in
theorem kX11_hourPasses_85  {S1 : MS} {K75 : MS → Int32 → Int32 → Option (MS)} {M : MS} {x1 : Int32} {x2 : Int32} (X : gX p s m args c cX11_hourPasses 3 RX11 (dC, dI) [(cI, .int)] A) (hDA : ∀ S, va_D A ((mW cI ad) S)) (hret : gRetV p l e (rmL 5 0 0) s m args below meth c cX11_hourPasses (dC, dI) A (mW cI ad) Q S1) (hK75 : ∀ (M : MS) (x1 : Int32) (x2 : Int32) (H : Heap) (locs : List Loc) (ls : Array Slot), K75 M x1 x2 = some S1 → va_P (dC, dI) vwCl ((mW cI ad) M) H → va_S A s.heap H locs → lv_has ls 3 [(0, .ref (ad 25)), (1, .int x1), (2, .int x2)] → W p l e (rmL 5 0 0) s m args below meth c H locs 0 0 Q (F0 m 75 ls [])) (hf : fX11_hourPasses_85 K75 M x1 x2 = some S1) {H : Heap} {locs : List Loc} {ls : Array Slot} (hP : va_P (dC, dI) vwCl ((mW cI ad) M) H) (hS : va_S A s.heap H locs) (hl : lv_has ls 3 [(0, .ref (ad 25)), (1, .int x1), (2, .int x2)]) : W p l e (rmL 5 0 0) s m args below meth c H locs 0 0 Q (F0 m 85 ls []) := by
  have hx := X.hx
  have hb := X.hb
  have hown := X.hown
  have hts := X.hts
  rw [fX11_hourPasses_85] at hf
  refine lv_iload_n hx hb dX11_hourPasses_85 rfl (lv_at hl 2 rfl) ?_
  refine lv_iload_n hx hb dX11_hourPasses_86 rfl (lv_at hl 1 rfl) ?_
  refine lv_icmp_eq (tgt := 96) hx hb dX11_hourPasses_87 (by decide) (fun c1 => ?_) (fun c1 => ?_)
  · exact kX11_hourPasses_96 X hDA hret hK75 (ifp c1 hf) hP hS (lv_sub hl [0, 1, 2] rfl)
  · exact kX11_hourPasses_90 X hDA hret hK75 (ifn c1 hf) hP hS (lv_sub hl [0, 1, 2] rfl)
set_option maxRecDepth 10000 in
theorem kX11_hourPasses_75  {S1 : MS} (X : gX p s m args c cX11_hourPasses 3 RX11 (dC, dI) [(cI, .int)] A) (hDA : ∀ S, va_D A ((mW cI ad) S)) (hret : gRetV p l e (rmL 5 0 0) s m args below meth c cX11_hourPasses (dC, dI) A (mW cI ad) Q S1)  : ∀ (n : Nat) (M : MS) (x1 : Int32) (x2 : Int32) (H : Heap) (locs : List Loc) (ls : Array Slot), fX11_hourPasses_75 n M x1 x2 = some S1 → va_P (dC, dI) vwCl ((mW cI ad) M) H → va_S A s.heap H locs → lv_has ls 3 [(0, .ref (ad 25)), (1, .int x1), (2, .int x2)] → W p l e (rmL 5 0 0) s m args below meth c H locs 0 0 Q (F0 m 75 ls []) := by
  intro n
  induction n with
  | zero => intro M x1 x2 H locs ls hf; cases hf
  | succ k ih =>
    intro M x1 x2 H locs ls hf hP hS hl
    have hx := X.hx
    have hb := X.hb
    have hown := X.hown
    have hts := X.hts
    rw [fX11_hourPasses_75] at hf
    try dsimp only at hf
    refine lv_iload_n hx hb dX11_hourPasses_75 rfl (lv_at hl 2 rfl) ?_
    refine lv_aload_n hx hb dX11_hourPasses_76 rfl (lv_at hl 0 rfl) ?_
    refine mr_get (k := 0) X hP (by decide) rfl rfl tw1665 dX11_hourPasses_77 ?_
    refine lv_iconst (v := 0) hx hb dX11_hourPasses_80 (by decide) ?_
    obtain ⟨g1, hf⟩ := gd hf
    refine mr_ald (a := 0) X hP rfl g1 dX11_hourPasses_81 ?_
    refine lv_icmp_ge (tgt := 102) hx hb dX11_hourPasses_82 (by decide) (fun c1 => ?_) (fun c1 => ?_)
    · exact kX11_hourPasses_102 X hDA hret (ifp c1 hf) hP hS (lv_sub hl [0] rfl)
    · exact kX11_hourPasses_85 X hDA hret ih (ifn c1 hf) hP hS (lv_sub hl [0, 1, 2] rfl)
set_option maxRecDepth 10000 in
theorem kX11_hourPasses_72  {S1 : MS} {M : MS} {s0 : Int32} (X : gX p s m args c cX11_hourPasses 3 RX11 (dC, dI) [(cI, .int)] A) (hDA : ∀ S, va_D A ((mW cI ad) S)) (hret : gRetV p l e (rmL 5 0 0) s m args below meth c cX11_hourPasses (dC, dI) A (mW cI ad) Q S1) (hf : fX11_hourPasses_72 M s0 = some S1) {H : Heap} {locs : List Loc} {ls : Array Slot} (hP : va_P (dC, dI) vwCl ((mW cI ad) M) H) (hS : va_S A s.heap H locs) (hl : lv_has ls 3 [(0, .ref (ad 25))]) : W p l e (rmL 5 0 0) s m args below meth c H locs 0 0 Q (F0 m 72 ls [.int s0]) := by
  have hx := X.hx
  have hb := X.hb
  have hown := X.hown
  have hts := X.hts
  rw [fX11_hourPasses_72] at hf
  refine lv_istore_n (lv' := [(1, .int s0), (0, .ref (ad 25))]) hx hb dX11_hourPasses_72 rfl hl (by decide) rfl (fun ls hl => ?_)
  refine lv_iconst (v := 0) hx hb dX11_hourPasses_73 (by decide) ?_
  refine lv_istore_n (lv' := [(2, .int 0), (1, .int s0), (0, .ref (ad 25))]) hx hb dX11_hourPasses_74 rfl hl (by decide) rfl (fun ls hl => ?_)
  exact kX11_hourPasses_75 X hDA hret FU _ _ _ _ _ _ hf hP hS (lv_sub hl [2, 1, 0] rfl)
set_option maxRecDepth 10000 in
theorem kX11_hourPasses_68  {S1 : MS} {M : MS} (X : gX p s m args c cX11_hourPasses 3 RX11 (dC, dI) [(cI, .int)] A) (hDA : ∀ S, va_D A ((mW cI ad) S)) (hret : gRetV p l e (rmL 5 0 0) s m args below meth c cX11_hourPasses (dC, dI) A (mW cI ad) Q S1) (hf : fX11_hourPasses_68 M = some S1) {H : Heap} {locs : List Loc} {ls : Array Slot} (hP : va_P (dC, dI) vwCl ((mW cI ad) M) H) (hS : va_S A s.heap H locs) (hl : lv_has ls 3 [(0, .ref (ad 25))]) : W p l e (rmL 5 0 0) s m args below meth c H locs 0 0 Q (F0 m 68 ls []) := by
  have hx := X.hx
  have hb := X.hb
  have hown := X.hown
  have hts := X.hts
  rw [fX11_hourPasses_68] at hf
  refine lv_aload_n hx hb dX11_hourPasses_68 rfl (lv_at hl 0 rfl) ?_
  obtain ⟨q, hc, hf⟩ := bd hf
  refine gCallVI X hDA rfl (vX11_hunts hc) gRX11_X11_hunts hdX11_hunts rfl ⟨by decide, by decide⟩ hP hS (k0 := 0) (ci := 15) rfl rfl hl.1 (Nat.le_of_ble_eq_true rfl) ⟨Nat.le_refl _, Nat.le_refl _⟩ dX11_hourPasses_69 (As := []) (rest := []) rfl (fun H locs hP hS => ?_)
  exact kX11_hourPasses_72 X hDA hret hf hP hS (lv_sub hl [0] rfl)
set_option maxRecDepth 10000 in
theorem kX11_hourPasses_62  {S1 : MS} {K35 : MS → Int32 → Option (MS)} {M : MS} {x1 : Int32} (X : gX p s m args c cX11_hourPasses 3 RX11 (dC, dI) [(cI, .int)] A) (hDA : ∀ S, va_D A ((mW cI ad) S)) (hret : gRetV p l e (rmL 5 0 0) s m args below meth c cX11_hourPasses (dC, dI) A (mW cI ad) Q S1) (hK35 : ∀ (M : MS) (x1 : Int32) (H : Heap) (locs : List Loc) (ls : Array Slot), K35 M x1 = some S1 → va_P (dC, dI) vwCl ((mW cI ad) M) H → va_S A s.heap H locs → lv_has ls 3 [(0, .ref (ad 25)), (1, .int x1)] → W p l e (rmL 5 0 0) s m args below meth c H locs 0 0 Q (F0 m 35 ls [])) (hf : fX11_hourPasses_62 K35 M x1 = some S1) {H : Heap} {locs : List Loc} {ls : Array Slot} (hP : va_P (dC, dI) vwCl ((mW cI ad) M) H) (hS : va_S A s.heap H locs) (hl : lv_has ls 3 [(0, .ref (ad 25)), (1, .int x1)]) : W p l e (rmL 5 0 0) s m args below meth c H locs 0 0 Q (F0 m 62 ls []) := by
  have hx := X.hx
  have hb := X.hb
  have hown := X.hown
  have hts := X.hts
  rw [fX11_hourPasses_62] at hf
  refine lv_iinc (v := (x1 + 1)) (lv' := [(1, .int (x1 + 1)), (0, .ref (ad 25))]) hx hb dX11_hourPasses_62 hl (k := 1) rfl (by rfl) (by decide) rfl (fun ls hl => ?_)
  refine lv_goto (tgt := 35) hx hb dX11_hourPasses_65 (by decide) ?_
  exact hK35 _ _ _ _ _ hf hP hS (lv_sub hl [1, 0] rfl)
set_option maxRecDepth 10000 in
theorem kX11_hourPasses_57  {S1 : MS} {K35 : MS → Int32 → Option (MS)} {M : MS} {x1 : Int32} (X : gX p s m args c cX11_hourPasses 3 RX11 (dC, dI) [(cI, .int)] A) (hDA : ∀ S, va_D A ((mW cI ad) S)) (hret : gRetV p l e (rmL 5 0 0) s m args below meth c cX11_hourPasses (dC, dI) A (mW cI ad) Q S1) (hK35 : ∀ (M : MS) (x1 : Int32) (H : Heap) (locs : List Loc) (ls : Array Slot), K35 M x1 = some S1 → va_P (dC, dI) vwCl ((mW cI ad) M) H → va_S A s.heap H locs → lv_has ls 3 [(0, .ref (ad 25)), (1, .int x1)] → W p l e (rmL 5 0 0) s m args below meth c H locs 0 0 Q (F0 m 35 ls [])) (hf : fX11_hourPasses_57 K35 M x1 = some S1) {H : Heap} {locs : List Loc} {ls : Array Slot} (hP : va_P (dC, dI) vwCl ((mW cI ad) M) H) (hS : va_S A s.heap H locs) (hl : lv_has ls 3 [(0, .ref (ad 25)), (1, .int x1)]) : W p l e (rmL 5 0 0) s m args below meth c H locs 0 0 Q (F0 m 57 ls []) := by
  have hx := X.hx
  have hb := X.hb
  have hown := X.hown
  have hts := X.hts
  rw [fX11_hourPasses_57] at hf
  refine lv_aload_n hx hb dX11_hourPasses_57 rfl (lv_at hl 0 rfl) ?_
  refine lv_iload_n hx hb dX11_hourPasses_58 rfl (lv_at hl 1 rfl) ?_
  obtain ⟨q, hc, hf⟩ := bd hf
  refine gCallVV X hDA rfl (vX11_breeds hc) gRX11_X11_breeds hdX11_breeds rfl ⟨by decide, by decide⟩ hP hS (k0 := 0) (ci := 15) rfl rfl hl.1 (Nat.le_of_ble_eq_true rfl) ⟨Nat.le_refl _, Nat.le_refl _⟩ dX11_hourPasses_59 (As := [.int x1]) (rest := []) rfl (fun H locs hP hS => ?_)
  exact kX11_hourPasses_62 X hDA hret hK35 hf hP hS (lv_sub hl [0, 1] rfl)
set_option maxRecDepth 10000 in
theorem kX11_hourPasses_45  {S1 : MS} {K35 : MS → Int32 → Option (MS)} {M : MS} {x1 : Int32} (X : gX p s m args c cX11_hourPasses 3 RX11 (dC, dI) [(cI, .int)] A) (hDA : ∀ S, va_D A ((mW cI ad) S)) (hret : gRetV p l e (rmL 5 0 0) s m args below meth c cX11_hourPasses (dC, dI) A (mW cI ad) Q S1) (hK35 : ∀ (M : MS) (x1 : Int32) (H : Heap) (locs : List Loc) (ls : Array Slot), K35 M x1 = some S1 → va_P (dC, dI) vwCl ((mW cI ad) M) H → va_S A s.heap H locs → lv_has ls 3 [(0, .ref (ad 25)), (1, .int x1)] → W p l e (rmL 5 0 0) s m args below meth c H locs 0 0 Q (F0 m 35 ls [])) (hf : fX11_hourPasses_45 K35 M x1 = some S1) {H : Heap} {locs : List Loc} {ls : Array Slot} (hP : va_P (dC, dI) vwCl ((mW cI ad) M) H) (hS : va_S A s.heap H locs) (hl : lv_has ls 3 [(0, .ref (ad 25)), (1, .int x1)]) : W p l e (rmL 5 0 0) s m args below meth c H locs 0 0 Q (F0 m 45 ls []) := by
  have hx := X.hx
  have hb := X.hb
  have hown := X.hown
  have hts := X.hts
  rw [fX11_hourPasses_45] at hf
  refine lv_aload_n hx hb dX11_hourPasses_45 rfl (lv_at hl 0 rfl) ?_
  refine mr_get (k := 0) X hP (by decide) rfl rfl tw1665 dX11_hourPasses_46 ?_
  refine lv_iconst (v := 3) hx hb dX11_hourPasses_49 (by decide) ?_
  obtain ⟨g1, hf⟩ := gd hf
  refine mr_ald (a := 0) X hP rfl g1 dX11_hourPasses_50 ?_
  refine lv_bipush (v := 24) hx hb dX11_hourPasses_51 (by decide) ?_
  refine lv_irem hx hb dX11_hourPasses_53 (by decide) ?_
  refine lv_if_ne (tgt := 68) hx hb dX11_hourPasses_54 (by decide) (fun c1 => ?_) (fun c1 => ?_)
  · exact kX11_hourPasses_68 X hDA hret (ifn c1 hf) hP hS (lv_sub hl [0] rfl)
  · exact kX11_hourPasses_57 X hDA hret hK35 (ifp c1 hf) hP hS (lv_sub hl [0, 1] rfl)
set_option maxRecDepth 10000 in
theorem kX11_hourPasses_35  {S1 : MS} (X : gX p s m args c cX11_hourPasses 3 RX11 (dC, dI) [(cI, .int)] A) (hDA : ∀ S, va_D A ((mW cI ad) S)) (hret : gRetV p l e (rmL 5 0 0) s m args below meth c cX11_hourPasses (dC, dI) A (mW cI ad) Q S1)  : ∀ (n : Nat) (M : MS) (x1 : Int32) (H : Heap) (locs : List Loc) (ls : Array Slot), fX11_hourPasses_35 n M x1 = some S1 → va_P (dC, dI) vwCl ((mW cI ad) M) H → va_S A s.heap H locs → lv_has ls 3 [(0, .ref (ad 25)), (1, .int x1)] → W p l e (rmL 5 0 0) s m args below meth c H locs 0 0 Q (F0 m 35 ls []) := by
  intro n
  induction n with
  | zero => intro M x1 H locs ls hf; cases hf
  | succ k ih =>
    intro M x1 H locs ls hf hP hS hl
    have hx := X.hx
    have hb := X.hb
    have hown := X.hown
    have hts := X.hts
    rw [fX11_hourPasses_35] at hf
    try dsimp only at hf
    refine lv_iload_n hx hb dX11_hourPasses_35 rfl (lv_at hl 1 rfl) ?_
    refine lv_aload_n hx hb dX11_hourPasses_36 rfl (lv_at hl 0 rfl) ?_
    refine mr_get (k := 0) X hP (by decide) rfl rfl tw1665 dX11_hourPasses_37 ?_
    refine lv_iconst (v := 1) hx hb dX11_hourPasses_40 (by decide) ?_
    obtain ⟨g1, hf⟩ := gd hf
    refine mr_ald (a := 0) X hP rfl g1 dX11_hourPasses_41 ?_
    refine lv_icmp_ge (tgt := 68) hx hb dX11_hourPasses_42 (by decide) (fun c1 => ?_) (fun c1 => ?_)
    · exact kX11_hourPasses_68 X hDA hret (ifp c1 hf) hP hS (lv_sub hl [0] rfl)
    · exact kX11_hourPasses_45 X hDA hret ih (ifn c1 hf) hP hS (lv_sub hl [0, 1] rfl)
set_option maxRecDepth 10000 in
theorem kX11_hourPasses_33  {S1 : MS} {M : MS} (X : gX p s m args c cX11_hourPasses 3 RX11 (dC, dI) [(cI, .int)] A) (hDA : ∀ S, va_D A ((mW cI ad) S)) (hret : gRetV p l e (rmL 5 0 0) s m args below meth c cX11_hourPasses (dC, dI) A (mW cI ad) Q S1) (hf : fX11_hourPasses_33 M = some S1) {H : Heap} {locs : List Loc} {ls : Array Slot} (hP : va_P (dC, dI) vwCl ((mW cI ad) M) H) (hS : va_S A s.heap H locs) (hl : lv_has ls 3 [(0, .ref (ad 25))]) : W p l e (rmL 5 0 0) s m args below meth c H locs 0 0 Q (F0 m 33 ls []) := by
  have hx := X.hx
  have hb := X.hb
  have hown := X.hown
  have hts := X.hts
  rw [fX11_hourPasses_33] at hf
  refine lv_iconst (v := 0) hx hb dX11_hourPasses_33 (by decide) ?_
  refine lv_istore_n (lv' := [(1, .int 0), (0, .ref (ad 25))]) hx hb dX11_hourPasses_34 rfl hl (by decide) rfl (fun ls hl => ?_)
  exact kX11_hourPasses_35 X hDA hret FU _ _ _ _ _ hf hP hS (lv_sub hl [1, 0] rfl)
set_option maxRecDepth 10000 in
theorem kX11_hourPasses_27  {S1 : MS} {K12 : MS → Int32 → Option (MS)} {M : MS} {x1 : Int32} (X : gX p s m args c cX11_hourPasses 3 RX11 (dC, dI) [(cI, .int)] A) (hDA : ∀ S, va_D A ((mW cI ad) S)) (hret : gRetV p l e (rmL 5 0 0) s m args below meth c cX11_hourPasses (dC, dI) A (mW cI ad) Q S1) (hK12 : ∀ (M : MS) (x1 : Int32) (H : Heap) (locs : List Loc) (ls : Array Slot), K12 M x1 = some S1 → va_P (dC, dI) vwCl ((mW cI ad) M) H → va_S A s.heap H locs → lv_has ls 3 [(0, .ref (ad 25)), (1, .int x1)] → W p l e (rmL 5 0 0) s m args below meth c H locs 0 0 Q (F0 m 12 ls [])) (hf : fX11_hourPasses_27 K12 M x1 = some S1) {H : Heap} {locs : List Loc} {ls : Array Slot} (hP : va_P (dC, dI) vwCl ((mW cI ad) M) H) (hS : va_S A s.heap H locs) (hl : lv_has ls 3 [(0, .ref (ad 25)), (1, .int x1)]) : W p l e (rmL 5 0 0) s m args below meth c H locs 0 0 Q (F0 m 27 ls []) := by
  have hx := X.hx
  have hb := X.hb
  have hown := X.hown
  have hts := X.hts
  rw [fX11_hourPasses_27] at hf
  refine lv_iinc (v := (x1 + 1)) (lv' := [(1, .int (x1 + 1)), (0, .ref (ad 25))]) hx hb dX11_hourPasses_27 hl (k := 1) rfl (by rfl) (by decide) rfl (fun ls hl => ?_)
  refine lv_goto (tgt := 12) hx hb dX11_hourPasses_30 (by decide) ?_
  exact hK12 _ _ _ _ _ hf hP hS (lv_sub hl [1, 0] rfl)
set_option maxRecDepth 10000 in
theorem kX11_hourPasses_22  {S1 : MS} {K12 : MS → Int32 → Option (MS)} {M : MS} {x1 : Int32} (X : gX p s m args c cX11_hourPasses 3 RX11 (dC, dI) [(cI, .int)] A) (hDA : ∀ S, va_D A ((mW cI ad) S)) (hret : gRetV p l e (rmL 5 0 0) s m args below meth c cX11_hourPasses (dC, dI) A (mW cI ad) Q S1) (hK12 : ∀ (M : MS) (x1 : Int32) (H : Heap) (locs : List Loc) (ls : Array Slot), K12 M x1 = some S1 → va_P (dC, dI) vwCl ((mW cI ad) M) H → va_S A s.heap H locs → lv_has ls 3 [(0, .ref (ad 25)), (1, .int x1)] → W p l e (rmL 5 0 0) s m args below meth c H locs 0 0 Q (F0 m 12 ls [])) (hf : fX11_hourPasses_22 K12 M x1 = some S1) {H : Heap} {locs : List Loc} {ls : Array Slot} (hP : va_P (dC, dI) vwCl ((mW cI ad) M) H) (hS : va_S A s.heap H locs) (hl : lv_has ls 3 [(0, .ref (ad 25)), (1, .int x1)]) : W p l e (rmL 5 0 0) s m args below meth c H locs 0 0 Q (F0 m 22 ls []) := by
  have hx := X.hx
  have hb := X.hb
  have hown := X.hown
  have hts := X.hts
  rw [fX11_hourPasses_22] at hf
  refine lv_aload_n hx hb dX11_hourPasses_22 rfl (lv_at hl 0 rfl) ?_
  refine lv_iload_n hx hb dX11_hourPasses_23 rfl (lv_at hl 1 rfl) ?_
  obtain ⟨q, hc, hf⟩ := bd hf
  refine gCallVV X hDA rfl (vX11_eats hc) gRX11_X11_eats hdX11_eats rfl ⟨by decide, by decide⟩ hP hS (k0 := 0) (ci := 15) rfl rfl hl.1 (Nat.le_of_ble_eq_true rfl) ⟨Nat.le_refl _, Nat.le_refl _⟩ dX11_hourPasses_24 (As := [.int x1]) (rest := []) rfl (fun H locs hP hS => ?_)
  exact kX11_hourPasses_27 X hDA hret hK12 hf hP hS (lv_sub hl [0, 1] rfl)
set_option maxRecDepth 10000 in
theorem kX11_hourPasses_12  {S1 : MS} (X : gX p s m args c cX11_hourPasses 3 RX11 (dC, dI) [(cI, .int)] A) (hDA : ∀ S, va_D A ((mW cI ad) S)) (hret : gRetV p l e (rmL 5 0 0) s m args below meth c cX11_hourPasses (dC, dI) A (mW cI ad) Q S1)  : ∀ (n : Nat) (M : MS) (x1 : Int32) (H : Heap) (locs : List Loc) (ls : Array Slot), fX11_hourPasses_12 n M x1 = some S1 → va_P (dC, dI) vwCl ((mW cI ad) M) H → va_S A s.heap H locs → lv_has ls 3 [(0, .ref (ad 25)), (1, .int x1)] → W p l e (rmL 5 0 0) s m args below meth c H locs 0 0 Q (F0 m 12 ls []) := by
  intro n
  induction n with
  | zero => intro M x1 H locs ls hf; cases hf
  | succ k ih =>
    intro M x1 H locs ls hf hP hS hl
    have hx := X.hx
    have hb := X.hb
    have hown := X.hown
    have hts := X.hts
    rw [fX11_hourPasses_12] at hf
    try dsimp only at hf
    refine lv_iload_n hx hb dX11_hourPasses_12 rfl (lv_at hl 1 rfl) ?_
    refine lv_aload_n hx hb dX11_hourPasses_13 rfl (lv_at hl 0 rfl) ?_
    refine mr_get (k := 0) X hP (by decide) rfl rfl tw1665 dX11_hourPasses_14 ?_
    refine lv_iconst (v := 1) hx hb dX11_hourPasses_17 (by decide) ?_
    obtain ⟨g1, hf⟩ := gd hf
    refine mr_ald (a := 0) X hP rfl g1 dX11_hourPasses_18 ?_
    refine lv_icmp_ge (tgt := 33) hx hb dX11_hourPasses_19 (by decide) (fun c1 => ?_) (fun c1 => ?_)
    · exact kX11_hourPasses_33 X hDA hret (ifp c1 hf) hP hS (lv_sub hl [0] rfl)
    · exact kX11_hourPasses_22 X hDA hret ih (ifn c1 hf) hP hS (lv_sub hl [0, 1] rfl)
set_option maxRecDepth 10000 in
theorem kX11_hourPasses_10  {S1 : MS} {M : MS} (X : gX p s m args c cX11_hourPasses 3 RX11 (dC, dI) [(cI, .int)] A) (hDA : ∀ S, va_D A ((mW cI ad) S)) (hret : gRetV p l e (rmL 5 0 0) s m args below meth c cX11_hourPasses (dC, dI) A (mW cI ad) Q S1) (hf : fX11_hourPasses_10 M = some S1) {H : Heap} {locs : List Loc} {ls : Array Slot} (hP : va_P (dC, dI) vwCl ((mW cI ad) M) H) (hS : va_S A s.heap H locs) (hl : lv_has ls 3 [(0, .ref (ad 25))]) : W p l e (rmL 5 0 0) s m args below meth c H locs 0 0 Q (F0 m 10 ls []) := by
  have hx := X.hx
  have hb := X.hb
  have hown := X.hown
  have hts := X.hts
  rw [fX11_hourPasses_10] at hf
  refine lv_iconst (v := 0) hx hb dX11_hourPasses_10 (by decide) ?_
  refine lv_istore_n (lv' := [(1, .int 0), (0, .ref (ad 25))]) hx hb dX11_hourPasses_11 rfl hl (by decide) rfl (fun ls hl => ?_)
  exact kX11_hourPasses_12 X hDA hret FU _ _ _ _ _ hf hP hS (lv_sub hl [1, 0] rfl)
set_option maxRecDepth 10000 in
theorem kX11_hourPasses_0  {S1 : MS} {M : MS} (X : gX p s m args c cX11_hourPasses 3 RX11 (dC, dI) [(cI, .int)] A) (hDA : ∀ S, va_D A ((mW cI ad) S)) (hret : gRetV p l e (rmL 5 0 0) s m args below meth c cX11_hourPasses (dC, dI) A (mW cI ad) Q S1) (hf : fX11_hourPasses_0 M = some S1) {H : Heap} {locs : List Loc} {ls : Array Slot} (hP : va_P (dC, dI) vwCl ((mW cI ad) M) H) (hS : va_S A s.heap H locs) (hl : lv_has ls 3 [(0, .ref (ad 25))]) : W p l e (rmL 5 0 0) s m args below meth c H locs 0 0 Q (F0 m 0 ls []) := by
  have hx := X.hx
  have hb := X.hb
  have hown := X.hown
  have hts := X.hts
  rw [fX11_hourPasses_0] at hf
  refine lv_aload_n hx hb dX11_hourPasses_0 rfl (lv_at hl 0 rfl) ?_
  refine mr_get (k := 0) X hP (by decide) rfl rfl tw1665 dX11_hourPasses_1 ?_
  refine lv_iconst (v := 3) hx hb dX11_hourPasses_4 (by decide) ?_
  refine lv_dup2_11 hx hb dX11_hourPasses_5 rfl rfl ?_
  obtain ⟨g1, hf⟩ := gd hf
  refine mr_ald (a := 0) X hP rfl g1 dX11_hourPasses_6 ?_
  refine lv_iconst (v := 1) hx hb dX11_hourPasses_7 (by decide) ?_
  refine lv_iadd hx hb dX11_hourPasses_8 ?_
  obtain ⟨g2, hf⟩ := gd hf
  refine mr_ast (a := 0) X hDA hP hS rfl g2 dX11_hourPasses_9 (fun H locs hP hS => ?_)
  exact kX11_hourPasses_10 X hDA hret hf hP hS (lv_sub hl [0] rfl)
theorem vX11_hourPasses {l : Launch} {dC : Nat → ClassId} {dI : Nat → Nat → Nat} {cI : ClassId} {ad : Nat → Nat} {M S1 : MS} (hf : fX11_hourPasses M  = some S1) : gMetV l yX11_hourPasses cX11_hourPasses 3 5 (dC, dI) [(cI, .int)] (mW cI ad) [.ref (ad 25)] M S1 := gEntryV (by decide) mW_fix (Nat.le_of_ble_eq_true rfl) (fun p e s m args below meth c A Q ls X hDA hP hS hret hl => 
  kX11_hourPasses_0 X hDA hret hf hP hS (lv_sub hl [0] rfl))
set_option maxRecDepth 10000 in
theorem kX11_takes_21  {r : Int32} {S1 : MS} {M : MS} (X : gX p s m args c cX11_takes 4 RX11 (dC, dI) [(cI, .int)] A) (hDA : ∀ S, va_D A ((mW cI ad) S)) (hret : gRetI p l e (rmL 5 0 0) s m args below meth c cX11_takes (dC, dI) A (mW cI ad) Q r S1) (hf : fX11_takes_21 M = some (r, S1)) {H : Heap} {locs : List Loc} {ls : Array Slot} (hP : va_P (dC, dI) vwCl ((mW cI ad) M) H) (hS : va_S A s.heap H locs) (hl : lv_has ls 4 [(0, .ref (ad 25))]) : W p l e (rmL 5 0 0) s m args below meth c H locs 0 0 Q (F0 m 21 ls []) := by
  have hx := X.hx
  have hb := X.hb
  have hown := X.hown
  have hts := X.hts
  rw [fX11_takes_21] at hf
  refine lv_iconst (v := 1) hx hb dX11_takes_21 (by decide) ?_
  cases hf
  exact hret _ _ _ _ dX11_takes_22 hP hS
set_option maxRecDepth 10000 in
theorem kX11_takes_11  {r : Int32} {S1 : MS} {M : MS} {x1 : Int32} (X : gX p s m args c cX11_takes 4 RX11 (dC, dI) [(cI, .int)] A) (hDA : ∀ S, va_D A ((mW cI ad) S)) (hret : gRetI p l e (rmL 5 0 0) s m args below meth c cX11_takes (dC, dI) A (mW cI ad) Q r S1) (hf : fX11_takes_11 M x1 = some (r, S1)) {H : Heap} {locs : List Loc} {ls : Array Slot} (hP : va_P (dC, dI) vwCl ((mW cI ad) M) H) (hS : va_S A s.heap H locs) (hl : lv_has ls 4 [(0, .ref (ad 25)), (1, .int x1)]) : W p l e (rmL 5 0 0) s m args below meth c H locs 0 0 Q (F0 m 11 ls []) := by
  have hx := X.hx
  have hb := X.hb
  have hown := X.hown
  have hts := X.hts
  rw [fX11_takes_11] at hf
  refine lv_aload_n hx hb dX11_takes_11 rfl (lv_at hl 0 rfl) ?_
  refine mr_get (k := 19) X hP (by decide) rfl rfl tw1684 dX11_takes_12 ?_
  refine lv_iload_n hx hb dX11_takes_15 rfl (lv_at hl 1 rfl) ?_
  refine lv_aload_n hx hb dX11_takes_16 rfl (lv_at hl 0 rfl) ?_
  refine mr_get (k := 18) X hP (by decide) rfl rfl tw1683 dX11_takes_17 ?_
  obtain ⟨g1, hf⟩ := gd hf
  refine mr_ast (a := 19) X hDA hP hS rfl g1 dX11_takes_20 (fun H locs hP hS => ?_)
  exact kX11_takes_21 X hDA hret hf hP hS (lv_sub hl [0] rfl)
set_option maxRecDepth 10000 in
theorem kX11_takes_9  {r : Int32} {S1 : MS} {M : MS} (X : gX p s m args c cX11_takes 4 RX11 (dC, dI) [(cI, .int)] A) (hDA : ∀ S, va_D A ((mW cI ad) S)) (hret : gRetI p l e (rmL 5 0 0) s m args below meth c cX11_takes (dC, dI) A (mW cI ad) Q r S1) (hf : fX11_takes_9 M = some (r, S1)) {H : Heap} {locs : List Loc} {ls : Array Slot} (hP : va_P (dC, dI) vwCl ((mW cI ad) M) H) (hS : va_S A s.heap H locs) (hl : lv_has ls 4 [(0, .ref (ad 25))]) : W p l e (rmL 5 0 0) s m args below meth c H locs 0 0 Q (F0 m 9 ls []) := by
  have hx := X.hx
  have hb := X.hb
  have hown := X.hown
  have hts := X.hts
  rw [fX11_takes_9] at hf
  refine lv_iconst (v := 0) hx hb dX11_takes_9 (by decide) ?_
  cases hf
  exact hret _ _ _ _ dX11_takes_10 hP hS
set_option maxRecDepth 10000 in
theorem kX11_takes_6  {r : Int32} {S1 : MS} {M : MS} {x1 : Int32} {s0 : Int32} (X : gX p s m args c cX11_takes 4 RX11 (dC, dI) [(cI, .int)] A) (hDA : ∀ S, va_D A ((mW cI ad) S)) (hret : gRetI p l e (rmL 5 0 0) s m args below meth c cX11_takes (dC, dI) A (mW cI ad) Q r S1) (hf : fX11_takes_6 M x1 s0 = some (r, S1)) {H : Heap} {locs : List Loc} {ls : Array Slot} (hP : va_P (dC, dI) vwCl ((mW cI ad) M) H) (hS : va_S A s.heap H locs) (hl : lv_has ls 4 [(0, .ref (ad 25)), (1, .int x1)]) : W p l e (rmL 5 0 0) s m args below meth c H locs 0 0 Q (F0 m 6 ls [.int s0]) := by
  have hx := X.hx
  have hb := X.hb
  have hown := X.hown
  have hts := X.hts
  rw [fX11_takes_6] at hf
  refine lv_if_ne (tgt := 11) hx hb dX11_takes_6 (by decide) (fun c1 => ?_) (fun c1 => ?_)
  · exact kX11_takes_11 X hDA hret (ifn c1 hf) hP hS (lv_sub hl [0, 1] rfl)
  · exact kX11_takes_9 X hDA hret (ifp c1 hf) hP hS (lv_sub hl [0] rfl)
set_option maxRecDepth 10000 in
theorem kX11_takes_0  {r : Int32} {S1 : MS} {M : MS} {a1 : Int32} {a2 : Int32} {a3 : Int32} (X : gX p s m args c cX11_takes 4 RX11 (dC, dI) [(cI, .int)] A) (hDA : ∀ S, va_D A ((mW cI ad) S)) (hret : gRetI p l e (rmL 5 0 0) s m args below meth c cX11_takes (dC, dI) A (mW cI ad) Q r S1) (hf : fX11_takes_0 M a1 a2 a3 = some (r, S1)) {H : Heap} {locs : List Loc} {ls : Array Slot} (hP : va_P (dC, dI) vwCl ((mW cI ad) M) H) (hS : va_S A s.heap H locs) (hl : lv_has ls 4 [(0, .ref (ad 25)), (1, .int a1), (2, .int a2), (3, .int a3)]) : W p l e (rmL 5 0 0) s m args below meth c H locs 0 0 Q (F0 m 0 ls []) := by
  have hx := X.hx
  have hb := X.hb
  have hown := X.hown
  have hts := X.hts
  rw [fX11_takes_0] at hf
  refine lv_aload_n hx hb dX11_takes_0 rfl (lv_at hl 0 rfl) ?_
  refine lv_iload_n hx hb dX11_takes_1 rfl (lv_at hl 2 rfl) ?_
  refine lv_iload_n hx hb dX11_takes_2 rfl (lv_at hl 3 rfl) ?_
  obtain ⟨q, hc, hf⟩ := bd hf
  refine gCallVI X hDA rfl (vX11_takesNumber hc) gRX11_X11_takesNumber hdX11_takesNumber rfl ⟨by decide, by decide⟩ hP hS (k0 := 0) (ci := 15) rfl rfl hl.1 (Nat.le_of_ble_eq_true rfl) ⟨Nat.le_refl _, Nat.le_refl _⟩ dX11_takes_3 (As := [.int a2, .int a3]) (rest := []) rfl (fun H locs hP hS => ?_)
  exact kX11_takes_6 X hDA hret hf hP hS (lv_sub hl [0, 1] rfl)
theorem vX11_takes {l : Launch} {dC : Nat → ClassId} {dI : Nat → Nat → Nat} {cI : ClassId} {ad : Nat → Nat} {M S1 : MS} {r : Int32} {a1 : Int32} {a2 : Int32} {a3 : Int32} (hf : fX11_takes M a1 a2 a3 = some (r, S1)) : gMetI l yX11_takes cX11_takes 4 (some .boolean) 5 (dC, dI) [(cI, .int)] (mW cI ad) [.ref (ad 25), .int a1, .int a2, .int a3] M r S1 := gEntryI (ty := .boolean) (by decide) rfl (bz_n hf) mW_fix (Nat.le_of_ble_eq_true rfl) (fun p e s m args below meth c A Q ls X hDA hP hS hret hl => 
  kX11_takes_0 X hDA hret (bz_f hf) hP hS (lv_sub hl [0, 1, 2, 3] rfl))
set_option maxRecDepth 10000 in
theorem kX11_passes_25  {r : Int32} {S1 : MS} {M : MS} {x2 : Int32} (X : gX p s m args c cX11_passes 4 RX11 (dC, dI) [(cI, .int)] A) (hDA : ∀ S, va_D A ((mW cI ad) S)) (hret : gRetI p l e (rmL 6 0 0) s m args below meth c cX11_passes (dC, dI) A (mW cI ad) Q r S1) (hf : fX11_passes_25 M x2 = some (r, S1)) {H : Heap} {locs : List Loc} {ls : Array Slot} (hP : va_P (dC, dI) vwCl ((mW cI ad) M) H) (hS : va_S A s.heap H locs) (hl : lv_has ls 4 [(0, .ref (ad 25)), (2, .int x2)]) : W p l e (rmL 6 0 0) s m args below meth c H locs 0 0 Q (F0 m 25 ls []) := by
  have hx := X.hx
  have hb := X.hb
  have hown := X.hown
  have hts := X.hts
  rw [fX11_passes_25] at hf
  refine lv_aload_n hx hb dX11_passes_25 rfl (lv_at hl 0 rfl) ?_
  refine mr_get (k := 0) X hP (by decide) rfl rfl tw1665 dX11_passes_26 ?_
  refine lv_bipush (v := 8) hx hb dX11_passes_29 (by decide) ?_
  obtain ⟨g1, hf⟩ := gd hf
  refine mr_ald (a := 0) X hP rfl g1 dX11_passes_31 ?_
  refine lv_iload_n hx hb dX11_passes_32 rfl (lv_at hl 1 rfl) ?_
  refine lv_isub hx hb dX11_passes_33 ?_
  cases hf
  exact hret _ _ _ _ dX11_passes_34 hP hS
set_option maxRecDepth 10000 in
theorem kX11_passes_19  {r : Int32} {S1 : MS} {K10 : MS → Int32 → Int32 → Int32 → Option (Int32 × MS)} {M : MS} {x1 : Int32} {x2 : Int32} {x3 : Int32} (X : gX p s m args c cX11_passes 4 RX11 (dC, dI) [(cI, .int)] A) (hDA : ∀ S, va_D A ((mW cI ad) S)) (hret : gRetI p l e (rmL 6 0 0) s m args below meth c cX11_passes (dC, dI) A (mW cI ad) Q r S1) (hK10 : ∀ (M : MS) (x1 : Int32) (x2 : Int32) (x3 : Int32) (H : Heap) (locs : List Loc) (ls : Array Slot), K10 M x1 x2 x3 = some (r, S1) → va_P (dC, dI) vwCl ((mW cI ad) M) H → va_S A s.heap H locs → lv_has ls 4 [(0, .ref (ad 25)), (1, .int x1), (2, .int x2), (3, .int x3)] → W p l e (rmL 6 0 0) s m args below meth c H locs 0 0 Q (F0 m 10 ls [])) (hf : fX11_passes_19 K10 M x1 x2 x3 = some (r, S1)) {H : Heap} {locs : List Loc} {ls : Array Slot} (hP : va_P (dC, dI) vwCl ((mW cI ad) M) H) (hS : va_S A s.heap H locs) (hl : lv_has ls 4 [(0, .ref (ad 25)), (1, .int x1), (2, .int x2), (3, .int x3)]) : W p l e (rmL 6 0 0) s m args below meth c H locs 0 0 Q (F0 m 19 ls []) := by
  have hx := X.hx
  have hb := X.hb
  have hown := X.hown
  have hts := X.hts
  rw [fX11_passes_19] at hf
  refine lv_iinc (v := (x3 + 1)) (lv' := [(3, .int (x3 + 1)), (0, .ref (ad 25)), (1, .int x1), (2, .int x2)]) hx hb dX11_passes_19 hl (k := 3) rfl (by rfl) (by decide) rfl (fun ls hl => ?_)
  refine lv_goto (tgt := 10) hx hb dX11_passes_22 (by decide) ?_
  exact hK10 _ _ _ _ _ _ _ hf hP hS (lv_sub hl [1, 2, 3, 0] rfl)
set_option maxRecDepth 10000 in
theorem kX11_passes_15  {r : Int32} {S1 : MS} {K10 : MS → Int32 → Int32 → Int32 → Option (Int32 × MS)} {M : MS} {x1 : Int32} {x2 : Int32} {x3 : Int32} (X : gX p s m args c cX11_passes 4 RX11 (dC, dI) [(cI, .int)] A) (hDA : ∀ S, va_D A ((mW cI ad) S)) (hret : gRetI p l e (rmL 6 0 0) s m args below meth c cX11_passes (dC, dI) A (mW cI ad) Q r S1) (hK10 : ∀ (M : MS) (x1 : Int32) (x2 : Int32) (x3 : Int32) (H : Heap) (locs : List Loc) (ls : Array Slot), K10 M x1 x2 x3 = some (r, S1) → va_P (dC, dI) vwCl ((mW cI ad) M) H → va_S A s.heap H locs → lv_has ls 4 [(0, .ref (ad 25)), (1, .int x1), (2, .int x2), (3, .int x3)] → W p l e (rmL 6 0 0) s m args below meth c H locs 0 0 Q (F0 m 10 ls [])) (hf : fX11_passes_15 K10 M x1 x2 x3 = some (r, S1)) {H : Heap} {locs : List Loc} {ls : Array Slot} (hP : va_P (dC, dI) vwCl ((mW cI ad) M) H) (hS : va_S A s.heap H locs) (hl : lv_has ls 4 [(0, .ref (ad 25)), (1, .int x1), (2, .int x2), (3, .int x3)]) : W p l e (rmL 6 0 0) s m args below meth c H locs 0 0 Q (F0 m 15 ls []) := by
  have hx := X.hx
  have hb := X.hb
  have hown := X.hown
  have hts := X.hts
  rw [fX11_passes_15] at hf
  refine lv_aload_n hx hb dX11_passes_15 rfl (lv_at hl 0 rfl) ?_
  obtain ⟨q, hc, hf⟩ := bd hf
  refine gCallVV X hDA rfl (vX11_hourPasses hc) gRX11_X11_hourPasses hdX11_hourPasses rfl ⟨by decide, by decide⟩ hP hS (k0 := 0) (ci := 15) rfl rfl hl.1 (Nat.le_of_ble_eq_true rfl) ⟨Nat.le_refl _, Nat.le_refl _⟩ dX11_passes_16 (As := []) (rest := []) rfl (fun H locs hP hS => ?_)
  exact kX11_passes_19 X hDA hret hK10 hf hP hS (lv_sub hl [0, 1, 2, 3] rfl)
set_option maxRecDepth 10000 in
theorem kX11_passes_10  {r : Int32} {S1 : MS} (X : gX p s m args c cX11_passes 4 RX11 (dC, dI) [(cI, .int)] A) (hDA : ∀ S, va_D A ((mW cI ad) S)) (hret : gRetI p l e (rmL 6 0 0) s m args below meth c cX11_passes (dC, dI) A (mW cI ad) Q r S1)  : ∀ (n : Nat) (M : MS) (x1 : Int32) (x2 : Int32) (x3 : Int32) (H : Heap) (locs : List Loc) (ls : Array Slot), fX11_passes_10 n M x1 x2 x3 = some (r, S1) → va_P (dC, dI) vwCl ((mW cI ad) M) H → va_S A s.heap H locs → lv_has ls 4 [(0, .ref (ad 25)), (1, .int x1), (2, .int x2), (3, .int x3)] → W p l e (rmL 6 0 0) s m args below meth c H locs 0 0 Q (F0 m 10 ls []) := by
  intro n
  induction n with
  | zero => intro M x1 x2 x3 H locs ls hf; cases hf
  | succ k ih =>
    intro M x1 x2 x3 H locs ls hf hP hS hl
    have hx := X.hx
    have hb := X.hb
    have hown := X.hown
    have hts := X.hts
    rw [fX11_passes_10] at hf
    try dsimp only at hf
    refine lv_iload_n hx hb dX11_passes_10 rfl (lv_at hl 3 rfl) ?_
    refine lv_iload_n hx hb dX11_passes_11 rfl (lv_at hl 1 rfl) ?_
    refine lv_icmp_ge (tgt := 25) hx hb dX11_passes_12 (by decide) (fun c1 => ?_) (fun c1 => ?_)
    · exact kX11_passes_25 X hDA hret (ifp c1 hf) hP hS (lv_sub hl [0, 2] rfl)
    · exact kX11_passes_15 X hDA hret ih (ifn c1 hf) hP hS (lv_sub hl [0, 1, 2, 3] rfl)
set_option maxRecDepth 10000 in
theorem kX11_passes_0  {r : Int32} {S1 : MS} {M : MS} {a1 : Int32} (X : gX p s m args c cX11_passes 4 RX11 (dC, dI) [(cI, .int)] A) (hDA : ∀ S, va_D A ((mW cI ad) S)) (hret : gRetI p l e (rmL 6 0 0) s m args below meth c cX11_passes (dC, dI) A (mW cI ad) Q r S1) (hf : fX11_passes_0 M a1 = some (r, S1)) {H : Heap} {locs : List Loc} {ls : Array Slot} (hP : va_P (dC, dI) vwCl ((mW cI ad) M) H) (hS : va_S A s.heap H locs) (hl : lv_has ls 4 [(0, .ref (ad 25)), (1, .int a1)]) : W p l e (rmL 6 0 0) s m args below meth c H locs 0 0 Q (F0 m 0 ls []) := by
  have hx := X.hx
  have hb := X.hb
  have hown := X.hown
  have hts := X.hts
  rw [fX11_passes_0] at hf
  refine lv_aload_n hx hb dX11_passes_0 rfl (lv_at hl 0 rfl) ?_
  refine mr_get (k := 0) X hP (by decide) rfl rfl tw1665 dX11_passes_1 ?_
  refine lv_bipush (v := 8) hx hb dX11_passes_4 (by decide) ?_
  obtain ⟨g1, hf⟩ := gd hf
  refine mr_ald (a := 0) X hP rfl g1 dX11_passes_6 ?_
  refine lv_istore_n (lv' := [(2, .int (M.2 0 (8 : Int32).toNatClampNeg)), (0, .ref (ad 25)), (1, .int a1)]) hx hb dX11_passes_7 rfl hl (by decide) rfl (fun ls hl => ?_)
  refine lv_iconst (v := 0) hx hb dX11_passes_8 (by decide) ?_
  refine lv_istore_n (lv' := [(3, .int 0), (2, .int (M.2 0 (8 : Int32).toNatClampNeg)), (0, .ref (ad 25)), (1, .int a1)]) hx hb dX11_passes_9 rfl hl (by decide) rfl (fun ls hl => ?_)
  exact kX11_passes_10 X hDA hret FU _ _ _ _ _ _ _ hf hP hS (lv_sub hl [2, 3, 1, 0] rfl)
theorem vX11_passes {l : Launch} {dC : Nat → ClassId} {dI : Nat → Nat → Nat} {cI : ClassId} {ad : Nat → Nat} {M S1 : MS} {r : Int32} {a1 : Int32} (hf : fX11_passes M a1 = some (r, S1)) : gMetI l yX11_passes cX11_passes 4 (some .int) 6 (dC, dI) [(cI, .int)] (mW cI ad) [.ref (ad 25), .int a1] M r S1 := gEntryI (ty := .int) (by decide) rfl rfl mW_fix (Nat.le_of_ble_eq_true rfl) (fun p e s m args below meth c A Q ls X hDA hP hS hret hl => 
  kX11_passes_0 X hDA hret hf hP hS (lv_sub hl [0, 1] rfl))
set_option maxRecDepth 10000 in
theorem kX11_readShift_42  {r : Int32} {S1 : MS} {M : MS} (X : gX p s m args c cX11_readShift 1 RX11 (dC, dI) [(cI, .int)] A) (hDA : ∀ S, va_D A ((mW cI ad) S)) (hret : gRetI p l e (rmL 6 0 0) s m args below meth c cX11_readShift (dC, dI) A (mW cI ad) Q r S1) (hf : fX11_readShift_42 M = some (r, S1)) {H : Heap} {locs : List Loc} {ls : Array Slot} (hP : va_P (dC, dI) vwCl ((mW cI ad) M) H) (hS : va_S A s.heap H locs) (hl : lv_has ls 1 [(0, .ref (ad 25))]) : W p l e (rmL 6 0 0) s m args below meth c H locs 0 0 Q (F0 m 42 ls []) := by
  have hx := X.hx
  have hb := X.hb
  have hown := X.hown
  have hts := X.hts
  rw [fX11_readShift_42] at hf
  refine lv_iconst (v := 0) hx hb dX11_readShift_42 (by decide) ?_
  cases hf
  exact hret _ _ _ _ dX11_readShift_43 hP hS
set_option maxRecDepth 10000 in
theorem kX11_readShift_64  {r : Int32} {S1 : MS} {M : MS} {s0 : Int32} (X : gX p s m args c cX11_readShift 1 RX11 (dC, dI) [(cI, .int)] A) (hDA : ∀ S, va_D A ((mW cI ad) S)) (hret : gRetI p l e (rmL 6 0 0) s m args below meth c cX11_readShift (dC, dI) A (mW cI ad) Q r S1) (hf : fX11_readShift_64 M s0 = some (r, S1)) {H : Heap} {locs : List Loc} {ls : Array Slot} (hP : va_P (dC, dI) vwCl ((mW cI ad) M) H) (hS : va_S A s.heap H locs) (hl : lv_has ls 1 [(0, .ref (ad 25))]) : W p l e (rmL 6 0 0) s m args below meth c H locs 0 0 Q (F0 m 64 ls [.int s0]) := by
  have hx := X.hx
  have hb := X.hb
  have hown := X.hown
  have hts := X.hts
  rw [fX11_readShift_64] at hf
  cases hf
  exact hret _ _ _ _ dX11_readShift_64 hP hS
set_option maxRecDepth 10000 in
theorem kX11_readShift_60  {r : Int32} {S1 : MS} {M : MS} (X : gX p s m args c cX11_readShift 1 RX11 (dC, dI) [(cI, .int)] A) (hDA : ∀ S, va_D A ((mW cI ad) S)) (hret : gRetI p l e (rmL 6 0 0) s m args below meth c cX11_readShift (dC, dI) A (mW cI ad) Q r S1) (hf : fX11_readShift_60 M = some (r, S1)) {H : Heap} {locs : List Loc} {ls : Array Slot} (hP : va_P (dC, dI) vwCl ((mW cI ad) M) H) (hS : va_S A s.heap H locs) (hl : lv_has ls 1 [(0, .ref (ad 25))]) : W p l e (rmL 6 0 0) s m args below meth c H locs 0 0 Q (F0 m 60 ls []) := by
  have hx := X.hx
  have hb := X.hb
  have hown := X.hown
  have hts := X.hts
  rw [fX11_readShift_60] at hf
  refine lv_aload_n hx hb dX11_readShift_60 rfl (lv_at hl 0 rfl) ?_
  obtain ⟨q, hc, hf⟩ := bd hf
  refine gCallVI X hDA rfl (vX11_takesSemicolon hc) gRX11_X11_takesSemicolon hdX11_takesSemicolon rfl ⟨by decide, by decide⟩ hP hS (k0 := 0) (ci := 15) rfl rfl hl.1 (Nat.le_of_ble_eq_true rfl) ⟨Nat.le_refl _, Nat.le_refl _⟩ dX11_readShift_61 (As := []) (rest := []) rfl (fun H locs hP hS => ?_)
  exact kX11_readShift_64 X hDA hret hf hP hS (lv_sub hl [0] rfl)
set_option maxRecDepth 10000 in
theorem kX11_readShift_44  {r : Int32} {S1 : MS} {M : MS} (X : gX p s m args c cX11_readShift 1 RX11 (dC, dI) [(cI, .int)] A) (hDA : ∀ S, va_D A ((mW cI ad) S)) (hret : gRetI p l e (rmL 6 0 0) s m args below meth c cX11_readShift (dC, dI) A (mW cI ad) Q r S1) (hf : fX11_readShift_44 M = some (r, S1)) {H : Heap} {locs : List Loc} {ls : Array Slot} (hP : va_P (dC, dI) vwCl ((mW cI ad) M) H) (hS : va_S A s.heap H locs) (hl : lv_has ls 1 [(0, .ref (ad 25))]) : W p l e (rmL 6 0 0) s m args below meth c H locs 0 0 Q (F0 m 44 ls []) := by
  have hx := X.hx
  have hb := X.hb
  have hown := X.hown
  have hts := X.hts
  rw [fX11_readShift_44] at hf
  refine lv_aload_n hx hb dX11_readShift_44 rfl (lv_at hl 0 rfl) ?_
  refine lv_aload_n hx hb dX11_readShift_45 rfl (lv_at hl 0 rfl) ?_
  refine mr_get (k := 19) X hP (by decide) rfl rfl tw1684 dX11_readShift_46 ?_
  refine lv_iconst (v := 0) hx hb dX11_readShift_49 (by decide) ?_
  obtain ⟨g1, hf⟩ := gd hf
  refine mr_ald (a := 19) X hP rfl g1 dX11_readShift_50 ?_
  refine lv_aload_n hx hb dX11_readShift_51 rfl (lv_at hl 0 rfl) ?_
  refine mr_get (k := 19) X hP (by decide) rfl rfl tw1684 dX11_readShift_52 ?_
  refine lv_iconst (v := 1) hx hb dX11_readShift_55 (by decide) ?_
  obtain ⟨g2, hf⟩ := gd hf
  refine mr_ald (a := 19) X hP rfl g2 dX11_readShift_56 ?_
  obtain ⟨q, hc, hf⟩ := bd hf
  refine gCallVV X hDA rfl (vX11_addsShift hc) gRX11_X11_addsShift hdX11_addsShift rfl ⟨by decide, by decide⟩ hP hS (k0 := 0) (ci := 15) rfl rfl hl.1 (Nat.le_of_ble_eq_true rfl) ⟨Nat.le_refl _, Nat.le_refl _⟩ dX11_readShift_57 (As := [.int (M.2 19 (0 : Int32).toNatClampNeg), .int (M.2 19 (1 : Int32).toNatClampNeg)]) (rest := []) rfl (fun H locs hP hS => ?_)
  exact kX11_readShift_60 X hDA hret hf hP hS (lv_sub hl [0] rfl)
set_option maxRecDepth 10000 in
theorem kX11_readShift_39  {r : Int32} {S1 : MS} {M : MS} {s0 : Int32} (X : gX p s m args c cX11_readShift 1 RX11 (dC, dI) [(cI, .int)] A) (hDA : ∀ S, va_D A ((mW cI ad) S)) (hret : gRetI p l e (rmL 6 0 0) s m args below meth c cX11_readShift (dC, dI) A (mW cI ad) Q r S1) (hf : fX11_readShift_39 M s0 = some (r, S1)) {H : Heap} {locs : List Loc} {ls : Array Slot} (hP : va_P (dC, dI) vwCl ((mW cI ad) M) H) (hS : va_S A s.heap H locs) (hl : lv_has ls 1 [(0, .ref (ad 25))]) : W p l e (rmL 6 0 0) s m args below meth c H locs 0 0 Q (F0 m 39 ls [.int s0]) := by
  have hx := X.hx
  have hb := X.hb
  have hown := X.hown
  have hts := X.hts
  rw [fX11_readShift_39] at hf
  refine lv_if_ne (tgt := 44) hx hb dX11_readShift_39 (by decide) (fun c1 => ?_) (fun c1 => ?_)
  · exact kX11_readShift_44 X hDA hret (ifn c1 hf) hP hS (lv_sub hl [0] rfl)
  · exact kX11_readShift_42 X hDA hret (ifp c1 hf) hP hS (lv_sub hl [0] rfl)
set_option maxRecDepth 10000 in
theorem kX11_readShift_31  {r : Int32} {S1 : MS} {M : MS} (X : gX p s m args c cX11_readShift 1 RX11 (dC, dI) [(cI, .int)] A) (hDA : ∀ S, va_D A ((mW cI ad) S)) (hret : gRetI p l e (rmL 6 0 0) s m args below meth c cX11_readShift (dC, dI) A (mW cI ad) Q r S1) (hf : fX11_readShift_31 M = some (r, S1)) {H : Heap} {locs : List Loc} {ls : Array Slot} (hP : va_P (dC, dI) vwCl ((mW cI ad) M) H) (hS : va_S A s.heap H locs) (hl : lv_has ls 1 [(0, .ref (ad 25))]) : W p l e (rmL 6 0 0) s m args below meth c H locs 0 0 Q (F0 m 31 ls []) := by
  have hx := X.hx
  have hb := X.hb
  have hown := X.hown
  have hts := X.hts
  rw [fX11_readShift_31] at hf
  refine lv_aload_n hx hb dX11_readShift_31 rfl (lv_at hl 0 rfl) ?_
  refine lv_iconst (v := 1) hx hb dX11_readShift_32 (by decide) ?_
  refine lv_iconst (v := 1) hx hb dX11_readShift_33 (by decide) ?_
  refine lv_bipush (v := 24) hx hb dX11_readShift_34 (by decide) ?_
  obtain ⟨q, hc, hf⟩ := bd hf
  refine gCallVI X hDA rfl (vX11_takes hc) gRX11_X11_takes hdX11_takes rfl ⟨by decide, by decide⟩ hP hS (k0 := 0) (ci := 15) rfl rfl hl.1 (Nat.le_of_ble_eq_true rfl) ⟨Nat.le_refl _, Nat.le_refl _⟩ dX11_readShift_36 (As := [.int 1, .int 1, .int 24]) (rest := []) rfl (fun H locs hP hS => ?_)
  exact kX11_readShift_39 X hDA hret hf hP hS (lv_sub hl [0] rfl)
set_option maxRecDepth 10000 in
theorem kX11_readShift_28  {r : Int32} {S1 : MS} {M : MS} {s0 : Int32} (X : gX p s m args c cX11_readShift 1 RX11 (dC, dI) [(cI, .int)] A) (hDA : ∀ S, va_D A ((mW cI ad) S)) (hret : gRetI p l e (rmL 6 0 0) s m args below meth c cX11_readShift (dC, dI) A (mW cI ad) Q r S1) (hf : fX11_readShift_28 M s0 = some (r, S1)) {H : Heap} {locs : List Loc} {ls : Array Slot} (hP : va_P (dC, dI) vwCl ((mW cI ad) M) H) (hS : va_S A s.heap H locs) (hl : lv_has ls 1 [(0, .ref (ad 25))]) : W p l e (rmL 6 0 0) s m args below meth c H locs 0 0 Q (F0 m 28 ls [.int s0]) := by
  have hx := X.hx
  have hb := X.hb
  have hown := X.hown
  have hts := X.hts
  rw [fX11_readShift_28] at hf
  refine lv_if_eq (tgt := 42) hx hb dX11_readShift_28 (by decide) (fun c1 => ?_) (fun c1 => ?_)
  · exact kX11_readShift_42 X hDA hret (ifp c1 hf) hP hS (lv_sub hl [0] rfl)
  · exact kX11_readShift_31 X hDA hret (ifn c1 hf) hP hS (lv_sub hl [0] rfl)
set_option maxRecDepth 10000 in
theorem kX11_readShift_21  {r : Int32} {S1 : MS} {M : MS} (X : gX p s m args c cX11_readShift 1 RX11 (dC, dI) [(cI, .int)] A) (hDA : ∀ S, va_D A ((mW cI ad) S)) (hret : gRetI p l e (rmL 6 0 0) s m args below meth c cX11_readShift (dC, dI) A (mW cI ad) Q r S1) (hf : fX11_readShift_21 M = some (r, S1)) {H : Heap} {locs : List Loc} {ls : Array Slot} (hP : va_P (dC, dI) vwCl ((mW cI ad) M) H) (hS : va_S A s.heap H locs) (hl : lv_has ls 1 [(0, .ref (ad 25))]) : W p l e (rmL 6 0 0) s m args below meth c H locs 0 0 Q (F0 m 21 ls []) := by
  have hx := X.hx
  have hb := X.hb
  have hown := X.hown
  have hts := X.hts
  rw [fX11_readShift_21] at hf
  refine lv_aload_n hx hb dX11_readShift_21 rfl (lv_at hl 0 rfl) ?_
  refine lv_bipush (v := 65) hx hb dX11_readShift_22 (by decide) ?_
  refine lv_iconst (v := 0) hx hb dX11_readShift_24 (by decide) ?_
  obtain ⟨q, hc, hf⟩ := bd hf
  refine gCallVI X hDA rfl (vX11_takesKnown hc) gRX11_X11_takesKnown hdX11_takesKnown rfl ⟨by decide, by decide⟩ hP hS (k0 := 0) (ci := 15) rfl rfl hl.1 (Nat.le_of_ble_eq_true rfl) ⟨Nat.le_refl _, Nat.le_refl _⟩ dX11_readShift_25 (As := [.int 65, .int 0]) (rest := []) rfl (fun H locs hP hS => ?_)
  exact kX11_readShift_28 X hDA hret hf hP hS (lv_sub hl [0] rfl)
set_option maxRecDepth 10000 in
theorem kX11_readShift_17  {r : Int32} {S1 : MS} {M : MS} (X : gX p s m args c cX11_readShift 1 RX11 (dC, dI) [(cI, .int)] A) (hDA : ∀ S, va_D A ((mW cI ad) S)) (hret : gRetI p l e (rmL 6 0 0) s m args below meth c cX11_readShift (dC, dI) A (mW cI ad) Q r S1) (hf : fX11_readShift_17 M = some (r, S1)) {H : Heap} {locs : List Loc} {ls : Array Slot} (hP : va_P (dC, dI) vwCl ((mW cI ad) M) H) (hS : va_S A s.heap H locs) (hl : lv_has ls 1 [(0, .ref (ad 25))]) : W p l e (rmL 6 0 0) s m args below meth c H locs 0 0 Q (F0 m 17 ls []) := by
  have hx := X.hx
  have hb := X.hb
  have hown := X.hown
  have hts := X.hts
  rw [fX11_readShift_17] at hf
  refine lv_aload_n hx hb dX11_readShift_17 rfl (lv_at hl 0 rfl) ?_
  obtain ⟨q, hc, hf⟩ := bd hf
  refine gCallVV X hDA rfl (vX11_advanceToken hc) gRX11_X11_advanceToken hdX11_advanceToken rfl ⟨by decide, by decide⟩ hP hS (k0 := 0) (ci := 15) rfl rfl hl.1 (Nat.le_of_ble_eq_true rfl) ⟨Nat.le_refl _, Nat.le_refl _⟩ dX11_readShift_18 (As := []) (rest := []) rfl (fun H locs hP hS => ?_)
  exact kX11_readShift_21 X hDA hret hf hP hS (lv_sub hl [0] rfl)
set_option maxRecDepth 10000 in
theorem kX11_readShift_16  {r : Int32} {S1 : MS} {M : MS} {s0 : Int32} (X : gX p s m args c cX11_readShift 1 RX11 (dC, dI) [(cI, .int)] A) (hDA : ∀ S, va_D A ((mW cI ad) S)) (hret : gRetI p l e (rmL 6 0 0) s m args below meth c cX11_readShift (dC, dI) A (mW cI ad) Q r S1) (hf : fX11_readShift_16 M s0 = some (r, S1)) {H : Heap} {locs : List Loc} {ls : Array Slot} (hP : va_P (dC, dI) vwCl ((mW cI ad) M) H) (hS : va_S A s.heap H locs) (hl : lv_has ls 1 [(0, .ref (ad 25))]) : W p l e (rmL 6 0 0) s m args below meth c H locs 0 0 Q (F0 m 16 ls [.int s0]) := by
  have hx := X.hx
  have hb := X.hb
  have hown := X.hown
  have hts := X.hts
  rw [fX11_readShift_16] at hf
  cases hf
  exact hret _ _ _ _ dX11_readShift_16 hP hS
set_option maxRecDepth 10000 in
theorem kX11_readShift_11  {r : Int32} {S1 : MS} {M : MS} (X : gX p s m args c cX11_readShift 1 RX11 (dC, dI) [(cI, .int)] A) (hDA : ∀ S, va_D A ((mW cI ad) S)) (hret : gRetI p l e (rmL 6 0 0) s m args below meth c cX11_readShift (dC, dI) A (mW cI ad) Q r S1) (hf : fX11_readShift_11 M = some (r, S1)) {H : Heap} {locs : List Loc} {ls : Array Slot} (hP : va_P (dC, dI) vwCl ((mW cI ad) M) H) (hS : va_S A s.heap H locs) (hl : lv_has ls 1 [(0, .ref (ad 25))]) : W p l e (rmL 6 0 0) s m args below meth c H locs 0 0 Q (F0 m 11 ls []) := by
  have hx := X.hx
  have hb := X.hb
  have hown := X.hown
  have hts := X.hts
  rw [fX11_readShift_11] at hf
  refine lv_aload_n hx hb dX11_readShift_11 rfl (lv_at hl 0 rfl) ?_
  refine lv_iconst (v := 5) hx hb dX11_readShift_12 (by decide) ?_
  obtain ⟨q, hc, hf⟩ := bd hf
  refine gCallVI X hDA rfl (vX11_failsAt hc) gRX11_X11_failsAt hdX11_failsAt rfl ⟨by decide, by decide⟩ hP hS (k0 := 0) (ci := 15) rfl rfl hl.1 (Nat.le_of_ble_eq_true rfl) ⟨Nat.le_refl _, Nat.le_refl _⟩ dX11_readShift_13 (As := [.int 5]) (rest := []) rfl (fun H locs hP hS => ?_)
  exact kX11_readShift_16 X hDA hret hf hP hS (lv_sub hl [0] rfl)
set_option maxRecDepth 10000 in
theorem kX11_readShift_0  {r : Int32} {S1 : MS} {M : MS} (X : gX p s m args c cX11_readShift 1 RX11 (dC, dI) [(cI, .int)] A) (hDA : ∀ S, va_D A ((mW cI ad) S)) (hret : gRetI p l e (rmL 6 0 0) s m args below meth c cX11_readShift (dC, dI) A (mW cI ad) Q r S1) (hf : fX11_readShift_0 M = some (r, S1)) {H : Heap} {locs : List Loc} {ls : Array Slot} (hP : va_P (dC, dI) vwCl ((mW cI ad) M) H) (hS : va_S A s.heap H locs) (hl : lv_has ls 1 [(0, .ref (ad 25))]) : W p l e (rmL 6 0 0) s m args below meth c H locs 0 0 Q (F0 m 0 ls []) := by
  have hx := X.hx
  have hb := X.hb
  have hown := X.hown
  have hts := X.hts
  rw [fX11_readShift_0] at hf
  refine lv_aload_n hx hb dX11_readShift_0 rfl (lv_at hl 0 rfl) ?_
  refine mr_get (k := 0) X hP (by decide) rfl rfl tw1665 dX11_readShift_1 ?_
  refine lv_iconst (v := 2) hx hb dX11_readShift_4 (by decide) ?_
  obtain ⟨g1, hf⟩ := gd hf
  refine mr_ald (a := 0) X hP rfl g1 dX11_readShift_5 ?_
  refine lv_bipush (v := 12) hx hb dX11_readShift_6 (by decide) ?_
  refine lv_icmp_ne (tgt := 17) hx hb dX11_readShift_8 (by decide) (fun c1 => ?_) (fun c1 => ?_)
  · exact kX11_readShift_17 X hDA hret (ifn c1 hf) hP hS (lv_sub hl [0] rfl)
  · exact kX11_readShift_11 X hDA hret (ifp c1 hf) hP hS (lv_sub hl [0] rfl)
theorem vX11_readShift {l : Launch} {dC : Nat → ClassId} {dI : Nat → Nat → Nat} {cI : ClassId} {ad : Nat → Nat} {M S1 : MS} {r : Int32} (hf : fX11_readShift M  = some (r, S1)) : gMetI l yX11_readShift cX11_readShift 1 (some .boolean) 6 (dC, dI) [(cI, .int)] (mW cI ad) [.ref (ad 25)] M r S1 := gEntryI (ty := .boolean) (by decide) rfl (bz_n hf) mW_fix (Nat.le_of_ble_eq_true rfl) (fun p e s m args below meth c A Q ls X hDA hP hS hret hl => 
  kX11_readShift_0 X hDA hret (bz_f hf) hP hS (lv_sub hl [0] rfl))
set_option maxRecDepth 10000 in
theorem kX11_readCell_32  {r : Int32} {S1 : MS} {M : MS} {s0 : Int32} (X : gX p s m args c cX11_readCell 3 RX11 (dC, dI) [(cI, .int)] A) (hDA : ∀ S, va_D A ((mW cI ad) S)) (hret : gRetI p l e (rmL 6 0 0) s m args below meth c cX11_readCell (dC, dI) A (mW cI ad) Q r S1) (hf : fX11_readCell_32 M s0 = some (r, S1)) {H : Heap} {locs : List Loc} {ls : Array Slot} (hP : va_P (dC, dI) vwCl ((mW cI ad) M) H) (hS : va_S A s.heap H locs) (hl : lv_has ls 3 [(0, .ref (ad 25))]) : W p l e (rmL 6 0 0) s m args below meth c H locs 0 0 Q (F0 m 32 ls [.int s0]) := by
  have hx := X.hx
  have hb := X.hb
  have hown := X.hown
  have hts := X.hts
  rw [fX11_readCell_32] at hf
  cases hf
  exact hret _ _ _ _ dX11_readCell_32 hP hS
set_option maxRecDepth 10000 in
theorem kX11_readCell_28  {r : Int32} {S1 : MS} {M : MS} (X : gX p s m args c cX11_readCell 3 RX11 (dC, dI) [(cI, .int)] A) (hDA : ∀ S, va_D A ((mW cI ad) S)) (hret : gRetI p l e (rmL 6 0 0) s m args below meth c cX11_readCell (dC, dI) A (mW cI ad) Q r S1) (hf : fX11_readCell_28 M = some (r, S1)) {H : Heap} {locs : List Loc} {ls : Array Slot} (hP : va_P (dC, dI) vwCl ((mW cI ad) M) H) (hS : va_S A s.heap H locs) (hl : lv_has ls 3 [(0, .ref (ad 25))]) : W p l e (rmL 6 0 0) s m args below meth c H locs 0 0 Q (F0 m 28 ls []) := by
  have hx := X.hx
  have hb := X.hb
  have hown := X.hown
  have hts := X.hts
  rw [fX11_readCell_28] at hf
  refine lv_aload_n hx hb dX11_readCell_28 rfl (lv_at hl 0 rfl) ?_
  obtain ⟨q, hc, hf⟩ := bd hf
  refine gCallVI X hDA rfl (vX11_takesSemicolon hc) gRX11_X11_takesSemicolon hdX11_takesSemicolon rfl ⟨by decide, by decide⟩ hP hS (k0 := 0) (ci := 15) rfl rfl hl.1 (Nat.le_of_ble_eq_true rfl) ⟨Nat.le_refl _, Nat.le_refl _⟩ dX11_readCell_29 (As := []) (rest := []) rfl (fun H locs hP hS => ?_)
  exact kX11_readCell_32 X hDA hret hf hP hS (lv_sub hl [0] rfl)
set_option maxRecDepth 10000 in
theorem kX11_readCell_16  {r : Int32} {S1 : MS} {M : MS} {x1 : Int32} (X : gX p s m args c cX11_readCell 3 RX11 (dC, dI) [(cI, .int)] A) (hDA : ∀ S, va_D A ((mW cI ad) S)) (hret : gRetI p l e (rmL 6 0 0) s m args below meth c cX11_readCell (dC, dI) A (mW cI ad) Q r S1) (hf : fX11_readCell_16 M x1 = some (r, S1)) {H : Heap} {locs : List Loc} {ls : Array Slot} (hP : va_P (dC, dI) vwCl ((mW cI ad) M) H) (hS : va_S A s.heap H locs) (hl : lv_has ls 3 [(0, .ref (ad 25)), (1, .int x1)]) : W p l e (rmL 6 0 0) s m args below meth c H locs 0 0 Q (F0 m 16 ls []) := by
  have hx := X.hx
  have hb := X.hb
  have hown := X.hown
  have hts := X.hts
  rw [fX11_readCell_16] at hf
  refine lv_aload_n hx hb dX11_readCell_16 rfl (lv_at hl 0 rfl) ?_
  refine mr_get (k := 0) X hP (by decide) rfl rfl tw1665 dX11_readCell_17 ?_
  refine lv_iload_n hx hb dX11_readCell_20 rfl (lv_at hl 1 rfl) ?_
  refine lv_aload_n hx hb dX11_readCell_21 rfl (lv_at hl 0 rfl) ?_
  refine mr_get (k := 19) X hP (by decide) rfl rfl tw1684 dX11_readCell_22 ?_
  refine lv_iconst (v := 0) hx hb dX11_readCell_25 (by decide) ?_
  obtain ⟨g1, hf⟩ := gd hf
  refine mr_ald (a := 19) X hP rfl g1 dX11_readCell_26 ?_
  obtain ⟨g2, hf⟩ := gd hf
  refine mr_ast (a := 0) X hDA hP hS rfl g2 dX11_readCell_27 (fun H locs hP hS => ?_)
  exact kX11_readCell_28 X hDA hret hf hP hS (lv_sub hl [0] rfl)
set_option maxRecDepth 10000 in
theorem kX11_readCell_14  {r : Int32} {S1 : MS} {M : MS} (X : gX p s m args c cX11_readCell 3 RX11 (dC, dI) [(cI, .int)] A) (hDA : ∀ S, va_D A ((mW cI ad) S)) (hret : gRetI p l e (rmL 6 0 0) s m args below meth c cX11_readCell (dC, dI) A (mW cI ad) Q r S1) (hf : fX11_readCell_14 M = some (r, S1)) {H : Heap} {locs : List Loc} {ls : Array Slot} (hP : va_P (dC, dI) vwCl ((mW cI ad) M) H) (hS : va_S A s.heap H locs) (hl : lv_has ls 3 [(0, .ref (ad 25))]) : W p l e (rmL 6 0 0) s m args below meth c H locs 0 0 Q (F0 m 14 ls []) := by
  have hx := X.hx
  have hb := X.hb
  have hown := X.hown
  have hts := X.hts
  rw [fX11_readCell_14] at hf
  refine lv_iconst (v := 0) hx hb dX11_readCell_14 (by decide) ?_
  cases hf
  exact hret _ _ _ _ dX11_readCell_15 hP hS
set_option maxRecDepth 10000 in
theorem kX11_readCell_11  {r : Int32} {S1 : MS} {M : MS} {x1 : Int32} {s0 : Int32} (X : gX p s m args c cX11_readCell 3 RX11 (dC, dI) [(cI, .int)] A) (hDA : ∀ S, va_D A ((mW cI ad) S)) (hret : gRetI p l e (rmL 6 0 0) s m args below meth c cX11_readCell (dC, dI) A (mW cI ad) Q r S1) (hf : fX11_readCell_11 M x1 s0 = some (r, S1)) {H : Heap} {locs : List Loc} {ls : Array Slot} (hP : va_P (dC, dI) vwCl ((mW cI ad) M) H) (hS : va_S A s.heap H locs) (hl : lv_has ls 3 [(0, .ref (ad 25)), (1, .int x1)]) : W p l e (rmL 6 0 0) s m args below meth c H locs 0 0 Q (F0 m 11 ls [.int s0]) := by
  have hx := X.hx
  have hb := X.hb
  have hown := X.hown
  have hts := X.hts
  rw [fX11_readCell_11] at hf
  refine lv_if_ne (tgt := 16) hx hb dX11_readCell_11 (by decide) (fun c1 => ?_) (fun c1 => ?_)
  · exact kX11_readCell_16 X hDA hret (ifn c1 hf) hP hS (lv_sub hl [0, 1] rfl)
  · exact kX11_readCell_14 X hDA hret (ifp c1 hf) hP hS (lv_sub hl [0] rfl)
set_option maxRecDepth 10000 in
theorem kX11_readCell_4  {r : Int32} {S1 : MS} {M : MS} {x1 : Int32} {x2 : Int32} (X : gX p s m args c cX11_readCell 3 RX11 (dC, dI) [(cI, .int)] A) (hDA : ∀ S, va_D A ((mW cI ad) S)) (hret : gRetI p l e (rmL 6 0 0) s m args below meth c cX11_readCell (dC, dI) A (mW cI ad) Q r S1) (hf : fX11_readCell_4 M x1 x2 = some (r, S1)) {H : Heap} {locs : List Loc} {ls : Array Slot} (hP : va_P (dC, dI) vwCl ((mW cI ad) M) H) (hS : va_S A s.heap H locs) (hl : lv_has ls 3 [(0, .ref (ad 25)), (1, .int x1), (2, .int x2)]) : W p l e (rmL 6 0 0) s m args below meth c H locs 0 0 Q (F0 m 4 ls []) := by
  have hx := X.hx
  have hb := X.hb
  have hown := X.hown
  have hts := X.hts
  rw [fX11_readCell_4] at hf
  refine lv_aload_n hx hb dX11_readCell_4 rfl (lv_at hl 0 rfl) ?_
  refine lv_iconst (v := 0) hx hb dX11_readCell_5 (by decide) ?_
  refine lv_iconst (v := 0) hx hb dX11_readCell_6 (by decide) ?_
  refine lv_iload_n hx hb dX11_readCell_7 rfl (lv_at hl 2 rfl) ?_
  obtain ⟨q, hc, hf⟩ := bd hf
  refine gCallVI X hDA rfl (vX11_takes hc) gRX11_X11_takes hdX11_takes rfl ⟨by decide, by decide⟩ hP hS (k0 := 0) (ci := 15) rfl rfl hl.1 (Nat.le_of_ble_eq_true rfl) ⟨Nat.le_refl _, Nat.le_refl _⟩ dX11_readCell_8 (As := [.int 0, .int 0, .int x2]) (rest := []) rfl (fun H locs hP hS => ?_)
  exact kX11_readCell_11 X hDA hret hf hP hS (lv_sub hl [0, 1] rfl)
set_option maxRecDepth 10000 in
theorem kX11_readCell_0  {r : Int32} {S1 : MS} {M : MS} {a1 : Int32} {a2 : Int32} (X : gX p s m args c cX11_readCell 3 RX11 (dC, dI) [(cI, .int)] A) (hDA : ∀ S, va_D A ((mW cI ad) S)) (hret : gRetI p l e (rmL 6 0 0) s m args below meth c cX11_readCell (dC, dI) A (mW cI ad) Q r S1) (hf : fX11_readCell_0 M a1 a2 = some (r, S1)) {H : Heap} {locs : List Loc} {ls : Array Slot} (hP : va_P (dC, dI) vwCl ((mW cI ad) M) H) (hS : va_S A s.heap H locs) (hl : lv_has ls 3 [(0, .ref (ad 25)), (1, .int a1), (2, .int a2)]) : W p l e (rmL 6 0 0) s m args below meth c H locs 0 0 Q (F0 m 0 ls []) := by
  have hx := X.hx
  have hb := X.hb
  have hown := X.hown
  have hts := X.hts
  rw [fX11_readCell_0] at hf
  refine lv_aload_n hx hb dX11_readCell_0 rfl (lv_at hl 0 rfl) ?_
  obtain ⟨q, hc, hf⟩ := bd hf
  refine gCallVV X hDA rfl (vX11_advanceToken hc) gRX11_X11_advanceToken hdX11_advanceToken rfl ⟨by decide, by decide⟩ hP hS (k0 := 0) (ci := 15) rfl rfl hl.1 (Nat.le_of_ble_eq_true rfl) ⟨Nat.le_refl _, Nat.le_refl _⟩ dX11_readCell_1 (As := []) (rest := []) rfl (fun H locs hP hS => ?_)
  exact kX11_readCell_4 X hDA hret hf hP hS (lv_sub hl [0, 1, 2] rfl)
theorem vX11_readCell {l : Launch} {dC : Nat → ClassId} {dI : Nat → Nat → Nat} {cI : ClassId} {ad : Nat → Nat} {M S1 : MS} {r : Int32} {a1 : Int32} {a2 : Int32} (hf : fX11_readCell M a1 a2 = some (r, S1)) : gMetI l yX11_readCell cX11_readCell 3 (some .boolean) 6 (dC, dI) [(cI, .int)] (mW cI ad) [.ref (ad 25), .int a1, .int a2] M r S1 := gEntryI (ty := .boolean) (by decide) rfl (bz_n hf) mW_fix (Nat.le_of_ble_eq_true rfl) (fun p e s m args below meth c A Q ls X hDA hP hS hret hl => 
  kX11_readCell_0 X hDA hret (bz_f hf) hP hS (lv_sub hl [0, 1, 2] rfl))
set_option maxRecDepth 10000 in
theorem kX11_takesRest_52  {r : Int32} {S1 : MS} {M : MS} {s0 : Int32} (X : gX p s m args c cX11_takesRest 2 RX11 (dC, dI) [(cI, .int)] A) (hDA : ∀ S, va_D A ((mW cI ad) S)) (hret : gRetI p l e (rmL 6 0 0) s m args below meth c cX11_takesRest (dC, dI) A (mW cI ad) Q r S1) (hf : fX11_takesRest_52 M s0 = some (r, S1)) {H : Heap} {locs : List Loc} {ls : Array Slot} (hP : va_P (dC, dI) vwCl ((mW cI ad) M) H) (hS : va_S A s.heap H locs) (hl : lv_has ls 2 [(0, .ref (ad 25))]) : W p l e (rmL 6 0 0) s m args below meth c H locs 0 0 Q (F0 m 52 ls [.int s0]) := by
  have hx := X.hx
  have hb := X.hb
  have hown := X.hown
  have hts := X.hts
  rw [fX11_takesRest_52] at hf
  cases hf
  exact hret _ _ _ _ dX11_takesRest_52 hP hS
set_option maxRecDepth 10000 in
theorem kX11_takesRest_44  {r : Int32} {S1 : MS} {M : MS} (X : gX p s m args c cX11_takesRest 2 RX11 (dC, dI) [(cI, .int)] A) (hDA : ∀ S, va_D A ((mW cI ad) S)) (hret : gRetI p l e (rmL 6 0 0) s m args below meth c cX11_takesRest (dC, dI) A (mW cI ad) Q r S1) (hf : fX11_takesRest_44 M = some (r, S1)) {H : Heap} {locs : List Loc} {ls : Array Slot} (hP : va_P (dC, dI) vwCl ((mW cI ad) M) H) (hS : va_S A s.heap H locs) (hl : lv_has ls 2 [(0, .ref (ad 25))]) : W p l e (rmL 6 0 0) s m args below meth c H locs 0 0 Q (F0 m 44 ls []) := by
  have hx := X.hx
  have hb := X.hb
  have hown := X.hown
  have hts := X.hts
  rw [fX11_takesRest_44] at hf
  refine lv_aload_n hx hb dX11_takesRest_44 rfl (lv_at hl 0 rfl) ?_
  refine lv_iconst (v := 0) hx hb dX11_takesRest_45 (by decide) ?_
  refine lv_iconst (v := 1) hx hb dX11_takesRest_46 (by decide) ?_
  refine lv_bipush (v := 99) hx hb dX11_takesRest_47 (by decide) ?_
  obtain ⟨q, hc, hf⟩ := bd hf
  refine gCallVI X hDA rfl (vX11_takes hc) gRX11_X11_takes hdX11_takes rfl ⟨by decide, by decide⟩ hP hS (k0 := 0) (ci := 15) rfl rfl hl.1 (Nat.le_of_ble_eq_true rfl) ⟨Nat.le_refl _, Nat.le_refl _⟩ dX11_takesRest_49 (As := [.int 0, .int 1, .int 99]) (rest := []) rfl (fun H locs hP hS => ?_)
  exact kX11_takesRest_52 X hDA hret hf hP hS (lv_sub hl [0] rfl)
set_option maxRecDepth 10000 in
theorem kX11_takesRest_61  {r : Int32} {S1 : MS} {M : MS} {s0 : Int32} (X : gX p s m args c cX11_takesRest 2 RX11 (dC, dI) [(cI, .int)] A) (hDA : ∀ S, va_D A ((mW cI ad) S)) (hret : gRetI p l e (rmL 6 0 0) s m args below meth c cX11_takesRest (dC, dI) A (mW cI ad) Q r S1) (hf : fX11_takesRest_61 M s0 = some (r, S1)) {H : Heap} {locs : List Loc} {ls : Array Slot} (hP : va_P (dC, dI) vwCl ((mW cI ad) M) H) (hS : va_S A s.heap H locs) (hl : lv_has ls 2 [(0, .ref (ad 25))]) : W p l e (rmL 6 0 0) s m args below meth c H locs 0 0 Q (F0 m 61 ls [.int s0]) := by
  have hx := X.hx
  have hb := X.hb
  have hown := X.hown
  have hts := X.hts
  rw [fX11_takesRest_61] at hf
  cases hf
  exact hret _ _ _ _ dX11_takesRest_61 hP hS
set_option maxRecDepth 10000 in
theorem kX11_takesRest_53  {r : Int32} {S1 : MS} {M : MS} (X : gX p s m args c cX11_takesRest 2 RX11 (dC, dI) [(cI, .int)] A) (hDA : ∀ S, va_D A ((mW cI ad) S)) (hret : gRetI p l e (rmL 6 0 0) s m args below meth c cX11_takesRest (dC, dI) A (mW cI ad) Q r S1) (hf : fX11_takesRest_53 M = some (r, S1)) {H : Heap} {locs : List Loc} {ls : Array Slot} (hP : va_P (dC, dI) vwCl ((mW cI ad) M) H) (hS : va_S A s.heap H locs) (hl : lv_has ls 2 [(0, .ref (ad 25))]) : W p l e (rmL 6 0 0) s m args below meth c H locs 0 0 Q (F0 m 53 ls []) := by
  have hx := X.hx
  have hb := X.hb
  have hown := X.hown
  have hts := X.hts
  rw [fX11_takesRest_53] at hf
  refine lv_aload_n hx hb dX11_takesRest_53 rfl (lv_at hl 0 rfl) ?_
  refine lv_sipush (v := 161) hx hb dX11_takesRest_54 (by decide) ?_
  refine lv_iconst (v := 1) hx hb dX11_takesRest_57 (by decide) ?_
  obtain ⟨q, hc, hf⟩ := bd hf
  refine gCallVI X hDA rfl (vX11_takesKnown hc) gRX11_X11_takesKnown hdX11_takesKnown rfl ⟨by decide, by decide⟩ hP hS (k0 := 0) (ci := 15) rfl rfl hl.1 (Nat.le_of_ble_eq_true rfl) ⟨Nat.le_refl _, Nat.le_refl _⟩ dX11_takesRest_58 (As := [.int 161, .int 1]) (rest := []) rfl (fun H locs hP hS => ?_)
  exact kX11_takesRest_61 X hDA hret hf hP hS (lv_sub hl [0] rfl)
set_option maxRecDepth 10000 in
theorem kX11_takesRest_89  {r : Int32} {S1 : MS} {M : MS} {s0 : Int32} (X : gX p s m args c cX11_takesRest 2 RX11 (dC, dI) [(cI, .int)] A) (hDA : ∀ S, va_D A ((mW cI ad) S)) (hret : gRetI p l e (rmL 6 0 0) s m args below meth c cX11_takesRest (dC, dI) A (mW cI ad) Q r S1) (hf : fX11_takesRest_89 M s0 = some (r, S1)) {H : Heap} {locs : List Loc} {ls : Array Slot} (hP : va_P (dC, dI) vwCl ((mW cI ad) M) H) (hS : va_S A s.heap H locs) (hl : lv_has ls 2 [(0, .ref (ad 25))]) : W p l e (rmL 6 0 0) s m args below meth c H locs 0 0 Q (F0 m 89 ls [.int s0]) := by
  have hx := X.hx
  have hb := X.hb
  have hown := X.hown
  have hts := X.hts
  rw [fX11_takesRest_89] at hf
  cases hf
  exact hret _ _ _ _ dX11_takesRest_89 hP hS
set_option maxRecDepth 10000 in
theorem kX11_takesRest_88  {r : Int32} {S1 : MS} {M : MS} (X : gX p s m args c cX11_takesRest 2 RX11 (dC, dI) [(cI, .int)] A) (hDA : ∀ S, va_D A ((mW cI ad) S)) (hret : gRetI p l e (rmL 6 0 0) s m args below meth c cX11_takesRest (dC, dI) A (mW cI ad) Q r S1) (hf : fX11_takesRest_88 M = some (r, S1)) {H : Heap} {locs : List Loc} {ls : Array Slot} (hP : va_P (dC, dI) vwCl ((mW cI ad) M) H) (hS : va_S A s.heap H locs) (hl : lv_has ls 2 [(0, .ref (ad 25))]) : W p l e (rmL 6 0 0) s m args below meth c H locs 0 0 Q (F0 m 88 ls []) := by
  have hx := X.hx
  have hb := X.hb
  have hown := X.hown
  have hts := X.hts
  rw [fX11_takesRest_88] at hf
  refine lv_iconst (v := 0) hx hb dX11_takesRest_88 (by decide) ?_
  exact kX11_takesRest_89 X hDA hret hf hP hS (lv_sub hl [0] rfl)
set_option maxRecDepth 10000 in
theorem kX11_takesRest_84  {r : Int32} {S1 : MS} {M : MS} (X : gX p s m args c cX11_takesRest 2 RX11 (dC, dI) [(cI, .int)] A) (hDA : ∀ S, va_D A ((mW cI ad) S)) (hret : gRetI p l e (rmL 6 0 0) s m args below meth c cX11_takesRest (dC, dI) A (mW cI ad) Q r S1) (hf : fX11_takesRest_84 M = some (r, S1)) {H : Heap} {locs : List Loc} {ls : Array Slot} (hP : va_P (dC, dI) vwCl ((mW cI ad) M) H) (hS : va_S A s.heap H locs) (hl : lv_has ls 2 [(0, .ref (ad 25))]) : W p l e (rmL 6 0 0) s m args below meth c H locs 0 0 Q (F0 m 84 ls []) := by
  have hx := X.hx
  have hb := X.hb
  have hown := X.hown
  have hts := X.hts
  rw [fX11_takesRest_84] at hf
  refine lv_iconst (v := 1) hx hb dX11_takesRest_84 (by decide) ?_
  refine lv_goto (tgt := 89) hx hb dX11_takesRest_85 (by decide) ?_
  exact kX11_takesRest_89 X hDA hret hf hP hS (lv_sub hl [0] rfl)
set_option maxRecDepth 10000 in
theorem kX11_takesRest_81  {r : Int32} {S1 : MS} {M : MS} {s0 : Int32} (X : gX p s m args c cX11_takesRest 2 RX11 (dC, dI) [(cI, .int)] A) (hDA : ∀ S, va_D A ((mW cI ad) S)) (hret : gRetI p l e (rmL 6 0 0) s m args below meth c cX11_takesRest (dC, dI) A (mW cI ad) Q r S1) (hf : fX11_takesRest_81 M s0 = some (r, S1)) {H : Heap} {locs : List Loc} {ls : Array Slot} (hP : va_P (dC, dI) vwCl ((mW cI ad) M) H) (hS : va_S A s.heap H locs) (hl : lv_has ls 2 [(0, .ref (ad 25))]) : W p l e (rmL 6 0 0) s m args below meth c H locs 0 0 Q (F0 m 81 ls [.int s0]) := by
  have hx := X.hx
  have hb := X.hb
  have hown := X.hown
  have hts := X.hts
  rw [fX11_takesRest_81] at hf
  refine lv_if_eq (tgt := 88) hx hb dX11_takesRest_81 (by decide) (fun c1 => ?_) (fun c1 => ?_)
  · exact kX11_takesRest_88 X hDA hret (ifp c1 hf) hP hS (lv_sub hl [0] rfl)
  · exact kX11_takesRest_84 X hDA hret (ifn c1 hf) hP hS (lv_sub hl [0] rfl)
set_option maxRecDepth 10000 in
theorem kX11_takesRest_73  {r : Int32} {S1 : MS} {M : MS} (X : gX p s m args c cX11_takesRest 2 RX11 (dC, dI) [(cI, .int)] A) (hDA : ∀ S, va_D A ((mW cI ad) S)) (hret : gRetI p l e (rmL 6 0 0) s m args below meth c cX11_takesRest (dC, dI) A (mW cI ad) Q r S1) (hf : fX11_takesRest_73 M = some (r, S1)) {H : Heap} {locs : List Loc} {ls : Array Slot} (hP : va_P (dC, dI) vwCl ((mW cI ad) M) H) (hS : va_S A s.heap H locs) (hl : lv_has ls 2 [(0, .ref (ad 25))]) : W p l e (rmL 6 0 0) s m args below meth c H locs 0 0 Q (F0 m 73 ls []) := by
  have hx := X.hx
  have hb := X.hb
  have hown := X.hown
  have hts := X.hts
  rw [fX11_takesRest_73] at hf
  refine lv_aload_n hx hb dX11_takesRest_73 rfl (lv_at hl 0 rfl) ?_
  refine lv_iconst (v := 1) hx hb dX11_takesRest_74 (by decide) ?_
  refine lv_iconst (v := 1) hx hb dX11_takesRest_75 (by decide) ?_
  refine lv_bipush (v := 99) hx hb dX11_takesRest_76 (by decide) ?_
  obtain ⟨q, hc, hf⟩ := bd hf
  refine gCallVI X hDA rfl (vX11_takes hc) gRX11_X11_takes hdX11_takes rfl ⟨by decide, by decide⟩ hP hS (k0 := 0) (ci := 15) rfl rfl hl.1 (Nat.le_of_ble_eq_true rfl) ⟨Nat.le_refl _, Nat.le_refl _⟩ dX11_takesRest_78 (As := [.int 1, .int 1, .int 99]) (rest := []) rfl (fun H locs hP hS => ?_)
  exact kX11_takesRest_81 X hDA hret hf hP hS (lv_sub hl [0] rfl)
set_option maxRecDepth 10000 in
theorem kX11_takesRest_70  {r : Int32} {S1 : MS} {M : MS} {s0 : Int32} (X : gX p s m args c cX11_takesRest 2 RX11 (dC, dI) [(cI, .int)] A) (hDA : ∀ S, va_D A ((mW cI ad) S)) (hret : gRetI p l e (rmL 6 0 0) s m args below meth c cX11_takesRest (dC, dI) A (mW cI ad) Q r S1) (hf : fX11_takesRest_70 M s0 = some (r, S1)) {H : Heap} {locs : List Loc} {ls : Array Slot} (hP : va_P (dC, dI) vwCl ((mW cI ad) M) H) (hS : va_S A s.heap H locs) (hl : lv_has ls 2 [(0, .ref (ad 25))]) : W p l e (rmL 6 0 0) s m args below meth c H locs 0 0 Q (F0 m 70 ls [.int s0]) := by
  have hx := X.hx
  have hb := X.hb
  have hown := X.hown
  have hts := X.hts
  rw [fX11_takesRest_70] at hf
  refine lv_if_eq (tgt := 88) hx hb dX11_takesRest_70 (by decide) (fun c1 => ?_) (fun c1 => ?_)
  · exact kX11_takesRest_88 X hDA hret (ifp c1 hf) hP hS (lv_sub hl [0] rfl)
  · exact kX11_takesRest_73 X hDA hret (ifn c1 hf) hP hS (lv_sub hl [0] rfl)
set_option maxRecDepth 10000 in
theorem kX11_takesRest_62  {r : Int32} {S1 : MS} {M : MS} (X : gX p s m args c cX11_takesRest 2 RX11 (dC, dI) [(cI, .int)] A) (hDA : ∀ S, va_D A ((mW cI ad) S)) (hret : gRetI p l e (rmL 6 0 0) s m args below meth c cX11_takesRest (dC, dI) A (mW cI ad) Q r S1) (hf : fX11_takesRest_62 M = some (r, S1)) {H : Heap} {locs : List Loc} {ls : Array Slot} (hP : va_P (dC, dI) vwCl ((mW cI ad) M) H) (hS : va_S A s.heap H locs) (hl : lv_has ls 2 [(0, .ref (ad 25))]) : W p l e (rmL 6 0 0) s m args below meth c H locs 0 0 Q (F0 m 62 ls []) := by
  have hx := X.hx
  have hb := X.hb
  have hown := X.hown
  have hts := X.hts
  rw [fX11_takesRest_62] at hf
  refine lv_aload_n hx hb dX11_takesRest_62 rfl (lv_at hl 0 rfl) ?_
  refine lv_sipush (v := 161) hx hb dX11_takesRest_63 (by decide) ?_
  refine lv_iconst (v := 1) hx hb dX11_takesRest_66 (by decide) ?_
  obtain ⟨q, hc, hf⟩ := bd hf
  refine gCallVI X hDA rfl (vX11_takesKnown hc) gRX11_X11_takesKnown hdX11_takesKnown rfl ⟨by decide, by decide⟩ hP hS (k0 := 0) (ci := 15) rfl rfl hl.1 (Nat.le_of_ble_eq_true rfl) ⟨Nat.le_refl _, Nat.le_refl _⟩ dX11_takesRest_67 (As := [.int 161, .int 1]) (rest := []) rfl (fun H locs hP hS => ?_)
  exact kX11_takesRest_70 X hDA hret hf hP hS (lv_sub hl [0] rfl)
set_option maxRecDepth 10000 in
theorem kX11_takesRest_118  {r : Int32} {S1 : MS} {M : MS} {s0 : Int32} (X : gX p s m args c cX11_takesRest 2 RX11 (dC, dI) [(cI, .int)] A) (hDA : ∀ S, va_D A ((mW cI ad) S)) (hret : gRetI p l e (rmL 6 0 0) s m args below meth c cX11_takesRest (dC, dI) A (mW cI ad) Q r S1) (hf : fX11_takesRest_118 M s0 = some (r, S1)) {H : Heap} {locs : List Loc} {ls : Array Slot} (hP : va_P (dC, dI) vwCl ((mW cI ad) M) H) (hS : va_S A s.heap H locs) (hl : lv_has ls 2 [(0, .ref (ad 25))]) : W p l e (rmL 6 0 0) s m args below meth c H locs 0 0 Q (F0 m 118 ls [.int s0]) := by
  have hx := X.hx
  have hb := X.hb
  have hown := X.hown
  have hts := X.hts
  rw [fX11_takesRest_118] at hf
  cases hf
  exact hret _ _ _ _ dX11_takesRest_118 hP hS
set_option maxRecDepth 10000 in
theorem kX11_takesRest_117  {r : Int32} {S1 : MS} {M : MS} (X : gX p s m args c cX11_takesRest 2 RX11 (dC, dI) [(cI, .int)] A) (hDA : ∀ S, va_D A ((mW cI ad) S)) (hret : gRetI p l e (rmL 6 0 0) s m args below meth c cX11_takesRest (dC, dI) A (mW cI ad) Q r S1) (hf : fX11_takesRest_117 M = some (r, S1)) {H : Heap} {locs : List Loc} {ls : Array Slot} (hP : va_P (dC, dI) vwCl ((mW cI ad) M) H) (hS : va_S A s.heap H locs) (hl : lv_has ls 2 [(0, .ref (ad 25))]) : W p l e (rmL 6 0 0) s m args below meth c H locs 0 0 Q (F0 m 117 ls []) := by
  have hx := X.hx
  have hb := X.hb
  have hown := X.hown
  have hts := X.hts
  rw [fX11_takesRest_117] at hf
  refine lv_iconst (v := 0) hx hb dX11_takesRest_117 (by decide) ?_
  exact kX11_takesRest_118 X hDA hret hf hP hS (lv_sub hl [0] rfl)
set_option maxRecDepth 10000 in
theorem kX11_takesRest_113  {r : Int32} {S1 : MS} {M : MS} (X : gX p s m args c cX11_takesRest 2 RX11 (dC, dI) [(cI, .int)] A) (hDA : ∀ S, va_D A ((mW cI ad) S)) (hret : gRetI p l e (rmL 6 0 0) s m args below meth c cX11_takesRest (dC, dI) A (mW cI ad) Q r S1) (hf : fX11_takesRest_113 M = some (r, S1)) {H : Heap} {locs : List Loc} {ls : Array Slot} (hP : va_P (dC, dI) vwCl ((mW cI ad) M) H) (hS : va_S A s.heap H locs) (hl : lv_has ls 2 [(0, .ref (ad 25))]) : W p l e (rmL 6 0 0) s m args below meth c H locs 0 0 Q (F0 m 113 ls []) := by
  have hx := X.hx
  have hb := X.hb
  have hown := X.hown
  have hts := X.hts
  rw [fX11_takesRest_113] at hf
  refine lv_iconst (v := 1) hx hb dX11_takesRest_113 (by decide) ?_
  refine lv_goto (tgt := 118) hx hb dX11_takesRest_114 (by decide) ?_
  exact kX11_takesRest_118 X hDA hret hf hP hS (lv_sub hl [0] rfl)
set_option maxRecDepth 10000 in
theorem kX11_takesRest_110  {r : Int32} {S1 : MS} {M : MS} {s0 : Int32} (X : gX p s m args c cX11_takesRest 2 RX11 (dC, dI) [(cI, .int)] A) (hDA : ∀ S, va_D A ((mW cI ad) S)) (hret : gRetI p l e (rmL 6 0 0) s m args below meth c cX11_takesRest (dC, dI) A (mW cI ad) Q r S1) (hf : fX11_takesRest_110 M s0 = some (r, S1)) {H : Heap} {locs : List Loc} {ls : Array Slot} (hP : va_P (dC, dI) vwCl ((mW cI ad) M) H) (hS : va_S A s.heap H locs) (hl : lv_has ls 2 [(0, .ref (ad 25))]) : W p l e (rmL 6 0 0) s m args below meth c H locs 0 0 Q (F0 m 110 ls [.int s0]) := by
  have hx := X.hx
  have hb := X.hb
  have hown := X.hown
  have hts := X.hts
  rw [fX11_takesRest_110] at hf
  refine lv_if_eq (tgt := 117) hx hb dX11_takesRest_110 (by decide) (fun c1 => ?_) (fun c1 => ?_)
  · exact kX11_takesRest_117 X hDA hret (ifp c1 hf) hP hS (lv_sub hl [0] rfl)
  · exact kX11_takesRest_113 X hDA hret (ifn c1 hf) hP hS (lv_sub hl [0] rfl)
set_option maxRecDepth 10000 in
theorem kX11_takesRest_101  {r : Int32} {S1 : MS} {M : MS} (X : gX p s m args c cX11_takesRest 2 RX11 (dC, dI) [(cI, .int)] A) (hDA : ∀ S, va_D A ((mW cI ad) S)) (hret : gRetI p l e (rmL 6 0 0) s m args below meth c cX11_takesRest (dC, dI) A (mW cI ad) Q r S1) (hf : fX11_takesRest_101 M = some (r, S1)) {H : Heap} {locs : List Loc} {ls : Array Slot} (hP : va_P (dC, dI) vwCl ((mW cI ad) M) H) (hS : va_S A s.heap H locs) (hl : lv_has ls 2 [(0, .ref (ad 25))]) : W p l e (rmL 6 0 0) s m args below meth c H locs 0 0 Q (F0 m 101 ls []) := by
  have hx := X.hx
  have hb := X.hb
  have hown := X.hown
  have hts := X.hts
  rw [fX11_takesRest_101] at hf
  refine lv_aload_n hx hb dX11_takesRest_101 rfl (lv_at hl 0 rfl) ?_
  refine lv_iconst (v := 1) hx hb dX11_takesRest_102 (by decide) ?_
  refine lv_iconst (v := 1) hx hb dX11_takesRest_103 (by decide) ?_
  refine lv_sipush (v := 999) hx hb dX11_takesRest_104 (by decide) ?_
  obtain ⟨q, hc, hf⟩ := bd hf
  refine gCallVI X hDA rfl (vX11_takes hc) gRX11_X11_takes hdX11_takes rfl ⟨by decide, by decide⟩ hP hS (k0 := 0) (ci := 15) rfl rfl hl.1 (Nat.le_of_ble_eq_true rfl) ⟨Nat.le_refl _, Nat.le_refl _⟩ dX11_takesRest_107 (As := [.int 1, .int 1, .int 999]) (rest := []) rfl (fun H locs hP hS => ?_)
  exact kX11_takesRest_110 X hDA hret hf hP hS (lv_sub hl [0] rfl)
set_option maxRecDepth 10000 in
theorem kX11_takesRest_98  {r : Int32} {S1 : MS} {M : MS} {s0 : Int32} (X : gX p s m args c cX11_takesRest 2 RX11 (dC, dI) [(cI, .int)] A) (hDA : ∀ S, va_D A ((mW cI ad) S)) (hret : gRetI p l e (rmL 6 0 0) s m args below meth c cX11_takesRest (dC, dI) A (mW cI ad) Q r S1) (hf : fX11_takesRest_98 M s0 = some (r, S1)) {H : Heap} {locs : List Loc} {ls : Array Slot} (hP : va_P (dC, dI) vwCl ((mW cI ad) M) H) (hS : va_S A s.heap H locs) (hl : lv_has ls 2 [(0, .ref (ad 25))]) : W p l e (rmL 6 0 0) s m args below meth c H locs 0 0 Q (F0 m 98 ls [.int s0]) := by
  have hx := X.hx
  have hb := X.hb
  have hown := X.hown
  have hts := X.hts
  rw [fX11_takesRest_98] at hf
  refine lv_if_eq (tgt := 117) hx hb dX11_takesRest_98 (by decide) (fun c1 => ?_) (fun c1 => ?_)
  · exact kX11_takesRest_117 X hDA hret (ifp c1 hf) hP hS (lv_sub hl [0] rfl)
  · exact kX11_takesRest_101 X hDA hret (ifn c1 hf) hP hS (lv_sub hl [0] rfl)
set_option maxRecDepth 10000 in
theorem kX11_takesRest_90  {r : Int32} {S1 : MS} {M : MS} (X : gX p s m args c cX11_takesRest 2 RX11 (dC, dI) [(cI, .int)] A) (hDA : ∀ S, va_D A ((mW cI ad) S)) (hret : gRetI p l e (rmL 6 0 0) s m args below meth c cX11_takesRest (dC, dI) A (mW cI ad) Q r S1) (hf : fX11_takesRest_90 M = some (r, S1)) {H : Heap} {locs : List Loc} {ls : Array Slot} (hP : va_P (dC, dI) vwCl ((mW cI ad) M) H) (hS : va_S A s.heap H locs) (hl : lv_has ls 2 [(0, .ref (ad 25))]) : W p l e (rmL 6 0 0) s m args below meth c H locs 0 0 Q (F0 m 90 ls []) := by
  have hx := X.hx
  have hb := X.hb
  have hown := X.hown
  have hts := X.hts
  rw [fX11_takesRest_90] at hf
  refine lv_aload_n hx hb dX11_takesRest_90 rfl (lv_at hl 0 rfl) ?_
  refine lv_sipush (v := 161) hx hb dX11_takesRest_91 (by decide) ?_
  refine lv_iconst (v := 1) hx hb dX11_takesRest_94 (by decide) ?_
  obtain ⟨q, hc, hf⟩ := bd hf
  refine gCallVI X hDA rfl (vX11_takesKnown hc) gRX11_X11_takesKnown hdX11_takesKnown rfl ⟨by decide, by decide⟩ hP hS (k0 := 0) (ci := 15) rfl rfl hl.1 (Nat.le_of_ble_eq_true rfl) ⟨Nat.le_refl _, Nat.le_refl _⟩ dX11_takesRest_95 (As := [.int 161, .int 1]) (rest := []) rfl (fun H locs hP hS => ?_)
  exact kX11_takesRest_98 X hDA hret hf hP hS (lv_sub hl [0] rfl)
set_option maxRecDepth 10000 in
theorem kX11_takesRest_119  {r : Int32} {S1 : MS} {M : MS} (X : gX p s m args c cX11_takesRest 2 RX11 (dC, dI) [(cI, .int)] A) (hDA : ∀ S, va_D A ((mW cI ad) S)) (hret : gRetI p l e (rmL 6 0 0) s m args below meth c cX11_takesRest (dC, dI) A (mW cI ad) Q r S1) (hf : fX11_takesRest_119 M = some (r, S1)) {H : Heap} {locs : List Loc} {ls : Array Slot} (hP : va_P (dC, dI) vwCl ((mW cI ad) M) H) (hS : va_S A s.heap H locs) (hl : lv_has ls 2 [(0, .ref (ad 25))]) : W p l e (rmL 6 0 0) s m args below meth c H locs 0 0 Q (F0 m 119 ls []) := by
  have hx := X.hx
  have hb := X.hb
  have hown := X.hown
  have hts := X.hts
  rw [fX11_takesRest_119] at hf
  refine lv_iconst (v := 1) hx hb dX11_takesRest_119 (by decide) ?_
  cases hf
  exact hret _ _ _ _ dX11_takesRest_120 hP hS
set_option maxRecDepth 10000 in
theorem kX11_takesRest_129  {r : Int32} {S1 : MS} {M : MS} {s0 : Int32} (X : gX p s m args c cX11_takesRest 2 RX11 (dC, dI) [(cI, .int)] A) (hDA : ∀ S, va_D A ((mW cI ad) S)) (hret : gRetI p l e (rmL 6 0 0) s m args below meth c cX11_takesRest (dC, dI) A (mW cI ad) Q r S1) (hf : fX11_takesRest_129 M s0 = some (r, S1)) {H : Heap} {locs : List Loc} {ls : Array Slot} (hP : va_P (dC, dI) vwCl ((mW cI ad) M) H) (hS : va_S A s.heap H locs) (hl : lv_has ls 2 [(0, .ref (ad 25))]) : W p l e (rmL 6 0 0) s m args below meth c H locs 0 0 Q (F0 m 129 ls [.int s0]) := by
  have hx := X.hx
  have hb := X.hb
  have hown := X.hown
  have hts := X.hts
  rw [fX11_takesRest_129] at hf
  cases hf
  exact hret _ _ _ _ dX11_takesRest_129 hP hS
set_option maxRecDepth 10000 in
theorem kX11_takesRest_121  {r : Int32} {S1 : MS} {M : MS} (X : gX p s m args c cX11_takesRest 2 RX11 (dC, dI) [(cI, .int)] A) (hDA : ∀ S, va_D A ((mW cI ad) S)) (hret : gRetI p l e (rmL 6 0 0) s m args below meth c cX11_takesRest (dC, dI) A (mW cI ad) Q r S1) (hf : fX11_takesRest_121 M = some (r, S1)) {H : Heap} {locs : List Loc} {ls : Array Slot} (hP : va_P (dC, dI) vwCl ((mW cI ad) M) H) (hS : va_S A s.heap H locs) (hl : lv_has ls 2 [(0, .ref (ad 25))]) : W p l e (rmL 6 0 0) s m args below meth c H locs 0 0 Q (F0 m 121 ls []) := by
  have hx := X.hx
  have hb := X.hb
  have hown := X.hown
  have hts := X.hts
  rw [fX11_takesRest_121] at hf
  refine lv_aload_n hx hb dX11_takesRest_121 rfl (lv_at hl 0 rfl) ?_
  refine lv_iconst (v := 0) hx hb dX11_takesRest_122 (by decide) ?_
  refine lv_iconst (v := 0) hx hb dX11_takesRest_123 (by decide) ?_
  refine lv_bipush (v := 9) hx hb dX11_takesRest_124 (by decide) ?_
  obtain ⟨q, hc, hf⟩ := bd hf
  refine gCallVI X hDA rfl (vX11_takes hc) gRX11_X11_takes hdX11_takes rfl ⟨by decide, by decide⟩ hP hS (k0 := 0) (ci := 15) rfl rfl hl.1 (Nat.le_of_ble_eq_true rfl) ⟨Nat.le_refl _, Nat.le_refl _⟩ dX11_takesRest_126 (As := [.int 0, .int 0, .int 9]) (rest := []) rfl (fun H locs hP hS => ?_)
  exact kX11_takesRest_129 X hDA hret hf hP hS (lv_sub hl [0] rfl)
set_option maxRecDepth 10000 in
theorem kX11_takesRest_4  {r : Int32} {S1 : MS} {M : MS} {x1 : Int32} (X : gX p s m args c cX11_takesRest 2 RX11 (dC, dI) [(cI, .int)] A) (hDA : ∀ S, va_D A ((mW cI ad) S)) (hret : gRetI p l e (rmL 6 0 0) s m args below meth c cX11_takesRest (dC, dI) A (mW cI ad) Q r S1) (hf : fX11_takesRest_4 M x1 = some (r, S1)) {H : Heap} {locs : List Loc} {ls : Array Slot} (hP : va_P (dC, dI) vwCl ((mW cI ad) M) H) (hS : va_S A s.heap H locs) (hl : lv_has ls 2 [(0, .ref (ad 25)), (1, .int x1)]) : W p l e (rmL 6 0 0) s m args below meth c H locs 0 0 Q (F0 m 4 ls []) := by
  have hx := X.hx
  have hb := X.hb
  have hown := X.hown
  have hts := X.hts
  rw [fX11_takesRest_4] at hf
  refine lv_iload_n hx hb dX11_takesRest_4 rfl (lv_at hl 1 rfl) ?_
  by_cases c1 : x1 = 1
  · refine lv_tableIn (off := 39) (tgt := 44) hx hb dX11_takesRest_5 (by rw [c1]; decide) (by rw [c1]; decide) (by rw [c1]; rfl) (by decide) ?_
    exact kX11_takesRest_44 X hDA hret (ifp c1 hf) hP hS (lv_sub hl [0] rfl)
  replace hf := ifn c1 hf
  by_cases c2 : x1 = 2
  · refine lv_tableIn (off := 48) (tgt := 53) hx hb dX11_takesRest_5 (by rw [c2]; decide) (by rw [c2]; decide) (by rw [c2]; rfl) (by decide) ?_
    exact kX11_takesRest_53 X hDA hret (ifp c2 hf) hP hS (lv_sub hl [0] rfl)
  replace hf := ifn c2 hf
  by_cases c3 : x1 = 3
  · refine lv_tableIn (off := 48) (tgt := 53) hx hb dX11_takesRest_5 (by rw [c3]; decide) (by rw [c3]; decide) (by rw [c3]; rfl) (by decide) ?_
    exact kX11_takesRest_53 X hDA hret (ifp c3 hf) hP hS (lv_sub hl [0] rfl)
  replace hf := ifn c3 hf
  by_cases c4 : x1 = 4
  · refine lv_tableIn (off := 57) (tgt := 62) hx hb dX11_takesRest_5 (by rw [c4]; decide) (by rw [c4]; decide) (by rw [c4]; rfl) (by decide) ?_
    exact kX11_takesRest_62 X hDA hret (ifp c4 hf) hP hS (lv_sub hl [0] rfl)
  replace hf := ifn c4 hf
  by_cases c5 : x1 = 5
  · refine lv_tableIn (off := 85) (tgt := 90) hx hb dX11_takesRest_5 (by rw [c5]; decide) (by rw [c5]; decide) (by rw [c5]; rfl) (by decide) ?_
    exact kX11_takesRest_90 X hDA hret (ifp c5 hf) hP hS (lv_sub hl [0] rfl)
  replace hf := ifn c5 hf
  by_cases c6 : x1 = 6
  · refine lv_tableIn (off := 114) (tgt := 119) hx hb dX11_takesRest_5 (by rw [c6]; decide) (by rw [c6]; decide) (by rw [c6]; rfl) (by decide) ?_
    exact kX11_takesRest_119 X hDA hret (ifp c6 hf) hP hS (lv_sub hl [0] rfl)
  replace hf := ifn c6 hf
  refine lv_tableOut (tgt := 121) hx hb dX11_takesRest_5 (sw_out 1 6 (by decide) (by decide) (fun k h1 h2 h3 => by have hk : k = 1 ∨ k = 2 ∨ k = 3 ∨ k = 4 ∨ k = 5 ∨ k = 6 := (by omega); rcases hk with rfl | rfl | rfl | rfl | rfl | rfl <;> first | exact c1 (h3.trans (by decide)) | exact c2 (h3.trans (by decide)) | exact c3 (h3.trans (by decide)) | exact c4 (h3.trans (by decide)) | exact c5 (h3.trans (by decide)) | exact c6 (h3.trans (by decide)))) (by decide) ?_
  exact kX11_takesRest_121 X hDA hret hf hP hS (lv_sub hl [0] rfl)
set_option maxRecDepth 10000 in
theorem kX11_takesRest_0  {r : Int32} {S1 : MS} {M : MS} {a1 : Int32} (X : gX p s m args c cX11_takesRest 2 RX11 (dC, dI) [(cI, .int)] A) (hDA : ∀ S, va_D A ((mW cI ad) S)) (hret : gRetI p l e (rmL 6 0 0) s m args below meth c cX11_takesRest (dC, dI) A (mW cI ad) Q r S1) (hf : fX11_takesRest_0 M a1 = some (r, S1)) {H : Heap} {locs : List Loc} {ls : Array Slot} (hP : va_P (dC, dI) vwCl ((mW cI ad) M) H) (hS : va_S A s.heap H locs) (hl : lv_has ls 2 [(0, .ref (ad 25)), (1, .int a1)]) : W p l e (rmL 6 0 0) s m args below meth c H locs 0 0 Q (F0 m 0 ls []) := by
  have hx := X.hx
  have hb := X.hb
  have hown := X.hown
  have hts := X.hts
  rw [fX11_takesRest_0] at hf
  refine lv_aload_n hx hb dX11_takesRest_0 rfl (lv_at hl 0 rfl) ?_
  obtain ⟨q, hc, hf⟩ := bd hf
  refine gCallVV X hDA rfl (vX11_advanceToken hc) gRX11_X11_advanceToken hdX11_advanceToken rfl ⟨by decide, by decide⟩ hP hS (k0 := 0) (ci := 15) rfl rfl hl.1 (Nat.le_of_ble_eq_true rfl) ⟨Nat.le_refl _, Nat.le_refl _⟩ dX11_takesRest_1 (As := []) (rest := []) rfl (fun H locs hP hS => ?_)
  exact kX11_takesRest_4 X hDA hret hf hP hS (lv_sub hl [0, 1] rfl)
theorem vX11_takesRest {l : Launch} {dC : Nat → ClassId} {dI : Nat → Nat → Nat} {cI : ClassId} {ad : Nat → Nat} {M S1 : MS} {r : Int32} {a1 : Int32} (hf : fX11_takesRest M a1 = some (r, S1)) : gMetI l yX11_takesRest cX11_takesRest 2 (some .boolean) 6 (dC, dI) [(cI, .int)] (mW cI ad) [.ref (ad 25), .int a1] M r S1 := gEntryI (ty := .boolean) (by decide) rfl (bz_n hf) mW_fix (Nat.le_of_ble_eq_true rfl) (fun p e s m args below meth c A Q ls X hDA hP hS hret hl => 
  kX11_takesRest_0 X hDA hret (bz_f hf) hP hS (lv_sub hl [0, 1] rfl))
set_option maxRecDepth 10000 in
theorem kX11_hoursUntil_44  {r : Int32} {S1 : MS} {M : MS} {s0 : Int32} (X : gX p s m args c cX11_hoursUntil 4 RX11 (dC, dI) [(cI, .int)] A) (hDA : ∀ S, va_D A ((mW cI ad) S)) (hret : gRetI p l e (rmL 6 0 0) s m args below meth c cX11_hoursUntil (dC, dI) A (mW cI ad) Q r S1) (hf : fX11_hoursUntil_44 M s0 = some (r, S1)) {H : Heap} {locs : List Loc} {ls : Array Slot} (hP : va_P (dC, dI) vwCl ((mW cI ad) M) H) (hS : va_S A s.heap H locs) (hl : lv_has ls 4 [(0, .ref (ad 25))]) : W p l e (rmL 6 0 0) s m args below meth c H locs 0 0 Q (F0 m 44 ls [.int s0]) := by
  have hx := X.hx
  have hb := X.hb
  have hown := X.hown
  have hts := X.hts
  rw [fX11_hoursUntil_44] at hf
  cases hf
  exact hret _ _ _ _ dX11_hoursUntil_44 hP hS
set_option maxRecDepth 10000 in
theorem kX11_hoursUntil_39  {r : Int32} {S1 : MS} {M : MS} (X : gX p s m args c cX11_hoursUntil 4 RX11 (dC, dI) [(cI, .int)] A) (hDA : ∀ S, va_D A ((mW cI ad) S)) (hret : gRetI p l e (rmL 6 0 0) s m args below meth c cX11_hoursUntil (dC, dI) A (mW cI ad) Q r S1) (hf : fX11_hoursUntil_39 M = some (r, S1)) {H : Heap} {locs : List Loc} {ls : Array Slot} (hP : va_P (dC, dI) vwCl ((mW cI ad) M) H) (hS : va_S A s.heap H locs) (hl : lv_has ls 4 [(0, .ref (ad 25))]) : W p l e (rmL 6 0 0) s m args below meth c H locs 0 0 Q (F0 m 39 ls []) := by
  have hx := X.hx
  have hb := X.hb
  have hown := X.hown
  have hts := X.hts
  rw [fX11_hoursUntil_39] at hf
  refine lv_aload_n hx hb dX11_hoursUntil_39 rfl (lv_at hl 0 rfl) ?_
  refine lv_iconst (v := (-1)) hx hb dX11_hoursUntil_40 (by decide) ?_
  obtain ⟨q, hc, hf⟩ := bd hf
  refine gCallVI X hDA rfl (vX11_goesBack hc) gRX11_X11_goesBack hdX11_goesBack rfl ⟨by decide, by decide⟩ hP hS (k0 := 0) (ci := 15) rfl rfl hl.1 (Nat.le_of_ble_eq_true rfl) ⟨Nat.le_refl _, Nat.le_refl _⟩ dX11_hoursUntil_41 (As := [.int (-1)]) (rest := []) rfl (fun H locs hP hS => ?_)
  exact kX11_hoursUntil_44 X hDA hret hf hP hS (lv_sub hl [0] rfl)
set_option maxRecDepth 10000 in
theorem kX11_hoursUntil_33  {r : Int32} {S1 : MS} {K6 : MS → Int32 → Int32 → Int32 → Option (Int32 × MS)} {M : MS} {x1 : Int32} {x2 : Int32} {x3 : Int32} (X : gX p s m args c cX11_hoursUntil 4 RX11 (dC, dI) [(cI, .int)] A) (hDA : ∀ S, va_D A ((mW cI ad) S)) (hret : gRetI p l e (rmL 6 0 0) s m args below meth c cX11_hoursUntil (dC, dI) A (mW cI ad) Q r S1) (hK6 : ∀ (M : MS) (x1 : Int32) (x2 : Int32) (x3 : Int32) (H : Heap) (locs : List Loc) (ls : Array Slot), K6 M x1 x2 x3 = some (r, S1) → va_P (dC, dI) vwCl ((mW cI ad) M) H → va_S A s.heap H locs → lv_has ls 4 [(0, .ref (ad 25)), (1, .int x1), (2, .int x2), (3, .int x3)] → W p l e (rmL 6 0 0) s m args below meth c H locs 0 0 Q (F0 m 6 ls [])) (hf : fX11_hoursUntil_33 K6 M x1 x2 x3 = some (r, S1)) {H : Heap} {locs : List Loc} {ls : Array Slot} (hP : va_P (dC, dI) vwCl ((mW cI ad) M) H) (hS : va_S A s.heap H locs) (hl : lv_has ls 4 [(0, .ref (ad 25)), (1, .int x1), (2, .int x2), (3, .int x3)]) : W p l e (rmL 6 0 0) s m args below meth c H locs 0 0 Q (F0 m 33 ls []) := by
  have hx := X.hx
  have hb := X.hb
  have hown := X.hown
  have hts := X.hts
  rw [fX11_hoursUntil_33] at hf
  refine lv_iinc (v := (x3 + 1)) (lv' := [(3, .int (x3 + 1)), (0, .ref (ad 25)), (1, .int x1), (2, .int x2)]) hx hb dX11_hoursUntil_33 hl (k := 3) rfl (by rfl) (by decide) rfl (fun ls hl => ?_)
  refine lv_goto (tgt := 6) hx hb dX11_hoursUntil_36 (by decide) ?_
  exact hK6 _ _ _ _ _ _ _ hf hP hS (lv_sub hl [1, 2, 3, 0] rfl)
set_option maxRecDepth 10000 in
theorem kX11_hoursUntil_29  {r : Int32} {S1 : MS} {K6 : MS → Int32 → Int32 → Int32 → Option (Int32 × MS)} {M : MS} {x1 : Int32} {x2 : Int32} {x3 : Int32} (X : gX p s m args c cX11_hoursUntil 4 RX11 (dC, dI) [(cI, .int)] A) (hDA : ∀ S, va_D A ((mW cI ad) S)) (hret : gRetI p l e (rmL 6 0 0) s m args below meth c cX11_hoursUntil (dC, dI) A (mW cI ad) Q r S1) (hK6 : ∀ (M : MS) (x1 : Int32) (x2 : Int32) (x3 : Int32) (H : Heap) (locs : List Loc) (ls : Array Slot), K6 M x1 x2 x3 = some (r, S1) → va_P (dC, dI) vwCl ((mW cI ad) M) H → va_S A s.heap H locs → lv_has ls 4 [(0, .ref (ad 25)), (1, .int x1), (2, .int x2), (3, .int x3)] → W p l e (rmL 6 0 0) s m args below meth c H locs 0 0 Q (F0 m 6 ls [])) (hf : fX11_hoursUntil_29 K6 M x1 x2 x3 = some (r, S1)) {H : Heap} {locs : List Loc} {ls : Array Slot} (hP : va_P (dC, dI) vwCl ((mW cI ad) M) H) (hS : va_S A s.heap H locs) (hl : lv_has ls 4 [(0, .ref (ad 25)), (1, .int x1), (2, .int x2), (3, .int x3)]) : W p l e (rmL 6 0 0) s m args below meth c H locs 0 0 Q (F0 m 29 ls []) := by
  have hx := X.hx
  have hb := X.hb
  have hown := X.hown
  have hts := X.hts
  rw [fX11_hoursUntil_29] at hf
  refine lv_aload_n hx hb dX11_hoursUntil_29 rfl (lv_at hl 0 rfl) ?_
  obtain ⟨q, hc, hf⟩ := bd hf
  refine gCallVV X hDA rfl (vX11_hourPasses hc) gRX11_X11_hourPasses hdX11_hourPasses rfl ⟨by decide, by decide⟩ hP hS (k0 := 0) (ci := 15) rfl rfl hl.1 (Nat.le_of_ble_eq_true rfl) ⟨Nat.le_refl _, Nat.le_refl _⟩ dX11_hoursUntil_30 (As := []) (rest := []) rfl (fun H locs hP hS => ?_)
  exact kX11_hoursUntil_33 X hDA hret hK6 hf hP hS (lv_sub hl [0, 1, 2, 3] rfl)
set_option maxRecDepth 10000 in
theorem kX11_hoursUntil_28  {r : Int32} {S1 : MS} {M : MS} {s0 : Int32} (X : gX p s m args c cX11_hoursUntil 4 RX11 (dC, dI) [(cI, .int)] A) (hDA : ∀ S, va_D A ((mW cI ad) S)) (hret : gRetI p l e (rmL 6 0 0) s m args below meth c cX11_hoursUntil (dC, dI) A (mW cI ad) Q r S1) (hf : fX11_hoursUntil_28 M s0 = some (r, S1)) {H : Heap} {locs : List Loc} {ls : Array Slot} (hP : va_P (dC, dI) vwCl ((mW cI ad) M) H) (hS : va_S A s.heap H locs) (hl : lv_has ls 4 [(0, .ref (ad 25))]) : W p l e (rmL 6 0 0) s m args below meth c H locs 0 0 Q (F0 m 28 ls [.int s0]) := by
  have hx := X.hx
  have hb := X.hb
  have hown := X.hown
  have hts := X.hts
  rw [fX11_hoursUntil_28] at hf
  cases hf
  exact hret _ _ _ _ dX11_hoursUntil_28 hP hS
set_option maxRecDepth 10000 in
theorem kX11_hoursUntil_23  {r : Int32} {S1 : MS} {M : MS} {x3 : Int32} (X : gX p s m args c cX11_hoursUntil 4 RX11 (dC, dI) [(cI, .int)] A) (hDA : ∀ S, va_D A ((mW cI ad) S)) (hret : gRetI p l e (rmL 6 0 0) s m args below meth c cX11_hoursUntil (dC, dI) A (mW cI ad) Q r S1) (hf : fX11_hoursUntil_23 M x3 = some (r, S1)) {H : Heap} {locs : List Loc} {ls : Array Slot} (hP : va_P (dC, dI) vwCl ((mW cI ad) M) H) (hS : va_S A s.heap H locs) (hl : lv_has ls 4 [(0, .ref (ad 25)), (3, .int x3)]) : W p l e (rmL 6 0 0) s m args below meth c H locs 0 0 Q (F0 m 23 ls []) := by
  have hx := X.hx
  have hb := X.hb
  have hown := X.hown
  have hts := X.hts
  rw [fX11_hoursUntil_23] at hf
  refine lv_aload_n hx hb dX11_hoursUntil_23 rfl (lv_at hl 0 rfl) ?_
  refine lv_iload_n hx hb dX11_hoursUntil_24 rfl (lv_at hl 1 rfl) ?_
  obtain ⟨q, hc, hf⟩ := bd hf
  refine gCallVI X hDA rfl (vX11_goesBack hc) gRX11_X11_goesBack hdX11_goesBack rfl ⟨by decide, by decide⟩ hP hS (k0 := 0) (ci := 15) rfl rfl hl.1 (Nat.le_of_ble_eq_true rfl) ⟨Nat.le_refl _, Nat.le_refl _⟩ dX11_hoursUntil_25 (As := [.int x3]) (rest := []) rfl (fun H locs hP hS => ?_)
  exact kX11_hoursUntil_28 X hDA hret hf hP hS (lv_sub hl [0] rfl)
set_option maxRecDepth 10000 in
theorem kX11_hoursUntil_13  {r : Int32} {S1 : MS} {K6 : MS → Int32 → Int32 → Int32 → Option (Int32 × MS)} {M : MS} {x1 : Int32} {x2 : Int32} {x3 : Int32} (X : gX p s m args c cX11_hoursUntil 4 RX11 (dC, dI) [(cI, .int)] A) (hDA : ∀ S, va_D A ((mW cI ad) S)) (hret : gRetI p l e (rmL 6 0 0) s m args below meth c cX11_hoursUntil (dC, dI) A (mW cI ad) Q r S1) (hK6 : ∀ (M : MS) (x1 : Int32) (x2 : Int32) (x3 : Int32) (H : Heap) (locs : List Loc) (ls : Array Slot), K6 M x1 x2 x3 = some (r, S1) → va_P (dC, dI) vwCl ((mW cI ad) M) H → va_S A s.heap H locs → lv_has ls 4 [(0, .ref (ad 25)), (1, .int x1), (2, .int x2), (3, .int x3)] → W p l e (rmL 6 0 0) s m args below meth c H locs 0 0 Q (F0 m 6 ls [])) (hf : fX11_hoursUntil_13 K6 M x1 x2 x3 = some (r, S1)) {H : Heap} {locs : List Loc} {ls : Array Slot} (hP : va_P (dC, dI) vwCl ((mW cI ad) M) H) (hS : va_S A s.heap H locs) (hl : lv_has ls 4 [(0, .ref (ad 25)), (1, .int x1), (2, .int x2), (3, .int x3)]) : W p l e (rmL 6 0 0) s m args below meth c H locs 0 0 Q (F0 m 13 ls []) := by
  have hx := X.hx
  have hb := X.hb
  have hown := X.hown
  have hts := X.hts
  rw [fX11_hoursUntil_13] at hf
  refine lv_aload_n hx hb dX11_hoursUntil_13 rfl (lv_at hl 0 rfl) ?_
  refine mr_get (k := 0) X hP (by decide) rfl rfl tw1665 dX11_hoursUntil_14 ?_
  refine lv_iload_n hx hb dX11_hoursUntil_17 rfl (lv_at hl 1 rfl) ?_
  obtain ⟨g1, hf⟩ := gd hf
  refine mr_ald (a := 0) X hP rfl g1 dX11_hoursUntil_18 ?_
  refine lv_iload_n hx hb dX11_hoursUntil_19 rfl (lv_at hl 2 rfl) ?_
  refine lv_icmp_ne (tgt := 29) hx hb dX11_hoursUntil_20 (by decide) (fun c1 => ?_) (fun c1 => ?_)
  · exact kX11_hoursUntil_29 X hDA hret hK6 (ifn c1 hf) hP hS (lv_sub hl [0, 1, 2, 3] rfl)
  · exact kX11_hoursUntil_23 X hDA hret (ifp c1 hf) hP hS (lv_sub hl [0, 3] rfl)
set_option maxRecDepth 10000 in
theorem kX11_hoursUntil_6  {r : Int32} {S1 : MS} (X : gX p s m args c cX11_hoursUntil 4 RX11 (dC, dI) [(cI, .int)] A) (hDA : ∀ S, va_D A ((mW cI ad) S)) (hret : gRetI p l e (rmL 6 0 0) s m args below meth c cX11_hoursUntil (dC, dI) A (mW cI ad) Q r S1)  : ∀ (n : Nat) (M : MS) (x1 : Int32) (x2 : Int32) (x3 : Int32) (H : Heap) (locs : List Loc) (ls : Array Slot), fX11_hoursUntil_6 n M x1 x2 x3 = some (r, S1) → va_P (dC, dI) vwCl ((mW cI ad) M) H → va_S A s.heap H locs → lv_has ls 4 [(0, .ref (ad 25)), (1, .int x1), (2, .int x2), (3, .int x3)] → W p l e (rmL 6 0 0) s m args below meth c H locs 0 0 Q (F0 m 6 ls []) := by
  intro n
  induction n with
  | zero => intro M x1 x2 x3 H locs ls hf; cases hf
  | succ k ih =>
    intro M x1 x2 x3 H locs ls hf hP hS hl
    have hx := X.hx
    have hb := X.hb
    have hown := X.hown
    have hts := X.hts
    rw [fX11_hoursUntil_6] at hf
    try dsimp only at hf
    refine lv_iload_n hx hb dX11_hoursUntil_6 rfl (lv_at hl 3 rfl) ?_
    refine lv_sipush (v := 200) hx hb dX11_hoursUntil_7 (by decide) ?_
    refine lv_icmp_gt (tgt := 39) hx hb dX11_hoursUntil_10 (by decide) (fun c1 => ?_) (fun c1 => ?_)
    · exact kX11_hoursUntil_39 X hDA hret (ifp c1 hf) hP hS (lv_sub hl [0] rfl)
    · exact kX11_hoursUntil_13 X hDA hret ih (ifn c1 hf) hP hS (lv_sub hl [0, 1, 2, 3] rfl)
set_option maxRecDepth 10000 in
theorem kX11_hoursUntil_4  {r : Int32} {S1 : MS} {M : MS} {x1 : Int32} {x2 : Int32} (X : gX p s m args c cX11_hoursUntil 4 RX11 (dC, dI) [(cI, .int)] A) (hDA : ∀ S, va_D A ((mW cI ad) S)) (hret : gRetI p l e (rmL 6 0 0) s m args below meth c cX11_hoursUntil (dC, dI) A (mW cI ad) Q r S1) (hf : fX11_hoursUntil_4 M x1 x2 = some (r, S1)) {H : Heap} {locs : List Loc} {ls : Array Slot} (hP : va_P (dC, dI) vwCl ((mW cI ad) M) H) (hS : va_S A s.heap H locs) (hl : lv_has ls 4 [(0, .ref (ad 25)), (1, .int x1), (2, .int x2)]) : W p l e (rmL 6 0 0) s m args below meth c H locs 0 0 Q (F0 m 4 ls []) := by
  have hx := X.hx
  have hb := X.hb
  have hown := X.hown
  have hts := X.hts
  rw [fX11_hoursUntil_4] at hf
  refine lv_iconst (v := 0) hx hb dX11_hoursUntil_4 (by decide) ?_
  refine lv_istore_n (lv' := [(3, .int 0), (0, .ref (ad 25)), (1, .int x1), (2, .int x2)]) hx hb dX11_hoursUntil_5 rfl hl (by decide) rfl (fun ls hl => ?_)
  exact kX11_hoursUntil_6 X hDA hret FU _ _ _ _ _ _ _ hf hP hS (lv_sub hl [1, 2, 3, 0] rfl)
set_option maxRecDepth 10000 in
theorem kX11_hoursUntil_0  {r : Int32} {S1 : MS} {M : MS} {a1 : Int32} {a2 : Int32} (X : gX p s m args c cX11_hoursUntil 4 RX11 (dC, dI) [(cI, .int)] A) (hDA : ∀ S, va_D A ((mW cI ad) S)) (hret : gRetI p l e (rmL 6 0 0) s m args below meth c cX11_hoursUntil (dC, dI) A (mW cI ad) Q r S1) (hf : fX11_hoursUntil_0 M a1 a2 = some (r, S1)) {H : Heap} {locs : List Loc} {ls : Array Slot} (hP : va_P (dC, dI) vwCl ((mW cI ad) M) H) (hS : va_S A s.heap H locs) (hl : lv_has ls 4 [(0, .ref (ad 25)), (1, .int a1), (2, .int a2)]) : W p l e (rmL 6 0 0) s m args below meth c H locs 0 0 Q (F0 m 0 ls []) := by
  have hx := X.hx
  have hb := X.hb
  have hown := X.hown
  have hts := X.hts
  rw [fX11_hoursUntil_0] at hf
  refine lv_aload_n hx hb dX11_hoursUntil_0 rfl (lv_at hl 0 rfl) ?_
  obtain ⟨q, hc, hf⟩ := bd hf
  refine gCallVV X hDA rfl (vX11_goesAside hc) gRX11_X11_goesAside hdX11_goesAside rfl ⟨by decide, by decide⟩ hP hS (k0 := 0) (ci := 15) rfl rfl hl.1 (Nat.le_of_ble_eq_true rfl) ⟨Nat.le_refl _, Nat.le_refl _⟩ dX11_hoursUntil_1 (As := []) (rest := []) rfl (fun H locs hP hS => ?_)
  exact kX11_hoursUntil_4 X hDA hret hf hP hS (lv_sub hl [0, 1, 2] rfl)
theorem vX11_hoursUntil {l : Launch} {dC : Nat → ClassId} {dI : Nat → Nat → Nat} {cI : ClassId} {ad : Nat → Nat} {M S1 : MS} {r : Int32} {a1 : Int32} {a2 : Int32} (hf : fX11_hoursUntil M a1 a2 = some (r, S1)) : gMetI l yX11_hoursUntil cX11_hoursUntil 4 (some .int) 6 (dC, dI) [(cI, .int)] (mW cI ad) [.ref (ad 25), .int a1, .int a2] M r S1 := gEntryI (ty := .int) (by decide) rfl rfl mW_fix (Nat.le_of_ble_eq_true rfl) (fun p e s m args below meth c A Q ls X hDA hP hS hret hl => 
  kX11_hoursUntil_0 X hDA hret hf hP hS (lv_sub hl [0, 1, 2] rfl))
set_option maxRecDepth 10000 in
theorem kX11_does_91  {r : Int32} {S1 : MS} {M : MS} {s0 : Int32} (X : gX p s m args c cX11_does 4 RX11 (dC, dI) [(cI, .int)] A) (hDA : ∀ S, va_D A ((mW cI ad) S)) (hret : gRetI p l e (rmL 7 0 0) s m args below meth c cX11_does (dC, dI) A (mW cI ad) Q r S1) (hf : fX11_does_91 M s0 = some (r, S1)) {H : Heap} {locs : List Loc} {ls : Array Slot} (hP : va_P (dC, dI) vwCl ((mW cI ad) M) H) (hS : va_S A s.heap H locs) (hl : lv_has ls 4 [(0, .ref (ad 25))]) : W p l e (rmL 7 0 0) s m args below meth c H locs 0 0 Q (F0 m 91 ls [.int s0]) := by
  have hx := X.hx
  have hb := X.hb
  have hown := X.hown
  have hts := X.hts
  rw [fX11_does_91] at hf
  cases hf
  exact hret _ _ _ _ dX11_does_91 hP hS
set_option maxRecDepth 10000 in
theorem kX11_does_90  {r : Int32} {S1 : MS} {M : MS} (X : gX p s m args c cX11_does 4 RX11 (dC, dI) [(cI, .int)] A) (hDA : ∀ S, va_D A ((mW cI ad) S)) (hret : gRetI p l e (rmL 7 0 0) s m args below meth c cX11_does (dC, dI) A (mW cI ad) Q r S1) (hf : fX11_does_90 M = some (r, S1)) {H : Heap} {locs : List Loc} {ls : Array Slot} (hP : va_P (dC, dI) vwCl ((mW cI ad) M) H) (hS : va_S A s.heap H locs) (hl : lv_has ls 4 [(0, .ref (ad 25))]) : W p l e (rmL 7 0 0) s m args below meth c H locs 0 0 Q (F0 m 90 ls []) := by
  have hx := X.hx
  have hb := X.hb
  have hown := X.hown
  have hts := X.hts
  rw [fX11_does_90] at hf
  refine lv_iconst (v := 0) hx hb dX11_does_90 (by decide) ?_
  exact kX11_does_91 X hDA hret hf hP hS (lv_sub hl [0] rfl)
set_option maxRecDepth 10000 in
theorem kX11_does_86  {r : Int32} {S1 : MS} {M : MS} (X : gX p s m args c cX11_does 4 RX11 (dC, dI) [(cI, .int)] A) (hDA : ∀ S, va_D A ((mW cI ad) S)) (hret : gRetI p l e (rmL 7 0 0) s m args below meth c cX11_does (dC, dI) A (mW cI ad) Q r S1) (hf : fX11_does_86 M = some (r, S1)) {H : Heap} {locs : List Loc} {ls : Array Slot} (hP : va_P (dC, dI) vwCl ((mW cI ad) M) H) (hS : va_S A s.heap H locs) (hl : lv_has ls 4 [(0, .ref (ad 25))]) : W p l e (rmL 7 0 0) s m args below meth c H locs 0 0 Q (F0 m 86 ls []) := by
  have hx := X.hx
  have hb := X.hb
  have hown := X.hown
  have hts := X.hts
  rw [fX11_does_86] at hf
  refine lv_iconst (v := 1) hx hb dX11_does_86 (by decide) ?_
  refine lv_goto (tgt := 91) hx hb dX11_does_87 (by decide) ?_
  exact kX11_does_91 X hDA hret hf hP hS (lv_sub hl [0] rfl)
set_option maxRecDepth 10000 in
theorem kX11_does_83  {r : Int32} {S1 : MS} {M : MS} {s0 : Int32} (X : gX p s m args c cX11_does 4 RX11 (dC, dI) [(cI, .int)] A) (hDA : ∀ S, va_D A ((mW cI ad) S)) (hret : gRetI p l e (rmL 7 0 0) s m args below meth c cX11_does (dC, dI) A (mW cI ad) Q r S1) (hf : fX11_does_83 M s0 = some (r, S1)) {H : Heap} {locs : List Loc} {ls : Array Slot} (hP : va_P (dC, dI) vwCl ((mW cI ad) M) H) (hS : va_S A s.heap H locs) (hl : lv_has ls 4 [(0, .ref (ad 25))]) : W p l e (rmL 7 0 0) s m args below meth c H locs 0 0 Q (F0 m 83 ls [.int s0]) := by
  have hx := X.hx
  have hb := X.hb
  have hown := X.hown
  have hts := X.hts
  rw [fX11_does_83] at hf
  refine lv_if_lt (tgt := 90) hx hb dX11_does_83 (by decide) (fun c1 => ?_) (fun c1 => ?_)
  · exact kX11_does_90 X hDA hret (ifp c1 hf) hP hS (lv_sub hl [0] rfl)
  · exact kX11_does_86 X hDA hret (ifn c1 hf) hP hS (lv_sub hl [0] rfl)
set_option maxRecDepth 10000 in
theorem kX11_does_78  {r : Int32} {S1 : MS} {M : MS} {x2 : Int32} (X : gX p s m args c cX11_does 4 RX11 (dC, dI) [(cI, .int)] A) (hDA : ∀ S, va_D A ((mW cI ad) S)) (hret : gRetI p l e (rmL 7 0 0) s m args below meth c cX11_does (dC, dI) A (mW cI ad) Q r S1) (hf : fX11_does_78 M x2 = some (r, S1)) {H : Heap} {locs : List Loc} {ls : Array Slot} (hP : va_P (dC, dI) vwCl ((mW cI ad) M) H) (hS : va_S A s.heap H locs) (hl : lv_has ls 4 [(0, .ref (ad 25)), (2, .int x2)]) : W p l e (rmL 7 0 0) s m args below meth c H locs 0 0 Q (F0 m 78 ls []) := by
  have hx := X.hx
  have hb := X.hb
  have hown := X.hown
  have hts := X.hts
  rw [fX11_does_78] at hf
  refine lv_aload_n hx hb dX11_does_78 rfl (lv_at hl 0 rfl) ?_
  refine lv_iload_n hx hb dX11_does_79 rfl (lv_at hl 1 rfl) ?_
  obtain ⟨q, hc, hf⟩ := bd hf
  refine gCallVI X hDA rfl (vX11_passes hc) gRX11_X11_passes hdX11_passes rfl ⟨by decide, by decide⟩ hP hS (k0 := 0) (ci := 15) rfl rfl hl.1 (Nat.le_of_ble_eq_true rfl) ⟨Nat.le_refl _, Nat.le_refl _⟩ dX11_does_80 (As := [.int x2]) (rest := []) rfl (fun H locs hP hS => ?_)
  exact kX11_does_83 X hDA hret hf hP hS (lv_sub hl [0] rfl)
set_option maxRecDepth 10000 in
theorem kX11_does_64  {r : Int32} {S1 : MS} {M : MS} {x2 : Int32} (X : gX p s m args c cX11_does 4 RX11 (dC, dI) [(cI, .int)] A) (hDA : ∀ S, va_D A ((mW cI ad) S)) (hret : gRetI p l e (rmL 7 0 0) s m args below meth c cX11_does (dC, dI) A (mW cI ad) Q r S1) (hf : fX11_does_64 M x2 = some (r, S1)) {H : Heap} {locs : List Loc} {ls : Array Slot} (hP : va_P (dC, dI) vwCl ((mW cI ad) M) H) (hS : va_S A s.heap H locs) (hl : lv_has ls 4 [(0, .ref (ad 25)), (2, .int x2)]) : W p l e (rmL 7 0 0) s m args below meth c H locs 0 0 Q (F0 m 64 ls []) := by
  have hx := X.hx
  have hb := X.hb
  have hown := X.hown
  have hts := X.hts
  rw [fX11_does_64] at hf
  refine lv_aload_n hx hb dX11_does_64 rfl (lv_at hl 0 rfl) ?_
  refine mr_get (k := 0) X hP (by decide) rfl rfl tw1665 dX11_does_65 ?_
  refine lv_iconst (v := 3) hx hb dX11_does_68 (by decide) ?_
  obtain ⟨g1, hf⟩ := gd hf
  refine mr_ald (a := 0) X hP rfl g1 dX11_does_69 ?_
  refine lv_iload_n hx hb dX11_does_70 rfl (lv_at hl 1 rfl) ?_
  refine lv_iadd hx hb dX11_does_71 ?_
  refine lv_sipush (v := 9999) hx hb dX11_does_72 (by decide) ?_
  refine lv_icmp_gt (tgt := 90) hx hb dX11_does_75 (by decide) (fun c1 => ?_) (fun c1 => ?_)
  · exact kX11_does_90 X hDA hret (ifp c1 hf) hP hS (lv_sub hl [0] rfl)
  · exact kX11_does_78 X hDA hret (ifn c1 hf) hP hS (lv_sub hl [0, 1] rfl)
set_option maxRecDepth 10000 in
theorem kX11_does_114  {r : Int32} {S1 : MS} {M : MS} {s0 : Int32} (X : gX p s m args c cX11_does 4 RX11 (dC, dI) [(cI, .int)] A) (hDA : ∀ S, va_D A ((mW cI ad) S)) (hret : gRetI p l e (rmL 7 0 0) s m args below meth c cX11_does (dC, dI) A (mW cI ad) Q r S1) (hf : fX11_does_114 M s0 = some (r, S1)) {H : Heap} {locs : List Loc} {ls : Array Slot} (hP : va_P (dC, dI) vwCl ((mW cI ad) M) H) (hS : va_S A s.heap H locs) (hl : lv_has ls 4 [(0, .ref (ad 25))]) : W p l e (rmL 7 0 0) s m args below meth c H locs 0 0 Q (F0 m 114 ls [.int s0]) := by
  have hx := X.hx
  have hb := X.hb
  have hown := X.hown
  have hts := X.hts
  rw [fX11_does_114] at hf
  cases hf
  exact hret _ _ _ _ dX11_does_114 hP hS
set_option maxRecDepth 10000 in
theorem kX11_does_113  {r : Int32} {S1 : MS} {M : MS} (X : gX p s m args c cX11_does 4 RX11 (dC, dI) [(cI, .int)] A) (hDA : ∀ S, va_D A ((mW cI ad) S)) (hret : gRetI p l e (rmL 7 0 0) s m args below meth c cX11_does (dC, dI) A (mW cI ad) Q r S1) (hf : fX11_does_113 M = some (r, S1)) {H : Heap} {locs : List Loc} {ls : Array Slot} (hP : va_P (dC, dI) vwCl ((mW cI ad) M) H) (hS : va_S A s.heap H locs) (hl : lv_has ls 4 [(0, .ref (ad 25))]) : W p l e (rmL 7 0 0) s m args below meth c H locs 0 0 Q (F0 m 113 ls []) := by
  have hx := X.hx
  have hb := X.hb
  have hown := X.hown
  have hts := X.hts
  rw [fX11_does_113] at hf
  refine lv_iconst (v := 0) hx hb dX11_does_113 (by decide) ?_
  exact kX11_does_114 X hDA hret hf hP hS (lv_sub hl [0] rfl)
set_option maxRecDepth 10000 in
theorem kX11_does_109  {r : Int32} {S1 : MS} {M : MS} (X : gX p s m args c cX11_does 4 RX11 (dC, dI) [(cI, .int)] A) (hDA : ∀ S, va_D A ((mW cI ad) S)) (hret : gRetI p l e (rmL 7 0 0) s m args below meth c cX11_does (dC, dI) A (mW cI ad) Q r S1) (hf : fX11_does_109 M = some (r, S1)) {H : Heap} {locs : List Loc} {ls : Array Slot} (hP : va_P (dC, dI) vwCl ((mW cI ad) M) H) (hS : va_S A s.heap H locs) (hl : lv_has ls 4 [(0, .ref (ad 25))]) : W p l e (rmL 7 0 0) s m args below meth c H locs 0 0 Q (F0 m 109 ls []) := by
  have hx := X.hx
  have hb := X.hb
  have hown := X.hown
  have hts := X.hts
  rw [fX11_does_109] at hf
  refine lv_iconst (v := 1) hx hb dX11_does_109 (by decide) ?_
  refine lv_goto (tgt := 114) hx hb dX11_does_110 (by decide) ?_
  exact kX11_does_114 X hDA hret hf hP hS (lv_sub hl [0] rfl)
set_option maxRecDepth 10000 in
theorem kX11_does_106  {r : Int32} {S1 : MS} {M : MS} {s0 : Int32} (X : gX p s m args c cX11_does 4 RX11 (dC, dI) [(cI, .int)] A) (hDA : ∀ S, va_D A ((mW cI ad) S)) (hret : gRetI p l e (rmL 7 0 0) s m args below meth c cX11_does (dC, dI) A (mW cI ad) Q r S1) (hf : fX11_does_106 M s0 = some (r, S1)) {H : Heap} {locs : List Loc} {ls : Array Slot} (hP : va_P (dC, dI) vwCl ((mW cI ad) M) H) (hS : va_S A s.heap H locs) (hl : lv_has ls 4 [(0, .ref (ad 25))]) : W p l e (rmL 7 0 0) s m args below meth c H locs 0 0 Q (F0 m 106 ls [.int s0]) := by
  have hx := X.hx
  have hb := X.hb
  have hown := X.hown
  have hts := X.hts
  rw [fX11_does_106] at hf
  refine lv_if_lt (tgt := 113) hx hb dX11_does_106 (by decide) (fun c1 => ?_) (fun c1 => ?_)
  · exact kX11_does_113 X hDA hret (ifp c1 hf) hP hS (lv_sub hl [0] rfl)
  · exact kX11_does_109 X hDA hret (ifn c1 hf) hP hS (lv_sub hl [0] rfl)
set_option maxRecDepth 10000 in
theorem kX11_does_100  {r : Int32} {S1 : MS} {M : MS} {x2 : Int32} (X : gX p s m args c cX11_does 4 RX11 (dC, dI) [(cI, .int)] A) (hDA : ∀ S, va_D A ((mW cI ad) S)) (hret : gRetI p l e (rmL 7 0 0) s m args below meth c cX11_does (dC, dI) A (mW cI ad) Q r S1) (hf : fX11_does_100 M x2 = some (r, S1)) {H : Heap} {locs : List Loc} {ls : Array Slot} (hP : va_P (dC, dI) vwCl ((mW cI ad) M) H) (hS : va_S A s.heap H locs) (hl : lv_has ls 4 [(0, .ref (ad 25)), (2, .int x2)]) : W p l e (rmL 7 0 0) s m args below meth c H locs 0 0 Q (F0 m 100 ls []) := by
  have hx := X.hx
  have hb := X.hb
  have hown := X.hown
  have hts := X.hts
  rw [fX11_does_100] at hf
  refine lv_aload_n hx hb dX11_does_100 rfl (lv_at hl 0 rfl) ?_
  refine lv_iload_n hx hb dX11_does_101 rfl (lv_at hl 1 rfl) ?_
  refine lv_iconst (v := 1) hx hb dX11_does_102 (by decide) ?_
  obtain ⟨q, hc, hf⟩ := bd hf
  refine gCallVI X hDA rfl (vX11_setsFlap hc) gRX11_X11_setsFlap hdX11_setsFlap rfl ⟨by decide, by decide⟩ hP hS (k0 := 0) (ci := 15) rfl rfl hl.1 (Nat.le_of_ble_eq_true rfl) ⟨Nat.le_refl _, Nat.le_refl _⟩ dX11_does_103 (As := [.int x2, .int 1]) (rest := []) rfl (fun H locs hP hS => ?_)
  exact kX11_does_106 X hDA hret hf hP hS (lv_sub hl [0] rfl)
set_option maxRecDepth 10000 in
theorem kX11_does_97  {r : Int32} {S1 : MS} {M : MS} {x2 : Int32} {s0 : Int32} (X : gX p s m args c cX11_does 4 RX11 (dC, dI) [(cI, .int)] A) (hDA : ∀ S, va_D A ((mW cI ad) S)) (hret : gRetI p l e (rmL 7 0 0) s m args below meth c cX11_does (dC, dI) A (mW cI ad) Q r S1) (hf : fX11_does_97 M x2 s0 = some (r, S1)) {H : Heap} {locs : List Loc} {ls : Array Slot} (hP : va_P (dC, dI) vwCl ((mW cI ad) M) H) (hS : va_S A s.heap H locs) (hl : lv_has ls 4 [(0, .ref (ad 25)), (2, .int x2)]) : W p l e (rmL 7 0 0) s m args below meth c H locs 0 0 Q (F0 m 97 ls [.int s0]) := by
  have hx := X.hx
  have hb := X.hb
  have hown := X.hown
  have hts := X.hts
  rw [fX11_does_97] at hf
  refine lv_if_ne (tgt := 113) hx hb dX11_does_97 (by decide) (fun c1 => ?_) (fun c1 => ?_)
  · exact kX11_does_113 X hDA hret (ifn c1 hf) hP hS (lv_sub hl [0] rfl)
  · exact kX11_does_100 X hDA hret (ifp c1 hf) hP hS (lv_sub hl [0, 1] rfl)
set_option maxRecDepth 10000 in
theorem kX11_does_92  {r : Int32} {S1 : MS} {M : MS} {x2 : Int32} (X : gX p s m args c cX11_does 4 RX11 (dC, dI) [(cI, .int)] A) (hDA : ∀ S, va_D A ((mW cI ad) S)) (hret : gRetI p l e (rmL 7 0 0) s m args below meth c cX11_does (dC, dI) A (mW cI ad) Q r S1) (hf : fX11_does_92 M x2 = some (r, S1)) {H : Heap} {locs : List Loc} {ls : Array Slot} (hP : va_P (dC, dI) vwCl ((mW cI ad) M) H) (hS : va_S A s.heap H locs) (hl : lv_has ls 4 [(0, .ref (ad 25)), (2, .int x2)]) : W p l e (rmL 7 0 0) s m args below meth c H locs 0 0 Q (F0 m 92 ls []) := by
  have hx := X.hx
  have hb := X.hb
  have hown := X.hown
  have hts := X.hts
  rw [fX11_does_92] at hf
  refine lv_aload_n hx hb dX11_does_92 rfl (lv_at hl 0 rfl) ?_
  refine lv_iload_n hx hb dX11_does_93 rfl (lv_at hl 1 rfl) ?_
  obtain ⟨q, hc, hf⟩ := bd hf
  refine gCallVI X hDA rfl (vX11_isOpenSack hc) gRX11_X11_isOpenSack hdX11_isOpenSack rfl ⟨by decide, by decide⟩ hP hS (k0 := 0) (ci := 15) rfl rfl hl.1 (Nat.le_of_ble_eq_true rfl) ⟨Nat.le_refl _, Nat.le_refl _⟩ dX11_does_94 (As := [.int x2]) (rest := []) rfl (fun H locs hP hS => ?_)
  exact kX11_does_97 X hDA hret hf hP hS (lv_sub hl [0, 1] rfl)
set_option maxRecDepth 10000 in
theorem kX11_does_137  {r : Int32} {S1 : MS} {M : MS} {s0 : Int32} (X : gX p s m args c cX11_does 4 RX11 (dC, dI) [(cI, .int)] A) (hDA : ∀ S, va_D A ((mW cI ad) S)) (hret : gRetI p l e (rmL 7 0 0) s m args below meth c cX11_does (dC, dI) A (mW cI ad) Q r S1) (hf : fX11_does_137 M s0 = some (r, S1)) {H : Heap} {locs : List Loc} {ls : Array Slot} (hP : va_P (dC, dI) vwCl ((mW cI ad) M) H) (hS : va_S A s.heap H locs) (hl : lv_has ls 4 [(0, .ref (ad 25))]) : W p l e (rmL 7 0 0) s m args below meth c H locs 0 0 Q (F0 m 137 ls [.int s0]) := by
  have hx := X.hx
  have hb := X.hb
  have hown := X.hown
  have hts := X.hts
  rw [fX11_does_137] at hf
  cases hf
  exact hret _ _ _ _ dX11_does_137 hP hS
set_option maxRecDepth 10000 in
theorem kX11_does_136  {r : Int32} {S1 : MS} {M : MS} (X : gX p s m args c cX11_does 4 RX11 (dC, dI) [(cI, .int)] A) (hDA : ∀ S, va_D A ((mW cI ad) S)) (hret : gRetI p l e (rmL 7 0 0) s m args below meth c cX11_does (dC, dI) A (mW cI ad) Q r S1) (hf : fX11_does_136 M = some (r, S1)) {H : Heap} {locs : List Loc} {ls : Array Slot} (hP : va_P (dC, dI) vwCl ((mW cI ad) M) H) (hS : va_S A s.heap H locs) (hl : lv_has ls 4 [(0, .ref (ad 25))]) : W p l e (rmL 7 0 0) s m args below meth c H locs 0 0 Q (F0 m 136 ls []) := by
  have hx := X.hx
  have hb := X.hb
  have hown := X.hown
  have hts := X.hts
  rw [fX11_does_136] at hf
  refine lv_iconst (v := 0) hx hb dX11_does_136 (by decide) ?_
  exact kX11_does_137 X hDA hret hf hP hS (lv_sub hl [0] rfl)
set_option maxRecDepth 10000 in
theorem kX11_does_132  {r : Int32} {S1 : MS} {M : MS} (X : gX p s m args c cX11_does 4 RX11 (dC, dI) [(cI, .int)] A) (hDA : ∀ S, va_D A ((mW cI ad) S)) (hret : gRetI p l e (rmL 7 0 0) s m args below meth c cX11_does (dC, dI) A (mW cI ad) Q r S1) (hf : fX11_does_132 M = some (r, S1)) {H : Heap} {locs : List Loc} {ls : Array Slot} (hP : va_P (dC, dI) vwCl ((mW cI ad) M) H) (hS : va_S A s.heap H locs) (hl : lv_has ls 4 [(0, .ref (ad 25))]) : W p l e (rmL 7 0 0) s m args below meth c H locs 0 0 Q (F0 m 132 ls []) := by
  have hx := X.hx
  have hb := X.hb
  have hown := X.hown
  have hts := X.hts
  rw [fX11_does_132] at hf
  refine lv_iconst (v := 1) hx hb dX11_does_132 (by decide) ?_
  refine lv_goto (tgt := 137) hx hb dX11_does_133 (by decide) ?_
  exact kX11_does_137 X hDA hret hf hP hS (lv_sub hl [0] rfl)
set_option maxRecDepth 10000 in
theorem kX11_does_129  {r : Int32} {S1 : MS} {M : MS} {s0 : Int32} (X : gX p s m args c cX11_does 4 RX11 (dC, dI) [(cI, .int)] A) (hDA : ∀ S, va_D A ((mW cI ad) S)) (hret : gRetI p l e (rmL 7 0 0) s m args below meth c cX11_does (dC, dI) A (mW cI ad) Q r S1) (hf : fX11_does_129 M s0 = some (r, S1)) {H : Heap} {locs : List Loc} {ls : Array Slot} (hP : va_P (dC, dI) vwCl ((mW cI ad) M) H) (hS : va_S A s.heap H locs) (hl : lv_has ls 4 [(0, .ref (ad 25))]) : W p l e (rmL 7 0 0) s m args below meth c H locs 0 0 Q (F0 m 129 ls [.int s0]) := by
  have hx := X.hx
  have hb := X.hb
  have hown := X.hown
  have hts := X.hts
  rw [fX11_does_129] at hf
  refine lv_if_lt (tgt := 136) hx hb dX11_does_129 (by decide) (fun c1 => ?_) (fun c1 => ?_)
  · exact kX11_does_136 X hDA hret (ifp c1 hf) hP hS (lv_sub hl [0] rfl)
  · exact kX11_does_132 X hDA hret (ifn c1 hf) hP hS (lv_sub hl [0] rfl)
set_option maxRecDepth 10000 in
theorem kX11_does_123  {r : Int32} {S1 : MS} {M : MS} {x2 : Int32} (X : gX p s m args c cX11_does 4 RX11 (dC, dI) [(cI, .int)] A) (hDA : ∀ S, va_D A ((mW cI ad) S)) (hret : gRetI p l e (rmL 7 0 0) s m args below meth c cX11_does (dC, dI) A (mW cI ad) Q r S1) (hf : fX11_does_123 M x2 = some (r, S1)) {H : Heap} {locs : List Loc} {ls : Array Slot} (hP : va_P (dC, dI) vwCl ((mW cI ad) M) H) (hS : va_S A s.heap H locs) (hl : lv_has ls 4 [(0, .ref (ad 25)), (2, .int x2)]) : W p l e (rmL 7 0 0) s m args below meth c H locs 0 0 Q (F0 m 123 ls []) := by
  have hx := X.hx
  have hb := X.hb
  have hown := X.hown
  have hts := X.hts
  rw [fX11_does_123] at hf
  refine lv_aload_n hx hb dX11_does_123 rfl (lv_at hl 0 rfl) ?_
  refine lv_iload_n hx hb dX11_does_124 rfl (lv_at hl 1 rfl) ?_
  refine lv_iconst (v := 0) hx hb dX11_does_125 (by decide) ?_
  obtain ⟨q, hc, hf⟩ := bd hf
  refine gCallVI X hDA rfl (vX11_setsFlap hc) gRX11_X11_setsFlap hdX11_setsFlap rfl ⟨by decide, by decide⟩ hP hS (k0 := 0) (ci := 15) rfl rfl hl.1 (Nat.le_of_ble_eq_true rfl) ⟨Nat.le_refl _, Nat.le_refl _⟩ dX11_does_126 (As := [.int x2, .int 0]) (rest := []) rfl (fun H locs hP hS => ?_)
  exact kX11_does_129 X hDA hret hf hP hS (lv_sub hl [0] rfl)
set_option maxRecDepth 10000 in
theorem kX11_does_120  {r : Int32} {S1 : MS} {M : MS} {x2 : Int32} {s0 : Int32} (X : gX p s m args c cX11_does 4 RX11 (dC, dI) [(cI, .int)] A) (hDA : ∀ S, va_D A ((mW cI ad) S)) (hret : gRetI p l e (rmL 7 0 0) s m args below meth c cX11_does (dC, dI) A (mW cI ad) Q r S1) (hf : fX11_does_120 M x2 s0 = some (r, S1)) {H : Heap} {locs : List Loc} {ls : Array Slot} (hP : va_P (dC, dI) vwCl ((mW cI ad) M) H) (hS : va_S A s.heap H locs) (hl : lv_has ls 4 [(0, .ref (ad 25)), (2, .int x2)]) : W p l e (rmL 7 0 0) s m args below meth c H locs 0 0 Q (F0 m 120 ls [.int s0]) := by
  have hx := X.hx
  have hb := X.hb
  have hown := X.hown
  have hts := X.hts
  rw [fX11_does_120] at hf
  refine lv_if_eq (tgt := 136) hx hb dX11_does_120 (by decide) (fun c1 => ?_) (fun c1 => ?_)
  · exact kX11_does_136 X hDA hret (ifp c1 hf) hP hS (lv_sub hl [0] rfl)
  · exact kX11_does_123 X hDA hret (ifn c1 hf) hP hS (lv_sub hl [0, 1] rfl)
set_option maxRecDepth 10000 in
theorem kX11_does_115  {r : Int32} {S1 : MS} {M : MS} {x2 : Int32} (X : gX p s m args c cX11_does 4 RX11 (dC, dI) [(cI, .int)] A) (hDA : ∀ S, va_D A ((mW cI ad) S)) (hret : gRetI p l e (rmL 7 0 0) s m args below meth c cX11_does (dC, dI) A (mW cI ad) Q r S1) (hf : fX11_does_115 M x2 = some (r, S1)) {H : Heap} {locs : List Loc} {ls : Array Slot} (hP : va_P (dC, dI) vwCl ((mW cI ad) M) H) (hS : va_S A s.heap H locs) (hl : lv_has ls 4 [(0, .ref (ad 25)), (2, .int x2)]) : W p l e (rmL 7 0 0) s m args below meth c H locs 0 0 Q (F0 m 115 ls []) := by
  have hx := X.hx
  have hb := X.hb
  have hown := X.hown
  have hts := X.hts
  rw [fX11_does_115] at hf
  refine lv_aload_n hx hb dX11_does_115 rfl (lv_at hl 0 rfl) ?_
  refine lv_iload_n hx hb dX11_does_116 rfl (lv_at hl 1 rfl) ?_
  obtain ⟨q, hc, hf⟩ := bd hf
  refine gCallVI X hDA rfl (vX11_isOpenSack hc) gRX11_X11_isOpenSack hdX11_isOpenSack rfl ⟨by decide, by decide⟩ hP hS (k0 := 0) (ci := 15) rfl rfl hl.1 (Nat.le_of_ble_eq_true rfl) ⟨Nat.le_refl _, Nat.le_refl _⟩ dX11_does_117 (As := [.int x2]) (rest := []) rfl (fun H locs hP hS => ?_)
  exact kX11_does_120 X hDA hret hf hP hS (lv_sub hl [0, 1] rfl)
set_option maxRecDepth 10000 in
theorem kX11_does_161  {r : Int32} {S1 : MS} {M : MS} {s0 : Int32} (X : gX p s m args c cX11_does 4 RX11 (dC, dI) [(cI, .int)] A) (hDA : ∀ S, va_D A ((mW cI ad) S)) (hret : gRetI p l e (rmL 7 0 0) s m args below meth c cX11_does (dC, dI) A (mW cI ad) Q r S1) (hf : fX11_does_161 M s0 = some (r, S1)) {H : Heap} {locs : List Loc} {ls : Array Slot} (hP : va_P (dC, dI) vwCl ((mW cI ad) M) H) (hS : va_S A s.heap H locs) (hl : lv_has ls 4 [(0, .ref (ad 25))]) : W p l e (rmL 7 0 0) s m args below meth c H locs 0 0 Q (F0 m 161 ls [.int s0]) := by
  have hx := X.hx
  have hb := X.hb
  have hown := X.hown
  have hts := X.hts
  rw [fX11_does_161] at hf
  cases hf
  exact hret _ _ _ _ dX11_does_161 hP hS
set_option maxRecDepth 10000 in
theorem kX11_does_160  {r : Int32} {S1 : MS} {M : MS} (X : gX p s m args c cX11_does 4 RX11 (dC, dI) [(cI, .int)] A) (hDA : ∀ S, va_D A ((mW cI ad) S)) (hret : gRetI p l e (rmL 7 0 0) s m args below meth c cX11_does (dC, dI) A (mW cI ad) Q r S1) (hf : fX11_does_160 M = some (r, S1)) {H : Heap} {locs : List Loc} {ls : Array Slot} (hP : va_P (dC, dI) vwCl ((mW cI ad) M) H) (hS : va_S A s.heap H locs) (hl : lv_has ls 4 [(0, .ref (ad 25))]) : W p l e (rmL 7 0 0) s m args below meth c H locs 0 0 Q (F0 m 160 ls []) := by
  have hx := X.hx
  have hb := X.hb
  have hown := X.hown
  have hts := X.hts
  rw [fX11_does_160] at hf
  refine lv_iconst (v := 0) hx hb dX11_does_160 (by decide) ?_
  exact kX11_does_161 X hDA hret hf hP hS (lv_sub hl [0] rfl)
set_option maxRecDepth 10000 in
theorem kX11_does_156  {r : Int32} {S1 : MS} {M : MS} (X : gX p s m args c cX11_does 4 RX11 (dC, dI) [(cI, .int)] A) (hDA : ∀ S, va_D A ((mW cI ad) S)) (hret : gRetI p l e (rmL 7 0 0) s m args below meth c cX11_does (dC, dI) A (mW cI ad) Q r S1) (hf : fX11_does_156 M = some (r, S1)) {H : Heap} {locs : List Loc} {ls : Array Slot} (hP : va_P (dC, dI) vwCl ((mW cI ad) M) H) (hS : va_S A s.heap H locs) (hl : lv_has ls 4 [(0, .ref (ad 25))]) : W p l e (rmL 7 0 0) s m args below meth c H locs 0 0 Q (F0 m 156 ls []) := by
  have hx := X.hx
  have hb := X.hb
  have hown := X.hown
  have hts := X.hts
  rw [fX11_does_156] at hf
  refine lv_iconst (v := 1) hx hb dX11_does_156 (by decide) ?_
  refine lv_goto (tgt := 161) hx hb dX11_does_157 (by decide) ?_
  exact kX11_does_161 X hDA hret hf hP hS (lv_sub hl [0] rfl)
set_option maxRecDepth 10000 in
theorem kX11_does_153  {r : Int32} {S1 : MS} {M : MS} {s0 : Int32} (X : gX p s m args c cX11_does 4 RX11 (dC, dI) [(cI, .int)] A) (hDA : ∀ S, va_D A ((mW cI ad) S)) (hret : gRetI p l e (rmL 7 0 0) s m args below meth c cX11_does (dC, dI) A (mW cI ad) Q r S1) (hf : fX11_does_153 M s0 = some (r, S1)) {H : Heap} {locs : List Loc} {ls : Array Slot} (hP : va_P (dC, dI) vwCl ((mW cI ad) M) H) (hS : va_S A s.heap H locs) (hl : lv_has ls 4 [(0, .ref (ad 25))]) : W p l e (rmL 7 0 0) s m args below meth c H locs 0 0 Q (F0 m 153 ls [.int s0]) := by
  have hx := X.hx
  have hb := X.hb
  have hown := X.hown
  have hts := X.hts
  rw [fX11_does_153] at hf
  refine lv_if_lt (tgt := 160) hx hb dX11_does_153 (by decide) (fun c1 => ?_) (fun c1 => ?_)
  · exact kX11_does_160 X hDA hret (ifp c1 hf) hP hS (lv_sub hl [0] rfl)
  · exact kX11_does_156 X hDA hret (ifn c1 hf) hP hS (lv_sub hl [0] rfl)
set_option maxRecDepth 10000 in
theorem kX11_does_147  {r : Int32} {S1 : MS} {M : MS} {x2 : Int32} {x3 : Int32} (X : gX p s m args c cX11_does 4 RX11 (dC, dI) [(cI, .int)] A) (hDA : ∀ S, va_D A ((mW cI ad) S)) (hret : gRetI p l e (rmL 7 0 0) s m args below meth c cX11_does (dC, dI) A (mW cI ad) Q r S1) (hf : fX11_does_147 M x2 x3 = some (r, S1)) {H : Heap} {locs : List Loc} {ls : Array Slot} (hP : va_P (dC, dI) vwCl ((mW cI ad) M) H) (hS : va_S A s.heap H locs) (hl : lv_has ls 4 [(0, .ref (ad 25)), (2, .int x2), (3, .int x3)]) : W p l e (rmL 7 0 0) s m args below meth c H locs 0 0 Q (F0 m 147 ls []) := by
  have hx := X.hx
  have hb := X.hb
  have hown := X.hown
  have hts := X.hts
  rw [fX11_does_147] at hf
  refine lv_aload_n hx hb dX11_does_147 rfl (lv_at hl 0 rfl) ?_
  refine lv_iload_n hx hb dX11_does_148 rfl (lv_at hl 1 rfl) ?_
  refine lv_iload_n hx hb dX11_does_149 rfl (lv_at hl 2 rfl) ?_
  obtain ⟨q, hc, hf⟩ := bd hf
  refine gCallVI X hDA rfl (vX11_addsMice hc) gRX11_X11_addsMice hdX11_addsMice rfl ⟨by decide, by decide⟩ hP hS (k0 := 0) (ci := 15) rfl rfl hl.1 (Nat.le_of_ble_eq_true rfl) ⟨Nat.le_refl _, Nat.le_refl _⟩ dX11_does_150 (As := [.int x2, .int x3]) (rest := []) rfl (fun H locs hP hS => ?_)
  exact kX11_does_153 X hDA hret hf hP hS (lv_sub hl [0] rfl)
set_option maxRecDepth 10000 in
theorem kX11_does_144  {r : Int32} {S1 : MS} {M : MS} {x2 : Int32} {x3 : Int32} {s0 : Int32} (X : gX p s m args c cX11_does 4 RX11 (dC, dI) [(cI, .int)] A) (hDA : ∀ S, va_D A ((mW cI ad) S)) (hret : gRetI p l e (rmL 7 0 0) s m args below meth c cX11_does (dC, dI) A (mW cI ad) Q r S1) (hf : fX11_does_144 M x2 x3 s0 = some (r, S1)) {H : Heap} {locs : List Loc} {ls : Array Slot} (hP : va_P (dC, dI) vwCl ((mW cI ad) M) H) (hS : va_S A s.heap H locs) (hl : lv_has ls 4 [(0, .ref (ad 25)), (2, .int x2), (3, .int x3)]) : W p l e (rmL 7 0 0) s m args below meth c H locs 0 0 Q (F0 m 144 ls [.int s0]) := by
  have hx := X.hx
  have hb := X.hb
  have hown := X.hown
  have hts := X.hts
  rw [fX11_does_144] at hf
  refine lv_if_eq (tgt := 160) hx hb dX11_does_144 (by decide) (fun c1 => ?_) (fun c1 => ?_)
  · exact kX11_does_160 X hDA hret (ifp c1 hf) hP hS (lv_sub hl [0] rfl)
  · exact kX11_does_147 X hDA hret (ifn c1 hf) hP hS (lv_sub hl [0, 1, 2] rfl)
set_option maxRecDepth 10000 in
theorem kX11_does_138  {r : Int32} {S1 : MS} {M : MS} {x2 : Int32} {x3 : Int32} (X : gX p s m args c cX11_does 4 RX11 (dC, dI) [(cI, .int)] A) (hDA : ∀ S, va_D A ((mW cI ad) S)) (hret : gRetI p l e (rmL 7 0 0) s m args below meth c cX11_does (dC, dI) A (mW cI ad) Q r S1) (hf : fX11_does_138 M x2 x3 = some (r, S1)) {H : Heap} {locs : List Loc} {ls : Array Slot} (hP : va_P (dC, dI) vwCl ((mW cI ad) M) H) (hS : va_S A s.heap H locs) (hl : lv_has ls 4 [(0, .ref (ad 25)), (2, .int x2), (3, .int x3)]) : W p l e (rmL 7 0 0) s m args below meth c H locs 0 0 Q (F0 m 138 ls []) := by
  have hx := X.hx
  have hb := X.hb
  have hown := X.hown
  have hts := X.hts
  rw [fX11_does_138] at hf
  refine lv_aload_n hx hb dX11_does_138 rfl (lv_at hl 0 rfl) ?_
  refine lv_iload_n hx hb dX11_does_139 rfl (lv_at hl 1 rfl) ?_
  refine lv_iload_n hx hb dX11_does_140 rfl (lv_at hl 2 rfl) ?_
  obtain ⟨q, hc, hf⟩ := bd hf
  refine gCallVI X hDA rfl (vX11_mayAddMice hc) gRX11_X11_mayAddMice hdX11_mayAddMice rfl ⟨by decide, by decide⟩ hP hS (k0 := 0) (ci := 15) rfl rfl hl.1 (Nat.le_of_ble_eq_true rfl) ⟨Nat.le_refl _, Nat.le_refl _⟩ dX11_does_141 (As := [.int x2, .int x3]) (rest := []) rfl (fun H locs hP hS => ?_)
  exact kX11_does_144 X hDA hret hf hP hS (lv_sub hl [0, 1, 2] rfl)
set_option maxRecDepth 10000 in
theorem kX11_does_185  {r : Int32} {S1 : MS} {M : MS} {s0 : Int32} (X : gX p s m args c cX11_does 4 RX11 (dC, dI) [(cI, .int)] A) (hDA : ∀ S, va_D A ((mW cI ad) S)) (hret : gRetI p l e (rmL 7 0 0) s m args below meth c cX11_does (dC, dI) A (mW cI ad) Q r S1) (hf : fX11_does_185 M s0 = some (r, S1)) {H : Heap} {locs : List Loc} {ls : Array Slot} (hP : va_P (dC, dI) vwCl ((mW cI ad) M) H) (hS : va_S A s.heap H locs) (hl : lv_has ls 4 [(0, .ref (ad 25))]) : W p l e (rmL 7 0 0) s m args below meth c H locs 0 0 Q (F0 m 185 ls [.int s0]) := by
  have hx := X.hx
  have hb := X.hb
  have hown := X.hown
  have hts := X.hts
  rw [fX11_does_185] at hf
  cases hf
  exact hret _ _ _ _ dX11_does_185 hP hS
set_option maxRecDepth 10000 in
theorem kX11_does_184  {r : Int32} {S1 : MS} {M : MS} (X : gX p s m args c cX11_does 4 RX11 (dC, dI) [(cI, .int)] A) (hDA : ∀ S, va_D A ((mW cI ad) S)) (hret : gRetI p l e (rmL 7 0 0) s m args below meth c cX11_does (dC, dI) A (mW cI ad) Q r S1) (hf : fX11_does_184 M = some (r, S1)) {H : Heap} {locs : List Loc} {ls : Array Slot} (hP : va_P (dC, dI) vwCl ((mW cI ad) M) H) (hS : va_S A s.heap H locs) (hl : lv_has ls 4 [(0, .ref (ad 25))]) : W p l e (rmL 7 0 0) s m args below meth c H locs 0 0 Q (F0 m 184 ls []) := by
  have hx := X.hx
  have hb := X.hb
  have hown := X.hown
  have hts := X.hts
  rw [fX11_does_184] at hf
  refine lv_iconst (v := 0) hx hb dX11_does_184 (by decide) ?_
  exact kX11_does_185 X hDA hret hf hP hS (lv_sub hl [0] rfl)
set_option maxRecDepth 10000 in
theorem kX11_does_180  {r : Int32} {S1 : MS} {M : MS} (X : gX p s m args c cX11_does 4 RX11 (dC, dI) [(cI, .int)] A) (hDA : ∀ S, va_D A ((mW cI ad) S)) (hret : gRetI p l e (rmL 7 0 0) s m args below meth c cX11_does (dC, dI) A (mW cI ad) Q r S1) (hf : fX11_does_180 M = some (r, S1)) {H : Heap} {locs : List Loc} {ls : Array Slot} (hP : va_P (dC, dI) vwCl ((mW cI ad) M) H) (hS : va_S A s.heap H locs) (hl : lv_has ls 4 [(0, .ref (ad 25))]) : W p l e (rmL 7 0 0) s m args below meth c H locs 0 0 Q (F0 m 180 ls []) := by
  have hx := X.hx
  have hb := X.hb
  have hown := X.hown
  have hts := X.hts
  rw [fX11_does_180] at hf
  refine lv_iconst (v := 1) hx hb dX11_does_180 (by decide) ?_
  refine lv_goto (tgt := 185) hx hb dX11_does_181 (by decide) ?_
  exact kX11_does_185 X hDA hret hf hP hS (lv_sub hl [0] rfl)
set_option maxRecDepth 10000 in
theorem kX11_does_177  {r : Int32} {S1 : MS} {M : MS} {s0 : Int32} (X : gX p s m args c cX11_does 4 RX11 (dC, dI) [(cI, .int)] A) (hDA : ∀ S, va_D A ((mW cI ad) S)) (hret : gRetI p l e (rmL 7 0 0) s m args below meth c cX11_does (dC, dI) A (mW cI ad) Q r S1) (hf : fX11_does_177 M s0 = some (r, S1)) {H : Heap} {locs : List Loc} {ls : Array Slot} (hP : va_P (dC, dI) vwCl ((mW cI ad) M) H) (hS : va_S A s.heap H locs) (hl : lv_has ls 4 [(0, .ref (ad 25))]) : W p l e (rmL 7 0 0) s m args below meth c H locs 0 0 Q (F0 m 177 ls [.int s0]) := by
  have hx := X.hx
  have hb := X.hb
  have hown := X.hown
  have hts := X.hts
  rw [fX11_does_177] at hf
  refine lv_if_lt (tgt := 184) hx hb dX11_does_177 (by decide) (fun c1 => ?_) (fun c1 => ?_)
  · exact kX11_does_184 X hDA hret (ifp c1 hf) hP hS (lv_sub hl [0] rfl)
  · exact kX11_does_180 X hDA hret (ifn c1 hf) hP hS (lv_sub hl [0] rfl)
set_option maxRecDepth 10000 in
theorem kX11_does_171  {r : Int32} {S1 : MS} {M : MS} {x2 : Int32} {x3 : Int32} (X : gX p s m args c cX11_does 4 RX11 (dC, dI) [(cI, .int)] A) (hDA : ∀ S, va_D A ((mW cI ad) S)) (hret : gRetI p l e (rmL 7 0 0) s m args below meth c cX11_does (dC, dI) A (mW cI ad) Q r S1) (hf : fX11_does_171 M x2 x3 = some (r, S1)) {H : Heap} {locs : List Loc} {ls : Array Slot} (hP : va_P (dC, dI) vwCl ((mW cI ad) M) H) (hS : va_S A s.heap H locs) (hl : lv_has ls 4 [(0, .ref (ad 25)), (2, .int x2), (3, .int x3)]) : W p l e (rmL 7 0 0) s m args below meth c H locs 0 0 Q (F0 m 171 ls []) := by
  have hx := X.hx
  have hb := X.hb
  have hown := X.hown
  have hts := X.hts
  rw [fX11_does_171] at hf
  refine lv_aload_n hx hb dX11_does_171 rfl (lv_at hl 0 rfl) ?_
  refine lv_iload_n hx hb dX11_does_172 rfl (lv_at hl 1 rfl) ?_
  refine lv_iload_n hx hb dX11_does_173 rfl (lv_at hl 2 rfl) ?_
  obtain ⟨q, hc, hf⟩ := bd hf
  refine gCallVI X hDA rfl (vX11_addsGrain hc) gRX11_X11_addsGrain hdX11_addsGrain rfl ⟨by decide, by decide⟩ hP hS (k0 := 0) (ci := 15) rfl rfl hl.1 (Nat.le_of_ble_eq_true rfl) ⟨Nat.le_refl _, Nat.le_refl _⟩ dX11_does_174 (As := [.int x2, .int x3]) (rest := []) rfl (fun H locs hP hS => ?_)
  exact kX11_does_177 X hDA hret hf hP hS (lv_sub hl [0] rfl)
set_option maxRecDepth 10000 in
theorem kX11_does_168  {r : Int32} {S1 : MS} {M : MS} {x2 : Int32} {x3 : Int32} {s0 : Int32} (X : gX p s m args c cX11_does 4 RX11 (dC, dI) [(cI, .int)] A) (hDA : ∀ S, va_D A ((mW cI ad) S)) (hret : gRetI p l e (rmL 7 0 0) s m args below meth c cX11_does (dC, dI) A (mW cI ad) Q r S1) (hf : fX11_does_168 M x2 x3 s0 = some (r, S1)) {H : Heap} {locs : List Loc} {ls : Array Slot} (hP : va_P (dC, dI) vwCl ((mW cI ad) M) H) (hS : va_S A s.heap H locs) (hl : lv_has ls 4 [(0, .ref (ad 25)), (2, .int x2), (3, .int x3)]) : W p l e (rmL 7 0 0) s m args below meth c H locs 0 0 Q (F0 m 168 ls [.int s0]) := by
  have hx := X.hx
  have hb := X.hb
  have hown := X.hown
  have hts := X.hts
  rw [fX11_does_168] at hf
  refine lv_if_eq (tgt := 184) hx hb dX11_does_168 (by decide) (fun c1 => ?_) (fun c1 => ?_)
  · exact kX11_does_184 X hDA hret (ifp c1 hf) hP hS (lv_sub hl [0] rfl)
  · exact kX11_does_171 X hDA hret (ifn c1 hf) hP hS (lv_sub hl [0, 1, 2] rfl)
set_option maxRecDepth 10000 in
theorem kX11_does_162  {r : Int32} {S1 : MS} {M : MS} {x2 : Int32} {x3 : Int32} (X : gX p s m args c cX11_does 4 RX11 (dC, dI) [(cI, .int)] A) (hDA : ∀ S, va_D A ((mW cI ad) S)) (hret : gRetI p l e (rmL 7 0 0) s m args below meth c cX11_does (dC, dI) A (mW cI ad) Q r S1) (hf : fX11_does_162 M x2 x3 = some (r, S1)) {H : Heap} {locs : List Loc} {ls : Array Slot} (hP : va_P (dC, dI) vwCl ((mW cI ad) M) H) (hS : va_S A s.heap H locs) (hl : lv_has ls 4 [(0, .ref (ad 25)), (2, .int x2), (3, .int x3)]) : W p l e (rmL 7 0 0) s m args below meth c H locs 0 0 Q (F0 m 162 ls []) := by
  have hx := X.hx
  have hb := X.hb
  have hown := X.hown
  have hts := X.hts
  rw [fX11_does_162] at hf
  refine lv_aload_n hx hb dX11_does_162 rfl (lv_at hl 0 rfl) ?_
  refine lv_iload_n hx hb dX11_does_163 rfl (lv_at hl 1 rfl) ?_
  refine lv_iload_n hx hb dX11_does_164 rfl (lv_at hl 2 rfl) ?_
  obtain ⟨q, hc, hf⟩ := bd hf
  refine gCallVI X hDA rfl (vX11_mayAddGrain hc) gRX11_X11_mayAddGrain hdX11_mayAddGrain rfl ⟨by decide, by decide⟩ hP hS (k0 := 0) (ci := 15) rfl rfl hl.1 (Nat.le_of_ble_eq_true rfl) ⟨Nat.le_refl _, Nat.le_refl _⟩ dX11_does_165 (As := [.int x2, .int x3]) (rest := []) rfl (fun H locs hP hS => ?_)
  exact kX11_does_168 X hDA hret hf hP hS (lv_sub hl [0, 1, 2] rfl)
set_option maxRecDepth 10000 in
theorem kX11_does_210  {r : Int32} {S1 : MS} {M : MS} {s0 : Int32} (X : gX p s m args c cX11_does 4 RX11 (dC, dI) [(cI, .int)] A) (hDA : ∀ S, va_D A ((mW cI ad) S)) (hret : gRetI p l e (rmL 7 0 0) s m args below meth c cX11_does (dC, dI) A (mW cI ad) Q r S1) (hf : fX11_does_210 M s0 = some (r, S1)) {H : Heap} {locs : List Loc} {ls : Array Slot} (hP : va_P (dC, dI) vwCl ((mW cI ad) M) H) (hS : va_S A s.heap H locs) (hl : lv_has ls 4 [(0, .ref (ad 25))]) : W p l e (rmL 7 0 0) s m args below meth c H locs 0 0 Q (F0 m 210 ls [.int s0]) := by
  have hx := X.hx
  have hb := X.hb
  have hown := X.hown
  have hts := X.hts
  rw [fX11_does_210] at hf
  cases hf
  exact hret _ _ _ _ dX11_does_210 hP hS
set_option maxRecDepth 10000 in
theorem kX11_does_209  {r : Int32} {S1 : MS} {M : MS} (X : gX p s m args c cX11_does 4 RX11 (dC, dI) [(cI, .int)] A) (hDA : ∀ S, va_D A ((mW cI ad) S)) (hret : gRetI p l e (rmL 7 0 0) s m args below meth c cX11_does (dC, dI) A (mW cI ad) Q r S1) (hf : fX11_does_209 M = some (r, S1)) {H : Heap} {locs : List Loc} {ls : Array Slot} (hP : va_P (dC, dI) vwCl ((mW cI ad) M) H) (hS : va_S A s.heap H locs) (hl : lv_has ls 4 [(0, .ref (ad 25))]) : W p l e (rmL 7 0 0) s m args below meth c H locs 0 0 Q (F0 m 209 ls []) := by
  have hx := X.hx
  have hb := X.hb
  have hown := X.hown
  have hts := X.hts
  rw [fX11_does_209] at hf
  refine lv_iconst (v := 0) hx hb dX11_does_209 (by decide) ?_
  exact kX11_does_210 X hDA hret hf hP hS (lv_sub hl [0] rfl)
set_option maxRecDepth 10000 in
theorem kX11_does_205  {r : Int32} {S1 : MS} {M : MS} (X : gX p s m args c cX11_does 4 RX11 (dC, dI) [(cI, .int)] A) (hDA : ∀ S, va_D A ((mW cI ad) S)) (hret : gRetI p l e (rmL 7 0 0) s m args below meth c cX11_does (dC, dI) A (mW cI ad) Q r S1) (hf : fX11_does_205 M = some (r, S1)) {H : Heap} {locs : List Loc} {ls : Array Slot} (hP : va_P (dC, dI) vwCl ((mW cI ad) M) H) (hS : va_S A s.heap H locs) (hl : lv_has ls 4 [(0, .ref (ad 25))]) : W p l e (rmL 7 0 0) s m args below meth c H locs 0 0 Q (F0 m 205 ls []) := by
  have hx := X.hx
  have hb := X.hb
  have hown := X.hown
  have hts := X.hts
  rw [fX11_does_205] at hf
  refine lv_iconst (v := 1) hx hb dX11_does_205 (by decide) ?_
  refine lv_goto (tgt := 210) hx hb dX11_does_206 (by decide) ?_
  exact kX11_does_210 X hDA hret hf hP hS (lv_sub hl [0] rfl)
set_option maxRecDepth 10000 in
theorem kX11_does_202  {r : Int32} {S1 : MS} {M : MS} {s0 : Int32} (X : gX p s m args c cX11_does 4 RX11 (dC, dI) [(cI, .int)] A) (hDA : ∀ S, va_D A ((mW cI ad) S)) (hret : gRetI p l e (rmL 7 0 0) s m args below meth c cX11_does (dC, dI) A (mW cI ad) Q r S1) (hf : fX11_does_202 M s0 = some (r, S1)) {H : Heap} {locs : List Loc} {ls : Array Slot} (hP : va_P (dC, dI) vwCl ((mW cI ad) M) H) (hS : va_S A s.heap H locs) (hl : lv_has ls 4 [(0, .ref (ad 25))]) : W p l e (rmL 7 0 0) s m args below meth c H locs 0 0 Q (F0 m 202 ls [.int s0]) := by
  have hx := X.hx
  have hb := X.hb
  have hown := X.hown
  have hts := X.hts
  rw [fX11_does_202] at hf
  refine lv_if_lt (tgt := 209) hx hb dX11_does_202 (by decide) (fun c1 => ?_) (fun c1 => ?_)
  · exact kX11_does_209 X hDA hret (ifp c1 hf) hP hS (lv_sub hl [0] rfl)
  · exact kX11_does_205 X hDA hret (ifn c1 hf) hP hS (lv_sub hl [0] rfl)
set_option maxRecDepth 10000 in
theorem kX11_does_196  {r : Int32} {S1 : MS} {M : MS} (X : gX p s m args c cX11_does 4 RX11 (dC, dI) [(cI, .int)] A) (hDA : ∀ S, va_D A ((mW cI ad) S)) (hret : gRetI p l e (rmL 7 0 0) s m args below meth c cX11_does (dC, dI) A (mW cI ad) Q r S1) (hf : fX11_does_196 M = some (r, S1)) {H : Heap} {locs : List Loc} {ls : Array Slot} (hP : va_P (dC, dI) vwCl ((mW cI ad) M) H) (hS : va_S A s.heap H locs) (hl : lv_has ls 4 [(0, .ref (ad 25))]) : W p l e (rmL 7 0 0) s m args below meth c H locs 0 0 Q (F0 m 196 ls []) := by
  have hx := X.hx
  have hb := X.hb
  have hown := X.hown
  have hts := X.hts
  rw [fX11_does_196] at hf
  refine lv_aload_n hx hb dX11_does_196 rfl (lv_at hl 0 rfl) ?_
  refine lv_iconst (v := 5) hx hb dX11_does_197 (by decide) ?_
  refine lv_iconst (v := (-1)) hx hb dX11_does_198 (by decide) ?_
  obtain ⟨q, hc, hf⟩ := bd hf
  refine gCallVI X hDA rfl (vX11_sets hc) gRX11_X11_sets hdX11_sets rfl ⟨by decide, by decide⟩ hP hS (k0 := 0) (ci := 15) rfl rfl hl.1 (Nat.le_of_ble_eq_true rfl) ⟨Nat.le_refl _, Nat.le_refl _⟩ dX11_does_199 (As := [.int 5, .int (-1)]) (rest := []) rfl (fun H locs hP hS => ?_)
  exact kX11_does_202 X hDA hret hf hP hS (lv_sub hl [0] rfl)
set_option maxRecDepth 10000 in
theorem kX11_does_186  {r : Int32} {S1 : MS} {M : MS} (X : gX p s m args c cX11_does 4 RX11 (dC, dI) [(cI, .int)] A) (hDA : ∀ S, va_D A ((mW cI ad) S)) (hret : gRetI p l e (rmL 7 0 0) s m args below meth c cX11_does (dC, dI) A (mW cI ad) Q r S1) (hf : fX11_does_186 M = some (r, S1)) {H : Heap} {locs : List Loc} {ls : Array Slot} (hP : va_P (dC, dI) vwCl ((mW cI ad) M) H) (hS : va_S A s.heap H locs) (hl : lv_has ls 4 [(0, .ref (ad 25))]) : W p l e (rmL 7 0 0) s m args below meth c H locs 0 0 Q (F0 m 186 ls []) := by
  have hx := X.hx
  have hb := X.hb
  have hown := X.hown
  have hts := X.hts
  rw [fX11_does_186] at hf
  refine lv_aload_n hx hb dX11_does_186 rfl (lv_at hl 0 rfl) ?_
  refine mr_get (k := 0) X hP (by decide) rfl rfl tw1665 dX11_does_187 ?_
  refine lv_iconst (v := 5) hx hb dX11_does_190 (by decide) ?_
  obtain ⟨g1, hf⟩ := gd hf
  refine mr_ald (a := 0) X hP rfl g1 dX11_does_191 ?_
  refine lv_iconst (v := (-1)) hx hb dX11_does_192 (by decide) ?_
  refine lv_icmp_eq (tgt := 209) hx hb dX11_does_193 (by decide) (fun c1 => ?_) (fun c1 => ?_)
  · exact kX11_does_209 X hDA hret (ifp c1 hf) hP hS (lv_sub hl [0] rfl)
  · exact kX11_does_196 X hDA hret (ifn c1 hf) hP hS (lv_sub hl [0] rfl)
set_option maxRecDepth 10000 in
theorem kX11_does_225  {r : Int32} {S1 : MS} {M : MS} {s0 : Int32} (X : gX p s m args c cX11_does 4 RX11 (dC, dI) [(cI, .int)] A) (hDA : ∀ S, va_D A ((mW cI ad) S)) (hret : gRetI p l e (rmL 7 0 0) s m args below meth c cX11_does (dC, dI) A (mW cI ad) Q r S1) (hf : fX11_does_225 M s0 = some (r, S1)) {H : Heap} {locs : List Loc} {ls : Array Slot} (hP : va_P (dC, dI) vwCl ((mW cI ad) M) H) (hS : va_S A s.heap H locs) (hl : lv_has ls 4 [(0, .ref (ad 25))]) : W p l e (rmL 7 0 0) s m args below meth c H locs 0 0 Q (F0 m 225 ls [.int s0]) := by
  have hx := X.hx
  have hb := X.hb
  have hown := X.hown
  have hts := X.hts
  rw [fX11_does_225] at hf
  cases hf
  exact hret _ _ _ _ dX11_does_225 hP hS
set_option maxRecDepth 10000 in
theorem kX11_does_224  {r : Int32} {S1 : MS} {M : MS} (X : gX p s m args c cX11_does 4 RX11 (dC, dI) [(cI, .int)] A) (hDA : ∀ S, va_D A ((mW cI ad) S)) (hret : gRetI p l e (rmL 7 0 0) s m args below meth c cX11_does (dC, dI) A (mW cI ad) Q r S1) (hf : fX11_does_224 M = some (r, S1)) {H : Heap} {locs : List Loc} {ls : Array Slot} (hP : va_P (dC, dI) vwCl ((mW cI ad) M) H) (hS : va_S A s.heap H locs) (hl : lv_has ls 4 [(0, .ref (ad 25))]) : W p l e (rmL 7 0 0) s m args below meth c H locs 0 0 Q (F0 m 224 ls []) := by
  have hx := X.hx
  have hb := X.hb
  have hown := X.hown
  have hts := X.hts
  rw [fX11_does_224] at hf
  refine lv_iconst (v := 0) hx hb dX11_does_224 (by decide) ?_
  exact kX11_does_225 X hDA hret hf hP hS (lv_sub hl [0] rfl)
set_option maxRecDepth 10000 in
theorem kX11_does_220  {r : Int32} {S1 : MS} {M : MS} (X : gX p s m args c cX11_does 4 RX11 (dC, dI) [(cI, .int)] A) (hDA : ∀ S, va_D A ((mW cI ad) S)) (hret : gRetI p l e (rmL 7 0 0) s m args below meth c cX11_does (dC, dI) A (mW cI ad) Q r S1) (hf : fX11_does_220 M = some (r, S1)) {H : Heap} {locs : List Loc} {ls : Array Slot} (hP : va_P (dC, dI) vwCl ((mW cI ad) M) H) (hS : va_S A s.heap H locs) (hl : lv_has ls 4 [(0, .ref (ad 25))]) : W p l e (rmL 7 0 0) s m args below meth c H locs 0 0 Q (F0 m 220 ls []) := by
  have hx := X.hx
  have hb := X.hb
  have hown := X.hown
  have hts := X.hts
  rw [fX11_does_220] at hf
  refine lv_iconst (v := 1) hx hb dX11_does_220 (by decide) ?_
  refine lv_goto (tgt := 225) hx hb dX11_does_221 (by decide) ?_
  exact kX11_does_225 X hDA hret hf hP hS (lv_sub hl [0] rfl)
set_option maxRecDepth 10000 in
theorem kX11_does_217  {r : Int32} {S1 : MS} {M : MS} {s0 : Int32} (X : gX p s m args c cX11_does 4 RX11 (dC, dI) [(cI, .int)] A) (hDA : ∀ S, va_D A ((mW cI ad) S)) (hret : gRetI p l e (rmL 7 0 0) s m args below meth c cX11_does (dC, dI) A (mW cI ad) Q r S1) (hf : fX11_does_217 M s0 = some (r, S1)) {H : Heap} {locs : List Loc} {ls : Array Slot} (hP : va_P (dC, dI) vwCl ((mW cI ad) M) H) (hS : va_S A s.heap H locs) (hl : lv_has ls 4 [(0, .ref (ad 25))]) : W p l e (rmL 7 0 0) s m args below meth c H locs 0 0 Q (F0 m 217 ls [.int s0]) := by
  have hx := X.hx
  have hb := X.hb
  have hown := X.hown
  have hts := X.hts
  rw [fX11_does_217] at hf
  refine lv_if_lt (tgt := 224) hx hb dX11_does_217 (by decide) (fun c1 => ?_) (fun c1 => ?_)
  · exact kX11_does_224 X hDA hret (ifp c1 hf) hP hS (lv_sub hl [0] rfl)
  · exact kX11_does_220 X hDA hret (ifn c1 hf) hP hS (lv_sub hl [0] rfl)
set_option maxRecDepth 10000 in
theorem kX11_does_211  {r : Int32} {S1 : MS} {M : MS} {x2 : Int32} (X : gX p s m args c cX11_does 4 RX11 (dC, dI) [(cI, .int)] A) (hDA : ∀ S, va_D A ((mW cI ad) S)) (hret : gRetI p l e (rmL 7 0 0) s m args below meth c cX11_does (dC, dI) A (mW cI ad) Q r S1) (hf : fX11_does_211 M x2 = some (r, S1)) {H : Heap} {locs : List Loc} {ls : Array Slot} (hP : va_P (dC, dI) vwCl ((mW cI ad) M) H) (hS : va_S A s.heap H locs) (hl : lv_has ls 4 [(0, .ref (ad 25)), (2, .int x2)]) : W p l e (rmL 7 0 0) s m args below meth c H locs 0 0 Q (F0 m 211 ls []) := by
  have hx := X.hx
  have hb := X.hb
  have hown := X.hown
  have hts := X.hts
  rw [fX11_does_211] at hf
  refine lv_aload_n hx hb dX11_does_211 rfl (lv_at hl 0 rfl) ?_
  refine lv_iconst (v := 4) hx hb dX11_does_212 (by decide) ?_
  refine lv_iload_n hx hb dX11_does_213 rfl (lv_at hl 1 rfl) ?_
  obtain ⟨q, hc, hf⟩ := bd hf
  refine gCallVI X hDA rfl (vX11_sets hc) gRX11_X11_sets hdX11_sets rfl ⟨by decide, by decide⟩ hP hS (k0 := 0) (ci := 15) rfl rfl hl.1 (Nat.le_of_ble_eq_true rfl) ⟨Nat.le_refl _, Nat.le_refl _⟩ dX11_does_214 (As := [.int 4, .int x2]) (rest := []) rfl (fun H locs hP hS => ?_)
  exact kX11_does_217 X hDA hret hf hP hS (lv_sub hl [0] rfl)
set_option maxRecDepth 10000 in
theorem kX11_does_0  {r : Int32} {S1 : MS} {M : MS} {a1 : Int32} (X : gX p s m args c cX11_does 4 RX11 (dC, dI) [(cI, .int)] A) (hDA : ∀ S, va_D A ((mW cI ad) S)) (hret : gRetI p l e (rmL 7 0 0) s m args below meth c cX11_does (dC, dI) A (mW cI ad) Q r S1) (hf : fX11_does_0 M a1 = some (r, S1)) {H : Heap} {locs : List Loc} {ls : Array Slot} (hP : va_P (dC, dI) vwCl ((mW cI ad) M) H) (hS : va_S A s.heap H locs) (hl : lv_has ls 4 [(0, .ref (ad 25)), (1, .int a1)]) : W p l e (rmL 7 0 0) s m args below meth c H locs 0 0 Q (F0 m 0 ls []) := by
  have hx := X.hx
  have hb := X.hb
  have hown := X.hown
  have hts := X.hts
  rw [fX11_does_0] at hf
  refine lv_aload_n hx hb dX11_does_0 rfl (lv_at hl 0 rfl) ?_
  refine mr_get (k := 21) X hP (by decide) rfl rfl tw1686 dX11_does_1 ?_
  refine lv_iconst (v := 2) hx hb dX11_does_4 (by decide) ?_
  refine lv_iload_n hx hb dX11_does_5 rfl (lv_at hl 1 rfl) ?_
  refine lv_imul hx hb dX11_does_6 ?_
  obtain ⟨g1, hf⟩ := gd hf
  refine mr_ald (a := 21) X hP rfl g1 dX11_does_7 ?_
  refine lv_istore_n (lv' := [(2, .int (M.2 21 (2 * a1).toNatClampNeg)), (0, .ref (ad 25)), (1, .int a1)]) hx hb dX11_does_8 rfl hl (by decide) rfl (fun ls hl => ?_)
  refine lv_aload_n hx hb dX11_does_9 rfl (lv_at hl 1 rfl) ?_
  refine mr_get (k := 21) X hP (by decide) rfl rfl tw1686 dX11_does_10 ?_
  refine lv_iconst (v := 2) hx hb dX11_does_13 (by decide) ?_
  refine lv_iload_n hx hb dX11_does_14 rfl (lv_at hl 2 rfl) ?_
  refine lv_imul hx hb dX11_does_15 ?_
  refine lv_iconst (v := 1) hx hb dX11_does_16 (by decide) ?_
  refine lv_iadd hx hb dX11_does_17 ?_
  obtain ⟨g2, hf⟩ := gd hf
  refine mr_ald (a := 21) X hP rfl g2 dX11_does_18 ?_
  refine lv_istore_n (lv' := [(3, .int (M.2 21 ((2 * a1) + 1).toNatClampNeg)), (2, .int (M.2 21 (2 * a1).toNatClampNeg)), (0, .ref (ad 25)), (1, .int a1)]) hx hb dX11_does_19 rfl hl (by decide) rfl (fun ls hl => ?_)
  refine lv_aload_n hx hb dX11_does_20 rfl (lv_at hl 2 rfl) ?_
  refine mr_get (k := 20) X hP (by decide) rfl rfl tw1685 dX11_does_21 ?_
  refine lv_iload_n hx hb dX11_does_24 rfl (lv_at hl 3 rfl) ?_
  obtain ⟨g3, hf⟩ := gd hf
  refine mr_ald (a := 20) X hP rfl g3 dX11_does_25 ?_
  by_cases c1 : (M.2 20 a1.toNatClampNeg) = 1
  · refine lv_tableIn (off := 38) (tgt := 64) hx hb dX11_does_26 (by rw [c1]; decide) (by rw [c1]; decide) (by rw [c1]; rfl) (by decide) ?_
    exact kX11_does_64 X hDA hret (ifp c1 hf) hP hS (lv_sub hl [2, 1] rfl)
  replace hf := ifn c1 hf
  by_cases c2 : (M.2 20 a1.toNatClampNeg) = 2
  · refine lv_tableIn (off := 66) (tgt := 92) hx hb dX11_does_26 (by rw [c2]; decide) (by rw [c2]; decide) (by rw [c2]; rfl) (by decide) ?_
    exact kX11_does_92 X hDA hret (ifp c2 hf) hP hS (lv_sub hl [2, 1] rfl)
  replace hf := ifn c2 hf
  by_cases c3 : (M.2 20 a1.toNatClampNeg) = 3
  · refine lv_tableIn (off := 89) (tgt := 115) hx hb dX11_does_26 (by rw [c3]; decide) (by rw [c3]; decide) (by rw [c3]; rfl) (by decide) ?_
    exact kX11_does_115 X hDA hret (ifp c3 hf) hP hS (lv_sub hl [2, 1] rfl)
  replace hf := ifn c3 hf
  by_cases c4 : (M.2 20 a1.toNatClampNeg) = 4
  · refine lv_tableIn (off := 112) (tgt := 138) hx hb dX11_does_26 (by rw [c4]; decide) (by rw [c4]; decide) (by rw [c4]; rfl) (by decide) ?_
    exact kX11_does_138 X hDA hret (ifp c4 hf) hP hS (lv_sub hl [2, 1, 0] rfl)
  replace hf := ifn c4 hf
  by_cases c5 : (M.2 20 a1.toNatClampNeg) = 5
  · refine lv_tableIn (off := 136) (tgt := 162) hx hb dX11_does_26 (by rw [c5]; decide) (by rw [c5]; decide) (by rw [c5]; rfl) (by decide) ?_
    exact kX11_does_162 X hDA hret (ifp c5 hf) hP hS (lv_sub hl [2, 1, 0] rfl)
  replace hf := ifn c5 hf
  by_cases c6 : (M.2 20 a1.toNatClampNeg) = 6
  · refine lv_tableIn (off := 160) (tgt := 186) hx hb dX11_does_26 (by rw [c6]; decide) (by rw [c6]; decide) (by rw [c6]; rfl) (by decide) ?_
    exact kX11_does_186 X hDA hret (ifp c6 hf) hP hS (lv_sub hl [2] rfl)
  replace hf := ifn c6 hf
  refine lv_tableOut (tgt := 211) hx hb dX11_does_26 (sw_out 1 6 (by decide) (by decide) (fun k h1 h2 h3 => by have hk : k = 1 ∨ k = 2 ∨ k = 3 ∨ k = 4 ∨ k = 5 ∨ k = 6 := (by omega); rcases hk with rfl | rfl | rfl | rfl | rfl | rfl <;> first | exact c1 (h3.trans (by decide)) | exact c2 (h3.trans (by decide)) | exact c3 (h3.trans (by decide)) | exact c4 (h3.trans (by decide)) | exact c5 (h3.trans (by decide)) | exact c6 (h3.trans (by decide)))) (by decide) ?_
  exact kX11_does_211 X hDA hret hf hP hS (lv_sub hl [2, 1] rfl)
theorem vX11_does {l : Launch} {dC : Nat → ClassId} {dI : Nat → Nat → Nat} {cI : ClassId} {ad : Nat → Nat} {M S1 : MS} {r : Int32} {a1 : Int32} (hf : fX11_does M a1 = some (r, S1)) : gMetI l yX11_does cX11_does 4 (some .boolean) 7 (dC, dI) [(cI, .int)] (mW cI ad) [.ref (ad 25), .int a1] M r S1 := gEntryI (ty := .boolean) (by decide) rfl (bz_n hf) mW_fix (Nat.le_of_ble_eq_true rfl) (fun p e s m args below meth c A Q ls X hDA hP hS hret hl => 
  kX11_does_0 X hDA hret (bz_f hf) hP hS (lv_sub hl [0, 1] rfl))
