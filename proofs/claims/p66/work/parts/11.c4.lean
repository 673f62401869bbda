variable {l : Launch} {p : Program} {e : Env} {s : State} {m : MethodId} {args : Array Value} {below : List Frame} {meth : Method} {c : Code} {A : Nat → Prop} {Q : State → Prop}
variable {dC : Nat → ClassId} {dI : Nat → Nat → Nat} {cg : Nat → ClassId} {kA : String → Nat → Nat} {ca : Nat → Nat}
def fX6_readMilk_36 (M : CS) (s0 : Int32) : Option (Int32 × CS) := some (s0, M)
def fX6_readMilk_29 (M : CS) : Option (Int32 × CS) := (fX8_takeSemicolon M ).bind fun q => fX6_readMilk_36 q.2 q.1
def fX6_readMilk_15 (M : CS) : Option (Int32 × CS) := fX6_readMilk_29 (va_up M.1 48 (upd (M.1 48) 11 (M.1 1 6)), M.2)
def fX6_readMilk_13 (M : CS) : Option (Int32 × CS) := some (0, M)
def fX6_readMilk_10 (M : CS) (s0 : Int32) : Option (Int32 × CS) := if s0 = 0 then fX6_readMilk_13 M else fX6_readMilk_15 M
def fX6_readMilk_0 (M : CS) : Option (Int32 × CS) := (fX8_takeNumber M 0 9).bind fun q => fX6_readMilk_10 q.2 q.1
def fX6_readMilk (M : CS) : Option (Int32 × CS) := bz (fX6_readMilk_0  M)
def fX6_readHour_36 (M : CS) (s0 : Int32) : Option (Int32 × CS) := some (s0, M)
def fX6_readHour_29 (M : CS) : Option (Int32 × CS) := (fX8_takeSemicolon M ).bind fun q => fX6_readHour_36 q.2 q.1
def fX6_readHour_15 (M : CS) : Option (Int32 × CS) := fX6_readHour_29 (va_up M.1 48 (upd (M.1 48) 12 (M.1 1 6)), M.2)
def fX6_readHour_13 (M : CS) : Option (Int32 × CS) := some (0, M)
def fX6_readHour_10 (M : CS) (s0 : Int32) : Option (Int32 × CS) := if s0 = 0 then fX6_readHour_13 M else fX6_readHour_15 M
def fX6_readHour_0 (M : CS) : Option (Int32 × CS) := (fX8_takeNumber M 0 23).bind fun q => fX6_readHour_10 q.2 q.1
def fX6_readHour (M : CS) : Option (Int32 × CS) := bz (fX6_readHour_0  M)
def fX10_remember_44 (M : CS) : Option (CS) := some M
def fX10_remember_29 (M : CS) : Option (CS) := fX10_remember_44 (va_up M.1 0 (upd (M.1 0) 11 (if 8 < ((M.1 0 11) + 1) then 8 else ((M.1 0 11) + 1))), M.2)
def fX10_remember_16 (M : CS) : Option (CS) := fX10_remember_29 (va_up M.1 0 (upd (M.1 0) 10 (((M.1 0 10) + 1) - ((M.1 0 10) + 1) / 8 * 8)), M.2)
def fX10_remember_0 (M : CS) : Option (CS) := if gIn (M.1 0 10) 8 then (fX2_copyFrom M (153 + 35 * (M.1 0 10).toNatClampNeg) 13).bind fun q => fX10_remember_16 q else none
def fX10_remember (M : CS) : Option (CS) := fX10_remember_0  M
def fX2_passHours_25 (t : Nat) (M : CS) (x2 : Int32) : Option (Int32 × CS) := some (((M.1 (t + 8) 0) - x2), M)
def fX2_passHours_19 (t : Nat) (K10 : CS → Int32 → Int32 → Int32 → Option (Int32 × CS)) (M : CS) (x1 : Int32) (x2 : Int32) (x3 : Int32) : Option (Int32 × CS) := K10 M x1 x2 (x3 + 1)
def fX2_passHours_15 (t : Nat) (K10 : CS → Int32 → Int32 → Int32 → Option (Int32 × CS)) (M : CS) (x1 : Int32) (x2 : Int32) (x3 : Int32) : Option (Int32 × CS) := (fX2_passHour M t).bind fun q => fX2_passHours_19 t K10 q x1 x2 x3
def fX2_passHours_10 (t : Nat) : Nat → CS → Int32 → Int32 → Int32 → Option (Int32 × CS)
  | 0 => fun _ _ _ _ => none
  | k + 1 => fun M x1 x2 x3 => if x1 ≤ x3 then fX2_passHours_25 t M x2 else fX2_passHours_15 t (fX2_passHours_10 t k) M x1 x2 x3
def fX2_passHours_0 (t : Nat) (M : CS) (a1 : Int32) : Option (Int32 × CS) := fX2_passHours_10 t FU M a1 (M.1 (t + 8) 0) 0
def fX2_passHours (M : CS) (t : Nat) (a1 : Int32) : Option (Int32 × CS) := fX2_passHours_0 t  M a1
def fX8_appendWords_25 (a1 : List Int32) (M : CS) : Option (CS) := some M
def fX8_appendWords_19 (a1 : List Int32) (K2 : CS → Int32 → Option (CS)) (M : CS) (x2 : Int32) : Option (CS) := K2 M (x2 + 1)
def fX8_appendWords_10 (a1 : List Int32) (K2 : CS → Int32 → Option (CS)) (M : CS) (x2 : Int32) : Option (CS) := if gIn x2 a1.length then (fX8_append M (a1.getD x2.toNatClampNeg 0)).bind fun q => fX8_appendWords_19 a1 K2 q x2 else none
def fX8_appendWords_2 (a1 : List Int32) : Nat → CS → Int32 → Option (CS)
  | 0 => fun _ _ => none
  | k + 1 => fun M x2 => if (Int32.ofNat a1.length) ≤ x2 then fX8_appendWords_25 a1 M else fX8_appendWords_10 a1 (fX8_appendWords_2 a1 k) M x2
def fX8_appendWords_0 (a1 : List Int32) (M : CS) : Option (CS) := fX8_appendWords_2 a1 FU M 0
def fX8_appendWords (M : CS) (a1 : List Int32) : Option (CS) := fX8_appendWords_0 a1  M
def fX8_isWord_19 (a1 : List Int32) (M : CS) : Option (Int32) := some 0
def fX8_isWord_58 (a1 : List Int32) (M : CS) : Option (Int32) := some 1
def fX8_isWord_52 (a1 : List Int32) (K23 : CS → Int32 → Option (Int32)) (M : CS) (x2 : Int32) : Option (Int32) := K23 M (x2 + 1)
def fX8_isWord_50 (a1 : List Int32) (M : CS) : Option (Int32) := some 0
def fX8_isWord_31 (a1 : List Int32) (K23 : CS → Int32 → Option (Int32)) (M : CS) (x2 : Int32) : Option (Int32) := if gIn ((M.1 1 5) + x2) 600 then if gIn x2 a1.length then if (M.1 2 ((M.1 1 5) + x2).toNatClampNeg) = (a1.getD x2.toNatClampNeg 0) then fX8_isWord_52 a1 K23 M x2 else fX8_isWord_50 a1 M else none else none
def fX8_isWord_23 (a1 : List Int32) : Nat → CS → Int32 → Option (Int32)
  | 0 => fun _ _ => none
  | k + 1 => fun M x2 => if (Int32.ofNat a1.length) ≤ x2 then fX8_isWord_58 a1 M else fX8_isWord_31 a1 (fX8_isWord_23 a1 k) M x2
def fX8_isWord_21 (a1 : List Int32) (M : CS) : Option (Int32) := fX8_isWord_23 a1 FU M 0
def fX8_isWord_12 (a1 : List Int32) (M : CS) (s0 : Int32) : Option (Int32) := if s0 = (Int32.ofNat a1.length) then fX8_isWord_21 a1 M else fX8_isWord_19 a1 M
def fX8_isWord_8 (a1 : List Int32) (M : CS) : Option (Int32) := (fX8_tokenLength M ).bind fun q => fX8_isWord_12 a1 M q
def fX8_isWord_0 (a1 : List Int32) (M : CS) : Option (Int32) := if (M.1 1 4) = 1 then fX8_isWord_8 a1 M else fX8_isWord_19 a1 M
def fX8_isWord (M : CS) (a1 : List Int32) : Option (Int32) := bq (fX8_isWord_0 a1  M)
def fX2_apply_45 (t : Nat) (M : CS) (s0 : Int32) : Option (Int32 × CS) := some (s0, M)
def fX2_apply_40 (t : Nat) (M : CS) (x3 : Int32) : Option (Int32 × CS) := (fX2_passHours M t x3).bind fun q => fX2_apply_45 t q.2 q.1
def fX2_apply_60 (t : Nat) (M : CS) (s0 : Int32) : Option (Int32 × CS) := some (s0, M)
def fX2_apply_56 (t : Nat) (M : CS) : Option (Int32 × CS) := (fX2_openFlaps M t).bind fun q => fX2_apply_60 t M q
def fX2_apply_46 (t : Nat) (M : CS) (x2 : Int32) : Option (Int32 × CS) := if gIn x2 6 then fX2_apply_56 t (va_up M.1 ((t + 2) + 15 + x2.toNatClampNeg) (upd (M.1 ((t + 2) + 15 + x2.toNatClampNeg)) 3 1), M.2) else none
def fX2_apply_75 (t : Nat) (M : CS) (s0 : Int32) : Option (Int32 × CS) := some (s0, M)
def fX2_apply_71 (t : Nat) (M : CS) : Option (Int32 × CS) := (fX2_openFlaps M t).bind fun q => fX2_apply_75 t M q
def fX2_apply_61 (t : Nat) (M : CS) (x2 : Int32) : Option (Int32 × CS) := if gIn x2 6 then fX2_apply_71 t (va_up M.1 ((t + 2) + 15 + x2.toNatClampNeg) (upd (M.1 ((t + 2) + 15 + x2.toNatClampNeg)) 3 0), M.2) else none
def fX2_apply_104 (t : Nat) (M : CS) (x2 : Int32) : Option (Int32 × CS) := if gIn x2 6 then some ((M.1 ((t + 2) + 15 + x2.toNatClampNeg) 2), M) else none
def fX2_apply_91 (t : Nat) (M : CS) (x2 : Int32) (x3 : Int32) : Option (Int32 × CS) := fX2_apply_104 t (va_up M.1 (t + 8) (upd (M.1 (t + 8)) 6 ((M.1 (t + 8) 6) + x3)), M.2) x2
def fX2_apply_76 (t : Nat) (M : CS) (x2 : Int32) (x3 : Int32) : Option (Int32 × CS) := if gIn x2 6 then fX2_apply_91 t (va_up M.1 ((t + 2) + 15 + x2.toNatClampNeg) (upd (M.1 ((t + 2) + 15 + x2.toNatClampNeg)) 2 ((M.1 ((t + 2) + 15 + x2.toNatClampNeg) 2) + x3)), M.2) x2 x3 else none
def fX2_apply_142 (t : Nat) (M : CS) (x2 : Int32) : Option (Int32 × CS) := if gIn x2 6 then some ((M.1 ((t + 2) + 15 + x2.toNatClampNeg) 1), M) else none
def fX2_apply_129 (t : Nat) (M : CS) (x2 : Int32) (x3 : Int32) : Option (Int32 × CS) := fX2_apply_142 t (va_up M.1 (t + 8) (upd (M.1 (t + 8)) 7 ((M.1 (t + 8) 7) + x3)), M.2) x2
def fX2_apply_114 (t : Nat) (M : CS) (x2 : Int32) (x3 : Int32) : Option (Int32 × CS) := if gIn x2 6 then fX2_apply_129 t (va_up M.1 ((t + 2) + 15 + x2.toNatClampNeg) (upd (M.1 ((t + 2) + 15 + x2.toNatClampNeg)) 1 ((M.1 ((t + 2) + 15 + x2.toNatClampNeg) 1) + x3)), M.2) x2 x3 else none
def fX2_apply_163 (t : Nat) (M : CS) (x4 : Int32) : Option (Int32 × CS) := some (x4, M)
def fX2_apply_152 (t : Nat) (M : CS) : Option (Int32 × CS) := fX2_apply_163 t (va_up M.1 t (upd (M.1 t) 8 (-1)), M.2) (M.1 t 8)
def fX2_apply_177 (t : Nat) (M : CS) (x5 : Int32) : Option (Int32 × CS) := some (x5, M)
def fX2_apply_166 (t : Nat) (M : CS) (x3 : Int32) : Option (Int32 × CS) := fX2_apply_177 t (va_up M.1 t (upd (M.1 t) 11 x3), M.2) (M.1 t 11)
def fX2_apply_0 (t : Nat) (M : CS) (a1 : Int32) (a2 : Int32) (a3 : Int32) : Option (Int32 × CS) := if a1 = 0 then fX2_apply_40 t M a3 else if a1 = 1 then fX2_apply_46 t M a2 else if a1 = 2 then fX2_apply_61 t M a2 else if a1 = 3 then fX2_apply_76 t M a2 a3 else if a1 = 4 then fX2_apply_114 t M a2 a3 else if a1 = 5 then fX2_apply_152 t M else fX2_apply_166 t M a3
def fX2_apply (M : CS) (t : Nat) (a1 : Int32) (a2 : Int32) (a3 : Int32) : Option (Int32 × CS) := fX2_apply_0 t  M a1 a2 a3
def fX2_catNamed_34 (t : Nat) (M : CS) : Option (Int32) := some (-1)
def fX2_catNamed_28 (t : Nat) (K2 : CS → Int32 → Option (Int32)) (M : CS) (x2 : Int32) : Option (Int32) := K2 M (x2 + 1)
def fX2_catNamed_26 (t : Nat) (M : CS) (x2 : Int32) : Option (Int32) := some x2
def fX2_catNamed_23 (t : Nat) (K2 : CS → Int32 → Option (Int32)) (M : CS) (x2 : Int32) (s0 : Int32) : Option (Int32) := if s0 = 0 then fX2_catNamed_28 t K2 M x2 else fX2_catNamed_26 t M x2
def fX2_catNamed_10 (t : Nat) (K2 : CS → Int32 → Option (Int32)) (M : CS) (x2 : Int32) : Option (Int32) := if gIn x2 8 then (fX8_isWord M (M.2 ((t + 1) + 8 + x2.toNatClampNeg))).bind fun q => fX2_catNamed_23 t K2 M x2 q else none
def fX2_catNamed_2 (t : Nat) : Nat → CS → Int32 → Option (Int32)
  | 0 => fun _ _ => none
  | k + 1 => fun M x2 => if (M.1 t 5) ≤ x2 then fX2_catNamed_34 t M else fX2_catNamed_10 t (fX2_catNamed_2 t k) M x2
def fX2_catNamed_0 (t : Nat) (M : CS) : Option (Int32) := fX2_catNamed_2 t FU M 0
def fX2_catNamed (M : CS) (t : Nat) : Option (Int32) := fX2_catNamed_0 t  M
def fX2_sackNamed_34 (t : Nat) (M : CS) : Option (Int32) := some (-1)
def fX2_sackNamed_28 (t : Nat) (K2 : CS → Int32 → Option (Int32)) (M : CS) (x2 : Int32) : Option (Int32) := K2 M (x2 + 1)
def fX2_sackNamed_26 (t : Nat) (M : CS) (x2 : Int32) : Option (Int32) := some x2
def fX2_sackNamed_23 (t : Nat) (K2 : CS → Int32 → Option (Int32)) (M : CS) (x2 : Int32) (s0 : Int32) : Option (Int32) := if s0 = 0 then fX2_sackNamed_28 t K2 M x2 else fX2_sackNamed_26 t M x2
def fX2_sackNamed_10 (t : Nat) (K2 : CS → Int32 → Option (Int32)) (M : CS) (x2 : Int32) : Option (Int32) := if gIn x2 6 then (fX8_isWord M (M.2 ((t + 2) + 15 + x2.toNatClampNeg))).bind fun q => fX2_sackNamed_23 t K2 M x2 q else none
def fX2_sackNamed_2 (t : Nat) : Nat → CS → Int32 → Option (Int32)
  | 0 => fun _ _ => none
  | k + 1 => fun M x2 => if (M.1 t 6) ≤ x2 then fX2_sackNamed_34 t M else fX2_sackNamed_10 t (fX2_sackNamed_2 t k) M x2
def fX2_sackNamed_0 (t : Nat) (M : CS) : Option (Int32) := fX2_sackNamed_2 t FU M 0
def fX2_sackNamed (M : CS) (t : Nat) : Option (Int32) := fX2_sackNamed_0 t  M
def fX8_takeEither_34 (a1 : List Int32) (a2 : List Int32) (M : CS) (s0 : Int32) : Option (Int32 × CS) := some (s0, M)
def fX8_takeEither_29 (a1 : List Int32) (a2 : List Int32) (M : CS) : Option (Int32 × CS) := fX8_takeEither_34 a1 a2 M 1
def fX8_takeEither_33 (a1 : List Int32) (a2 : List Int32) (M : CS) : Option (Int32 × CS) := fX8_takeEither_34 a1 a2 M 0
def fX8_takeEither_26 (a1 : List Int32) (a2 : List Int32) (M : CS) (s0 : Int32) : Option (Int32 × CS) := if s0 = 0 then fX8_takeEither_33 a1 a2 M else fX8_takeEither_29 a1 a2 M
def fX8_takeEither_21 (a1 : List Int32) (a2 : List Int32) (M : CS) : Option (Int32 × CS) := (fX8_fail M 1).bind fun q => fX8_takeEither_26 a1 a2 q.2 q.1
def fX8_takeEither_18 (a1 : List Int32) (a2 : List Int32) (M : CS) (s0 : Int32) : Option (Int32 × CS) := if s0 = 0 then fX8_takeEither_21 a1 a2 M else fX8_takeEither_29 a1 a2 M
def fX8_takeEither_13 (a1 : List Int32) (a2 : List Int32) (M : CS) : Option (Int32 × CS) := (fX8_isWord M a2).bind fun q => fX8_takeEither_18 a1 a2 M q
def fX8_takeEither_10 (a1 : List Int32) (a2 : List Int32) (M : CS) (s0 : Int32) : Option (Int32 × CS) := if s0 = 0 then fX8_takeEither_13 a1 a2 M else fX8_takeEither_29 a1 a2 M
def fX8_takeEither_4 (a1 : List Int32) (a2 : List Int32) (M : CS) (s0 : Int32) : Option (Int32 × CS) := (fX8_isWord M a1).bind fun q => fX8_takeEither_10 a1 a2 M q
def fX8_takeEither_0 (a1 : List Int32) (a2 : List Int32) (M : CS) : Option (Int32 × CS) := (fX8_advance M ).bind fun q => fX8_takeEither_4 a1 a2 q.2 q.1
def fX8_takeEither (M : CS) (a1 : List Int32) (a2 : List Int32) : Option (Int32 × CS) := bz (fX8_takeEither_0 a1 a2  M)
def fX6_readShift_138 (M : CS) (s0 : Int32) : Option (Int32 × CS) := some (s0, M)
def fX6_readShift_131 (M : CS) : Option (Int32 × CS) := (fX8_takeSemicolon M ).bind fun q => fX6_readShift_138 q.2 q.1
def fX6_readShift_118 (M : CS) : Option (Int32 × CS) := fX6_readShift_131 (va_up M.1 48 (upd (M.1 48) 7 ((M.1 48 7) + 1)), M.2)
def fX6_readShift_93 (M : CS) : Option (Int32 × CS) := if gIn (M.1 48 7) 12 then fX6_readShift_118 (va_up M.1 ((48 + 3) + 20 + (M.1 48 7).toNatClampNeg) (upd (M.1 ((48 + 3) + 20 + (M.1 48 7).toNatClampNeg)) 1 (M.1 1 6)), M.2) else none
def fX6_readShift_74 (M : CS) (x1 : Int32) : Option (Int32 × CS) := if gIn (M.1 48 7) 12 then fX6_readShift_93 (va_up M.1 ((48 + 3) + 20 + (M.1 48 7).toNatClampNeg) (upd (M.1 ((48 + 3) + 20 + (M.1 48 7).toNatClampNeg)) 0 x1), M.2) else none
def fX6_readShift_72 (M : CS) : Option (Int32 × CS) := some (0, M)
def fX6_readShift_69 (M : CS) (x1 : Int32) (s0 : Int32) : Option (Int32 × CS) := if s0 = 0 then fX6_readShift_72 M else fX6_readShift_74 M x1
def fX6_readShift_59 (M : CS) (x1 : Int32) : Option (Int32 × CS) := (fX8_takeNumber M 1 24).bind fun q => fX6_readShift_69 q.2 x1 q.1
def fX6_readShift_58 (M : CS) (s0 : Int32) : Option (Int32 × CS) := some (s0, M)
def fX6_readShift_50 (M : CS) : Option (Int32 × CS) := (fX8_fail M 4).bind fun q => fX6_readShift_58 q.2 q.1
def fX6_readShift_44 (M : CS) (s0 : Int32) : Option (Int32 × CS) := if s0 = (-1) then fX6_readShift_50 M else fX6_readShift_59 M s0
def fX6_readShift_33 (M : CS) : Option (Int32 × CS) := (fX2_catNamed M 48).bind fun q => fX6_readShift_44 M q
def fX6_readShift_31 (M : CS) : Option (Int32 × CS) := some (0, M)
def fX6_readShift_28 (M : CS) (s0 : Int32) : Option (Int32 × CS) := if s0 = 0 then fX6_readShift_31 M else fX6_readShift_33 M
def fX6_readShift_21 (M : CS) : Option (Int32 × CS) := (fX8_takeName M ).bind fun q => fX6_readShift_28 q.2 q.1
def fX6_readShift_20 (M : CS) (s0 : Int32) : Option (Int32 × CS) := some (s0, M)
def fX6_readShift_12 (M : CS) : Option (Int32 × CS) := (fX8_fail M 5).bind fun q => fX6_readShift_20 q.2 q.1
def fX6_readShift_0 (M : CS) : Option (Int32 × CS) := if (M.1 48 7) < 12 then fX6_readShift_21 M else fX6_readShift_12 M
def fX6_readShift (M : CS) : Option (Int32 × CS) := bz (fX6_readShift_0  M)
def fX10_change_38 (M : CS) (s0 : Int32) : Option (Int32 × CS) := some (s0, M)
def fX10_change_28 (M : CS) (x1 : Int32) (x2 : Int32) (x3 : Int32) : Option (Int32 × CS) := (fX2_apply M 13 x1 x2 x3).bind fun q => fX10_change_38 q.2 q.1
def fX10_change_24 (M : CS) (x1 : Int32) (x2 : Int32) (x3 : Int32) : Option (Int32 × CS) := (fX10_remember M ).bind fun q => fX10_change_28 q x1 x2 x3
def fX10_change_13 (M : CS) : Option (Int32 × CS) := none
def fX10_change_10 (M : CS) (x1 : Int32) (x2 : Int32) (x3 : Int32) (s0 : Int32) : Option (Int32 × CS) := if s0 = 0 then fX10_change_13 M else fX10_change_24 M x1 x2 x3
def fX10_change_0 (M : CS) (a1 : Int32) (a2 : Int32) (a3 : Int32) : Option (Int32 × CS) := (fX2_allows M 13 a1 a2 a3).bind fun q => fX10_change_10 M a1 a2 a3 q
def fX10_change (M : CS) (a1 : Int32) (a2 : Int32) (a3 : Int32) : Option (Int32 × CS) := fX10_change_0  M a1 a2 a3
def fX10_letPass_14 (M : CS) (s0 : Int32) : Option (Int32 × CS) := some (s0, M)
def fX10_letPass_7 (M : CS) (x1 : Int32) : Option (Int32 × CS) := (fX10_change M 0 (-1) x1).bind fun q => fX10_letPass_14 q.2 q.1
def fX10_letPass_0 (M : CS) (a1 : Int32) : Option (Int32 × CS) := (fX10_requireRange M a1 1 99).bind fun q => fX10_letPass_7 q a1
def fX10_letPass (M : CS) (a1 : Int32) : Option (Int32 × CS) := fX10_letPass_0  M a1
def fX10_openFlap_13 (M : CS) (s0 : Int32) : Option (Int32 × CS) := some (s0, M)
def fX10_openFlap_5 (M : CS) (z0 : Nat) (x1 : Int32) : Option (Int32 × CS) := (fX10_change M 1 x1 0).bind fun q => fX10_openFlap_13 q.2 q.1
def fX10_openFlap_0 (M : CS) (a1 : Int32) : Option (Int32 × CS) := (fX10_sackAt M a1).bind fun q => fX10_openFlap_5 M q a1
def fX10_openFlap (M : CS) (a1 : Int32) : Option (Int32 × CS) := fX10_openFlap_0  M a1
def fX10_shutFlap_13 (M : CS) (s0 : Int32) : Option (Int32 × CS) := some (s0, M)
def fX10_shutFlap_5 (M : CS) (z0 : Nat) (x1 : Int32) : Option (Int32 × CS) := (fX10_change M 2 x1 0).bind fun q => fX10_shutFlap_13 q.2 q.1
def fX10_shutFlap_0 (M : CS) (a1 : Int32) : Option (Int32 × CS) := (fX10_sackAt M a1).bind fun q => fX10_shutFlap_5 M q a1
def fX10_shutFlap (M : CS) (a1 : Int32) : Option (Int32 × CS) := fX10_shutFlap_0  M a1
def fX10_addMice_20 (M : CS) (s0 : Int32) : Option (Int32 × CS) := some (s0, M)
def fX10_addMice_13 (M : CS) (x1 : Int32) (x2 : Int32) : Option (Int32 × CS) := (fX10_change M 3 x1 x2).bind fun q => fX10_addMice_20 q.2 q.1
def fX10_addMice_5 (M : CS) (z0 : Nat) (x1 : Int32) (x2 : Int32) : Option (Int32 × CS) := (fX10_requireRange M x2 1 99).bind fun q => fX10_addMice_13 q x1 x2
def fX10_addMice_0 (M : CS) (a1 : Int32) (a2 : Int32) : Option (Int32 × CS) := (fX10_sackAt M a1).bind fun q => fX10_addMice_5 M q a1 a2
def fX10_addMice (M : CS) (a1 : Int32) (a2 : Int32) : Option (Int32 × CS) := fX10_addMice_0  M a1 a2
def fX10_addGrain_21 (M : CS) (s0 : Int32) : Option (Int32 × CS) := some (s0, M)
def fX10_addGrain_14 (M : CS) (x1 : Int32) (x2 : Int32) : Option (Int32 × CS) := (fX10_change M 4 x1 x2).bind fun q => fX10_addGrain_21 q.2 q.1
def fX10_addGrain_5 (M : CS) (z0 : Nat) (x1 : Int32) (x2 : Int32) : Option (Int32 × CS) := (fX10_requireRange M x2 1 999).bind fun q => fX10_addGrain_14 q x1 x2
def fX10_addGrain_0 (M : CS) (a1 : Int32) (a2 : Int32) : Option (Int32 × CS) := (fX10_sackAt M a1).bind fun q => fX10_addGrain_5 M q a1 a2
def fX10_addGrain (M : CS) (a1 : Int32) (a2 : Int32) : Option (Int32 × CS) := fX10_addGrain_0  M a1 a2
def fX10_dismiss_7 (M : CS) (s0 : Int32) : Option (Int32 × CS) := some (s0, M)
def fX10_dismiss_0 (M : CS) : Option (Int32 × CS) := (fX10_change M 5 (-1) 0).bind fun q => fX10_dismiss_7 q.2 q.1
def fX10_dismiss (M : CS) : Option (Int32 × CS) := fX10_dismiss_0  M
def fX10_setMilk_15 (M : CS) (s0 : Int32) : Option (Int32 × CS) := some (s0, M)
def fX10_setMilk_7 (M : CS) (x1 : Int32) : Option (Int32 × CS) := (fX10_change M 6 (-1) x1).bind fun q => fX10_setMilk_15 q.2 q.1
def fX10_setMilk_0 (M : CS) (a1 : Int32) : Option (Int32 × CS) := (fX10_requireRange M a1 0 9).bind fun q => fX10_setMilk_7 q a1
def fX10_setMilk (M : CS) (a1 : Int32) : Option (Int32 × CS) := fX10_setMilk_0  M a1
set_option maxRecDepth 10000 in
theorem kX6_readMilk_36 {r : Int32} {S1 : CS} {M : CS} {s0 : Int32} {H : Heap} {locs : List Loc} {ls : Array Slot} (X : gX p s m args c cX6_readMilk 1 RX6 (kR kTab kA)) (hret : gRetI p l e (rmL 4 0 0) s m args below meth c cX6_readMilk (cΩ ca) (cP dC dI cg kA ca) Q r S1) (hf : fX6_readMilk_36 M s0 = some (r, S1)) (hP : (cP dC dI cg kA ca) M s H) (hS : va_S (Fr (cΩ ca) s.heap.size) s.heap H locs) (hl : lv_has ls 1 [(0, .ref (ca 7))]) : W p l e (rmL 4 0 0) s m args below meth c H locs 0 0 Q (F0 m 36 ls [.int s0]) := by
  have hx := X.hx
  have hb := X.hb
  have hown := X.hown
  have hts := X.hts
  rw [fX6_readMilk_36] at hf
  cases hf
  exact hret _ _ _ _ dX6_readMilk_36 hP hS
set_option maxRecDepth 10000 in
theorem kX6_readMilk_29 {r : Int32} {S1 : CS} {M : CS} {H : Heap} {locs : List Loc} {ls : Array Slot} (X : gX p s m args c cX6_readMilk 1 RX6 (kR kTab kA)) (hret : gRetI p l e (rmL 4 0 0) s m args below meth c cX6_readMilk (cΩ ca) (cP dC dI cg kA ca) Q r S1) (hf : fX6_readMilk_29 M = some (r, S1)) (hP : (cP dC dI cg kA ca) M s H) (hS : va_S (Fr (cΩ ca) s.heap.size) s.heap H locs) (hl : lv_has ls 1 [(0, .ref (ca 7))]) : W p l e (rmL 4 0 0) s m args below meth c H locs 0 0 Q (F0 m 29 ls []) := by
  have hx := X.hx
  have hb := X.hb
  have hown := X.hown
  have hts := X.hts
  rw [fX6_readMilk_29] at hf
  refine lv_aload_n hx hb dX6_readMilk_29 rfl (lv_at hl 0 rfl) ?_
  refine cr_get (k := 0) X hP (rfl : kc 7 = 7) rfl cv7_0 rfl cinX6 (by decide) rfl tw362 dX6_readMilk_30 ?_
  obtain ⟨q, hc, hf⟩ := bd hf
  refine gCallVI X cOK rfl (vX8_takeSemicolon hc) gRX6_X8_takeSemicolon hdX8_takeSemicolon rfl ⟨by decide, by decide⟩ hP hS (cr_rec hP (rfl : kc 1 = 1) rfl cw1 rfl) hl.1 (Nat.le_of_ble_eq_true rfl) ⟨Nat.zero_le _, Nat.zero_le _⟩ dX6_readMilk_33 (As := []) (rest := []) rfl (fun H locs hP hS => ?_)
  exact kX6_readMilk_36 X hret hf hP hS (lv_sub hl [0] rfl)
set_option maxRecDepth 10000 in
theorem kX6_readMilk_15 {r : Int32} {S1 : CS} {M : CS} {H : Heap} {locs : List Loc} {ls : Array Slot} (X : gX p s m args c cX6_readMilk 1 RX6 (kR kTab kA)) (hret : gRetI p l e (rmL 4 0 0) s m args below meth c cX6_readMilk (cΩ ca) (cP dC dI cg kA ca) Q r S1) (hf : fX6_readMilk_15 M = some (r, S1)) (hP : (cP dC dI cg kA ca) M s H) (hS : va_S (Fr (cΩ ca) s.heap.size) s.heap H locs) (hl : lv_has ls 1 [(0, .ref (ca 7))]) : W p l e (rmL 4 0 0) s m args below meth c H locs 0 0 Q (F0 m 15 ls []) := by
  have hx := X.hx
  have hb := X.hb
  have hown := X.hown
  have hts := X.hts
  rw [fX6_readMilk_15] at hf
  refine lv_aload_n hx hb dX6_readMilk_15 rfl (lv_at hl 0 rfl) ?_
  refine cr_get (k := 1) X hP (rfl : kc 7 = 7) rfl cv7_1 rfl cinX6 (by decide) rfl tw363 dX6_readMilk_16 ?_
  refine lv_aload_n hx hb dX6_readMilk_19 rfl (lv_at hl 0 rfl) ?_
  refine cr_get (k := 0) X hP (rfl : kc 7 = 7) rfl cv7_0 rfl cinX6 (by decide) rfl tw362 dX6_readMilk_20 ?_
  refine cr_get (k := 6) X hP (rfl : kc 1 = 1) rfl cv1_6 rfl cinX8 (by decide) rfl tw94 dX6_readMilk_23 ?_
  refine cr_put (k := 11) X hP hS (rfl : kc 48 = 11) rfl cs11_11 rfl cinX2 tyX2_ok nmX2 (by decide) rfl rfl rfl rfl tw323 dX6_readMilk_26 (fun H locs hP hS => ?_)
  exact kX6_readMilk_29 X hret hf hP hS (lv_sub hl [0] rfl)
set_option maxRecDepth 10000 in
theorem kX6_readMilk_13 {r : Int32} {S1 : CS} {M : CS} {H : Heap} {locs : List Loc} {ls : Array Slot} (X : gX p s m args c cX6_readMilk 1 RX6 (kR kTab kA)) (hret : gRetI p l e (rmL 4 0 0) s m args below meth c cX6_readMilk (cΩ ca) (cP dC dI cg kA ca) Q r S1) (hf : fX6_readMilk_13 M = some (r, S1)) (hP : (cP dC dI cg kA ca) M s H) (hS : va_S (Fr (cΩ ca) s.heap.size) s.heap H locs) (hl : lv_has ls 1 [(0, .ref (ca 7))]) : W p l e (rmL 4 0 0) s m args below meth c H locs 0 0 Q (F0 m 13 ls []) := by
  have hx := X.hx
  have hb := X.hb
  have hown := X.hown
  have hts := X.hts
  rw [fX6_readMilk_13] at hf
  refine lv_iconst (v := 0) hx hb dX6_readMilk_13 (by decide) ?_
  cases hf
  exact hret _ _ _ _ dX6_readMilk_14 hP hS
set_option maxRecDepth 10000 in
theorem kX6_readMilk_10 {r : Int32} {S1 : CS} {M : CS} {s0 : Int32} {H : Heap} {locs : List Loc} {ls : Array Slot} (X : gX p s m args c cX6_readMilk 1 RX6 (kR kTab kA)) (hret : gRetI p l e (rmL 4 0 0) s m args below meth c cX6_readMilk (cΩ ca) (cP dC dI cg kA ca) Q r S1) (hf : fX6_readMilk_10 M s0 = some (r, S1)) (hP : (cP dC dI cg kA ca) M s H) (hS : va_S (Fr (cΩ ca) s.heap.size) s.heap H locs) (hl : lv_has ls 1 [(0, .ref (ca 7))]) : W p l e (rmL 4 0 0) s m args below meth c H locs 0 0 Q (F0 m 10 ls [.int s0]) := by
  have hx := X.hx
  have hb := X.hb
  have hown := X.hown
  have hts := X.hts
  rw [fX6_readMilk_10] at hf
  refine lv_if_ne (tgt := 15) hx hb dX6_readMilk_10 (by decide) (fun c1 => ?_) (fun c1 => ?_)
  · exact kX6_readMilk_15 X hret (ifn c1 hf) hP hS (lv_sub hl [0] rfl)
  · exact kX6_readMilk_13 X hret (ifp c1 hf) hP hS (lv_sub hl [0] rfl)
set_option maxRecDepth 10000 in
theorem kX6_readMilk_0 {r : Int32} {S1 : CS} {M : CS} {H : Heap} {locs : List Loc} {ls : Array Slot} (X : gX p s m args c cX6_readMilk 1 RX6 (kR kTab kA)) (hret : gRetI p l e (rmL 4 0 0) s m args below meth c cX6_readMilk (cΩ ca) (cP dC dI cg kA ca) Q r S1) (hf : fX6_readMilk_0 M = some (r, S1)) (hP : (cP dC dI cg kA ca) M s H) (hS : va_S (Fr (cΩ ca) s.heap.size) s.heap H locs) (hl : lv_has ls 1 [(0, .ref (ca 7))]) : W p l e (rmL 4 0 0) s m args below meth c H locs 0 0 Q (F0 m 0 ls []) := by
  have hx := X.hx
  have hb := X.hb
  have hown := X.hown
  have hts := X.hts
  rw [fX6_readMilk_0] at hf
  refine lv_aload_n hx hb dX6_readMilk_0 rfl (lv_at hl 0 rfl) ?_
  refine cr_get (k := 0) X hP (rfl : kc 7 = 7) rfl cv7_0 rfl cinX6 (by decide) rfl tw362 dX6_readMilk_1 ?_
  refine lv_iconst (v := 0) hx hb dX6_readMilk_4 (by decide) ?_
  refine lv_bipush (v := 9) hx hb dX6_readMilk_5 (by decide) ?_
  obtain ⟨q, hc, hf⟩ := bd hf
  refine gCallVI X cOK rfl (vX8_takeNumber hc) gRX6_X8_takeNumber hdX8_takeNumber rfl ⟨by decide, by decide⟩ hP hS (cr_rec hP (rfl : kc 1 = 1) rfl cw1 rfl) hl.1 (Nat.le_of_ble_eq_true rfl) ⟨Nat.zero_le _, Nat.zero_le _⟩ dX6_readMilk_7 (As := [.int 0, .int 9]) (rest := []) rfl (fun H locs hP hS => ?_)
  exact kX6_readMilk_10 X hret hf hP hS (lv_sub hl [0] rfl)
theorem vX6_readMilk {l : Launch} {dC : Nat → ClassId} {dI : Nat → Nat → Nat} {cg : Nat → ClassId} {kA : String → Nat → Nat} {ca : Nat → Nat} {M S1 : CS} {r : Int32} (hf : fX6_readMilk M  = some (r, S1)) : gMetI l yX6_readMilk cX6_readMilk 1 (some .boolean) 4 (cΩ ca) (cP dC dI cg kA ca) (kR kTab kA) [.ref (ca 7)] M r S1 := gEntryI (ty := .boolean) (by decide) rfl (bz_n hf) cOK (Nat.le_of_ble_eq_true rfl) (fun p e s m args below meth c Q ls X hP hS hret hl => 
  kX6_readMilk_0 X hret (bz_f hf) hP hS (lv_sub hl [0] rfl))
set_option maxRecDepth 10000 in
theorem kX6_readHour_36 {r : Int32} {S1 : CS} {M : CS} {s0 : Int32} {H : Heap} {locs : List Loc} {ls : Array Slot} (X : gX p s m args c cX6_readHour 1 RX6 (kR kTab kA)) (hret : gRetI p l e (rmL 4 0 0) s m args below meth c cX6_readHour (cΩ ca) (cP dC dI cg kA ca) Q r S1) (hf : fX6_readHour_36 M s0 = some (r, S1)) (hP : (cP dC dI cg kA ca) M s H) (hS : va_S (Fr (cΩ ca) s.heap.size) s.heap H locs) (hl : lv_has ls 1 [(0, .ref (ca 7))]) : W p l e (rmL 4 0 0) s m args below meth c H locs 0 0 Q (F0 m 36 ls [.int s0]) := by
  have hx := X.hx
  have hb := X.hb
  have hown := X.hown
  have hts := X.hts
  rw [fX6_readHour_36] at hf
  cases hf
  exact hret _ _ _ _ dX6_readHour_36 hP hS
set_option maxRecDepth 10000 in
theorem kX6_readHour_29 {r : Int32} {S1 : CS} {M : CS} {H : Heap} {locs : List Loc} {ls : Array Slot} (X : gX p s m args c cX6_readHour 1 RX6 (kR kTab kA)) (hret : gRetI p l e (rmL 4 0 0) s m args below meth c cX6_readHour (cΩ ca) (cP dC dI cg kA ca) Q r S1) (hf : fX6_readHour_29 M = some (r, S1)) (hP : (cP dC dI cg kA ca) M s H) (hS : va_S (Fr (cΩ ca) s.heap.size) s.heap H locs) (hl : lv_has ls 1 [(0, .ref (ca 7))]) : W p l e (rmL 4 0 0) s m args below meth c H locs 0 0 Q (F0 m 29 ls []) := by
  have hx := X.hx
  have hb := X.hb
  have hown := X.hown
  have hts := X.hts
  rw [fX6_readHour_29] at hf
  refine lv_aload_n hx hb dX6_readHour_29 rfl (lv_at hl 0 rfl) ?_
  refine cr_get (k := 0) X hP (rfl : kc 7 = 7) rfl cv7_0 rfl cinX6 (by decide) rfl tw362 dX6_readHour_30 ?_
  obtain ⟨q, hc, hf⟩ := bd hf
  refine gCallVI X cOK rfl (vX8_takeSemicolon hc) gRX6_X8_takeSemicolon hdX8_takeSemicolon rfl ⟨by decide, by decide⟩ hP hS (cr_rec hP (rfl : kc 1 = 1) rfl cw1 rfl) hl.1 (Nat.le_of_ble_eq_true rfl) ⟨Nat.zero_le _, Nat.zero_le _⟩ dX6_readHour_33 (As := []) (rest := []) rfl (fun H locs hP hS => ?_)
  exact kX6_readHour_36 X hret hf hP hS (lv_sub hl [0] rfl)
set_option maxRecDepth 10000 in
theorem kX6_readHour_15 {r : Int32} {S1 : CS} {M : CS} {H : Heap} {locs : List Loc} {ls : Array Slot} (X : gX p s m args c cX6_readHour 1 RX6 (kR kTab kA)) (hret : gRetI p l e (rmL 4 0 0) s m args below meth c cX6_readHour (cΩ ca) (cP dC dI cg kA ca) Q r S1) (hf : fX6_readHour_15 M = some (r, S1)) (hP : (cP dC dI cg kA ca) M s H) (hS : va_S (Fr (cΩ ca) s.heap.size) s.heap H locs) (hl : lv_has ls 1 [(0, .ref (ca 7))]) : W p l e (rmL 4 0 0) s m args below meth c H locs 0 0 Q (F0 m 15 ls []) := by
  have hx := X.hx
  have hb := X.hb
  have hown := X.hown
  have hts := X.hts
  rw [fX6_readHour_15] at hf
  refine lv_aload_n hx hb dX6_readHour_15 rfl (lv_at hl 0 rfl) ?_
  refine cr_get (k := 1) X hP (rfl : kc 7 = 7) rfl cv7_1 rfl cinX6 (by decide) rfl tw363 dX6_readHour_16 ?_
  refine lv_aload_n hx hb dX6_readHour_19 rfl (lv_at hl 0 rfl) ?_
  refine cr_get (k := 0) X hP (rfl : kc 7 = 7) rfl cv7_0 rfl cinX6 (by decide) rfl tw362 dX6_readHour_20 ?_
  refine cr_get (k := 6) X hP (rfl : kc 1 = 1) rfl cv1_6 rfl cinX8 (by decide) rfl tw94 dX6_readHour_23 ?_
  refine cr_put (k := 12) X hP hS (rfl : kc 48 = 11) rfl cs11_12 rfl cinX2 tyX2_ok nmX2 (by decide) rfl rfl rfl rfl tw327 dX6_readHour_26 (fun H locs hP hS => ?_)
  exact kX6_readHour_29 X hret hf hP hS (lv_sub hl [0] rfl)
set_option maxRecDepth 10000 in
theorem kX6_readHour_13 {r : Int32} {S1 : CS} {M : CS} {H : Heap} {locs : List Loc} {ls : Array Slot} (X : gX p s m args c cX6_readHour 1 RX6 (kR kTab kA)) (hret : gRetI p l e (rmL 4 0 0) s m args below meth c cX6_readHour (cΩ ca) (cP dC dI cg kA ca) Q r S1) (hf : fX6_readHour_13 M = some (r, S1)) (hP : (cP dC dI cg kA ca) M s H) (hS : va_S (Fr (cΩ ca) s.heap.size) s.heap H locs) (hl : lv_has ls 1 [(0, .ref (ca 7))]) : W p l e (rmL 4 0 0) s m args below meth c H locs 0 0 Q (F0 m 13 ls []) := by
  have hx := X.hx
  have hb := X.hb
  have hown := X.hown
  have hts := X.hts
  rw [fX6_readHour_13] at hf
  refine lv_iconst (v := 0) hx hb dX6_readHour_13 (by decide) ?_
  cases hf
  exact hret _ _ _ _ dX6_readHour_14 hP hS
set_option maxRecDepth 10000 in
theorem kX6_readHour_10 {r : Int32} {S1 : CS} {M : CS} {s0 : Int32} {H : Heap} {locs : List Loc} {ls : Array Slot} (X : gX p s m args c cX6_readHour 1 RX6 (kR kTab kA)) (hret : gRetI p l e (rmL 4 0 0) s m args below meth c cX6_readHour (cΩ ca) (cP dC dI cg kA ca) Q r S1) (hf : fX6_readHour_10 M s0 = some (r, S1)) (hP : (cP dC dI cg kA ca) M s H) (hS : va_S (Fr (cΩ ca) s.heap.size) s.heap H locs) (hl : lv_has ls 1 [(0, .ref (ca 7))]) : W p l e (rmL 4 0 0) s m args below meth c H locs 0 0 Q (F0 m 10 ls [.int s0]) := by
  have hx := X.hx
  have hb := X.hb
  have hown := X.hown
  have hts := X.hts
  rw [fX6_readHour_10] at hf
  refine lv_if_ne (tgt := 15) hx hb dX6_readHour_10 (by decide) (fun c1 => ?_) (fun c1 => ?_)
  · exact kX6_readHour_15 X hret (ifn c1 hf) hP hS (lv_sub hl [0] rfl)
  · exact kX6_readHour_13 X hret (ifp c1 hf) hP hS (lv_sub hl [0] rfl)
set_option maxRecDepth 10000 in
theorem kX6_readHour_0 {r : Int32} {S1 : CS} {M : CS} {H : Heap} {locs : List Loc} {ls : Array Slot} (X : gX p s m args c cX6_readHour 1 RX6 (kR kTab kA)) (hret : gRetI p l e (rmL 4 0 0) s m args below meth c cX6_readHour (cΩ ca) (cP dC dI cg kA ca) Q r S1) (hf : fX6_readHour_0 M = some (r, S1)) (hP : (cP dC dI cg kA ca) M s H) (hS : va_S (Fr (cΩ ca) s.heap.size) s.heap H locs) (hl : lv_has ls 1 [(0, .ref (ca 7))]) : W p l e (rmL 4 0 0) s m args below meth c H locs 0 0 Q (F0 m 0 ls []) := by
  have hx := X.hx
  have hb := X.hb
  have hown := X.hown
  have hts := X.hts
  rw [fX6_readHour_0] at hf
  refine lv_aload_n hx hb dX6_readHour_0 rfl (lv_at hl 0 rfl) ?_
  refine cr_get (k := 0) X hP (rfl : kc 7 = 7) rfl cv7_0 rfl cinX6 (by decide) rfl tw362 dX6_readHour_1 ?_
  refine lv_iconst (v := 0) hx hb dX6_readHour_4 (by decide) ?_
  refine lv_bipush (v := 23) hx hb dX6_readHour_5 (by decide) ?_
  obtain ⟨q, hc, hf⟩ := bd hf
  refine gCallVI X cOK rfl (vX8_takeNumber hc) gRX6_X8_takeNumber hdX8_takeNumber rfl ⟨by decide, by decide⟩ hP hS (cr_rec hP (rfl : kc 1 = 1) rfl cw1 rfl) hl.1 (Nat.le_of_ble_eq_true rfl) ⟨Nat.zero_le _, Nat.zero_le _⟩ dX6_readHour_7 (As := [.int 0, .int 23]) (rest := []) rfl (fun H locs hP hS => ?_)
  exact kX6_readHour_10 X hret hf hP hS (lv_sub hl [0] rfl)
theorem vX6_readHour {l : Launch} {dC : Nat → ClassId} {dI : Nat → Nat → Nat} {cg : Nat → ClassId} {kA : String → Nat → Nat} {ca : Nat → Nat} {M S1 : CS} {r : Int32} (hf : fX6_readHour M  = some (r, S1)) : gMetI l yX6_readHour cX6_readHour 1 (some .boolean) 4 (cΩ ca) (cP dC dI cg kA ca) (kR kTab kA) [.ref (ca 7)] M r S1 := gEntryI (ty := .boolean) (by decide) rfl (bz_n hf) cOK (Nat.le_of_ble_eq_true rfl) (fun p e s m args below meth c Q ls X hP hS hret hl => 
  kX6_readHour_0 X hret (bz_f hf) hP hS (lv_sub hl [0] rfl))
set_option maxRecDepth 10000 in
theorem kX10_remember_44 {S1 : CS} {M : CS} {H : Heap} {locs : List Loc} {ls : Array Slot} (X : gX p s m args c cX10_remember 1 RX10 (kR kTab kA)) (hret : gRetV p l e (rmL 4 0 0) s m args below meth c cX10_remember (cΩ ca) (cP dC dI cg kA ca) Q S1) (hf : fX10_remember_44 M = some S1) (hP : (cP dC dI cg kA ca) M s H) (hS : va_S (Fr (cΩ ca) s.heap.size) s.heap H locs) (hl : lv_has ls 1 [(0, .ref (ca 0))]) : W p l e (rmL 4 0 0) s m args below meth c H locs 0 0 Q (F0 m 44 ls []) := by
  have hx := X.hx
  have hb := X.hb
  have hown := X.hown
  have hts := X.hts
  rw [fX10_remember_44] at hf
  cases hf
  exact hret _ _ _ _ dX10_remember_44 hP hS
set_option maxRecDepth 10000 in
theorem kX10_remember_29 {S1 : CS} {M : CS} {H : Heap} {locs : List Loc} {ls : Array Slot} (X : gX p s m args c cX10_remember 1 RX10 (kR kTab kA)) (hret : gRetV p l e (rmL 4 0 0) s m args below meth c cX10_remember (cΩ ca) (cP dC dI cg kA ca) Q S1) (hf : fX10_remember_29 M = some S1) (hP : (cP dC dI cg kA ca) M s H) (hS : va_S (Fr (cΩ ca) s.heap.size) s.heap H locs) (hl : lv_has ls 1 [(0, .ref (ca 0))]) : W p l e (rmL 4 0 0) s m args below meth c H locs 0 0 Q (F0 m 29 ls []) := by
  have hx := X.hx
  have hb := X.hb
  have hown := X.hown
  have hts := X.hts
  rw [fX10_remember_29] at hf
  refine lv_aload_n hx hb dX10_remember_29 rfl (lv_at hl 0 rfl) ?_
  refine lv_aload_n hx hb dX10_remember_30 rfl (lv_at hl 0 rfl) ?_
  refine cr_get (k := 11) X hP (rfl : kc 0 = 0) rfl cv0_11 rfl cinX10 (by decide) rfl tw761 dX10_remember_31 ?_
  refine lv_iconst (v := 1) hx hb dX10_remember_34 (by decide) ?_
  refine lv_iadd hx hb dX10_remember_35 ?_
  refine lv_bipush (v := 8) hx hb dX10_remember_36 (by decide) ?_
  refine gMin X rfl tw1272 tw553 tw19 tw554 (by decide) hl.1 (Nat.le_of_ble_eq_true rfl) ⟨Nat.zero_le _, Nat.zero_le _⟩ dX10_remember_38 ?_
  refine cr_put (k := 11) X hP hS (rfl : kc 0 = 0) rfl cs0_11 rfl cinX10 tyX10_ok nmX10 (by decide) rfl rfl rfl rfl tw761 dX10_remember_41 (fun H locs hP hS => ?_)
  exact kX10_remember_44 X hret hf hP hS (lv_sub hl [0] rfl)
set_option maxRecDepth 10000 in
theorem kX10_remember_16 {S1 : CS} {M : CS} {H : Heap} {locs : List Loc} {ls : Array Slot} (X : gX p s m args c cX10_remember 1 RX10 (kR kTab kA)) (hret : gRetV p l e (rmL 4 0 0) s m args below meth c cX10_remember (cΩ ca) (cP dC dI cg kA ca) Q S1) (hf : fX10_remember_16 M = some S1) (hP : (cP dC dI cg kA ca) M s H) (hS : va_S (Fr (cΩ ca) s.heap.size) s.heap H locs) (hl : lv_has ls 1 [(0, .ref (ca 0))]) : W p l e (rmL 4 0 0) s m args below meth c H locs 0 0 Q (F0 m 16 ls []) := by
  have hx := X.hx
  have hb := X.hb
  have hown := X.hown
  have hts := X.hts
  rw [fX10_remember_16] at hf
  refine lv_aload_n hx hb dX10_remember_16 rfl (lv_at hl 0 rfl) ?_
  refine lv_aload_n hx hb dX10_remember_17 rfl (lv_at hl 0 rfl) ?_
  refine cr_get (k := 10) X hP (rfl : kc 0 = 0) rfl cv0_10 rfl cinX10 (by decide) rfl tw760 dX10_remember_18 ?_
  refine lv_iconst (v := 1) hx hb dX10_remember_21 (by decide) ?_
  refine lv_iadd hx hb dX10_remember_22 ?_
  refine lv_bipush (v := 8) hx hb dX10_remember_23 (by decide) ?_
  refine lv_irem hx hb dX10_remember_25 (by decide) ?_
  refine cr_put (k := 10) X hP hS (rfl : kc 0 = 0) rfl cs0_10 rfl cinX10 tyX10_ok nmX10 (by decide) rfl rfl rfl rfl tw760 dX10_remember_26 (fun H locs hP hS => ?_)
  exact kX10_remember_29 X hret hf hP hS (lv_sub hl [0] rfl)
set_option maxRecDepth 10000 in
theorem kX10_remember_0 {S1 : CS} {M : CS} {H : Heap} {locs : List Loc} {ls : Array Slot} (X : gX p s m args c cX10_remember 1 RX10 (kR kTab kA)) (hret : gRetV p l e (rmL 4 0 0) s m args below meth c cX10_remember (cΩ ca) (cP dC dI cg kA ca) Q S1) (hf : fX10_remember_0 M = some S1) (hP : (cP dC dI cg kA ca) M s H) (hS : va_S (Fr (cΩ ca) s.heap.size) s.heap H locs) (hl : lv_has ls 1 [(0, .ref (ca 0))]) : W p l e (rmL 4 0 0) s m args below meth c H locs 0 0 Q (F0 m 0 ls []) := by
  have hx := X.hx
  have hb := X.hb
  have hown := X.hown
  have hts := X.hts
  rw [fX10_remember_0] at hf
  refine lv_aload_n hx hb dX10_remember_0 rfl (lv_at hl 0 rfl) ?_
  refine cr_get (k := 6) X hP (rfl : kc 0 = 0) rfl cv0_6 rfl cinX10 (by decide) rfl tw756 dX10_remember_1 ?_
  refine lv_aload_n hx hb dX10_remember_4 rfl (lv_at hl 0 rfl) ?_
  refine cr_get (k := 10) X hP (rfl : kc 0 = 0) rfl cv0_10 rfl cinX10 (by decide) rfl tw760 dX10_remember_5 ?_
  obtain ⟨g1, hf⟩ := gd hf
  refine cr_aald (f := fun i => 153 + 35 * i) X hP (rfl : kc 12 = 10) rfl (fun _ => rfl) rfl g1 dX10_remember_8 ?_
  refine lv_aload_n hx hb dX10_remember_9 rfl (lv_at hl 0 rfl) ?_
  refine cr_get (k := 2) X hP (rfl : kc 0 = 0) rfl cv0_2 rfl cinX10 (by decide) rfl tw752 dX10_remember_10 ?_
  obtain ⟨q, hc, hf⟩ := bd hf
  refine gCallVV X cOK rfl (vX2_copyFrom (kc_past g1) (rfl : kc 13 = 11) hc) gRX10_X2_copyFrom hdX2_copyFrom rfl ⟨by decide, by decide⟩ hP hS (cr_rec hP (kc_past g1) rfl cw11 rfl) hl.1 (Nat.le_of_ble_eq_true rfl) ⟨Nat.zero_le _, Nat.zero_le _⟩ dX10_remember_13 (As := [.ref (ca 13)]) (rest := []) rfl (fun H locs hP hS => ?_)
  exact kX10_remember_16 X hret hf hP hS (lv_sub hl [0] rfl)
theorem vX10_remember {l : Launch} {dC : Nat → ClassId} {dI : Nat → Nat → Nat} {cg : Nat → ClassId} {kA : String → Nat → Nat} {ca : Nat → Nat} {M S1 : CS} (hf : fX10_remember M  = some S1) : gMetV l yX10_remember cX10_remember 1 4 (cΩ ca) (cP dC dI cg kA ca) (kR kTab kA) [.ref (ca 0)] M S1 := gEntryV (by decide) cOK (Nat.le_of_ble_eq_true rfl) (fun p e s m args below meth c Q ls X hP hS hret hl => 
  kX10_remember_0 X hret hf hP hS (lv_sub hl [0] rfl))
set_option maxRecDepth 10000 in
theorem kX2_passHours_25 {r : Int32} {S1 : CS} {t : Nat} {M : CS} {x2 : Int32} {H : Heap} {locs : List Loc} {ls : Array Slot} (X : gX p s m args c cX2_passHours 4 RX2 (kR kTab kA)) (hret : gRetI p l e (rmL 5 0 0) s m args below meth c cX2_passHours (cΩ ca) (cP dC dI cg kA ca) Q r S1) (hkt : kc t = 11) (hf : fX2_passHours_25 t M x2 = some (r, S1)) (hP : (cP dC dI cg kA ca) M s H) (hS : va_S (Fr (cΩ ca) s.heap.size) s.heap H locs) (hl : lv_has ls 4 [(0, .ref (ca t)), (2, .int x2)]) : W p l e (rmL 5 0 0) s m args below meth c H locs 0 0 Q (F0 m 25 ls []) := by
  have hx := X.hx
  have hb := X.hb
  have hown := X.hown
  have hts := X.hts
  rw [fX2_passHours_25] at hf
  refine lv_aload_n hx hb dX2_passHours_25 rfl (lv_at hl 0 rfl) ?_
  refine cr_get (k := 4) X hP hkt rfl cv11_4 rfl cinX2 (by decide) rfl tw306 dX2_passHours_26 ?_
  refine cr_get (k := 0) X hP (kc_totals hkt) rfl cv17_0 rfl cinX9 (by decide) rfl tw171 dX2_passHours_29 ?_
  refine lv_iload_n hx hb dX2_passHours_32 rfl (lv_at hl 1 rfl) ?_
  refine lv_isub hx hb dX2_passHours_33 ?_
  cases hf
  exact hret _ _ _ _ dX2_passHours_34 hP hS
set_option maxRecDepth 10000 in
theorem kX2_passHours_19 {r : Int32} {S1 : CS} {t : Nat} {K10 : CS → Int32 → Int32 → Int32 → Option (Int32 × CS)} {M : CS} {x1 : Int32} {x2 : Int32} {x3 : Int32} {H : Heap} {locs : List Loc} {ls : Array Slot} (X : gX p s m args c cX2_passHours 4 RX2 (kR kTab kA)) (hret : gRetI p l e (rmL 5 0 0) s m args below meth c cX2_passHours (cΩ ca) (cP dC dI cg kA ca) Q r S1) (hkt : kc t = 11) (hK10 : ∀ (M : CS) (x1 : Int32) (x2 : Int32) (x3 : Int32) (H : Heap) (locs : List Loc) (ls : Array Slot), K10 M x1 x2 x3 = some (r, S1) → (cP dC dI cg kA ca) M s H → va_S (Fr (cΩ ca) s.heap.size) s.heap H locs → lv_has ls 4 [(0, .ref (ca t)), (1, .int x1), (2, .int x2), (3, .int x3)] → W p l e (rmL 5 0 0) s m args below meth c H locs 0 0 Q (F0 m 10 ls [])) (hf : fX2_passHours_19 t K10 M x1 x2 x3 = some (r, S1)) (hP : (cP dC dI cg kA ca) M s H) (hS : va_S (Fr (cΩ ca) s.heap.size) s.heap H locs) (hl : lv_has ls 4 [(0, .ref (ca t)), (1, .int x1), (2, .int x2), (3, .int x3)]) : W p l e (rmL 5 0 0) s m args below meth c H locs 0 0 Q (F0 m 19 ls []) := by
  have hx := X.hx
  have hb := X.hb
  have hown := X.hown
  have hts := X.hts
  rw [fX2_passHours_19] at hf
  refine lv_iinc (v := (x3 + 1)) (lv' := [(3, .int (x3 + 1)), (0, .ref (ca t)), (1, .int x1), (2, .int x2)]) hx hb dX2_passHours_19 hl (k := 3) rfl (by rfl) (by decide) rfl (fun ls hl => ?_)
  refine lv_goto (tgt := 10) hx hb dX2_passHours_22 (by decide) ?_
  exact hK10 _ _ _ _ _ _ _ hf hP hS (lv_sub hl [1, 2, 3, 0] rfl)
set_option maxRecDepth 10000 in
theorem kX2_passHours_15 {r : Int32} {S1 : CS} {t : Nat} {K10 : CS → Int32 → Int32 → Int32 → Option (Int32 × CS)} {M : CS} {x1 : Int32} {x2 : Int32} {x3 : Int32} {H : Heap} {locs : List Loc} {ls : Array Slot} (X : gX p s m args c cX2_passHours 4 RX2 (kR kTab kA)) (hret : gRetI p l e (rmL 5 0 0) s m args below meth c cX2_passHours (cΩ ca) (cP dC dI cg kA ca) Q r S1) (hkt : kc t = 11) (hK10 : ∀ (M : CS) (x1 : Int32) (x2 : Int32) (x3 : Int32) (H : Heap) (locs : List Loc) (ls : Array Slot), K10 M x1 x2 x3 = some (r, S1) → (cP dC dI cg kA ca) M s H → va_S (Fr (cΩ ca) s.heap.size) s.heap H locs → lv_has ls 4 [(0, .ref (ca t)), (1, .int x1), (2, .int x2), (3, .int x3)] → W p l e (rmL 5 0 0) s m args below meth c H locs 0 0 Q (F0 m 10 ls [])) (hf : fX2_passHours_15 t K10 M x1 x2 x3 = some (r, S1)) (hP : (cP dC dI cg kA ca) M s H) (hS : va_S (Fr (cΩ ca) s.heap.size) s.heap H locs) (hl : lv_has ls 4 [(0, .ref (ca t)), (1, .int x1), (2, .int x2), (3, .int x3)]) : W p l e (rmL 5 0 0) s m args below meth c H locs 0 0 Q (F0 m 15 ls []) := by
  have hx := X.hx
  have hb := X.hb
  have hown := X.hown
  have hts := X.hts
  rw [fX2_passHours_15] at hf
  refine lv_aload_n hx hb dX2_passHours_15 rfl (lv_at hl 0 rfl) ?_
  obtain ⟨q, hc, hf⟩ := bd hf
  refine gCallVV X cOK rfl (vX2_passHour hkt hc) gRX2_X2_passHour hdX2_passHour rfl ⟨by decide, by decide⟩ hP hS (cr_rec hP hkt rfl cw11 rfl) hl.1 (Nat.le_of_ble_eq_true rfl) ⟨Nat.zero_le _, Nat.zero_le _⟩ dX2_passHours_16 (As := []) (rest := []) rfl (fun H locs hP hS => ?_)
  exact kX2_passHours_19 X hret hkt hK10 hf hP hS (lv_sub hl [0, 1, 2, 3] rfl)
set_option maxRecDepth 10000 in
theorem kX2_passHours_10 {r : Int32} {S1 : CS} {t : Nat} (X : gX p s m args c cX2_passHours 4 RX2 (kR kTab kA)) (hret : gRetI p l e (rmL 5 0 0) s m args below meth c cX2_passHours (cΩ ca) (cP dC dI cg kA ca) Q r S1) (hkt : kc t = 11) : ∀ (n : Nat) (M : CS) (x1 : Int32) (x2 : Int32) (x3 : Int32) (H : Heap) (locs : List Loc) (ls : Array Slot), fX2_passHours_10 t n M x1 x2 x3 = some (r, S1) → (cP dC dI cg kA ca) M s H → va_S (Fr (cΩ ca) s.heap.size) s.heap H locs → lv_has ls 4 [(0, .ref (ca t)), (1, .int x1), (2, .int x2), (3, .int x3)] → W p l e (rmL 5 0 0) s m args below meth c H locs 0 0 Q (F0 m 10 ls []) := by
  intro n
  induction n with
  | zero => intro M x1 x2 x3 H locs ls hf; cases hf
  | succ k ih =>
    intro M x1 x2 x3 H locs ls hf hP hS hl
    have hx := X.hx
    have hb := X.hb
    have hown := X.hown
    have hts := X.hts
    rw [fX2_passHours_10] at hf
    try dsimp only at hf
    refine lv_iload_n hx hb dX2_passHours_10 rfl (lv_at hl 3 rfl) ?_
    refine lv_iload_n hx hb dX2_passHours_11 rfl (lv_at hl 1 rfl) ?_
    refine lv_icmp_ge (tgt := 25) hx hb dX2_passHours_12 (by decide) (fun c1 => ?_) (fun c1 => ?_)
    · exact kX2_passHours_25 X hret hkt (ifp c1 hf) hP hS (lv_sub hl [0, 2] rfl)
    · exact kX2_passHours_15 X hret hkt ih (ifn c1 hf) hP hS (lv_sub hl [0, 1, 2, 3] rfl)
set_option maxRecDepth 10000 in
theorem kX2_passHours_0 {r : Int32} {S1 : CS} {t : Nat} {M : CS} {a1 : Int32} {H : Heap} {locs : List Loc} {ls : Array Slot} (X : gX p s m args c cX2_passHours 4 RX2 (kR kTab kA)) (hret : gRetI p l e (rmL 5 0 0) s m args below meth c cX2_passHours (cΩ ca) (cP dC dI cg kA ca) Q r S1) (hkt : kc t = 11) (hf : fX2_passHours_0 t M a1 = some (r, S1)) (hP : (cP dC dI cg kA ca) M s H) (hS : va_S (Fr (cΩ ca) s.heap.size) s.heap H locs) (hl : lv_has ls 4 [(0, .ref (ca t)), (1, .int a1)]) : W p l e (rmL 5 0 0) s m args below meth c H locs 0 0 Q (F0 m 0 ls []) := by
  have hx := X.hx
  have hb := X.hb
  have hown := X.hown
  have hts := X.hts
  rw [fX2_passHours_0] at hf
  refine lv_aload_n hx hb dX2_passHours_0 rfl (lv_at hl 0 rfl) ?_
  refine cr_get (k := 4) X hP hkt rfl cv11_4 rfl cinX2 (by decide) rfl tw306 dX2_passHours_1 ?_
  refine cr_get (k := 0) X hP (kc_totals hkt) rfl cv17_0 rfl cinX9 (by decide) rfl tw171 dX2_passHours_4 ?_
  refine lv_istore_n (lv' := [(2, .int (M.1 (t + 8) 0)), (0, .ref (ca t)), (1, .int a1)]) hx hb dX2_passHours_7 rfl hl (by decide) rfl (fun ls hl => ?_)
  refine lv_iconst (v := 0) hx hb dX2_passHours_8 (by decide) ?_
  refine lv_istore_n (lv' := [(3, .int 0), (2, .int (M.1 (t + 8) 0)), (0, .ref (ca t)), (1, .int a1)]) hx hb dX2_passHours_9 rfl hl (by decide) rfl (fun ls hl => ?_)
  exact kX2_passHours_10 X hret hkt FU _ _ _ _ _ _ _ hf hP hS (lv_sub hl [2, 3, 1, 0] rfl)
theorem vX2_passHours {l : Launch} {dC : Nat → ClassId} {dI : Nat → Nat → Nat} {cg : Nat → ClassId} {kA : String → Nat → Nat} {ca : Nat → Nat} {M S1 : CS} {r : Int32} {t : Nat} {a1 : Int32} (hkt : kc t = 11) (hf : fX2_passHours M t a1 = some (r, S1)) : gMetI l yX2_passHours cX2_passHours 4 (some .int) 5 (cΩ ca) (cP dC dI cg kA ca) (kR kTab kA) [.ref (ca t), .int a1] M r S1 := gEntryI (ty := .int) (by decide) rfl rfl cOK (Nat.le_of_ble_eq_true rfl) (fun p e s m args below meth c Q ls X hP hS hret hl => 
  kX2_passHours_0 X hret hkt hf hP hS (lv_sub hl [0, 1] rfl))
set_option maxRecDepth 10000 in
theorem kX8_appendWords_25 {S1 : CS} {a1 : List Int32} {M : CS} {H : Heap} {locs : List Loc} {ls : Array Slot} (X : gX p s m args c cX8_appendWords 3 RX8 (kR kTab kA)) (hret : gRetV p l e (rmL 5 0 0) s m args below meth c cX8_appendWords (cΩ ca) (cP dC dI cg kA ca) Q S1) {wa1 : Nat} (hwa1 : strAt wa1 a1 (cΩ ca) s s.heap) (hf : fX8_appendWords_25 a1 M = some S1) (hP : (cP dC dI cg kA ca) M s H) (hS : va_S (Fr (cΩ ca) s.heap.size) s.heap H locs) (hl : lv_has ls 3 [(0, .ref (ca 1))]) : W p l e (rmL 5 0 0) s m args below meth c H locs 0 0 Q (F0 m 25 ls []) := by
  have hx := X.hx
  have hb := X.hb
  have hown := X.hown
  have hts := X.hts
  rw [fX8_appendWords_25] at hf
  cases hf
  exact hret _ _ _ _ dX8_appendWords_25 hP hS
set_option maxRecDepth 10000 in
theorem kX8_appendWords_19 {S1 : CS} {a1 : List Int32} {K2 : CS → Int32 → Option (CS)} {M : CS} {x2 : Int32} {H : Heap} {locs : List Loc} {ls : Array Slot} (X : gX p s m args c cX8_appendWords 3 RX8 (kR kTab kA)) (hret : gRetV p l e (rmL 5 0 0) s m args below meth c cX8_appendWords (cΩ ca) (cP dC dI cg kA ca) Q S1) {wa1 : Nat} (hwa1 : strAt wa1 a1 (cΩ ca) s s.heap) (hK2 : ∀ (M : CS) (x2 : Int32) (H : Heap) (locs : List Loc) (ls : Array Slot), K2 M x2 = some S1 → (cP dC dI cg kA ca) M s H → va_S (Fr (cΩ ca) s.heap.size) s.heap H locs → lv_has ls 3 [(0, .ref (ca 1)), (1, .ref wa1), (2, .int x2)] → W p l e (rmL 5 0 0) s m args below meth c H locs 0 0 Q (F0 m 2 ls [])) (hf : fX8_appendWords_19 a1 K2 M x2 = some S1) (hP : (cP dC dI cg kA ca) M s H) (hS : va_S (Fr (cΩ ca) s.heap.size) s.heap H locs) (hl : lv_has ls 3 [(0, .ref (ca 1)), (1, .ref wa1), (2, .int x2)]) : W p l e (rmL 5 0 0) s m args below meth c H locs 0 0 Q (F0 m 19 ls []) := by
  have hx := X.hx
  have hb := X.hb
  have hown := X.hown
  have hts := X.hts
  rw [fX8_appendWords_19] at hf
  refine lv_iinc (v := (x2 + 1)) (lv' := [(2, .int (x2 + 1)), (0, .ref (ca 1)), (1, .ref wa1)]) hx hb dX8_appendWords_19 hl (k := 2) rfl (by rfl) (by decide) rfl (fun ls hl => ?_)
  refine lv_goto (tgt := 2) hx hb dX8_appendWords_22 (by decide) ?_
  exact hK2 _ _ _ _ _ hf hP hS (lv_sub hl [1, 2, 0] rfl)
set_option maxRecDepth 10000 in
theorem kX8_appendWords_10 {S1 : CS} {a1 : List Int32} {K2 : CS → Int32 → Option (CS)} {M : CS} {x2 : Int32} {H : Heap} {locs : List Loc} {ls : Array Slot} (X : gX p s m args c cX8_appendWords 3 RX8 (kR kTab kA)) (hret : gRetV p l e (rmL 5 0 0) s m args below meth c cX8_appendWords (cΩ ca) (cP dC dI cg kA ca) Q S1) {wa1 : Nat} (hwa1 : strAt wa1 a1 (cΩ ca) s s.heap) (hK2 : ∀ (M : CS) (x2 : Int32) (H : Heap) (locs : List Loc) (ls : Array Slot), K2 M x2 = some S1 → (cP dC dI cg kA ca) M s H → va_S (Fr (cΩ ca) s.heap.size) s.heap H locs → lv_has ls 3 [(0, .ref (ca 1)), (1, .ref wa1), (2, .int x2)] → W p l e (rmL 5 0 0) s m args below meth c H locs 0 0 Q (F0 m 2 ls [])) (hf : fX8_appendWords_10 a1 K2 M x2 = some S1) (hP : (cP dC dI cg kA ca) M s H) (hS : va_S (Fr (cΩ ca) s.heap.size) s.heap H locs) (hl : lv_has ls 3 [(0, .ref (ca 1)), (1, .ref wa1), (2, .int x2)]) : W p l e (rmL 5 0 0) s m args below meth c H locs 0 0 Q (F0 m 10 ls []) := by
  have hx := X.hx
  have hb := X.hb
  have hown := X.hown
  have hts := X.hts
  rw [fX8_appendWords_10] at hf
  refine lv_aload_n hx hb dX8_appendWords_10 rfl (lv_at hl 0 rfl) ?_
  refine lv_aload_n hx hb dX8_appendWords_11 rfl (lv_at hl 1 rfl) ?_
  refine lv_iload_n hx hb dX8_appendWords_12 rfl (lv_at hl 2 rfl) ?_
  obtain ⟨g1, hf⟩ := gd hf
  refine gCallVR X rfl (vJ0_charAt (Ω := (cΩ ca)) g1 ((hwa1).kept (fr_k hS)).1 ((hwa1).kept (fr_k hS)).2.1) gsRX8_J0_charAt hdJ0_charAt rfl ⟨by decide, by decide⟩ sB_blind (sB_at (ccmp hP) ((hwa1).kept (fr_k hS))) ((hwa1).kept (fr_k hS)).rec hl.1 (Nat.le_of_ble_eq_true rfl) ⟨Nat.zero_le _, Nat.zero_le _⟩ dX8_appendWords_13 (As := [.int x2]) (rest := [.ref (ca 1)]) rfl ?_
  obtain ⟨q, hc, hf⟩ := bd hf
  refine gCallVV X cOK rfl (vX8_append hc) gRX8_X8_append hdX8_append rfl ⟨by decide, by decide⟩ hP hS (cr_rec hP (rfl : kc 1 = 1) rfl cw1 rfl) hl.1 (Nat.le_of_ble_eq_true rfl) ⟨Nat.zero_le _, Nat.zero_le _⟩ dX8_appendWords_16 (As := [.int (a1.getD x2.toNatClampNeg 0)]) (rest := []) rfl (fun H locs hP hS => ?_)
  exact kX8_appendWords_19 X hret hwa1 hK2 hf hP hS (lv_sub hl [0, 1, 2] rfl)
set_option maxRecDepth 10000 in
theorem kX8_appendWords_2 {S1 : CS} {a1 : List Int32} (X : gX p s m args c cX8_appendWords 3 RX8 (kR kTab kA)) (hret : gRetV p l e (rmL 5 0 0) s m args below meth c cX8_appendWords (cΩ ca) (cP dC dI cg kA ca) Q S1) {wa1 : Nat} (hwa1 : strAt wa1 a1 (cΩ ca) s s.heap) : ∀ (n : Nat) (M : CS) (x2 : Int32) (H : Heap) (locs : List Loc) (ls : Array Slot), fX8_appendWords_2 a1 n M x2 = some S1 → (cP dC dI cg kA ca) M s H → va_S (Fr (cΩ ca) s.heap.size) s.heap H locs → lv_has ls 3 [(0, .ref (ca 1)), (1, .ref wa1), (2, .int x2)] → W p l e (rmL 5 0 0) s m args below meth c H locs 0 0 Q (F0 m 2 ls []) := by
  intro n
  induction n with
  | zero => intro M x2 H locs ls hf; cases hf
  | succ k ih =>
    intro M x2 H locs ls hf hP hS hl
    have hx := X.hx
    have hb := X.hb
    have hown := X.hown
    have hts := X.hts
    rw [fX8_appendWords_2] at hf
    try dsimp only at hf
    refine lv_iload_n hx hb dX8_appendWords_2 rfl (lv_at hl 2 rfl) ?_
    refine lv_aload_n hx hb dX8_appendWords_3 rfl (lv_at hl 1 rfl) ?_
    refine gCallVR X rfl (vJ0_length (Ω := (cΩ ca)) (bs := a1)) gsRX8_J0_length hdJ0_length rfl ⟨by decide, by decide⟩ sB_blind (sB_at (ccmp hP) ((hwa1).kept (fr_k hS))) ((hwa1).kept (fr_k hS)).rec hl.1 (Nat.le_of_ble_eq_true rfl) ⟨Nat.zero_le _, Nat.zero_le _⟩ dX8_appendWords_4 (As := []) (rest := [.int x2]) rfl ?_
    refine lv_icmp_ge (tgt := 25) hx hb dX8_appendWords_7 (by decide) (fun c1 => ?_) (fun c1 => ?_)
    · exact kX8_appendWords_25 X hret hwa1 (ifp c1 hf) hP hS (lv_sub hl [0] rfl)
    · exact kX8_appendWords_10 X hret hwa1 ih (ifn c1 hf) hP hS (lv_sub hl [0, 1, 2] rfl)
set_option maxRecDepth 10000 in
theorem kX8_appendWords_0 {S1 : CS} {a1 : List Int32} {M : CS} {H : Heap} {locs : List Loc} {ls : Array Slot} (X : gX p s m args c cX8_appendWords 3 RX8 (kR kTab kA)) (hret : gRetV p l e (rmL 5 0 0) s m args below meth c cX8_appendWords (cΩ ca) (cP dC dI cg kA ca) Q S1) {wa1 : Nat} (hwa1 : strAt wa1 a1 (cΩ ca) s s.heap) (hf : fX8_appendWords_0 a1 M = some S1) (hP : (cP dC dI cg kA ca) M s H) (hS : va_S (Fr (cΩ ca) s.heap.size) s.heap H locs) (hl : lv_has ls 3 [(0, .ref (ca 1)), (1, .ref wa1)]) : W p l e (rmL 5 0 0) s m args below meth c H locs 0 0 Q (F0 m 0 ls []) := by
  have hx := X.hx
  have hb := X.hb
  have hown := X.hown
  have hts := X.hts
  rw [fX8_appendWords_0] at hf
  refine lv_iconst (v := 0) hx hb dX8_appendWords_0 (by decide) ?_
  refine lv_istore_n (lv' := [(2, .int 0), (0, .ref (ca 1)), (1, .ref wa1)]) hx hb dX8_appendWords_1 rfl hl (by decide) rfl (fun ls hl => ?_)
  exact kX8_appendWords_2 X hret hwa1 FU _ _ _ _ _ hf hP hS (lv_sub hl [1, 2, 0] rfl)
theorem vX8_appendWords {l : Launch} {dC : Nat → ClassId} {dI : Nat → Nat → Nat} {cg : Nat → ClassId} {kA : String → Nat → Nat} {ca : Nat → Nat} {M S1 : CS} {a1 : List Int32} {wa1 : Nat} (hf : fX8_appendWords M a1 = some S1) : gMetV l yX8_appendWords cX8_appendWords 3 5 (cΩ ca) (gPS (cP dC dI cg kA ca) (cΩ ca) [(wa1, a1)]) (kR kTab kA) [.ref (ca 1), .ref wa1] M S1 := gEntryV (by decide) (gPS_ok cOK) (Nat.le_of_ble_eq_true rfl) (fun p e s m args below meth c Q ls X hP hS hret hl => 
  kX8_appendWords_0 X (gPS_V hP.2 hret) (hP.2 (wa1, a1) (by simp)) hf hP.1 hS (lv_sub hl [0, 1] rfl))
set_option maxRecDepth 10000 in
theorem kX8_isWord_19 {r : Int32} {a1 : List Int32} {M : CS} (X : gX p s m args c cX8_isWord 3 RX8 (kR kTab kA)) (hret : gRetR p l e (rmL 5 0 0) s m args below meth c cX8_isWord Q r) {wa1 : Nat} (hwa1 : strAt wa1 a1 (cΩ ca) s s.heap) (hf : fX8_isWord_19 a1 M = some r) {ls : Array Slot} (hP : (cP dC dI cg kA ca) M s s.heap) (hl : lv_has ls 3 [(0, .ref (ca 1))]) : W p l e (rmL 5 0 0) s m args below meth c s.heap [] 0 0 Q (F0 m 19 ls []) := by
  have hx := X.hx
  have hb := X.hb
  have hown := X.hown
  have hts := X.hts
  rw [fX8_isWord_19] at hf
  refine lv_iconst (v := 0) hx hb dX8_isWord_19 (by decide) ?_
  cases hf
  exact hret _ _ dX8_isWord_20
set_option maxRecDepth 10000 in
theorem kX8_isWord_58 {r : Int32} {a1 : List Int32} {M : CS} (X : gX p s m args c cX8_isWord 3 RX8 (kR kTab kA)) (hret : gRetR p l e (rmL 5 0 0) s m args below meth c cX8_isWord Q r) {wa1 : Nat} (hwa1 : strAt wa1 a1 (cΩ ca) s s.heap) (hf : fX8_isWord_58 a1 M = some r) {ls : Array Slot} (hP : (cP dC dI cg kA ca) M s s.heap) (hl : lv_has ls 3 [(0, .ref (ca 1))]) : W p l e (rmL 5 0 0) s m args below meth c s.heap [] 0 0 Q (F0 m 58 ls []) := by
  have hx := X.hx
  have hb := X.hb
  have hown := X.hown
  have hts := X.hts
  rw [fX8_isWord_58] at hf
  refine lv_iconst (v := 1) hx hb dX8_isWord_58 (by decide) ?_
  cases hf
  exact hret _ _ dX8_isWord_59
set_option maxRecDepth 10000 in
theorem kX8_isWord_52 {r : Int32} {a1 : List Int32} {K23 : CS → Int32 → Option (Int32)} {M : CS} {x2 : Int32} (X : gX p s m args c cX8_isWord 3 RX8 (kR kTab kA)) (hret : gRetR p l e (rmL 5 0 0) s m args below meth c cX8_isWord Q r) {wa1 : Nat} (hwa1 : strAt wa1 a1 (cΩ ca) s s.heap) (hK23 : ∀ (M : CS) (x2 : Int32) (ls : Array Slot), K23 M x2 = some r → (cP dC dI cg kA ca) M s s.heap → lv_has ls 3 [(0, .ref (ca 1)), (1, .ref wa1), (2, .int x2)] → W p l e (rmL 5 0 0) s m args below meth c s.heap [] 0 0 Q (F0 m 23 ls [])) (hf : fX8_isWord_52 a1 K23 M x2 = some r) {ls : Array Slot} (hP : (cP dC dI cg kA ca) M s s.heap) (hl : lv_has ls 3 [(0, .ref (ca 1)), (1, .ref wa1), (2, .int x2)]) : W p l e (rmL 5 0 0) s m args below meth c s.heap [] 0 0 Q (F0 m 52 ls []) := by
  have hx := X.hx
  have hb := X.hb
  have hown := X.hown
  have hts := X.hts
  rw [fX8_isWord_52] at hf
  refine lv_iinc (v := (x2 + 1)) (lv' := [(2, .int (x2 + 1)), (0, .ref (ca 1)), (1, .ref wa1)]) hx hb dX8_isWord_52 hl (k := 2) rfl (by rfl) (by decide) rfl (fun ls hl => ?_)
  refine lv_goto (tgt := 23) hx hb dX8_isWord_55 (by decide) ?_
  exact hK23 _ _ _ hf hP (lv_sub hl [1, 2, 0] rfl)
set_option maxRecDepth 10000 in
theorem kX8_isWord_50 {r : Int32} {a1 : List Int32} {M : CS} (X : gX p s m args c cX8_isWord 3 RX8 (kR kTab kA)) (hret : gRetR p l e (rmL 5 0 0) s m args below meth c cX8_isWord Q r) {wa1 : Nat} (hwa1 : strAt wa1 a1 (cΩ ca) s s.heap) (hf : fX8_isWord_50 a1 M = some r) {ls : Array Slot} (hP : (cP dC dI cg kA ca) M s s.heap) (hl : lv_has ls 3 [(0, .ref (ca 1))]) : W p l e (rmL 5 0 0) s m args below meth c s.heap [] 0 0 Q (F0 m 50 ls []) := by
  have hx := X.hx
  have hb := X.hb
  have hown := X.hown
  have hts := X.hts
  rw [fX8_isWord_50] at hf
  refine lv_iconst (v := 0) hx hb dX8_isWord_50 (by decide) ?_
  cases hf
  exact hret _ _ dX8_isWord_51
set_option maxRecDepth 10000 in
theorem kX8_isWord_31 {r : Int32} {a1 : List Int32} {K23 : CS → Int32 → Option (Int32)} {M : CS} {x2 : Int32} (X : gX p s m args c cX8_isWord 3 RX8 (kR kTab kA)) (hret : gRetR p l e (rmL 5 0 0) s m args below meth c cX8_isWord Q r) {wa1 : Nat} (hwa1 : strAt wa1 a1 (cΩ ca) s s.heap) (hK23 : ∀ (M : CS) (x2 : Int32) (ls : Array Slot), K23 M x2 = some r → (cP dC dI cg kA ca) M s s.heap → lv_has ls 3 [(0, .ref (ca 1)), (1, .ref wa1), (2, .int x2)] → W p l e (rmL 5 0 0) s m args below meth c s.heap [] 0 0 Q (F0 m 23 ls [])) (hf : fX8_isWord_31 a1 K23 M x2 = some r) {ls : Array Slot} (hP : (cP dC dI cg kA ca) M s s.heap) (hl : lv_has ls 3 [(0, .ref (ca 1)), (1, .ref wa1), (2, .int x2)]) : W p l e (rmL 5 0 0) s m args below meth c s.heap [] 0 0 Q (F0 m 31 ls []) := by
  have hx := X.hx
  have hb := X.hb
  have hown := X.hown
  have hts := X.hts
  rw [fX8_isWord_31] at hf
  refine lv_aload_n hx hb dX8_isWord_31 rfl (lv_at hl 0 rfl) ?_
  refine cr_get (k := 0) X hP (rfl : kc 1 = 1) rfl cv1_0 rfl cinX8 (by decide) rfl tw86 dX8_isWord_32 ?_
  refine lv_aload_n hx hb dX8_isWord_35 rfl (lv_at hl 0 rfl) ?_
  refine cr_get (k := 5) X hP (rfl : kc 1 = 1) rfl cv1_5 rfl cinX8 (by decide) rfl tw93 dX8_isWord_36 ?_
  refine lv_iload_n hx hb dX8_isWord_39 rfl (lv_at hl 2 rfl) ?_
  refine lv_iadd hx hb dX8_isWord_40 ?_
  obtain ⟨g1, hf⟩ := gd hf
  refine cr_bald X hP (rfl : kc 2 = 2) rfl (fun _ => rfl) g1 dX8_isWord_41 ?_
  refine lv_aload_n hx hb dX8_isWord_42 rfl (lv_at hl 1 rfl) ?_
  refine lv_iload_n hx hb dX8_isWord_43 rfl (lv_at hl 2 rfl) ?_
  obtain ⟨g2, hf⟩ := gd hf
  refine gCallVR X rfl (vJ0_charAt (Ω := (cΩ ca)) g2 hwa1.1 hwa1.2.1) gsRX8_J0_charAt hdJ0_charAt rfl ⟨by decide, by decide⟩ sB_blind (sB_at (ccmp hP) hwa1) hwa1.rec hl.1 (Nat.le_of_ble_eq_true rfl) ⟨Nat.zero_le _, Nat.zero_le _⟩ dX8_isWord_44 (As := [.int x2]) (rest := [.int (M.1 2 ((M.1 1 5) + x2).toNatClampNeg)]) rfl ?_
  refine lv_icmp_eq (tgt := 52) hx hb dX8_isWord_47 (by decide) (fun c1 => ?_) (fun c1 => ?_)
  · exact kX8_isWord_52 X hret hwa1 hK23 (ifp c1 hf) hP (lv_sub hl [0, 1, 2] rfl)
  · exact kX8_isWord_50 X hret hwa1 (ifn c1 hf) hP (lv_sub hl [0] rfl)
set_option maxRecDepth 10000 in
theorem kX8_isWord_23 {r : Int32} {a1 : List Int32} (X : gX p s m args c cX8_isWord 3 RX8 (kR kTab kA)) (hret : gRetR p l e (rmL 5 0 0) s m args below meth c cX8_isWord Q r) {wa1 : Nat} (hwa1 : strAt wa1 a1 (cΩ ca) s s.heap) : ∀ (n : Nat) (M : CS) (x2 : Int32) (ls : Array Slot), fX8_isWord_23 a1 n M x2 = some r → (cP dC dI cg kA ca) M s s.heap → lv_has ls 3 [(0, .ref (ca 1)), (1, .ref wa1), (2, .int x2)] → W p l e (rmL 5 0 0) s m args below meth c s.heap [] 0 0 Q (F0 m 23 ls []) := by
  intro n
  induction n with
  | zero => intro M x2 ls hf; cases hf
  | succ k ih =>
    intro M x2 ls hf hP hl
    have hx := X.hx
    have hb := X.hb
    have hown := X.hown
    have hts := X.hts
    rw [fX8_isWord_23] at hf
    try dsimp only at hf
    refine lv_iload_n hx hb dX8_isWord_23 rfl (lv_at hl 2 rfl) ?_
    refine lv_aload_n hx hb dX8_isWord_24 rfl (lv_at hl 1 rfl) ?_
    refine gCallVR X rfl (vJ0_length (Ω := (cΩ ca)) (bs := a1)) gsRX8_J0_length hdJ0_length rfl ⟨by decide, by decide⟩ sB_blind (sB_at (ccmp hP) hwa1) hwa1.rec hl.1 (Nat.le_of_ble_eq_true rfl) ⟨Nat.zero_le _, Nat.zero_le _⟩ dX8_isWord_25 (As := []) (rest := [.int x2]) rfl ?_
    refine lv_icmp_ge (tgt := 58) hx hb dX8_isWord_28 (by decide) (fun c1 => ?_) (fun c1 => ?_)
    · exact kX8_isWord_58 X hret hwa1 (ifp c1 hf) hP (lv_sub hl [0] rfl)
    · exact kX8_isWord_31 X hret hwa1 ih (ifn c1 hf) hP (lv_sub hl [0, 1, 2] rfl)
set_option maxRecDepth 10000 in
theorem kX8_isWord_21 {r : Int32} {a1 : List Int32} {M : CS} (X : gX p s m args c cX8_isWord 3 RX8 (kR kTab kA)) (hret : gRetR p l e (rmL 5 0 0) s m args below meth c cX8_isWord Q r) {wa1 : Nat} (hwa1 : strAt wa1 a1 (cΩ ca) s s.heap) (hf : fX8_isWord_21 a1 M = some r) {ls : Array Slot} (hP : (cP dC dI cg kA ca) M s s.heap) (hl : lv_has ls 3 [(0, .ref (ca 1)), (1, .ref wa1)]) : W p l e (rmL 5 0 0) s m args below meth c s.heap [] 0 0 Q (F0 m 21 ls []) := by
  have hx := X.hx
  have hb := X.hb
  have hown := X.hown
  have hts := X.hts
  rw [fX8_isWord_21] at hf
  refine lv_iconst (v := 0) hx hb dX8_isWord_21 (by decide) ?_
  refine lv_istore_n (lv' := [(2, .int 0), (0, .ref (ca 1)), (1, .ref wa1)]) hx hb dX8_isWord_22 rfl hl (by decide) rfl (fun ls hl => ?_)
  exact kX8_isWord_23 X hret hwa1 FU _ _ _ hf hP (lv_sub hl [1, 2, 0] rfl)
set_option maxRecDepth 10000 in
theorem kX8_isWord_12 {r : Int32} {a1 : List Int32} {M : CS} {s0 : Int32} (X : gX p s m args c cX8_isWord 3 RX8 (kR kTab kA)) (hret : gRetR p l e (rmL 5 0 0) s m args below meth c cX8_isWord Q r) {wa1 : Nat} (hwa1 : strAt wa1 a1 (cΩ ca) s s.heap) (hf : fX8_isWord_12 a1 M s0 = some r) {ls : Array Slot} (hP : (cP dC dI cg kA ca) M s s.heap) (hl : lv_has ls 3 [(0, .ref (ca 1)), (1, .ref wa1)]) : W p l e (rmL 5 0 0) s m args below meth c s.heap [] 0 0 Q (F0 m 12 ls [.int s0]) := by
  have hx := X.hx
  have hb := X.hb
  have hown := X.hown
  have hts := X.hts
  rw [fX8_isWord_12] at hf
  refine lv_aload_n hx hb dX8_isWord_12 rfl (lv_at hl 1 rfl) ?_
  refine gCallVR X rfl (vJ0_length (Ω := (cΩ ca)) (bs := a1)) gsRX8_J0_length hdJ0_length rfl ⟨by decide, by decide⟩ sB_blind (sB_at (ccmp hP) hwa1) hwa1.rec hl.1 (Nat.le_of_ble_eq_true rfl) ⟨Nat.zero_le _, Nat.zero_le _⟩ dX8_isWord_13 (As := []) (rest := [.int s0]) rfl ?_
  refine lv_icmp_eq (tgt := 21) hx hb dX8_isWord_16 (by decide) (fun c1 => ?_) (fun c1 => ?_)
  · exact kX8_isWord_21 X hret hwa1 (ifp c1 hf) hP (lv_sub hl [0, 1] rfl)
  · exact kX8_isWord_19 X hret hwa1 (ifn c1 hf) hP (lv_sub hl [0] rfl)
set_option maxRecDepth 10000 in
theorem kX8_isWord_8 {r : Int32} {a1 : List Int32} {M : CS} (X : gX p s m args c cX8_isWord 3 RX8 (kR kTab kA)) (hret : gRetR p l e (rmL 5 0 0) s m args below meth c cX8_isWord Q r) {wa1 : Nat} (hwa1 : strAt wa1 a1 (cΩ ca) s s.heap) (hf : fX8_isWord_8 a1 M = some r) {ls : Array Slot} (hP : (cP dC dI cg kA ca) M s s.heap) (hl : lv_has ls 3 [(0, .ref (ca 1)), (1, .ref wa1)]) : W p l e (rmL 5 0 0) s m args below meth c s.heap [] 0 0 Q (F0 m 8 ls []) := by
  have hx := X.hx
  have hb := X.hb
  have hown := X.hown
  have hts := X.hts
  rw [fX8_isWord_8] at hf
  refine lv_aload_n hx hb dX8_isWord_8 rfl (lv_at hl 0 rfl) ?_
  obtain ⟨q, hc, hf⟩ := bd hf
  refine gCallVR X rfl (vX8_tokenLength hc) gRX8_X8_tokenLength hdX8_tokenLength rfl ⟨by decide, by decide⟩ (gB_blind cOK) (gB_at cOK X hP) (cr_rec hP (rfl : kc 1 = 1) rfl cw1 rfl) hl.1 (Nat.le_of_ble_eq_true rfl) ⟨Nat.zero_le _, Nat.zero_le _⟩ dX8_isWord_9 (As := []) (rest := []) rfl ?_
  exact kX8_isWord_12 X hret hwa1 hf hP (lv_sub hl [0, 1] rfl)
set_option maxRecDepth 10000 in
theorem kX8_isWord_0 {r : Int32} {a1 : List Int32} {M : CS} (X : gX p s m args c cX8_isWord 3 RX8 (kR kTab kA)) (hret : gRetR p l e (rmL 5 0 0) s m args below meth c cX8_isWord Q r) {wa1 : Nat} (hwa1 : strAt wa1 a1 (cΩ ca) s s.heap) (hf : fX8_isWord_0 a1 M = some r) {ls : Array Slot} (hP : (cP dC dI cg kA ca) M s s.heap) (hl : lv_has ls 3 [(0, .ref (ca 1)), (1, .ref wa1)]) : W p l e (rmL 5 0 0) s m args below meth c s.heap [] 0 0 Q (F0 m 0 ls []) := by
  have hx := X.hx
  have hb := X.hb
  have hown := X.hown
  have hts := X.hts
  rw [fX8_isWord_0] at hf
  refine lv_aload_n hx hb dX8_isWord_0 rfl (lv_at hl 0 rfl) ?_
  refine cr_get (k := 4) X hP (rfl : kc 1 = 1) rfl cv1_4 rfl cinX8 (by decide) rfl tw92 dX8_isWord_1 ?_
  refine lv_iconst (v := 1) hx hb dX8_isWord_4 (by decide) ?_
  refine lv_icmp_ne (tgt := 19) hx hb dX8_isWord_5 (by decide) (fun c1 => ?_) (fun c1 => ?_)
  · exact kX8_isWord_19 X hret hwa1 (ifn c1 hf) hP (lv_sub hl [0] rfl)
  · exact kX8_isWord_8 X hret hwa1 (ifp c1 hf) hP (lv_sub hl [0, 1] rfl)
theorem vX8_isWord {l : Launch} {dC : Nat → ClassId} {dI : Nat → Nat → Nat} {cg : Nat → ClassId} {kA : String → Nat → Nat} {ca : Nat → Nat} {M : CS} {r : Int32} {a1 : List Int32} {wa1 : Nat} (hf : fX8_isWord M a1 = some r) : gMetR l yX8_isWord cX8_isWord 3 (some .boolean) 5 (gBS (cP dC dI cg kA ca) (kR kTab kA) M (cΩ ca) wa1 a1) [.ref (ca 1), .ref wa1] r := gEntryR (ty := .boolean) (by decide) rfl (bq_n hf) (Nat.le_of_ble_eq_true rfl) (fun _ h => h.1.2) (fun p e s m args below meth c Q ls X hB hret hl => 
  kX8_isWord_0 X hret hB.2 (bq_f hf) hB.1.1 (lv_sub hl [0, 1] rfl))
set_option maxRecDepth 10000 in
theorem kX2_apply_45 {r : Int32} {S1 : CS} {t : Nat} {M : CS} {s0 : Int32} {H : Heap} {locs : List Loc} {ls : Array Slot} (X : gX p s m args c cX2_apply 6 RX2 (kR kTab kA)) (hret : gRetI p l e (rmL 6 0 0) s m args below meth c cX2_apply (cΩ ca) (cP dC dI cg kA ca) Q r S1) (hkt : kc t = 11) (hf : fX2_apply_45 t M s0 = some (r, S1)) (hP : (cP dC dI cg kA ca) M s H) (hS : va_S (Fr (cΩ ca) s.heap.size) s.heap H locs) (hl : lv_has ls 6 [(0, .ref (ca t))]) : W p l e (rmL 6 0 0) s m args below meth c H locs 0 0 Q (F0 m 45 ls [.int s0]) := by
  have hx := X.hx
  have hb := X.hb
  have hown := X.hown
  have hts := X.hts
  rw [fX2_apply_45] at hf
  cases hf
  exact hret _ _ _ _ dX2_apply_45 hP hS
set_option maxRecDepth 10000 in
theorem kX2_apply_40 {r : Int32} {S1 : CS} {t : Nat} {M : CS} {x3 : Int32} {H : Heap} {locs : List Loc} {ls : Array Slot} (X : gX p s m args c cX2_apply 6 RX2 (kR kTab kA)) (hret : gRetI p l e (rmL 6 0 0) s m args below meth c cX2_apply (cΩ ca) (cP dC dI cg kA ca) Q r S1) (hkt : kc t = 11) (hf : fX2_apply_40 t M x3 = some (r, S1)) (hP : (cP dC dI cg kA ca) M s H) (hS : va_S (Fr (cΩ ca) s.heap.size) s.heap H locs) (hl : lv_has ls 6 [(0, .ref (ca t)), (3, .int x3)]) : W p l e (rmL 6 0 0) s m args below meth c H locs 0 0 Q (F0 m 40 ls []) := by
  have hx := X.hx
  have hb := X.hb
  have hown := X.hown
  have hts := X.hts
  rw [fX2_apply_40] at hf
  refine lv_aload_n hx hb dX2_apply_40 rfl (lv_at hl 0 rfl) ?_
  refine lv_iload_n hx hb dX2_apply_41 rfl (lv_at hl 1 rfl) ?_
  obtain ⟨q, hc, hf⟩ := bd hf
  refine gCallVI X cOK rfl (vX2_passHours hkt hc) gRX2_X2_passHours hdX2_passHours rfl ⟨by decide, by decide⟩ hP hS (cr_rec hP hkt rfl cw11 rfl) hl.1 (Nat.le_of_ble_eq_true rfl) ⟨Nat.zero_le _, Nat.zero_le _⟩ dX2_apply_42 (As := [.int x3]) (rest := []) rfl (fun H locs hP hS => ?_)
  exact kX2_apply_45 X hret hkt hf hP hS (lv_sub hl [0] rfl)
set_option maxRecDepth 10000 in
theorem kX2_apply_60 {r : Int32} {S1 : CS} {t : Nat} {M : CS} {s0 : Int32} {H : Heap} {locs : List Loc} {ls : Array Slot} (X : gX p s m args c cX2_apply 6 RX2 (kR kTab kA)) (hret : gRetI p l e (rmL 6 0 0) s m args below meth c cX2_apply (cΩ ca) (cP dC dI cg kA ca) Q r S1) (hkt : kc t = 11) (hf : fX2_apply_60 t M s0 = some (r, S1)) (hP : (cP dC dI cg kA ca) M s H) (hS : va_S (Fr (cΩ ca) s.heap.size) s.heap H locs) (hl : lv_has ls 6 [(0, .ref (ca t))]) : W p l e (rmL 6 0 0) s m args below meth c H locs 0 0 Q (F0 m 60 ls [.int s0]) := by
  have hx := X.hx
  have hb := X.hb
  have hown := X.hown
  have hts := X.hts
  rw [fX2_apply_60] at hf
  cases hf
  exact hret _ _ _ _ dX2_apply_60 hP hS
set_option maxRecDepth 10000 in
theorem kX2_apply_56 {r : Int32} {S1 : CS} {t : Nat} {M : CS} {H : Heap} {locs : List Loc} {ls : Array Slot} (X : gX p s m args c cX2_apply 6 RX2 (kR kTab kA)) (hret : gRetI p l e (rmL 6 0 0) s m args below meth c cX2_apply (cΩ ca) (cP dC dI cg kA ca) Q r S1) (hkt : kc t = 11) (hf : fX2_apply_56 t M = some (r, S1)) (hP : (cP dC dI cg kA ca) M s H) (hS : va_S (Fr (cΩ ca) s.heap.size) s.heap H locs) (hl : lv_has ls 6 [(0, .ref (ca t))]) : W p l e (rmL 6 0 0) s m args below meth c H locs 0 0 Q (F0 m 56 ls []) := by
  have hx := X.hx
  have hb := X.hb
  have hown := X.hown
  have hts := X.hts
  rw [fX2_apply_56] at hf
  refine lv_aload_n hx hb dX2_apply_56 rfl (lv_at hl 0 rfl) ?_
  obtain ⟨q, hc, hf⟩ := bd hf
  refine gCallVR X rfl (vX2_openFlaps hkt hc) gRX2_X2_openFlaps hdX2_openFlaps rfl ⟨by decide, by decide⟩ (gB_blind cOK) (gB_at cOK X hP) (cr_rec hP hkt rfl cw11 rfl) hl.1 (Nat.le_of_ble_eq_true rfl) ⟨Nat.zero_le _, Nat.zero_le _⟩ dX2_apply_57 (As := []) (rest := []) rfl ?_
  exact kX2_apply_60 X hret hkt hf hP hS (lv_sub hl [0] rfl)
set_option maxRecDepth 10000 in
theorem kX2_apply_46 {r : Int32} {S1 : CS} {t : Nat} {M : CS} {x2 : Int32} {H : Heap} {locs : List Loc} {ls : Array Slot} (X : gX p s m args c cX2_apply 6 RX2 (kR kTab kA)) (hret : gRetI p l e (rmL 6 0 0) s m args below meth c cX2_apply (cΩ ca) (cP dC dI cg kA ca) Q r S1) (hkt : kc t = 11) (hf : fX2_apply_46 t M x2 = some (r, S1)) (hP : (cP dC dI cg kA ca) M s H) (hS : va_S (Fr (cΩ ca) s.heap.size) s.heap H locs) (hl : lv_has ls 6 [(0, .ref (ca t)), (2, .int x2)]) : W p l e (rmL 6 0 0) s m args below meth c H locs 0 0 Q (F0 m 46 ls []) := by
  have hx := X.hx
  have hb := X.hb
  have hown := X.hown
  have hts := X.hts
  rw [fX2_apply_46] at hf
  refine lv_aload_n hx hb dX2_apply_46 rfl (lv_at hl 0 rfl) ?_
  refine cr_get (k := 1) X hP hkt rfl cv11_1 rfl cinX2 (by decide) rfl tw300 dX2_apply_47 ?_
  refine lv_iload_n hx hb dX2_apply_50 rfl (lv_at hl 1 rfl) ?_
  obtain ⟨g1, hf⟩ := gd hf
  refine cr_aald (f := fun i => (t + 2) + 15 + i) X hP (kc_sacks hkt) rfl (fun _ => rfl) rfl g1 dX2_apply_51 ?_
  refine lv_iconst (v := 1) hx hb dX2_apply_52 (by decide) ?_
  refine cr_put (k := 3) X hP hS (kc_sack (kc_sacks hkt) g1) rfl cs19_3 rfl cinX4 tyX4_ok nmX4 (by decide) rfl rfl (by decide +kernel) (by decide +kernel) tw263 dX2_apply_53 (fun H locs hP hS => ?_)
  exact kX2_apply_56 X hret hkt hf hP hS (lv_sub hl [0] rfl)
set_option maxRecDepth 10000 in
theorem kX2_apply_75 {r : Int32} {S1 : CS} {t : Nat} {M : CS} {s0 : Int32} {H : Heap} {locs : List Loc} {ls : Array Slot} (X : gX p s m args c cX2_apply 6 RX2 (kR kTab kA)) (hret : gRetI p l e (rmL 6 0 0) s m args below meth c cX2_apply (cΩ ca) (cP dC dI cg kA ca) Q r S1) (hkt : kc t = 11) (hf : fX2_apply_75 t M s0 = some (r, S1)) (hP : (cP dC dI cg kA ca) M s H) (hS : va_S (Fr (cΩ ca) s.heap.size) s.heap H locs) (hl : lv_has ls 6 [(0, .ref (ca t))]) : W p l e (rmL 6 0 0) s m args below meth c H locs 0 0 Q (F0 m 75 ls [.int s0]) := by
  have hx := X.hx
  have hb := X.hb
  have hown := X.hown
  have hts := X.hts
  rw [fX2_apply_75] at hf
  cases hf
  exact hret _ _ _ _ dX2_apply_75 hP hS
set_option maxRecDepth 10000 in
theorem kX2_apply_71 {r : Int32} {S1 : CS} {t : Nat} {M : CS} {H : Heap} {locs : List Loc} {ls : Array Slot} (X : gX p s m args c cX2_apply 6 RX2 (kR kTab kA)) (hret : gRetI p l e (rmL 6 0 0) s m args below meth c cX2_apply (cΩ ca) (cP dC dI cg kA ca) Q r S1) (hkt : kc t = 11) (hf : fX2_apply_71 t M = some (r, S1)) (hP : (cP dC dI cg kA ca) M s H) (hS : va_S (Fr (cΩ ca) s.heap.size) s.heap H locs) (hl : lv_has ls 6 [(0, .ref (ca t))]) : W p l e (rmL 6 0 0) s m args below meth c H locs 0 0 Q (F0 m 71 ls []) := by
  have hx := X.hx
  have hb := X.hb
  have hown := X.hown
  have hts := X.hts
  rw [fX2_apply_71] at hf
  refine lv_aload_n hx hb dX2_apply_71 rfl (lv_at hl 0 rfl) ?_
  obtain ⟨q, hc, hf⟩ := bd hf
  refine gCallVR X rfl (vX2_openFlaps hkt hc) gRX2_X2_openFlaps hdX2_openFlaps rfl ⟨by decide, by decide⟩ (gB_blind cOK) (gB_at cOK X hP) (cr_rec hP hkt rfl cw11 rfl) hl.1 (Nat.le_of_ble_eq_true rfl) ⟨Nat.zero_le _, Nat.zero_le _⟩ dX2_apply_72 (As := []) (rest := []) rfl ?_
  exact kX2_apply_75 X hret hkt hf hP hS (lv_sub hl [0] rfl)
set_option maxRecDepth 10000 in
theorem kX2_apply_61 {r : Int32} {S1 : CS} {t : Nat} {M : CS} {x2 : Int32} {H : Heap} {locs : List Loc} {ls : Array Slot} (X : gX p s m args c cX2_apply 6 RX2 (kR kTab kA)) (hret : gRetI p l e (rmL 6 0 0) s m args below meth c cX2_apply (cΩ ca) (cP dC dI cg kA ca) Q r S1) (hkt : kc t = 11) (hf : fX2_apply_61 t M x2 = some (r, S1)) (hP : (cP dC dI cg kA ca) M s H) (hS : va_S (Fr (cΩ ca) s.heap.size) s.heap H locs) (hl : lv_has ls 6 [(0, .ref (ca t)), (2, .int x2)]) : W p l e (rmL 6 0 0) s m args below meth c H locs 0 0 Q (F0 m 61 ls []) := by
  have hx := X.hx
  have hb := X.hb
  have hown := X.hown
  have hts := X.hts
  rw [fX2_apply_61] at hf
  refine lv_aload_n hx hb dX2_apply_61 rfl (lv_at hl 0 rfl) ?_
  refine cr_get (k := 1) X hP hkt rfl cv11_1 rfl cinX2 (by decide) rfl tw300 dX2_apply_62 ?_
  refine lv_iload_n hx hb dX2_apply_65 rfl (lv_at hl 1 rfl) ?_
  obtain ⟨g1, hf⟩ := gd hf
  refine cr_aald (f := fun i => (t + 2) + 15 + i) X hP (kc_sacks hkt) rfl (fun _ => rfl) rfl g1 dX2_apply_66 ?_
  refine lv_iconst (v := 0) hx hb dX2_apply_67 (by decide) ?_
  refine cr_put (k := 3) X hP hS (kc_sack (kc_sacks hkt) g1) rfl cs19_3 rfl cinX4 tyX4_ok nmX4 (by decide) rfl rfl (by decide +kernel) (by decide +kernel) tw263 dX2_apply_68 (fun H locs hP hS => ?_)
  exact kX2_apply_71 X hret hkt hf hP hS (lv_sub hl [0] rfl)
set_option maxRecDepth 10000 in
theorem kX2_apply_104 {r : Int32} {S1 : CS} {t : Nat} {M : CS} {x2 : Int32} {H : Heap} {locs : List Loc} {ls : Array Slot} (X : gX p s m args c cX2_apply 6 RX2 (kR kTab kA)) (hret : gRetI p l e (rmL 6 0 0) s m args below meth c cX2_apply (cΩ ca) (cP dC dI cg kA ca) Q r S1) (hkt : kc t = 11) (hf : fX2_apply_104 t M x2 = some (r, S1)) (hP : (cP dC dI cg kA ca) M s H) (hS : va_S (Fr (cΩ ca) s.heap.size) s.heap H locs) (hl : lv_has ls 6 [(0, .ref (ca t)), (2, .int x2)]) : W p l e (rmL 6 0 0) s m args below meth c H locs 0 0 Q (F0 m 104 ls []) := by
  have hx := X.hx
  have hb := X.hb
  have hown := X.hown
  have hts := X.hts
  rw [fX2_apply_104] at hf
  refine lv_aload_n hx hb dX2_apply_104 rfl (lv_at hl 0 rfl) ?_
  refine cr_get (k := 1) X hP hkt rfl cv11_1 rfl cinX2 (by decide) rfl tw300 dX2_apply_105 ?_
  refine lv_iload_n hx hb dX2_apply_108 rfl (lv_at hl 1 rfl) ?_
  obtain ⟨g1, hf⟩ := gd hf
  refine cr_aald (f := fun i => (t + 2) + 15 + i) X hP (kc_sacks hkt) rfl (fun _ => rfl) rfl g1 dX2_apply_109 ?_
  refine cr_get (k := 2) X hP (kc_sack (kc_sacks hkt) g1) rfl cv19_2 rfl cinX4 (by decide) rfl tw259 dX2_apply_110 ?_
  cases hf
  exact hret _ _ _ _ dX2_apply_113 hP hS
set_option maxRecDepth 10000 in
theorem kX2_apply_91 {r : Int32} {S1 : CS} {t : Nat} {M : CS} {x2 : Int32} {x3 : Int32} {H : Heap} {locs : List Loc} {ls : Array Slot} (X : gX p s m args c cX2_apply 6 RX2 (kR kTab kA)) (hret : gRetI p l e (rmL 6 0 0) s m args below meth c cX2_apply (cΩ ca) (cP dC dI cg kA ca) Q r S1) (hkt : kc t = 11) (hf : fX2_apply_91 t M x2 x3 = some (r, S1)) (hP : (cP dC dI cg kA ca) M s H) (hS : va_S (Fr (cΩ ca) s.heap.size) s.heap H locs) (hl : lv_has ls 6 [(0, .ref (ca t)), (2, .int x2), (3, .int x3)]) : W p l e (rmL 6 0 0) s m args below meth c H locs 0 0 Q (F0 m 91 ls []) := by
  have hx := X.hx
  have hb := X.hb
  have hown := X.hown
  have hts := X.hts
  rw [fX2_apply_91] at hf
  refine lv_aload_n hx hb dX2_apply_91 rfl (lv_at hl 0 rfl) ?_
  refine cr_get (k := 4) X hP hkt rfl cv11_4 rfl cinX2 (by decide) rfl tw306 dX2_apply_92 ?_
  refine lv_dup hx hb dX2_apply_95 rfl ?_
  refine cr_get (k := 6) X hP (kc_totals hkt) rfl cv17_6 rfl cinX9 (by decide) rfl tw189 dX2_apply_96 ?_
  refine lv_iload_n hx hb dX2_apply_99 rfl (lv_at hl 2 rfl) ?_
  refine lv_iadd hx hb dX2_apply_100 ?_
  refine cr_put (k := 6) X hP hS (kc_totals hkt) rfl cs17_6 rfl cinX9 tyX9_ok nmX9 (by decide) rfl rfl rfl rfl tw189 dX2_apply_101 (fun H locs hP hS => ?_)
  exact kX2_apply_104 X hret hkt hf hP hS (lv_sub hl [0, 1] rfl)
set_option maxRecDepth 10000 in
theorem kX2_apply_76 {r : Int32} {S1 : CS} {t : Nat} {M : CS} {x2 : Int32} {x3 : Int32} {H : Heap} {locs : List Loc} {ls : Array Slot} (X : gX p s m args c cX2_apply 6 RX2 (kR kTab kA)) (hret : gRetI p l e (rmL 6 0 0) s m args below meth c cX2_apply (cΩ ca) (cP dC dI cg kA ca) Q r S1) (hkt : kc t = 11) (hf : fX2_apply_76 t M x2 x3 = some (r, S1)) (hP : (cP dC dI cg kA ca) M s H) (hS : va_S (Fr (cΩ ca) s.heap.size) s.heap H locs) (hl : lv_has ls 6 [(0, .ref (ca t)), (2, .int x2), (3, .int x3)]) : W p l e (rmL 6 0 0) s m args below meth c H locs 0 0 Q (F0 m 76 ls []) := by
  have hx := X.hx
  have hb := X.hb
  have hown := X.hown
  have hts := X.hts
  rw [fX2_apply_76] at hf
  refine lv_aload_n hx hb dX2_apply_76 rfl (lv_at hl 0 rfl) ?_
  refine cr_get (k := 1) X hP hkt rfl cv11_1 rfl cinX2 (by decide) rfl tw300 dX2_apply_77 ?_
  refine lv_iload_n hx hb dX2_apply_80 rfl (lv_at hl 1 rfl) ?_
  obtain ⟨g1, hf⟩ := gd hf
  refine cr_aald (f := fun i => (t + 2) + 15 + i) X hP (kc_sacks hkt) rfl (fun _ => rfl) rfl g1 dX2_apply_81 ?_
  refine lv_dup hx hb dX2_apply_82 rfl ?_
  refine cr_get (k := 2) X hP (kc_sack (kc_sacks hkt) g1) rfl cv19_2 rfl cinX4 (by decide) rfl tw259 dX2_apply_83 ?_
  refine lv_iload_n hx hb dX2_apply_86 rfl (lv_at hl 2 rfl) ?_
  refine lv_iadd hx hb dX2_apply_87 ?_
  refine cr_put (k := 2) X hP hS (kc_sack (kc_sacks hkt) g1) rfl cs19_2 rfl cinX4 tyX4_ok nmX4 (by decide) rfl rfl rfl rfl tw259 dX2_apply_88 (fun H locs hP hS => ?_)
  exact kX2_apply_91 X hret hkt hf hP hS (lv_sub hl [0, 1, 2] rfl)
set_option maxRecDepth 10000 in
theorem kX2_apply_142 {r : Int32} {S1 : CS} {t : Nat} {M : CS} {x2 : Int32} {H : Heap} {locs : List Loc} {ls : Array Slot} (X : gX p s m args c cX2_apply 6 RX2 (kR kTab kA)) (hret : gRetI p l e (rmL 6 0 0) s m args below meth c cX2_apply (cΩ ca) (cP dC dI cg kA ca) Q r S1) (hkt : kc t = 11) (hf : fX2_apply_142 t M x2 = some (r, S1)) (hP : (cP dC dI cg kA ca) M s H) (hS : va_S (Fr (cΩ ca) s.heap.size) s.heap H locs) (hl : lv_has ls 6 [(0, .ref (ca t)), (2, .int x2)]) : W p l e (rmL 6 0 0) s m args below meth c H locs 0 0 Q (F0 m 142 ls []) := by
  have hx := X.hx
  have hb := X.hb
  have hown := X.hown
  have hts := X.hts
  rw [fX2_apply_142] at hf
  refine lv_aload_n hx hb dX2_apply_142 rfl (lv_at hl 0 rfl) ?_
  refine cr_get (k := 1) X hP hkt rfl cv11_1 rfl cinX2 (by decide) rfl tw300 dX2_apply_143 ?_
  refine lv_iload_n hx hb dX2_apply_146 rfl (lv_at hl 1 rfl) ?_
  obtain ⟨g1, hf⟩ := gd hf
  refine cr_aald (f := fun i => (t + 2) + 15 + i) X hP (kc_sacks hkt) rfl (fun _ => rfl) rfl g1 dX2_apply_147 ?_
  refine cr_get (k := 1) X hP (kc_sack (kc_sacks hkt) g1) rfl cv19_1 rfl cinX4 (by decide) rfl tw256 dX2_apply_148 ?_
  cases hf
  exact hret _ _ _ _ dX2_apply_151 hP hS
set_option maxRecDepth 10000 in
theorem kX2_apply_129 {r : Int32} {S1 : CS} {t : Nat} {M : CS} {x2 : Int32} {x3 : Int32} {H : Heap} {locs : List Loc} {ls : Array Slot} (X : gX p s m args c cX2_apply 6 RX2 (kR kTab kA)) (hret : gRetI p l e (rmL 6 0 0) s m args below meth c cX2_apply (cΩ ca) (cP dC dI cg kA ca) Q r S1) (hkt : kc t = 11) (hf : fX2_apply_129 t M x2 x3 = some (r, S1)) (hP : (cP dC dI cg kA ca) M s H) (hS : va_S (Fr (cΩ ca) s.heap.size) s.heap H locs) (hl : lv_has ls 6 [(0, .ref (ca t)), (2, .int x2), (3, .int x3)]) : W p l e (rmL 6 0 0) s m args below meth c H locs 0 0 Q (F0 m 129 ls []) := by
  have hx := X.hx
  have hb := X.hb
  have hown := X.hown
  have hts := X.hts
  rw [fX2_apply_129] at hf
  refine lv_aload_n hx hb dX2_apply_129 rfl (lv_at hl 0 rfl) ?_
  refine cr_get (k := 4) X hP hkt rfl cv11_4 rfl cinX2 (by decide) rfl tw306 dX2_apply_130 ?_
  refine lv_dup hx hb dX2_apply_133 rfl ?_
  refine cr_get (k := 7) X hP (kc_totals hkt) rfl cv17_7 rfl cinX9 (by decide) rfl tw191 dX2_apply_134 ?_
  refine lv_iload_n hx hb dX2_apply_137 rfl (lv_at hl 2 rfl) ?_
  refine lv_iadd hx hb dX2_apply_138 ?_
  refine cr_put (k := 7) X hP hS (kc_totals hkt) rfl cs17_7 rfl cinX9 tyX9_ok nmX9 (by decide) rfl rfl rfl rfl tw191 dX2_apply_139 (fun H locs hP hS => ?_)
  exact kX2_apply_142 X hret hkt hf hP hS (lv_sub hl [0, 1] rfl)
set_option maxRecDepth 10000 in
theorem kX2_apply_114 {r : Int32} {S1 : CS} {t : Nat} {M : CS} {x2 : Int32} {x3 : Int32} {H : Heap} {locs : List Loc} {ls : Array Slot} (X : gX p s m args c cX2_apply 6 RX2 (kR kTab kA)) (hret : gRetI p l e (rmL 6 0 0) s m args below meth c cX2_apply (cΩ ca) (cP dC dI cg kA ca) Q r S1) (hkt : kc t = 11) (hf : fX2_apply_114 t M x2 x3 = some (r, S1)) (hP : (cP dC dI cg kA ca) M s H) (hS : va_S (Fr (cΩ ca) s.heap.size) s.heap H locs) (hl : lv_has ls 6 [(0, .ref (ca t)), (2, .int x2), (3, .int x3)]) : W p l e (rmL 6 0 0) s m args below meth c H locs 0 0 Q (F0 m 114 ls []) := by
  have hx := X.hx
  have hb := X.hb
  have hown := X.hown
  have hts := X.hts
  rw [fX2_apply_114] at hf
  refine lv_aload_n hx hb dX2_apply_114 rfl (lv_at hl 0 rfl) ?_
  refine cr_get (k := 1) X hP hkt rfl cv11_1 rfl cinX2 (by decide) rfl tw300 dX2_apply_115 ?_
  refine lv_iload_n hx hb dX2_apply_118 rfl (lv_at hl 1 rfl) ?_
  obtain ⟨g1, hf⟩ := gd hf
  refine cr_aald (f := fun i => (t + 2) + 15 + i) X hP (kc_sacks hkt) rfl (fun _ => rfl) rfl g1 dX2_apply_119 ?_
  refine lv_dup hx hb dX2_apply_120 rfl ?_
  refine cr_get (k := 1) X hP (kc_sack (kc_sacks hkt) g1) rfl cv19_1 rfl cinX4 (by decide) rfl tw256 dX2_apply_121 ?_
  refine lv_iload_n hx hb dX2_apply_124 rfl (lv_at hl 2 rfl) ?_
  refine lv_iadd hx hb dX2_apply_125 ?_
  refine cr_put (k := 1) X hP hS (kc_sack (kc_sacks hkt) g1) rfl cs19_1 rfl cinX4 tyX4_ok nmX4 (by decide) rfl rfl rfl rfl tw256 dX2_apply_126 (fun H locs hP hS => ?_)
  exact kX2_apply_129 X hret hkt hf hP hS (lv_sub hl [0, 1, 2] rfl)
set_option maxRecDepth 10000 in
theorem kX2_apply_163 {r : Int32} {S1 : CS} {t : Nat} {M : CS} {x4 : Int32} {H : Heap} {locs : List Loc} {ls : Array Slot} (X : gX p s m args c cX2_apply 6 RX2 (kR kTab kA)) (hret : gRetI p l e (rmL 6 0 0) s m args below meth c cX2_apply (cΩ ca) (cP dC dI cg kA ca) Q r S1) (hkt : kc t = 11) (hf : fX2_apply_163 t M x4 = some (r, S1)) (hP : (cP dC dI cg kA ca) M s H) (hS : va_S (Fr (cΩ ca) s.heap.size) s.heap H locs) (hl : lv_has ls 6 [(0, .ref (ca t)), (4, .int x4)]) : W p l e (rmL 6 0 0) s m args below meth c H locs 0 0 Q (F0 m 163 ls []) := by
  have hx := X.hx
  have hb := X.hb
  have hown := X.hown
  have hts := X.hts
  rw [fX2_apply_163] at hf
  refine lv_iload hx hb dX2_apply_163 (lv_at hl 1 rfl) ?_
  cases hf
  exact hret _ _ _ _ dX2_apply_165 hP hS
set_option maxRecDepth 10000 in
theorem kX2_apply_152 {r : Int32} {S1 : CS} {t : Nat} {M : CS} {H : Heap} {locs : List Loc} {ls : Array Slot} (X : gX p s m args c cX2_apply 6 RX2 (kR kTab kA)) (hret : gRetI p l e (rmL 6 0 0) s m args below meth c cX2_apply (cΩ ca) (cP dC dI cg kA ca) Q r S1) (hkt : kc t = 11) (hf : fX2_apply_152 t M = some (r, S1)) (hP : (cP dC dI cg kA ca) M s H) (hS : va_S (Fr (cΩ ca) s.heap.size) s.heap H locs) (hl : lv_has ls 6 [(0, .ref (ca t))]) : W p l e (rmL 6 0 0) s m args below meth c H locs 0 0 Q (F0 m 152 ls []) := by
  have hx := X.hx
  have hb := X.hb
  have hown := X.hown
  have hts := X.hts
  rw [fX2_apply_152] at hf
  refine lv_aload_n hx hb dX2_apply_152 rfl (lv_at hl 0 rfl) ?_
  refine cr_get (k := 8) X hP hkt rfl cv11_8 rfl cinX2 (by decide) rfl tw316 dX2_apply_153 ?_
  refine lv_istore (lv' := [(4, .int (M.1 t 8)), (0, .ref (ca t))]) hx hb dX2_apply_156 hl (by decide) rfl (fun ls hl => ?_)
  refine lv_aload_n hx hb dX2_apply_158 rfl (lv_at hl 1 rfl) ?_
  refine lv_iconst (v := (-1)) hx hb dX2_apply_159 (by decide) ?_
  refine cr_put (k := 8) X hP hS hkt rfl cs11_8 rfl cinX2 tyX2_ok nmX2 (by decide) rfl rfl rfl rfl tw316 dX2_apply_160 (fun H locs hP hS => ?_)
  exact kX2_apply_163 X hret hkt hf hP hS (lv_sub hl [1, 0] rfl)
set_option maxRecDepth 10000 in
theorem kX2_apply_177 {r : Int32} {S1 : CS} {t : Nat} {M : CS} {x5 : Int32} {H : Heap} {locs : List Loc} {ls : Array Slot} (X : gX p s m args c cX2_apply 6 RX2 (kR kTab kA)) (hret : gRetI p l e (rmL 6 0 0) s m args below meth c cX2_apply (cΩ ca) (cP dC dI cg kA ca) Q r S1) (hkt : kc t = 11) (hf : fX2_apply_177 t M x5 = some (r, S1)) (hP : (cP dC dI cg kA ca) M s H) (hS : va_S (Fr (cΩ ca) s.heap.size) s.heap H locs) (hl : lv_has ls 6 [(0, .ref (ca t)), (5, .int x5)]) : W p l e (rmL 6 0 0) s m args below meth c H locs 0 0 Q (F0 m 177 ls []) := by
  have hx := X.hx
  have hb := X.hb
  have hown := X.hown
  have hts := X.hts
  rw [fX2_apply_177] at hf
  refine lv_iload hx hb dX2_apply_177 (lv_at hl 1 rfl) ?_
  cases hf
  exact hret _ _ _ _ dX2_apply_179 hP hS
set_option maxRecDepth 10000 in
theorem kX2_apply_166 {r : Int32} {S1 : CS} {t : Nat} {M : CS} {x3 : Int32} {H : Heap} {locs : List Loc} {ls : Array Slot} (X : gX p s m args c cX2_apply 6 RX2 (kR kTab kA)) (hret : gRetI p l e (rmL 6 0 0) s m args below meth c cX2_apply (cΩ ca) (cP dC dI cg kA ca) Q r S1) (hkt : kc t = 11) (hf : fX2_apply_166 t M x3 = some (r, S1)) (hP : (cP dC dI cg kA ca) M s H) (hS : va_S (Fr (cΩ ca) s.heap.size) s.heap H locs) (hl : lv_has ls 6 [(0, .ref (ca t)), (3, .int x3)]) : W p l e (rmL 6 0 0) s m args below meth c H locs 0 0 Q (F0 m 166 ls []) := by
  have hx := X.hx
  have hb := X.hb
  have hown := X.hown
  have hts := X.hts
  rw [fX2_apply_166] at hf
  refine lv_aload_n hx hb dX2_apply_166 rfl (lv_at hl 0 rfl) ?_
  refine cr_get (k := 11) X hP hkt rfl cv11_11 rfl cinX2 (by decide) rfl tw322 dX2_apply_167 ?_
  refine lv_istore (lv' := [(5, .int (M.1 t 11)), (0, .ref (ca t)), (3, .int x3)]) hx hb dX2_apply_170 hl (by decide) rfl (fun ls hl => ?_)
  refine lv_aload_n hx hb dX2_apply_172 rfl (lv_at hl 1 rfl) ?_
  refine lv_iload_n hx hb dX2_apply_173 rfl (lv_at hl 2 rfl) ?_
  refine cr_put (k := 11) X hP hS hkt rfl cs11_11 rfl cinX2 tyX2_ok nmX2 (by decide) rfl rfl rfl rfl tw322 dX2_apply_174 (fun H locs hP hS => ?_)
  exact kX2_apply_177 X hret hkt hf hP hS (lv_sub hl [1, 0] rfl)
set_option maxRecDepth 10000 in
theorem kX2_apply_0 {r : Int32} {S1 : CS} {t : Nat} {M : CS} {a1 : Int32} {a2 : Int32} {a3 : Int32} {H : Heap} {locs : List Loc} {ls : Array Slot} (X : gX p s m args c cX2_apply 6 RX2 (kR kTab kA)) (hret : gRetI p l e (rmL 6 0 0) s m args below meth c cX2_apply (cΩ ca) (cP dC dI cg kA ca) Q r S1) (hkt : kc t = 11) (hf : fX2_apply_0 t M a1 a2 a3 = some (r, S1)) (hP : (cP dC dI cg kA ca) M s H) (hS : va_S (Fr (cΩ ca) s.heap.size) s.heap H locs) (hl : lv_has ls 6 [(0, .ref (ca t)), (1, .int a1), (2, .int a2), (3, .int a3)]) : W p l e (rmL 6 0 0) s m args below meth c H locs 0 0 Q (F0 m 0 ls []) := by
  have hx := X.hx
  have hb := X.hb
  have hown := X.hown
  have hts := X.hts
  rw [fX2_apply_0] at hf
  refine lv_iload_n hx hb dX2_apply_0 rfl (lv_at hl 1 rfl) ?_
  by_cases c0 : a1 = 0
  · refine lv_tableIn (off := 39) (tgt := 40) hx hb dX2_apply_1 (by rw [c0]; decide) (by rw [c0]; decide) (by rw [c0]; rfl) (by decide) ?_
    exact kX2_apply_40 X hret hkt (ifp c0 hf) hP hS (lv_sub hl [0, 3] rfl)
  replace hf := ifn c0 hf
  by_cases c1 : a1 = 1
  · refine lv_tableIn (off := 45) (tgt := 46) hx hb dX2_apply_1 (by rw [c1]; decide) (by rw [c1]; decide) (by rw [c1]; rfl) (by decide) ?_
    exact kX2_apply_46 X hret hkt (ifp c1 hf) hP hS (lv_sub hl [0, 2] rfl)
  replace hf := ifn c1 hf
  by_cases c2 : a1 = 2
  · refine lv_tableIn (off := 60) (tgt := 61) hx hb dX2_apply_1 (by rw [c2]; decide) (by rw [c2]; decide) (by rw [c2]; rfl) (by decide) ?_
    exact kX2_apply_61 X hret hkt (ifp c2 hf) hP hS (lv_sub hl [0, 2] rfl)
  replace hf := ifn c2 hf
  by_cases c3 : a1 = 3
  · refine lv_tableIn (off := 75) (tgt := 76) hx hb dX2_apply_1 (by rw [c3]; decide) (by rw [c3]; decide) (by rw [c3]; rfl) (by decide) ?_
    exact kX2_apply_76 X hret hkt (ifp c3 hf) hP hS (lv_sub hl [0, 2, 3] rfl)
  replace hf := ifn c3 hf
  by_cases c4 : a1 = 4
  · refine lv_tableIn (off := 113) (tgt := 114) hx hb dX2_apply_1 (by rw [c4]; decide) (by rw [c4]; decide) (by rw [c4]; rfl) (by decide) ?_
    exact kX2_apply_114 X hret hkt (ifp c4 hf) hP hS (lv_sub hl [0, 2, 3] rfl)
  replace hf := ifn c4 hf
  by_cases c5 : a1 = 5
  · refine lv_tableIn (off := 151) (tgt := 152) hx hb dX2_apply_1 (by rw [c5]; decide) (by rw [c5]; decide) (by rw [c5]; rfl) (by decide) ?_
    exact kX2_apply_152 X hret hkt (ifp c5 hf) hP hS (lv_sub hl [0] rfl)
  replace hf := ifn c5 hf
  refine lv_tableOut (tgt := 166) hx hb dX2_apply_1 (sw_out 0 5 (by decide) (by decide) (fun k h1 h2 h3 => by have hk : k = 0 ∨ k = 1 ∨ k = 2 ∨ k = 3 ∨ k = 4 ∨ k = 5 := (by omega); rcases hk with rfl | rfl | rfl | rfl | rfl | rfl <;> first | exact c0 (h3.trans (by decide)) | exact c1 (h3.trans (by decide)) | exact c2 (h3.trans (by decide)) | exact c3 (h3.trans (by decide)) | exact c4 (h3.trans (by decide)) | exact c5 (h3.trans (by decide)))) (by decide) ?_
  exact kX2_apply_166 X hret hkt hf hP hS (lv_sub hl [0, 3] rfl)
theorem vX2_apply {l : Launch} {dC : Nat → ClassId} {dI : Nat → Nat → Nat} {cg : Nat → ClassId} {kA : String → Nat → Nat} {ca : Nat → Nat} {M S1 : CS} {r : Int32} {t : Nat} {a1 : Int32} {a2 : Int32} {a3 : Int32} (hkt : kc t = 11) (hf : fX2_apply M t a1 a2 a3 = some (r, S1)) : gMetI l yX2_apply cX2_apply 6 (some .int) 6 (cΩ ca) (cP dC dI cg kA ca) (kR kTab kA) [.ref (ca t), .int a1, .int a2, .int a3] M r S1 := gEntryI (ty := .int) (by decide) rfl rfl cOK (Nat.le_of_ble_eq_true rfl) (fun p e s m args below meth c Q ls X hP hS hret hl => 
  kX2_apply_0 X hret hkt hf hP hS (lv_sub hl [0, 1, 2, 3] rfl))
set_option maxRecDepth 10000 in
theorem kX2_catNamed_34 {r : Int32} {t : Nat} {M : CS} (X : gX p s m args c cX2_catNamed 3 RX2 (kR kTab kA)) (hret : gRetR p l e (rmL 6 0 0) s m args below meth c cX2_catNamed Q r) (hkt : kc t = 11) (hf : fX2_catNamed_34 t M = some r) {ls : Array Slot} (hP : (cP dC dI cg kA ca) M s s.heap) (hl : lv_has ls 3 [(0, .ref (ca t))]) : W p l e (rmL 6 0 0) s m args below meth c s.heap [] 0 0 Q (F0 m 34 ls []) := by
  have hx := X.hx
  have hb := X.hb
  have hown := X.hown
  have hts := X.hts
  rw [fX2_catNamed_34] at hf
  refine lv_iconst (v := (-1)) hx hb dX2_catNamed_34 (by decide) ?_
  cases hf
  exact hret _ _ dX2_catNamed_35
set_option maxRecDepth 10000 in
theorem kX2_catNamed_28 {r : Int32} {t : Nat} {K2 : CS → Int32 → Option (Int32)} {M : CS} {x2 : Int32} (X : gX p s m args c cX2_catNamed 3 RX2 (kR kTab kA)) (hret : gRetR p l e (rmL 6 0 0) s m args below meth c cX2_catNamed Q r) (hkt : kc t = 11) (hK2 : ∀ (M : CS) (x2 : Int32) (ls : Array Slot), K2 M x2 = some r → (cP dC dI cg kA ca) M s s.heap → lv_has ls 3 [(0, .ref (ca t)), (1, .ref (ca 1)), (2, .int x2)] → W p l e (rmL 6 0 0) s m args below meth c s.heap [] 0 0 Q (F0 m 2 ls [])) (hf : fX2_catNamed_28 t K2 M x2 = some r) {ls : Array Slot} (hP : (cP dC dI cg kA ca) M s s.heap) (hl : lv_has ls 3 [(0, .ref (ca t)), (1, .ref (ca 1)), (2, .int x2)]) : W p l e (rmL 6 0 0) s m args below meth c s.heap [] 0 0 Q (F0 m 28 ls []) := by
  have hx := X.hx
  have hb := X.hb
  have hown := X.hown
  have hts := X.hts
  rw [fX2_catNamed_28] at hf
  refine lv_iinc (v := (x2 + 1)) (lv' := [(2, .int (x2 + 1)), (0, .ref (ca t)), (1, .ref (ca 1))]) hx hb dX2_catNamed_28 hl (k := 2) rfl (by rfl) (by decide) rfl (fun ls hl => ?_)
  refine lv_goto (tgt := 2) hx hb dX2_catNamed_31 (by decide) ?_
  exact hK2 _ _ _ hf hP (lv_sub hl [1, 2, 0] rfl)
set_option maxRecDepth 10000 in
theorem kX2_catNamed_26 {r : Int32} {t : Nat} {M : CS} {x2 : Int32} (X : gX p s m args c cX2_catNamed 3 RX2 (kR kTab kA)) (hret : gRetR p l e (rmL 6 0 0) s m args below meth c cX2_catNamed Q r) (hkt : kc t = 11) (hf : fX2_catNamed_26 t M x2 = some r) {ls : Array Slot} (hP : (cP dC dI cg kA ca) M s s.heap) (hl : lv_has ls 3 [(0, .ref (ca t)), (2, .int x2)]) : W p l e (rmL 6 0 0) s m args below meth c s.heap [] 0 0 Q (F0 m 26 ls []) := by
  have hx := X.hx
  have hb := X.hb
  have hown := X.hown
  have hts := X.hts
  rw [fX2_catNamed_26] at hf
  refine lv_iload_n hx hb dX2_catNamed_26 rfl (lv_at hl 1 rfl) ?_
  cases hf
  exact hret _ _ dX2_catNamed_27
set_option maxRecDepth 10000 in
theorem kX2_catNamed_23 {r : Int32} {t : Nat} {K2 : CS → Int32 → Option (Int32)} {M : CS} {x2 : Int32} {s0 : Int32} (X : gX p s m args c cX2_catNamed 3 RX2 (kR kTab kA)) (hret : gRetR p l e (rmL 6 0 0) s m args below meth c cX2_catNamed Q r) (hkt : kc t = 11) (hK2 : ∀ (M : CS) (x2 : Int32) (ls : Array Slot), K2 M x2 = some r → (cP dC dI cg kA ca) M s s.heap → lv_has ls 3 [(0, .ref (ca t)), (1, .ref (ca 1)), (2, .int x2)] → W p l e (rmL 6 0 0) s m args below meth c s.heap [] 0 0 Q (F0 m 2 ls [])) (hf : fX2_catNamed_23 t K2 M x2 s0 = some r) {ls : Array Slot} (hP : (cP dC dI cg kA ca) M s s.heap) (hl : lv_has ls 3 [(0, .ref (ca t)), (1, .ref (ca 1)), (2, .int x2)]) : W p l e (rmL 6 0 0) s m args below meth c s.heap [] 0 0 Q (F0 m 23 ls [.int s0]) := by
  have hx := X.hx
  have hb := X.hb
  have hown := X.hown
  have hts := X.hts
  rw [fX2_catNamed_23] at hf
  refine lv_if_eq (tgt := 28) hx hb dX2_catNamed_23 (by decide) (fun c1 => ?_) (fun c1 => ?_)
  · exact kX2_catNamed_28 X hret hkt hK2 (ifp c1 hf) hP (lv_sub hl [0, 1, 2] rfl)
  · exact kX2_catNamed_26 X hret hkt (ifn c1 hf) hP (lv_sub hl [0, 2] rfl)
set_option maxRecDepth 10000 in
theorem kX2_catNamed_10 {r : Int32} {t : Nat} {K2 : CS → Int32 → Option (Int32)} {M : CS} {x2 : Int32} (X : gX p s m args c cX2_catNamed 3 RX2 (kR kTab kA)) (hret : gRetR p l e (rmL 6 0 0) s m args below meth c cX2_catNamed Q r) (hkt : kc t = 11) (hK2 : ∀ (M : CS) (x2 : Int32) (ls : Array Slot), K2 M x2 = some r → (cP dC dI cg kA ca) M s s.heap → lv_has ls 3 [(0, .ref (ca t)), (1, .ref (ca 1)), (2, .int x2)] → W p l e (rmL 6 0 0) s m args below meth c s.heap [] 0 0 Q (F0 m 2 ls [])) (hf : fX2_catNamed_10 t K2 M x2 = some r) {ls : Array Slot} (hP : (cP dC dI cg kA ca) M s s.heap) (hl : lv_has ls 3 [(0, .ref (ca t)), (1, .ref (ca 1)), (2, .int x2)]) : W p l e (rmL 6 0 0) s m args below meth c s.heap [] 0 0 Q (F0 m 10 ls []) := by
  have hx := X.hx
  have hb := X.hb
  have hown := X.hown
  have hts := X.hts
  rw [fX2_catNamed_10] at hf
  refine lv_aload_n hx hb dX2_catNamed_10 rfl (lv_at hl 1 rfl) ?_
  refine lv_aload_n hx hb dX2_catNamed_11 rfl (lv_at hl 0 rfl) ?_
  refine cr_get (k := 0) X hP hkt rfl cv11_0 rfl cinX2 (by decide) rfl tw297 dX2_catNamed_12 ?_
  refine lv_iload_n hx hb dX2_catNamed_15 rfl (lv_at hl 2 rfl) ?_
  obtain ⟨g1, hf⟩ := gd hf
  refine cr_aald (f := fun i => (t + 1) + 8 + i) X hP (kc_cats hkt) rfl (fun _ => rfl) rfl g1 dX2_catNamed_16 ?_
  refine cr_name X hP (kc_cat (kc_cats hkt) g1) rfl cv18_0 rfl cinX0 (by decide) rfl tw217 dX2_catNamed_17 (fun n1 hn1 => ?_)
  obtain ⟨q, hc, hf⟩ := bd hf
  refine gCallVR X rfl (vX8_isWord hc) gRX2_X8_isWord hdX8_isWord rfl ⟨by decide, by decide⟩ (gBS_blind cOK) (gBS_at cOK X hP hn1) (cr_rec hP (rfl : kc 1 = 1) rfl cw1 rfl) hl.1 (Nat.le_of_ble_eq_true rfl) ⟨Nat.zero_le _, Nat.zero_le _⟩ dX2_catNamed_20 (As := [.ref n1]) (rest := []) rfl ?_
  exact kX2_catNamed_23 X hret hkt hK2 hf hP (lv_sub hl [0, 1, 2] rfl)
set_option maxRecDepth 10000 in
theorem kX2_catNamed_2 {r : Int32} {t : Nat} (X : gX p s m args c cX2_catNamed 3 RX2 (kR kTab kA)) (hret : gRetR p l e (rmL 6 0 0) s m args below meth c cX2_catNamed Q r) (hkt : kc t = 11) : ∀ (n : Nat) (M : CS) (x2 : Int32) (ls : Array Slot), fX2_catNamed_2 t n M x2 = some r → (cP dC dI cg kA ca) M s s.heap → lv_has ls 3 [(0, .ref (ca t)), (1, .ref (ca 1)), (2, .int x2)] → W p l e (rmL 6 0 0) s m args below meth c s.heap [] 0 0 Q (F0 m 2 ls []) := by
  intro n
  induction n with
  | zero => intro M x2 ls hf; cases hf
  | succ k ih =>
    intro M x2 ls hf hP hl
    have hx := X.hx
    have hb := X.hb
    have hown := X.hown
    have hts := X.hts
    rw [fX2_catNamed_2] at hf
    try dsimp only at hf
    refine lv_iload_n hx hb dX2_catNamed_2 rfl (lv_at hl 2 rfl) ?_
    refine lv_aload_n hx hb dX2_catNamed_3 rfl (lv_at hl 0 rfl) ?_
    refine cr_get (k := 5) X hP hkt rfl cv11_5 rfl cinX2 (by decide) rfl tw308 dX2_catNamed_4 ?_
    refine lv_icmp_ge (tgt := 34) hx hb dX2_catNamed_7 (by decide) (fun c1 => ?_) (fun c1 => ?_)
    · exact kX2_catNamed_34 X hret hkt (ifp c1 hf) hP (lv_sub hl [0] rfl)
    · exact kX2_catNamed_10 X hret hkt ih (ifn c1 hf) hP (lv_sub hl [0, 1, 2] rfl)
set_option maxRecDepth 10000 in
theorem kX2_catNamed_0 {r : Int32} {t : Nat} {M : CS} (X : gX p s m args c cX2_catNamed 3 RX2 (kR kTab kA)) (hret : gRetR p l e (rmL 6 0 0) s m args below meth c cX2_catNamed Q r) (hkt : kc t = 11) (hf : fX2_catNamed_0 t M = some r) {ls : Array Slot} (hP : (cP dC dI cg kA ca) M s s.heap) (hl : lv_has ls 3 [(0, .ref (ca t)), (1, .ref (ca 1))]) : W p l e (rmL 6 0 0) s m args below meth c s.heap [] 0 0 Q (F0 m 0 ls []) := by
  have hx := X.hx
  have hb := X.hb
  have hown := X.hown
  have hts := X.hts
  rw [fX2_catNamed_0] at hf
  refine lv_iconst (v := 0) hx hb dX2_catNamed_0 (by decide) ?_
  refine lv_istore_n (lv' := [(2, .int 0), (0, .ref (ca t)), (1, .ref (ca 1))]) hx hb dX2_catNamed_1 rfl hl (by decide) rfl (fun ls hl => ?_)
  exact kX2_catNamed_2 X hret hkt FU _ _ _ hf hP (lv_sub hl [1, 2, 0] rfl)
theorem vX2_catNamed {l : Launch} {dC : Nat → ClassId} {dI : Nat → Nat → Nat} {cg : Nat → ClassId} {kA : String → Nat → Nat} {ca : Nat → Nat} {M : CS} {r : Int32} {t : Nat} (hkt : kc t = 11) (hf : fX2_catNamed M t  = some r) : gMetR l yX2_catNamed cX2_catNamed 3 (some .int) 6 (gB (cP dC dI cg kA ca) (kR kTab kA) M) [.ref (ca t), .ref (ca 1)] r := gEntryR (ty := .int) (by decide) rfl rfl (Nat.le_of_ble_eq_true rfl) (fun _ h => h.2) (fun p e s m args below meth c Q ls X hB hret hl => 
  kX2_catNamed_0 X hret hkt hf hB.1 (lv_sub hl [0, 1] rfl))
set_option maxRecDepth 10000 in
theorem kX2_sackNamed_34 {r : Int32} {t : Nat} {M : CS} (X : gX p s m args c cX2_sackNamed 3 RX2 (kR kTab kA)) (hret : gRetR p l e (rmL 6 0 0) s m args below meth c cX2_sackNamed Q r) (hkt : kc t = 11) (hf : fX2_sackNamed_34 t M = some r) {ls : Array Slot} (hP : (cP dC dI cg kA ca) M s s.heap) (hl : lv_has ls 3 [(0, .ref (ca t))]) : W p l e (rmL 6 0 0) s m args below meth c s.heap [] 0 0 Q (F0 m 34 ls []) := by
  have hx := X.hx
  have hb := X.hb
  have hown := X.hown
  have hts := X.hts
  rw [fX2_sackNamed_34] at hf
  refine lv_iconst (v := (-1)) hx hb dX2_sackNamed_34 (by decide) ?_
  cases hf
  exact hret _ _ dX2_sackNamed_35
set_option maxRecDepth 10000 in
theorem kX2_sackNamed_28 {r : Int32} {t : Nat} {K2 : CS → Int32 → Option (Int32)} {M : CS} {x2 : Int32} (X : gX p s m args c cX2_sackNamed 3 RX2 (kR kTab kA)) (hret : gRetR p l e (rmL 6 0 0) s m args below meth c cX2_sackNamed Q r) (hkt : kc t = 11) (hK2 : ∀ (M : CS) (x2 : Int32) (ls : Array Slot), K2 M x2 = some r → (cP dC dI cg kA ca) M s s.heap → lv_has ls 3 [(0, .ref (ca t)), (1, .ref (ca 1)), (2, .int x2)] → W p l e (rmL 6 0 0) s m args below meth c s.heap [] 0 0 Q (F0 m 2 ls [])) (hf : fX2_sackNamed_28 t K2 M x2 = some r) {ls : Array Slot} (hP : (cP dC dI cg kA ca) M s s.heap) (hl : lv_has ls 3 [(0, .ref (ca t)), (1, .ref (ca 1)), (2, .int x2)]) : W p l e (rmL 6 0 0) s m args below meth c s.heap [] 0 0 Q (F0 m 28 ls []) := by
  have hx := X.hx
  have hb := X.hb
  have hown := X.hown
  have hts := X.hts
  rw [fX2_sackNamed_28] at hf
  refine lv_iinc (v := (x2 + 1)) (lv' := [(2, .int (x2 + 1)), (0, .ref (ca t)), (1, .ref (ca 1))]) hx hb dX2_sackNamed_28 hl (k := 2) rfl (by rfl) (by decide) rfl (fun ls hl => ?_)
  refine lv_goto (tgt := 2) hx hb dX2_sackNamed_31 (by decide) ?_
  exact hK2 _ _ _ hf hP (lv_sub hl [1, 2, 0] rfl)
set_option maxRecDepth 10000 in
theorem kX2_sackNamed_26 {r : Int32} {t : Nat} {M : CS} {x2 : Int32} (X : gX p s m args c cX2_sackNamed 3 RX2 (kR kTab kA)) (hret : gRetR p l e (rmL 6 0 0) s m args below meth c cX2_sackNamed Q r) (hkt : kc t = 11) (hf : fX2_sackNamed_26 t M x2 = some r) {ls : Array Slot} (hP : (cP dC dI cg kA ca) M s s.heap) (hl : lv_has ls 3 [(0, .ref (ca t)), (2, .int x2)]) : W p l e (rmL 6 0 0) s m args below meth c s.heap [] 0 0 Q (F0 m 26 ls []) := by
  have hx := X.hx
  have hb := X.hb
  have hown := X.hown
  have hts := X.hts
  rw [fX2_sackNamed_26] at hf
  refine lv_iload_n hx hb dX2_sackNamed_26 rfl (lv_at hl 1 rfl) ?_
  cases hf
  exact hret _ _ dX2_sackNamed_27
set_option maxRecDepth 10000 in
theorem kX2_sackNamed_23 {r : Int32} {t : Nat} {K2 : CS → Int32 → Option (Int32)} {M : CS} {x2 : Int32} {s0 : Int32} (X : gX p s m args c cX2_sackNamed 3 RX2 (kR kTab kA)) (hret : gRetR p l e (rmL 6 0 0) s m args below meth c cX2_sackNamed Q r) (hkt : kc t = 11) (hK2 : ∀ (M : CS) (x2 : Int32) (ls : Array Slot), K2 M x2 = some r → (cP dC dI cg kA ca) M s s.heap → lv_has ls 3 [(0, .ref (ca t)), (1, .ref (ca 1)), (2, .int x2)] → W p l e (rmL 6 0 0) s m args below meth c s.heap [] 0 0 Q (F0 m 2 ls [])) (hf : fX2_sackNamed_23 t K2 M x2 s0 = some r) {ls : Array Slot} (hP : (cP dC dI cg kA ca) M s s.heap) (hl : lv_has ls 3 [(0, .ref (ca t)), (1, .ref (ca 1)), (2, .int x2)]) : W p l e (rmL 6 0 0) s m args below meth c s.heap [] 0 0 Q (F0 m 23 ls [.int s0]) := by
  have hx := X.hx
  have hb := X.hb
  have hown := X.hown
  have hts := X.hts
  rw [fX2_sackNamed_23] at hf
  refine lv_if_eq (tgt := 28) hx hb dX2_sackNamed_23 (by decide) (fun c1 => ?_) (fun c1 => ?_)
  · exact kX2_sackNamed_28 X hret hkt hK2 (ifp c1 hf) hP (lv_sub hl [0, 1, 2] rfl)
  · exact kX2_sackNamed_26 X hret hkt (ifn c1 hf) hP (lv_sub hl [0, 2] rfl)
set_option maxRecDepth 10000 in
theorem kX2_sackNamed_10 {r : Int32} {t : Nat} {K2 : CS → Int32 → Option (Int32)} {M : CS} {x2 : Int32} (X : gX p s m args c cX2_sackNamed 3 RX2 (kR kTab kA)) (hret : gRetR p l e (rmL 6 0 0) s m args below meth c cX2_sackNamed Q r) (hkt : kc t = 11) (hK2 : ∀ (M : CS) (x2 : Int32) (ls : Array Slot), K2 M x2 = some r → (cP dC dI cg kA ca) M s s.heap → lv_has ls 3 [(0, .ref (ca t)), (1, .ref (ca 1)), (2, .int x2)] → W p l e (rmL 6 0 0) s m args below meth c s.heap [] 0 0 Q (F0 m 2 ls [])) (hf : fX2_sackNamed_10 t K2 M x2 = some r) {ls : Array Slot} (hP : (cP dC dI cg kA ca) M s s.heap) (hl : lv_has ls 3 [(0, .ref (ca t)), (1, .ref (ca 1)), (2, .int x2)]) : W p l e (rmL 6 0 0) s m args below meth c s.heap [] 0 0 Q (F0 m 10 ls []) := by
  have hx := X.hx
  have hb := X.hb
  have hown := X.hown
  have hts := X.hts
  rw [fX2_sackNamed_10] at hf
  refine lv_aload_n hx hb dX2_sackNamed_10 rfl (lv_at hl 1 rfl) ?_
  refine lv_aload_n hx hb dX2_sackNamed_11 rfl (lv_at hl 0 rfl) ?_
  refine cr_get (k := 1) X hP hkt rfl cv11_1 rfl cinX2 (by decide) rfl tw300 dX2_sackNamed_12 ?_
  refine lv_iload_n hx hb dX2_sackNamed_15 rfl (lv_at hl 2 rfl) ?_
  obtain ⟨g1, hf⟩ := gd hf
  refine cr_aald (f := fun i => (t + 2) + 15 + i) X hP (kc_sacks hkt) rfl (fun _ => rfl) rfl g1 dX2_sackNamed_16 ?_
  refine cr_name X hP (kc_sack (kc_sacks hkt) g1) rfl cv19_0 rfl cinX4 (by decide) rfl tw253 dX2_sackNamed_17 (fun n1 hn1 => ?_)
  obtain ⟨q, hc, hf⟩ := bd hf
  refine gCallVR X rfl (vX8_isWord hc) gRX2_X8_isWord hdX8_isWord rfl ⟨by decide, by decide⟩ (gBS_blind cOK) (gBS_at cOK X hP hn1) (cr_rec hP (rfl : kc 1 = 1) rfl cw1 rfl) hl.1 (Nat.le_of_ble_eq_true rfl) ⟨Nat.zero_le _, Nat.zero_le _⟩ dX2_sackNamed_20 (As := [.ref n1]) (rest := []) rfl ?_
  exact kX2_sackNamed_23 X hret hkt hK2 hf hP (lv_sub hl [0, 1, 2] rfl)
set_option maxRecDepth 10000 in
theorem kX2_sackNamed_2 {r : Int32} {t : Nat} (X : gX p s m args c cX2_sackNamed 3 RX2 (kR kTab kA)) (hret : gRetR p l e (rmL 6 0 0) s m args below meth c cX2_sackNamed Q r) (hkt : kc t = 11) : ∀ (n : Nat) (M : CS) (x2 : Int32) (ls : Array Slot), fX2_sackNamed_2 t n M x2 = some r → (cP dC dI cg kA ca) M s s.heap → lv_has ls 3 [(0, .ref (ca t)), (1, .ref (ca 1)), (2, .int x2)] → W p l e (rmL 6 0 0) s m args below meth c s.heap [] 0 0 Q (F0 m 2 ls []) := by
  intro n
  induction n with
  | zero => intro M x2 ls hf; cases hf
  | succ k ih =>
    intro M x2 ls hf hP hl
    have hx := X.hx
    have hb := X.hb
    have hown := X.hown
    have hts := X.hts
    rw [fX2_sackNamed_2] at hf
    try dsimp only at hf
    refine lv_iload_n hx hb dX2_sackNamed_2 rfl (lv_at hl 2 rfl) ?_
    refine lv_aload_n hx hb dX2_sackNamed_3 rfl (lv_at hl 0 rfl) ?_
    refine cr_get (k := 6) X hP hkt rfl cv11_6 rfl cinX2 (by decide) rfl tw311 dX2_sackNamed_4 ?_
    refine lv_icmp_ge (tgt := 34) hx hb dX2_sackNamed_7 (by decide) (fun c1 => ?_) (fun c1 => ?_)
    · exact kX2_sackNamed_34 X hret hkt (ifp c1 hf) hP (lv_sub hl [0] rfl)
    · exact kX2_sackNamed_10 X hret hkt ih (ifn c1 hf) hP (lv_sub hl [0, 1, 2] rfl)
set_option maxRecDepth 10000 in
theorem kX2_sackNamed_0 {r : Int32} {t : Nat} {M : CS} (X : gX p s m args c cX2_sackNamed 3 RX2 (kR kTab kA)) (hret : gRetR p l e (rmL 6 0 0) s m args below meth c cX2_sackNamed Q r) (hkt : kc t = 11) (hf : fX2_sackNamed_0 t M = some r) {ls : Array Slot} (hP : (cP dC dI cg kA ca) M s s.heap) (hl : lv_has ls 3 [(0, .ref (ca t)), (1, .ref (ca 1))]) : W p l e (rmL 6 0 0) s m args below meth c s.heap [] 0 0 Q (F0 m 0 ls []) := by
  have hx := X.hx
  have hb := X.hb
  have hown := X.hown
  have hts := X.hts
  rw [fX2_sackNamed_0] at hf
  refine lv_iconst (v := 0) hx hb dX2_sackNamed_0 (by decide) ?_
  refine lv_istore_n (lv' := [(2, .int 0), (0, .ref (ca t)), (1, .ref (ca 1))]) hx hb dX2_sackNamed_1 rfl hl (by decide) rfl (fun ls hl => ?_)
  exact kX2_sackNamed_2 X hret hkt FU _ _ _ hf hP (lv_sub hl [1, 2, 0] rfl)
theorem vX2_sackNamed {l : Launch} {dC : Nat → ClassId} {dI : Nat → Nat → Nat} {cg : Nat → ClassId} {kA : String → Nat → Nat} {ca : Nat → Nat} {M : CS} {r : Int32} {t : Nat} (hkt : kc t = 11) (hf : fX2_sackNamed M t  = some r) : gMetR l yX2_sackNamed cX2_sackNamed 3 (some .int) 6 (gB (cP dC dI cg kA ca) (kR kTab kA) M) [.ref (ca t), .ref (ca 1)] r := gEntryR (ty := .int) (by decide) rfl rfl (Nat.le_of_ble_eq_true rfl) (fun _ h => h.2) (fun p e s m args below meth c Q ls X hB hret hl => 
  kX2_sackNamed_0 X hret hkt hf hB.1 (lv_sub hl [0, 1] rfl))
set_option maxRecDepth 10000 in
theorem kX8_takeEither_34 {r : Int32} {S1 : CS} {a1 : List Int32} {a2 : List Int32} {M : CS} {s0 : Int32} {H : Heap} {locs : List Loc} {ls : Array Slot} (X : gX p s m args c cX8_takeEither 3 RX8 (kR kTab kA)) (hret : gRetI p l e (rmL 6 0 0) s m args below meth c cX8_takeEither (cΩ ca) (cP dC dI cg kA ca) Q r S1) {wa1 : Nat} {wa2 : Nat} (hwa1 : strAt wa1 a1 (cΩ ca) s s.heap) (hwa2 : strAt wa2 a2 (cΩ ca) s s.heap) (hf : fX8_takeEither_34 a1 a2 M s0 = some (r, S1)) (hP : (cP dC dI cg kA ca) M s H) (hS : va_S (Fr (cΩ ca) s.heap.size) s.heap H locs) (hl : lv_has ls 3 [(0, .ref (ca 1))]) : W p l e (rmL 6 0 0) s m args below meth c H locs 0 0 Q (F0 m 34 ls [.int s0]) := by
  have hx := X.hx
  have hb := X.hb
  have hown := X.hown
  have hts := X.hts
  rw [fX8_takeEither_34] at hf
  cases hf
  exact hret _ _ _ _ dX8_takeEither_34 hP hS
set_option maxRecDepth 10000 in
theorem kX8_takeEither_29 {r : Int32} {S1 : CS} {a1 : List Int32} {a2 : List Int32} {M : CS} {H : Heap} {locs : List Loc} {ls : Array Slot} (X : gX p s m args c cX8_takeEither 3 RX8 (kR kTab kA)) (hret : gRetI p l e (rmL 6 0 0) s m args below meth c cX8_takeEither (cΩ ca) (cP dC dI cg kA ca) Q r S1) {wa1 : Nat} {wa2 : Nat} (hwa1 : strAt wa1 a1 (cΩ ca) s s.heap) (hwa2 : strAt wa2 a2 (cΩ ca) s s.heap) (hf : fX8_takeEither_29 a1 a2 M = some (r, S1)) (hP : (cP dC dI cg kA ca) M s H) (hS : va_S (Fr (cΩ ca) s.heap.size) s.heap H locs) (hl : lv_has ls 3 [(0, .ref (ca 1))]) : W p l e (rmL 6 0 0) s m args below meth c H locs 0 0 Q (F0 m 29 ls []) := by
  have hx := X.hx
  have hb := X.hb
  have hown := X.hown
  have hts := X.hts
  rw [fX8_takeEither_29] at hf
  refine lv_iconst (v := 1) hx hb dX8_takeEither_29 (by decide) ?_
  refine lv_goto (tgt := 34) hx hb dX8_takeEither_30 (by decide) ?_
  exact kX8_takeEither_34 X hret hwa1 hwa2 hf hP hS (lv_sub hl [0] rfl)
set_option maxRecDepth 10000 in
theorem kX8_takeEither_33 {r : Int32} {S1 : CS} {a1 : List Int32} {a2 : List Int32} {M : CS} {H : Heap} {locs : List Loc} {ls : Array Slot} (X : gX p s m args c cX8_takeEither 3 RX8 (kR kTab kA)) (hret : gRetI p l e (rmL 6 0 0) s m args below meth c cX8_takeEither (cΩ ca) (cP dC dI cg kA ca) Q r S1) {wa1 : Nat} {wa2 : Nat} (hwa1 : strAt wa1 a1 (cΩ ca) s s.heap) (hwa2 : strAt wa2 a2 (cΩ ca) s s.heap) (hf : fX8_takeEither_33 a1 a2 M = some (r, S1)) (hP : (cP dC dI cg kA ca) M s H) (hS : va_S (Fr (cΩ ca) s.heap.size) s.heap H locs) (hl : lv_has ls 3 [(0, .ref (ca 1))]) : W p l e (rmL 6 0 0) s m args below meth c H locs 0 0 Q (F0 m 33 ls []) := by
  have hx := X.hx
  have hb := X.hb
  have hown := X.hown
  have hts := X.hts
  rw [fX8_takeEither_33] at hf
  refine lv_iconst (v := 0) hx hb dX8_takeEither_33 (by decide) ?_
  exact kX8_takeEither_34 X hret hwa1 hwa2 hf hP hS (lv_sub hl [0] rfl)
set_option maxRecDepth 10000 in
theorem kX8_takeEither_26 {r : Int32} {S1 : CS} {a1 : List Int32} {a2 : List Int32} {M : CS} {s0 : Int32} {H : Heap} {locs : List Loc} {ls : Array Slot} (X : gX p s m args c cX8_takeEither 3 RX8 (kR kTab kA)) (hret : gRetI p l e (rmL 6 0 0) s m args below meth c cX8_takeEither (cΩ ca) (cP dC dI cg kA ca) Q r S1) {wa1 : Nat} {wa2 : Nat} (hwa1 : strAt wa1 a1 (cΩ ca) s s.heap) (hwa2 : strAt wa2 a2 (cΩ ca) s s.heap) (hf : fX8_takeEither_26 a1 a2 M s0 = some (r, S1)) (hP : (cP dC dI cg kA ca) M s H) (hS : va_S (Fr (cΩ ca) s.heap.size) s.heap H locs) (hl : lv_has ls 3 [(0, .ref (ca 1))]) : W p l e (rmL 6 0 0) s m args below meth c H locs 0 0 Q (F0 m 26 ls [.int s0]) := by
  have hx := X.hx
  have hb := X.hb
  have hown := X.hown
  have hts := X.hts
  rw [fX8_takeEither_26] at hf
  refine lv_if_eq (tgt := 33) hx hb dX8_takeEither_26 (by decide) (fun c1 => ?_) (fun c1 => ?_)
  · exact kX8_takeEither_33 X hret hwa1 hwa2 (ifp c1 hf) hP hS (lv_sub hl [0] rfl)
  · exact kX8_takeEither_29 X hret hwa1 hwa2 (ifn c1 hf) hP hS (lv_sub hl [0] rfl)
set_option maxRecDepth 10000 in
theorem kX8_takeEither_21 {r : Int32} {S1 : CS} {a1 : List Int32} {a2 : List Int32} {M : CS} {H : Heap} {locs : List Loc} {ls : Array Slot} (X : gX p s m args c cX8_takeEither 3 RX8 (kR kTab kA)) (hret : gRetI p l e (rmL 6 0 0) s m args below meth c cX8_takeEither (cΩ ca) (cP dC dI cg kA ca) Q r S1) {wa1 : Nat} {wa2 : Nat} (hwa1 : strAt wa1 a1 (cΩ ca) s s.heap) (hwa2 : strAt wa2 a2 (cΩ ca) s s.heap) (hf : fX8_takeEither_21 a1 a2 M = some (r, S1)) (hP : (cP dC dI cg kA ca) M s H) (hS : va_S (Fr (cΩ ca) s.heap.size) s.heap H locs) (hl : lv_has ls 3 [(0, .ref (ca 1))]) : W p l e (rmL 6 0 0) s m args below meth c H locs 0 0 Q (F0 m 21 ls []) := by
  have hx := X.hx
  have hb := X.hb
  have hown := X.hown
  have hts := X.hts
  rw [fX8_takeEither_21] at hf
  refine lv_aload_n hx hb dX8_takeEither_21 rfl (lv_at hl 0 rfl) ?_
  refine lv_iconst (v := 1) hx hb dX8_takeEither_22 (by decide) ?_
  obtain ⟨q, hc, hf⟩ := bd hf
  refine gCallVI X cOK rfl (vX8_fail hc) gRX8_X8_fail hdX8_fail rfl ⟨by decide, by decide⟩ hP hS (cr_rec hP (rfl : kc 1 = 1) rfl cw1 rfl) hl.1 (Nat.le_of_ble_eq_true rfl) ⟨Nat.zero_le _, Nat.zero_le _⟩ dX8_takeEither_23 (As := [.int 1]) (rest := []) rfl (fun H locs hP hS => ?_)
  exact kX8_takeEither_26 X hret hwa1 hwa2 hf hP hS (lv_sub hl [0] rfl)
set_option maxRecDepth 10000 in
theorem kX8_takeEither_18 {r : Int32} {S1 : CS} {a1 : List Int32} {a2 : List Int32} {M : CS} {s0 : Int32} {H : Heap} {locs : List Loc} {ls : Array Slot} (X : gX p s m args c cX8_takeEither 3 RX8 (kR kTab kA)) (hret : gRetI p l e (rmL 6 0 0) s m args below meth c cX8_takeEither (cΩ ca) (cP dC dI cg kA ca) Q r S1) {wa1 : Nat} {wa2 : Nat} (hwa1 : strAt wa1 a1 (cΩ ca) s s.heap) (hwa2 : strAt wa2 a2 (cΩ ca) s s.heap) (hf : fX8_takeEither_18 a1 a2 M s0 = some (r, S1)) (hP : (cP dC dI cg kA ca) M s H) (hS : va_S (Fr (cΩ ca) s.heap.size) s.heap H locs) (hl : lv_has ls 3 [(0, .ref (ca 1))]) : W p l e (rmL 6 0 0) s m args below meth c H locs 0 0 Q (F0 m 18 ls [.int s0]) := by
  have hx := X.hx
  have hb := X.hb
  have hown := X.hown
  have hts := X.hts
  rw [fX8_takeEither_18] at hf
  refine lv_if_ne (tgt := 29) hx hb dX8_takeEither_18 (by decide) (fun c1 => ?_) (fun c1 => ?_)
  · exact kX8_takeEither_29 X hret hwa1 hwa2 (ifn c1 hf) hP hS (lv_sub hl [0] rfl)
  · exact kX8_takeEither_21 X hret hwa1 hwa2 (ifp c1 hf) hP hS (lv_sub hl [0] rfl)
set_option maxRecDepth 10000 in
theorem kX8_takeEither_13 {r : Int32} {S1 : CS} {a1 : List Int32} {a2 : List Int32} {M : CS} {H : Heap} {locs : List Loc} {ls : Array Slot} (X : gX p s m args c cX8_takeEither 3 RX8 (kR kTab kA)) (hret : gRetI p l e (rmL 6 0 0) s m args below meth c cX8_takeEither (cΩ ca) (cP dC dI cg kA ca) Q r S1) {wa1 : Nat} {wa2 : Nat} (hwa1 : strAt wa1 a1 (cΩ ca) s s.heap) (hwa2 : strAt wa2 a2 (cΩ ca) s s.heap) (hf : fX8_takeEither_13 a1 a2 M = some (r, S1)) (hP : (cP dC dI cg kA ca) M s H) (hS : va_S (Fr (cΩ ca) s.heap.size) s.heap H locs) (hl : lv_has ls 3 [(0, .ref (ca 1)), (2, .ref wa2)]) : W p l e (rmL 6 0 0) s m args below meth c H locs 0 0 Q (F0 m 13 ls []) := by
  have hx := X.hx
  have hb := X.hb
  have hown := X.hown
  have hts := X.hts
  rw [fX8_takeEither_13] at hf
  refine lv_aload_n hx hb dX8_takeEither_13 rfl (lv_at hl 0 rfl) ?_
  refine lv_aload_n hx hb dX8_takeEither_14 rfl (lv_at hl 1 rfl) ?_
  obtain ⟨q, hc, hf⟩ := bd hf
  refine gCallVR X rfl (vX8_isWord hc) gRX8_X8_isWord hdX8_isWord rfl ⟨by decide, by decide⟩ (gBS_blind cOK) (gBS_at cOK X hP ((hwa2).kept (fr_k hS))) (cr_rec hP (rfl : kc 1 = 1) rfl cw1 rfl) hl.1 (Nat.le_of_ble_eq_true rfl) ⟨Nat.zero_le _, Nat.zero_le _⟩ dX8_takeEither_15 (As := [.ref wa2]) (rest := []) rfl ?_
  exact kX8_takeEither_18 X hret hwa1 hwa2 hf hP hS (lv_sub hl [0] rfl)
set_option maxRecDepth 10000 in
theorem kX8_takeEither_10 {r : Int32} {S1 : CS} {a1 : List Int32} {a2 : List Int32} {M : CS} {s0 : Int32} {H : Heap} {locs : List Loc} {ls : Array Slot} (X : gX p s m args c cX8_takeEither 3 RX8 (kR kTab kA)) (hret : gRetI p l e (rmL 6 0 0) s m args below meth c cX8_takeEither (cΩ ca) (cP dC dI cg kA ca) Q r S1) {wa1 : Nat} {wa2 : Nat} (hwa1 : strAt wa1 a1 (cΩ ca) s s.heap) (hwa2 : strAt wa2 a2 (cΩ ca) s s.heap) (hf : fX8_takeEither_10 a1 a2 M s0 = some (r, S1)) (hP : (cP dC dI cg kA ca) M s H) (hS : va_S (Fr (cΩ ca) s.heap.size) s.heap H locs) (hl : lv_has ls 3 [(0, .ref (ca 1)), (2, .ref wa2)]) : W p l e (rmL 6 0 0) s m args below meth c H locs 0 0 Q (F0 m 10 ls [.int s0]) := by
  have hx := X.hx
  have hb := X.hb
  have hown := X.hown
  have hts := X.hts
  rw [fX8_takeEither_10] at hf
  refine lv_if_ne (tgt := 29) hx hb dX8_takeEither_10 (by decide) (fun c1 => ?_) (fun c1 => ?_)
  · exact kX8_takeEither_29 X hret hwa1 hwa2 (ifn c1 hf) hP hS (lv_sub hl [0] rfl)
  · exact kX8_takeEither_13 X hret hwa1 hwa2 (ifp c1 hf) hP hS (lv_sub hl [0, 1] rfl)
set_option maxRecDepth 10000 in
theorem kX8_takeEither_4 {r : Int32} {S1 : CS} {a1 : List Int32} {a2 : List Int32} {M : CS} {s0 : Int32} {H : Heap} {locs : List Loc} {ls : Array Slot} (X : gX p s m args c cX8_takeEither 3 RX8 (kR kTab kA)) (hret : gRetI p l e (rmL 6 0 0) s m args below meth c cX8_takeEither (cΩ ca) (cP dC dI cg kA ca) Q r S1) {wa1 : Nat} {wa2 : Nat} (hwa1 : strAt wa1 a1 (cΩ ca) s s.heap) (hwa2 : strAt wa2 a2 (cΩ ca) s s.heap) (hf : fX8_takeEither_4 a1 a2 M s0 = some (r, S1)) (hP : (cP dC dI cg kA ca) M s H) (hS : va_S (Fr (cΩ ca) s.heap.size) s.heap H locs) (hl : lv_has ls 3 [(0, .ref (ca 1)), (1, .ref wa1), (2, .ref wa2)]) : W p l e (rmL 6 0 0) s m args below meth c H locs 0 0 Q (F0 m 4 ls [.int s0]) := by
  have hx := X.hx
  have hb := X.hb
  have hown := X.hown
  have hts := X.hts
  rw [fX8_takeEither_4] at hf
  refine lv_pop hx hb dX8_takeEither_4 rfl ?_
  refine lv_aload_n hx hb dX8_takeEither_5 rfl (lv_at hl 0 rfl) ?_
  refine lv_aload_n hx hb dX8_takeEither_6 rfl (lv_at hl 1 rfl) ?_
  obtain ⟨q, hc, hf⟩ := bd hf
  refine gCallVR X rfl (vX8_isWord hc) gRX8_X8_isWord hdX8_isWord rfl ⟨by decide, by decide⟩ (gBS_blind cOK) (gBS_at cOK X hP ((hwa1).kept (fr_k hS))) (cr_rec hP (rfl : kc 1 = 1) rfl cw1 rfl) hl.1 (Nat.le_of_ble_eq_true rfl) ⟨Nat.zero_le _, Nat.zero_le _⟩ dX8_takeEither_7 (As := [.ref wa1]) (rest := []) rfl ?_
  exact kX8_takeEither_10 X hret hwa1 hwa2 hf hP hS (lv_sub hl [0, 2] rfl)
set_option maxRecDepth 10000 in
theorem kX8_takeEither_0 {r : Int32} {S1 : CS} {a1 : List Int32} {a2 : List Int32} {M : CS} {H : Heap} {locs : List Loc} {ls : Array Slot} (X : gX p s m args c cX8_takeEither 3 RX8 (kR kTab kA)) (hret : gRetI p l e (rmL 6 0 0) s m args below meth c cX8_takeEither (cΩ ca) (cP dC dI cg kA ca) Q r S1) {wa1 : Nat} {wa2 : Nat} (hwa1 : strAt wa1 a1 (cΩ ca) s s.heap) (hwa2 : strAt wa2 a2 (cΩ ca) s s.heap) (hf : fX8_takeEither_0 a1 a2 M = some (r, S1)) (hP : (cP dC dI cg kA ca) M s H) (hS : va_S (Fr (cΩ ca) s.heap.size) s.heap H locs) (hl : lv_has ls 3 [(0, .ref (ca 1)), (1, .ref wa1), (2, .ref wa2)]) : W p l e (rmL 6 0 0) s m args below meth c H locs 0 0 Q (F0 m 0 ls []) := by
  have hx := X.hx
  have hb := X.hb
  have hown := X.hown
  have hts := X.hts
  rw [fX8_takeEither_0] at hf
  refine lv_aload_n hx hb dX8_takeEither_0 rfl (lv_at hl 0 rfl) ?_
  obtain ⟨q, hc, hf⟩ := bd hf
  refine gCallVI X cOK rfl (vX8_advance hc) gRX8_X8_advance hdX8_advance rfl ⟨by decide, by decide⟩ hP hS (cr_rec hP (rfl : kc 1 = 1) rfl cw1 rfl) hl.1 (Nat.le_of_ble_eq_true rfl) ⟨Nat.zero_le _, Nat.zero_le _⟩ dX8_takeEither_1 (As := []) (rest := []) rfl (fun H locs hP hS => ?_)
  exact kX8_takeEither_4 X hret hwa1 hwa2 hf hP hS (lv_sub hl [0, 1, 2] rfl)
theorem vX8_takeEither {l : Launch} {dC : Nat → ClassId} {dI : Nat → Nat → Nat} {cg : Nat → ClassId} {kA : String → Nat → Nat} {ca : Nat → Nat} {M S1 : CS} {r : Int32} {a1 : List Int32} {a2 : List Int32} {wa1 : Nat} {wa2 : Nat} (hf : fX8_takeEither M a1 a2 = some (r, S1)) : gMetI l yX8_takeEither cX8_takeEither 3 (some .boolean) 6 (cΩ ca) (gPS (cP dC dI cg kA ca) (cΩ ca) [(wa1, a1), (wa2, a2)]) (kR kTab kA) [.ref (ca 1), .ref wa1, .ref wa2] M r S1 := gEntryI (ty := .boolean) (by decide) rfl (bz_n hf) (gPS_ok cOK) (Nat.le_of_ble_eq_true rfl) (fun p e s m args below meth c Q ls X hP hS hret hl => 
  kX8_takeEither_0 X (gPS_I hP.2 hret) (hP.2 (wa1, a1) (by simp)) (hP.2 (wa2, a2) (by simp)) (bz_f hf) hP.1 hS (lv_sub hl [0, 1, 2] rfl))
set_option maxRecDepth 10000 in
theorem kX6_readShift_138 {r : Int32} {S1 : CS} {M : CS} {s0 : Int32} {H : Heap} {locs : List Loc} {ls : Array Slot} (X : gX p s m args c cX6_readShift 2 RX6 (kR kTab kA)) (hret : gRetI p l e (rmL 7 0 0) s m args below meth c cX6_readShift (cΩ ca) (cP dC dI cg kA ca) Q r S1) (hf : fX6_readShift_138 M s0 = some (r, S1)) (hP : (cP dC dI cg kA ca) M s H) (hS : va_S (Fr (cΩ ca) s.heap.size) s.heap H locs) (hl : lv_has ls 2 [(0, .ref (ca 7))]) : W p l e (rmL 7 0 0) s m args below meth c H locs 0 0 Q (F0 m 138 ls [.int s0]) := by
  have hx := X.hx
  have hb := X.hb
  have hown := X.hown
  have hts := X.hts
  rw [fX6_readShift_138] at hf
  cases hf
  exact hret _ _ _ _ dX6_readShift_138 hP hS
set_option maxRecDepth 10000 in
theorem kX6_readShift_131 {r : Int32} {S1 : CS} {M : CS} {H : Heap} {locs : List Loc} {ls : Array Slot} (X : gX p s m args c cX6_readShift 2 RX6 (kR kTab kA)) (hret : gRetI p l e (rmL 7 0 0) s m args below meth c cX6_readShift (cΩ ca) (cP dC dI cg kA ca) Q r S1) (hf : fX6_readShift_131 M = some (r, S1)) (hP : (cP dC dI cg kA ca) M s H) (hS : va_S (Fr (cΩ ca) s.heap.size) s.heap H locs) (hl : lv_has ls 2 [(0, .ref (ca 7))]) : W p l e (rmL 7 0 0) s m args below meth c H locs 0 0 Q (F0 m 131 ls []) := by
  have hx := X.hx
  have hb := X.hb
  have hown := X.hown
  have hts := X.hts
  rw [fX6_readShift_131] at hf
  refine lv_aload_n hx hb dX6_readShift_131 rfl (lv_at hl 0 rfl) ?_
  refine cr_get (k := 0) X hP (rfl : kc 7 = 7) rfl cv7_0 rfl cinX6 (by decide) rfl tw362 dX6_readShift_132 ?_
  obtain ⟨q, hc, hf⟩ := bd hf
  refine gCallVI X cOK rfl (vX8_takeSemicolon hc) gRX6_X8_takeSemicolon hdX8_takeSemicolon rfl ⟨by decide, by decide⟩ hP hS (cr_rec hP (rfl : kc 1 = 1) rfl cw1 rfl) hl.1 (Nat.le_of_ble_eq_true rfl) ⟨Nat.zero_le _, Nat.zero_le _⟩ dX6_readShift_135 (As := []) (rest := []) rfl (fun H locs hP hS => ?_)
  exact kX6_readShift_138 X hret hf hP hS (lv_sub hl [0] rfl)
set_option maxRecDepth 10000 in
theorem kX6_readShift_118 {r : Int32} {S1 : CS} {M : CS} {H : Heap} {locs : List Loc} {ls : Array Slot} (X : gX p s m args c cX6_readShift 2 RX6 (kR kTab kA)) (hret : gRetI p l e (rmL 7 0 0) s m args below meth c cX6_readShift (cΩ ca) (cP dC dI cg kA ca) Q r S1) (hf : fX6_readShift_118 M = some (r, S1)) (hP : (cP dC dI cg kA ca) M s H) (hS : va_S (Fr (cΩ ca) s.heap.size) s.heap H locs) (hl : lv_has ls 2 [(0, .ref (ca 7))]) : W p l e (rmL 7 0 0) s m args below meth c H locs 0 0 Q (F0 m 118 ls []) := by
  have hx := X.hx
  have hb := X.hb
  have hown := X.hown
  have hts := X.hts
  rw [fX6_readShift_118] at hf
  refine lv_aload_n hx hb dX6_readShift_118 rfl (lv_at hl 0 rfl) ?_
  refine cr_get (k := 1) X hP (rfl : kc 7 = 7) rfl cv7_1 rfl cinX6 (by decide) rfl tw363 dX6_readShift_119 ?_
  refine lv_dup hx hb dX6_readShift_122 rfl ?_
  refine cr_get (k := 7) X hP (rfl : kc 48 = 11) rfl cv11_7 rfl cinX2 (by decide) rfl tw315 dX6_readShift_123 ?_
  refine lv_iconst (v := 1) hx hb dX6_readShift_126 (by decide) ?_
  refine lv_iadd hx hb dX6_readShift_127 ?_
  refine cr_put (k := 7) X hP hS (rfl : kc 48 = 11) rfl cs11_7 rfl cinX2 tyX2_ok nmX2 (by decide) rfl rfl rfl rfl tw315 dX6_readShift_128 (fun H locs hP hS => ?_)
  exact kX6_readShift_131 X hret hf hP hS (lv_sub hl [0] rfl)
set_option maxRecDepth 10000 in
theorem kX6_readShift_93 {r : Int32} {S1 : CS} {M : CS} {H : Heap} {locs : List Loc} {ls : Array Slot} (X : gX p s m args c cX6_readShift 2 RX6 (kR kTab kA)) (hret : gRetI p l e (rmL 7 0 0) s m args below meth c cX6_readShift (cΩ ca) (cP dC dI cg kA ca) Q r S1) (hf : fX6_readShift_93 M = some (r, S1)) (hP : (cP dC dI cg kA ca) M s H) (hS : va_S (Fr (cΩ ca) s.heap.size) s.heap H locs) (hl : lv_has ls 2 [(0, .ref (ca 7))]) : W p l e (rmL 7 0 0) s m args below meth c H locs 0 0 Q (F0 m 93 ls []) := by
  have hx := X.hx
  have hb := X.hb
  have hown := X.hown
  have hts := X.hts
  rw [fX6_readShift_93] at hf
  refine lv_aload_n hx hb dX6_readShift_93 rfl (lv_at hl 0 rfl) ?_
  refine cr_get (k := 1) X hP (rfl : kc 7 = 7) rfl cv7_1 rfl cinX6 (by decide) rfl tw363 dX6_readShift_94 ?_
  refine cr_get (k := 2) X hP (rfl : kc 48 = 11) rfl cv11_2 rfl cinX2 (by decide) rfl tw304 dX6_readShift_97 ?_
  refine lv_aload_n hx hb dX6_readShift_100 rfl (lv_at hl 0 rfl) ?_
  refine cr_get (k := 1) X hP (rfl : kc 7 = 7) rfl cv7_1 rfl cinX6 (by decide) rfl tw363 dX6_readShift_101 ?_
  refine cr_get (k := 7) X hP (rfl : kc 48 = 11) rfl cv11_7 rfl cinX2 (by decide) rfl tw315 dX6_readShift_104 ?_
  obtain ⟨g1, hf⟩ := gd hf
  refine cr_aald (f := fun i => (48 + 3) + 20 + i) X hP (kc_shifts (rfl : kc 48 = 11)) rfl (fun _ => rfl) rfl g1 dX6_readShift_107 ?_
  refine lv_aload_n hx hb dX6_readShift_108 rfl (lv_at hl 0 rfl) ?_
  refine cr_get (k := 0) X hP (rfl : kc 7 = 7) rfl cv7_0 rfl cinX6 (by decide) rfl tw362 dX6_readShift_109 ?_
  refine cr_get (k := 6) X hP (rfl : kc 1 = 1) rfl cv1_6 rfl cinX8 (by decide) rfl tw94 dX6_readShift_112 ?_
  refine cr_put (k := 1) X hP hS (kc_shift (kc_shifts (rfl : kc 48 = 11)) g1) rfl cs20_1 rfl cinX7 tyX7_ok nmX7 (by decide) rfl rfl rfl rfl tw291 dX6_readShift_115 (fun H locs hP hS => ?_)
  exact kX6_readShift_118 X hret hf hP hS (lv_sub hl [0] rfl)
set_option maxRecDepth 10000 in
theorem kX6_readShift_74 {r : Int32} {S1 : CS} {M : CS} {x1 : Int32} {H : Heap} {locs : List Loc} {ls : Array Slot} (X : gX p s m args c cX6_readShift 2 RX6 (kR kTab kA)) (hret : gRetI p l e (rmL 7 0 0) s m args below meth c cX6_readShift (cΩ ca) (cP dC dI cg kA ca) Q r S1) (hf : fX6_readShift_74 M x1 = some (r, S1)) (hP : (cP dC dI cg kA ca) M s H) (hS : va_S (Fr (cΩ ca) s.heap.size) s.heap H locs) (hl : lv_has ls 2 [(0, .ref (ca 7)), (1, .int x1)]) : W p l e (rmL 7 0 0) s m args below meth c H locs 0 0 Q (F0 m 74 ls []) := by
  have hx := X.hx
  have hb := X.hb
  have hown := X.hown
  have hts := X.hts
  rw [fX6_readShift_74] at hf
  refine lv_aload_n hx hb dX6_readShift_74 rfl (lv_at hl 0 rfl) ?_
  refine cr_get (k := 1) X hP (rfl : kc 7 = 7) rfl cv7_1 rfl cinX6 (by decide) rfl tw363 dX6_readShift_75 ?_
  refine cr_get (k := 2) X hP (rfl : kc 48 = 11) rfl cv11_2 rfl cinX2 (by decide) rfl tw304 dX6_readShift_78 ?_
  refine lv_aload_n hx hb dX6_readShift_81 rfl (lv_at hl 0 rfl) ?_
  refine cr_get (k := 1) X hP (rfl : kc 7 = 7) rfl cv7_1 rfl cinX6 (by decide) rfl tw363 dX6_readShift_82 ?_
  refine cr_get (k := 7) X hP (rfl : kc 48 = 11) rfl cv11_7 rfl cinX2 (by decide) rfl tw315 dX6_readShift_85 ?_
  obtain ⟨g1, hf⟩ := gd hf
  refine cr_aald (f := fun i => (48 + 3) + 20 + i) X hP (kc_shifts (rfl : kc 48 = 11)) rfl (fun _ => rfl) rfl g1 dX6_readShift_88 ?_
  refine lv_iload_n hx hb dX6_readShift_89 rfl (lv_at hl 1 rfl) ?_
  refine cr_put (k := 0) X hP hS (kc_shift (kc_shifts (rfl : kc 48 = 11)) g1) rfl cs20_0 rfl cinX7 tyX7_ok nmX7 (by decide) rfl rfl rfl rfl tw288 dX6_readShift_90 (fun H locs hP hS => ?_)
  exact kX6_readShift_93 X hret hf hP hS (lv_sub hl [0] rfl)
set_option maxRecDepth 10000 in
theorem kX6_readShift_72 {r : Int32} {S1 : CS} {M : CS} {H : Heap} {locs : List Loc} {ls : Array Slot} (X : gX p s m args c cX6_readShift 2 RX6 (kR kTab kA)) (hret : gRetI p l e (rmL 7 0 0) s m args below meth c cX6_readShift (cΩ ca) (cP dC dI cg kA ca) Q r S1) (hf : fX6_readShift_72 M = some (r, S1)) (hP : (cP dC dI cg kA ca) M s H) (hS : va_S (Fr (cΩ ca) s.heap.size) s.heap H locs) (hl : lv_has ls 2 [(0, .ref (ca 7))]) : W p l e (rmL 7 0 0) s m args below meth c H locs 0 0 Q (F0 m 72 ls []) := by
  have hx := X.hx
  have hb := X.hb
  have hown := X.hown
  have hts := X.hts
  rw [fX6_readShift_72] at hf
  refine lv_iconst (v := 0) hx hb dX6_readShift_72 (by decide) ?_
  cases hf
  exact hret _ _ _ _ dX6_readShift_73 hP hS
set_option maxRecDepth 10000 in
theorem kX6_readShift_69 {r : Int32} {S1 : CS} {M : CS} {x1 : Int32} {s0 : Int32} {H : Heap} {locs : List Loc} {ls : Array Slot} (X : gX p s m args c cX6_readShift 2 RX6 (kR kTab kA)) (hret : gRetI p l e (rmL 7 0 0) s m args below meth c cX6_readShift (cΩ ca) (cP dC dI cg kA ca) Q r S1) (hf : fX6_readShift_69 M x1 s0 = some (r, S1)) (hP : (cP dC dI cg kA ca) M s H) (hS : va_S (Fr (cΩ ca) s.heap.size) s.heap H locs) (hl : lv_has ls 2 [(0, .ref (ca 7)), (1, .int x1)]) : W p l e (rmL 7 0 0) s m args below meth c H locs 0 0 Q (F0 m 69 ls [.int s0]) := by
  have hx := X.hx
  have hb := X.hb
  have hown := X.hown
  have hts := X.hts
  rw [fX6_readShift_69] at hf
  refine lv_if_ne (tgt := 74) hx hb dX6_readShift_69 (by decide) (fun c1 => ?_) (fun c1 => ?_)
  · exact kX6_readShift_74 X hret (ifn c1 hf) hP hS (lv_sub hl [0, 1] rfl)
  · exact kX6_readShift_72 X hret (ifp c1 hf) hP hS (lv_sub hl [0] rfl)
set_option maxRecDepth 10000 in
theorem kX6_readShift_59 {r : Int32} {S1 : CS} {M : CS} {x1 : Int32} {H : Heap} {locs : List Loc} {ls : Array Slot} (X : gX p s m args c cX6_readShift 2 RX6 (kR kTab kA)) (hret : gRetI p l e (rmL 7 0 0) s m args below meth c cX6_readShift (cΩ ca) (cP dC dI cg kA ca) Q r S1) (hf : fX6_readShift_59 M x1 = some (r, S1)) (hP : (cP dC dI cg kA ca) M s H) (hS : va_S (Fr (cΩ ca) s.heap.size) s.heap H locs) (hl : lv_has ls 2 [(0, .ref (ca 7)), (1, .int x1)]) : W p l e (rmL 7 0 0) s m args below meth c H locs 0 0 Q (F0 m 59 ls []) := by
  have hx := X.hx
  have hb := X.hb
  have hown := X.hown
  have hts := X.hts
  rw [fX6_readShift_59] at hf
  refine lv_aload_n hx hb dX6_readShift_59 rfl (lv_at hl 0 rfl) ?_
  refine cr_get (k := 0) X hP (rfl : kc 7 = 7) rfl cv7_0 rfl cinX6 (by decide) rfl tw362 dX6_readShift_60 ?_
  refine lv_iconst (v := 1) hx hb dX6_readShift_63 (by decide) ?_
  refine lv_bipush (v := 24) hx hb dX6_readShift_64 (by decide) ?_
  obtain ⟨q, hc, hf⟩ := bd hf
  refine gCallVI X cOK rfl (vX8_takeNumber hc) gRX6_X8_takeNumber hdX8_takeNumber rfl ⟨by decide, by decide⟩ hP hS (cr_rec hP (rfl : kc 1 = 1) rfl cw1 rfl) hl.1 (Nat.le_of_ble_eq_true rfl) ⟨Nat.zero_le _, Nat.zero_le _⟩ dX6_readShift_66 (As := [.int 1, .int 24]) (rest := []) rfl (fun H locs hP hS => ?_)
  exact kX6_readShift_69 X hret hf hP hS (lv_sub hl [0, 1] rfl)
set_option maxRecDepth 10000 in
theorem kX6_readShift_58 {r : Int32} {S1 : CS} {M : CS} {s0 : Int32} {H : Heap} {locs : List Loc} {ls : Array Slot} (X : gX p s m args c cX6_readShift 2 RX6 (kR kTab kA)) (hret : gRetI p l e (rmL 7 0 0) s m args below meth c cX6_readShift (cΩ ca) (cP dC dI cg kA ca) Q r S1) (hf : fX6_readShift_58 M s0 = some (r, S1)) (hP : (cP dC dI cg kA ca) M s H) (hS : va_S (Fr (cΩ ca) s.heap.size) s.heap H locs) (hl : lv_has ls 2 [(0, .ref (ca 7))]) : W p l e (rmL 7 0 0) s m args below meth c H locs 0 0 Q (F0 m 58 ls [.int s0]) := by
  have hx := X.hx
  have hb := X.hb
  have hown := X.hown
  have hts := X.hts
  rw [fX6_readShift_58] at hf
  cases hf
  exact hret _ _ _ _ dX6_readShift_58 hP hS
set_option maxRecDepth 10000 in
theorem kX6_readShift_50 {r : Int32} {S1 : CS} {M : CS} {H : Heap} {locs : List Loc} {ls : Array Slot} (X : gX p s m args c cX6_readShift 2 RX6 (kR kTab kA)) (hret : gRetI p l e (rmL 7 0 0) s m args below meth c cX6_readShift (cΩ ca) (cP dC dI cg kA ca) Q r S1) (hf : fX6_readShift_50 M = some (r, S1)) (hP : (cP dC dI cg kA ca) M s H) (hS : va_S (Fr (cΩ ca) s.heap.size) s.heap H locs) (hl : lv_has ls 2 [(0, .ref (ca 7))]) : W p l e (rmL 7 0 0) s m args below meth c H locs 0 0 Q (F0 m 50 ls []) := by
  have hx := X.hx
  have hb := X.hb
  have hown := X.hown
  have hts := X.hts
  rw [fX6_readShift_50] at hf
  refine lv_aload_n hx hb dX6_readShift_50 rfl (lv_at hl 0 rfl) ?_
  refine cr_get (k := 0) X hP (rfl : kc 7 = 7) rfl cv7_0 rfl cinX6 (by decide) rfl tw362 dX6_readShift_51 ?_
  refine lv_iconst (v := 4) hx hb dX6_readShift_54 (by decide) ?_
  obtain ⟨q, hc, hf⟩ := bd hf
  refine gCallVI X cOK rfl (vX8_fail hc) gRX6_X8_fail hdX8_fail rfl ⟨by decide, by decide⟩ hP hS (cr_rec hP (rfl : kc 1 = 1) rfl cw1 rfl) hl.1 (Nat.le_of_ble_eq_true rfl) ⟨Nat.zero_le _, Nat.zero_le _⟩ dX6_readShift_55 (As := [.int 4]) (rest := []) rfl (fun H locs hP hS => ?_)
  exact kX6_readShift_58 X hret hf hP hS (lv_sub hl [0] rfl)
set_option maxRecDepth 10000 in
theorem kX6_readShift_44 {r : Int32} {S1 : CS} {M : CS} {s0 : Int32} {H : Heap} {locs : List Loc} {ls : Array Slot} (X : gX p s m args c cX6_readShift 2 RX6 (kR kTab kA)) (hret : gRetI p l e (rmL 7 0 0) s m args below meth c cX6_readShift (cΩ ca) (cP dC dI cg kA ca) Q r S1) (hf : fX6_readShift_44 M s0 = some (r, S1)) (hP : (cP dC dI cg kA ca) M s H) (hS : va_S (Fr (cΩ ca) s.heap.size) s.heap H locs) (hl : lv_has ls 2 [(0, .ref (ca 7))]) : W p l e (rmL 7 0 0) s m args below meth c H locs 0 0 Q (F0 m 44 ls [.int s0]) := by
  have hx := X.hx
  have hb := X.hb
  have hown := X.hown
  have hts := X.hts
  rw [fX6_readShift_44] at hf
  refine lv_istore_n (lv' := [(1, .int s0), (0, .ref (ca 7))]) hx hb dX6_readShift_44 rfl hl (by decide) rfl (fun ls hl => ?_)
  refine lv_iload_n hx hb dX6_readShift_45 rfl (lv_at hl 0 rfl) ?_
  refine lv_iconst (v := (-1)) hx hb dX6_readShift_46 (by decide) ?_
  refine lv_icmp_ne (tgt := 59) hx hb dX6_readShift_47 (by decide) (fun c1 => ?_) (fun c1 => ?_)
  · exact kX6_readShift_59 X hret (ifn c1 hf) hP hS (lv_sub hl [1, 0] rfl)
  · exact kX6_readShift_50 X hret (ifp c1 hf) hP hS (lv_sub hl [1] rfl)
set_option maxRecDepth 10000 in
theorem kX6_readShift_33 {r : Int32} {S1 : CS} {M : CS} {H : Heap} {locs : List Loc} {ls : Array Slot} (X : gX p s m args c cX6_readShift 2 RX6 (kR kTab kA)) (hret : gRetI p l e (rmL 7 0 0) s m args below meth c cX6_readShift (cΩ ca) (cP dC dI cg kA ca) Q r S1) (hf : fX6_readShift_33 M = some (r, S1)) (hP : (cP dC dI cg kA ca) M s H) (hS : va_S (Fr (cΩ ca) s.heap.size) s.heap H locs) (hl : lv_has ls 2 [(0, .ref (ca 7))]) : W p l e (rmL 7 0 0) s m args below meth c H locs 0 0 Q (F0 m 33 ls []) := by
  have hx := X.hx
  have hb := X.hb
  have hown := X.hown
  have hts := X.hts
  rw [fX6_readShift_33] at hf
  refine lv_aload_n hx hb dX6_readShift_33 rfl (lv_at hl 0 rfl) ?_
  refine cr_get (k := 1) X hP (rfl : kc 7 = 7) rfl cv7_1 rfl cinX6 (by decide) rfl tw363 dX6_readShift_34 ?_
  refine lv_aload_n hx hb dX6_readShift_37 rfl (lv_at hl 0 rfl) ?_
  refine cr_get (k := 0) X hP (rfl : kc 7 = 7) rfl cv7_0 rfl cinX6 (by decide) rfl tw362 dX6_readShift_38 ?_
  obtain ⟨q, hc, hf⟩ := bd hf
  refine gCallVR X rfl (vX2_catNamed (rfl : kc 48 = 11) hc) gRX6_X2_catNamed hdX2_catNamed rfl ⟨by decide, by decide⟩ (gB_blind cOK) (gB_at cOK X hP) (cr_rec hP (rfl : kc 48 = 11) rfl cw11 rfl) hl.1 (Nat.le_of_ble_eq_true rfl) ⟨Nat.zero_le _, Nat.zero_le _⟩ dX6_readShift_41 (As := [.ref (ca 1)]) (rest := []) rfl ?_
  exact kX6_readShift_44 X hret hf hP hS (lv_sub hl [0] rfl)
set_option maxRecDepth 10000 in
theorem kX6_readShift_31 {r : Int32} {S1 : CS} {M : CS} {H : Heap} {locs : List Loc} {ls : Array Slot} (X : gX p s m args c cX6_readShift 2 RX6 (kR kTab kA)) (hret : gRetI p l e (rmL 7 0 0) s m args below meth c cX6_readShift (cΩ ca) (cP dC dI cg kA ca) Q r S1) (hf : fX6_readShift_31 M = some (r, S1)) (hP : (cP dC dI cg kA ca) M s H) (hS : va_S (Fr (cΩ ca) s.heap.size) s.heap H locs) (hl : lv_has ls 2 [(0, .ref (ca 7))]) : W p l e (rmL 7 0 0) s m args below meth c H locs 0 0 Q (F0 m 31 ls []) := by
  have hx := X.hx
  have hb := X.hb
  have hown := X.hown
  have hts := X.hts
  rw [fX6_readShift_31] at hf
  refine lv_iconst (v := 0) hx hb dX6_readShift_31 (by decide) ?_
  cases hf
  exact hret _ _ _ _ dX6_readShift_32 hP hS
set_option maxRecDepth 10000 in
theorem kX6_readShift_28 {r : Int32} {S1 : CS} {M : CS} {s0 : Int32} {H : Heap} {locs : List Loc} {ls : Array Slot} (X : gX p s m args c cX6_readShift 2 RX6 (kR kTab kA)) (hret : gRetI p l e (rmL 7 0 0) s m args below meth c cX6_readShift (cΩ ca) (cP dC dI cg kA ca) Q r S1) (hf : fX6_readShift_28 M s0 = some (r, S1)) (hP : (cP dC dI cg kA ca) M s H) (hS : va_S (Fr (cΩ ca) s.heap.size) s.heap H locs) (hl : lv_has ls 2 [(0, .ref (ca 7))]) : W p l e (rmL 7 0 0) s m args below meth c H locs 0 0 Q (F0 m 28 ls [.int s0]) := by
  have hx := X.hx
  have hb := X.hb
  have hown := X.hown
  have hts := X.hts
  rw [fX6_readShift_28] at hf
  refine lv_if_ne (tgt := 33) hx hb dX6_readShift_28 (by decide) (fun c1 => ?_) (fun c1 => ?_)
  · exact kX6_readShift_33 X hret (ifn c1 hf) hP hS (lv_sub hl [0] rfl)
  · exact kX6_readShift_31 X hret (ifp c1 hf) hP hS (lv_sub hl [0] rfl)
set_option maxRecDepth 10000 in
theorem kX6_readShift_21 {r : Int32} {S1 : CS} {M : CS} {H : Heap} {locs : List Loc} {ls : Array Slot} (X : gX p s m args c cX6_readShift 2 RX6 (kR kTab kA)) (hret : gRetI p l e (rmL 7 0 0) s m args below meth c cX6_readShift (cΩ ca) (cP dC dI cg kA ca) Q r S1) (hf : fX6_readShift_21 M = some (r, S1)) (hP : (cP dC dI cg kA ca) M s H) (hS : va_S (Fr (cΩ ca) s.heap.size) s.heap H locs) (hl : lv_has ls 2 [(0, .ref (ca 7))]) : W p l e (rmL 7 0 0) s m args below meth c H locs 0 0 Q (F0 m 21 ls []) := by
  have hx := X.hx
  have hb := X.hb
  have hown := X.hown
  have hts := X.hts
  rw [fX6_readShift_21] at hf
  refine lv_aload_n hx hb dX6_readShift_21 rfl (lv_at hl 0 rfl) ?_
  refine cr_get (k := 0) X hP (rfl : kc 7 = 7) rfl cv7_0 rfl cinX6 (by decide) rfl tw362 dX6_readShift_22 ?_
  obtain ⟨q, hc, hf⟩ := bd hf
  refine gCallVI X cOK rfl (vX8_takeName hc) gRX6_X8_takeName hdX8_takeName rfl ⟨by decide, by decide⟩ hP hS (cr_rec hP (rfl : kc 1 = 1) rfl cw1 rfl) hl.1 (Nat.le_of_ble_eq_true rfl) ⟨Nat.zero_le _, Nat.zero_le _⟩ dX6_readShift_25 (As := []) (rest := []) rfl (fun H locs hP hS => ?_)
  exact kX6_readShift_28 X hret hf hP hS (lv_sub hl [0] rfl)
set_option maxRecDepth 10000 in
theorem kX6_readShift_20 {r : Int32} {S1 : CS} {M : CS} {s0 : Int32} {H : Heap} {locs : List Loc} {ls : Array Slot} (X : gX p s m args c cX6_readShift 2 RX6 (kR kTab kA)) (hret : gRetI p l e (rmL 7 0 0) s m args below meth c cX6_readShift (cΩ ca) (cP dC dI cg kA ca) Q r S1) (hf : fX6_readShift_20 M s0 = some (r, S1)) (hP : (cP dC dI cg kA ca) M s H) (hS : va_S (Fr (cΩ ca) s.heap.size) s.heap H locs) (hl : lv_has ls 2 [(0, .ref (ca 7))]) : W p l e (rmL 7 0 0) s m args below meth c H locs 0 0 Q (F0 m 20 ls [.int s0]) := by
  have hx := X.hx
  have hb := X.hb
  have hown := X.hown
  have hts := X.hts
  rw [fX6_readShift_20] at hf
  cases hf
  exact hret _ _ _ _ dX6_readShift_20 hP hS
set_option maxRecDepth 10000 in
theorem kX6_readShift_12 {r : Int32} {S1 : CS} {M : CS} {H : Heap} {locs : List Loc} {ls : Array Slot} (X : gX p s m args c cX6_readShift 2 RX6 (kR kTab kA)) (hret : gRetI p l e (rmL 7 0 0) s m args below meth c cX6_readShift (cΩ ca) (cP dC dI cg kA ca) Q r S1) (hf : fX6_readShift_12 M = some (r, S1)) (hP : (cP dC dI cg kA ca) M s H) (hS : va_S (Fr (cΩ ca) s.heap.size) s.heap H locs) (hl : lv_has ls 2 [(0, .ref (ca 7))]) : W p l e (rmL 7 0 0) s m args below meth c H locs 0 0 Q (F0 m 12 ls []) := by
  have hx := X.hx
  have hb := X.hb
  have hown := X.hown
  have hts := X.hts
  rw [fX6_readShift_12] at hf
  refine lv_aload_n hx hb dX6_readShift_12 rfl (lv_at hl 0 rfl) ?_
  refine cr_get (k := 0) X hP (rfl : kc 7 = 7) rfl cv7_0 rfl cinX6 (by decide) rfl tw362 dX6_readShift_13 ?_
  refine lv_iconst (v := 5) hx hb dX6_readShift_16 (by decide) ?_
  obtain ⟨q, hc, hf⟩ := bd hf
  refine gCallVI X cOK rfl (vX8_fail hc) gRX6_X8_fail hdX8_fail rfl ⟨by decide, by decide⟩ hP hS (cr_rec hP (rfl : kc 1 = 1) rfl cw1 rfl) hl.1 (Nat.le_of_ble_eq_true rfl) ⟨Nat.zero_le _, Nat.zero_le _⟩ dX6_readShift_17 (As := [.int 5]) (rest := []) rfl (fun H locs hP hS => ?_)
  exact kX6_readShift_20 X hret hf hP hS (lv_sub hl [0] rfl)
set_option maxRecDepth 10000 in
theorem kX6_readShift_0 {r : Int32} {S1 : CS} {M : CS} {H : Heap} {locs : List Loc} {ls : Array Slot} (X : gX p s m args c cX6_readShift 2 RX6 (kR kTab kA)) (hret : gRetI p l e (rmL 7 0 0) s m args below meth c cX6_readShift (cΩ ca) (cP dC dI cg kA ca) Q r S1) (hf : fX6_readShift_0 M = some (r, S1)) (hP : (cP dC dI cg kA ca) M s H) (hS : va_S (Fr (cΩ ca) s.heap.size) s.heap H locs) (hl : lv_has ls 2 [(0, .ref (ca 7))]) : W p l e (rmL 7 0 0) s m args below meth c H locs 0 0 Q (F0 m 0 ls []) := by
  have hx := X.hx
  have hb := X.hb
  have hown := X.hown
  have hts := X.hts
  rw [fX6_readShift_0] at hf
  refine lv_aload_n hx hb dX6_readShift_0 rfl (lv_at hl 0 rfl) ?_
  refine cr_get (k := 1) X hP (rfl : kc 7 = 7) rfl cv7_1 rfl cinX6 (by decide) rfl tw363 dX6_readShift_1 ?_
  refine cr_get (k := 7) X hP (rfl : kc 48 = 11) rfl cv11_7 rfl cinX2 (by decide) rfl tw315 dX6_readShift_4 ?_
  refine lv_bipush (v := 12) hx hb dX6_readShift_7 (by decide) ?_
  refine lv_icmp_lt (tgt := 21) hx hb dX6_readShift_9 (by decide) (fun c1 => ?_) (fun c1 => ?_)
  · exact kX6_readShift_21 X hret (ifp c1 hf) hP hS (lv_sub hl [0] rfl)
  · exact kX6_readShift_12 X hret (ifn c1 hf) hP hS (lv_sub hl [0] rfl)
theorem vX6_readShift {l : Launch} {dC : Nat → ClassId} {dI : Nat → Nat → Nat} {cg : Nat → ClassId} {kA : String → Nat → Nat} {ca : Nat → Nat} {M S1 : CS} {r : Int32} (hf : fX6_readShift M  = some (r, S1)) : gMetI l yX6_readShift cX6_readShift 2 (some .boolean) 7 (cΩ ca) (cP dC dI cg kA ca) (kR kTab kA) [.ref (ca 7)] M r S1 := gEntryI (ty := .boolean) (by decide) rfl (bz_n hf) cOK (Nat.le_of_ble_eq_true rfl) (fun p e s m args below meth c Q ls X hP hS hret hl => 
  kX6_readShift_0 X hret (bz_f hf) hP hS (lv_sub hl [0] rfl))
set_option maxRecDepth 10000 in
theorem kX10_change_38 {r : Int32} {S1 : CS} {M : CS} {s0 : Int32} {H : Heap} {locs : List Loc} {ls : Array Slot} (X : gX p s m args c cX10_change 4 RX10 (kR kTab kA)) (hret : gRetI p l e (rmL 7 0 0) s m args below meth c cX10_change (cΩ ca) (cP dC dI cg kA ca) Q r S1) (hf : fX10_change_38 M s0 = some (r, S1)) (hP : (cP dC dI cg kA ca) M s H) (hS : va_S (Fr (cΩ ca) s.heap.size) s.heap H locs) (hl : lv_has ls 4 [(0, .ref (ca 0))]) : W p l e (rmL 7 0 0) s m args below meth c H locs 0 0 Q (F0 m 38 ls [.int s0]) := by
  have hx := X.hx
  have hb := X.hb
  have hown := X.hown
  have hts := X.hts
  rw [fX10_change_38] at hf
  cases hf
  exact hret _ _ _ _ dX10_change_38 hP hS
set_option maxRecDepth 10000 in
theorem kX10_change_28 {r : Int32} {S1 : CS} {M : CS} {x1 : Int32} {x2 : Int32} {x3 : Int32} {H : Heap} {locs : List Loc} {ls : Array Slot} (X : gX p s m args c cX10_change 4 RX10 (kR kTab kA)) (hret : gRetI p l e (rmL 7 0 0) s m args below meth c cX10_change (cΩ ca) (cP dC dI cg kA ca) Q r S1) (hf : fX10_change_28 M x1 x2 x3 = some (r, S1)) (hP : (cP dC dI cg kA ca) M s H) (hS : va_S (Fr (cΩ ca) s.heap.size) s.heap H locs) (hl : lv_has ls 4 [(0, .ref (ca 0)), (1, .int x1), (2, .int x2), (3, .int x3)]) : W p l e (rmL 7 0 0) s m args below meth c H locs 0 0 Q (F0 m 28 ls []) := by
  have hx := X.hx
  have hb := X.hb
  have hown := X.hown
  have hts := X.hts
  rw [fX10_change_28] at hf
  refine lv_aload_n hx hb dX10_change_28 rfl (lv_at hl 0 rfl) ?_
  refine cr_get (k := 2) X hP (rfl : kc 0 = 0) rfl cv0_2 rfl cinX10 (by decide) rfl tw752 dX10_change_29 ?_
  refine lv_iload_n hx hb dX10_change_32 rfl (lv_at hl 1 rfl) ?_
  refine lv_iload_n hx hb dX10_change_33 rfl (lv_at hl 2 rfl) ?_
  refine lv_iload_n hx hb dX10_change_34 rfl (lv_at hl 3 rfl) ?_
  obtain ⟨q, hc, hf⟩ := bd hf
  refine gCallVI X cOK rfl (vX2_apply (rfl : kc 13 = 11) hc) gRX10_X2_apply hdX2_apply rfl ⟨by decide, by decide⟩ hP hS (cr_rec hP (rfl : kc 13 = 11) rfl cw11 rfl) hl.1 (Nat.le_of_ble_eq_true rfl) ⟨Nat.zero_le _, Nat.zero_le _⟩ dX10_change_35 (As := [.int x1, .int x2, .int x3]) (rest := []) rfl (fun H locs hP hS => ?_)
  exact kX10_change_38 X hret hf hP hS (lv_sub hl [0] rfl)
set_option maxRecDepth 10000 in
theorem kX10_change_24 {r : Int32} {S1 : CS} {M : CS} {x1 : Int32} {x2 : Int32} {x3 : Int32} {H : Heap} {locs : List Loc} {ls : Array Slot} (X : gX p s m args c cX10_change 4 RX10 (kR kTab kA)) (hret : gRetI p l e (rmL 7 0 0) s m args below meth c cX10_change (cΩ ca) (cP dC dI cg kA ca) Q r S1) (hf : fX10_change_24 M x1 x2 x3 = some (r, S1)) (hP : (cP dC dI cg kA ca) M s H) (hS : va_S (Fr (cΩ ca) s.heap.size) s.heap H locs) (hl : lv_has ls 4 [(0, .ref (ca 0)), (1, .int x1), (2, .int x2), (3, .int x3)]) : W p l e (rmL 7 0 0) s m args below meth c H locs 0 0 Q (F0 m 24 ls []) := by
  have hx := X.hx
  have hb := X.hb
  have hown := X.hown
  have hts := X.hts
  rw [fX10_change_24] at hf
  refine lv_aload_n hx hb dX10_change_24 rfl (lv_at hl 0 rfl) ?_
  obtain ⟨q, hc, hf⟩ := bd hf
  refine gCallVV X cOK rfl (vX10_remember hc) gRX10_X10_remember hdX10_remember rfl ⟨by decide, by decide⟩ hP hS (cr_rec hP (rfl : kc 0 = 0) rfl cw0 rfl) hl.1 (Nat.le_of_ble_eq_true rfl) ⟨Nat.zero_le _, Nat.zero_le _⟩ dX10_change_25 (As := []) (rest := []) rfl (fun H locs hP hS => ?_)
  exact kX10_change_28 X hret hf hP hS (lv_sub hl [0, 1, 2, 3] rfl)
set_option maxRecDepth 10000 in
theorem kX10_change_13 {r : Int32} {S1 : CS} {M : CS} {H : Heap} {locs : List Loc} {ls : Array Slot} (X : gX p s m args c cX10_change 4 RX10 (kR kTab kA)) (hret : gRetI p l e (rmL 7 0 0) s m args below meth c cX10_change (cΩ ca) (cP dC dI cg kA ca) Q r S1) (hf : fX10_change_13 M = some (r, S1)) (hP : (cP dC dI cg kA ca) M s H) (hS : va_S (Fr (cΩ ca) s.heap.size) s.heap H locs) (hl : lv_has ls 4 [(0, .ref (ca 0))]) : W p l e (rmL 7 0 0) s m args below meth c H locs 0 0 Q (F0 m 13 ls []) := by
  have hx := X.hx
  have hb := X.hb
  have hown := X.hown
  have hts := X.hts
  rw [fX10_change_13] at hf
  cases hf
set_option maxRecDepth 10000 in
theorem kX10_change_10 {r : Int32} {S1 : CS} {M : CS} {x1 : Int32} {x2 : Int32} {x3 : Int32} {s0 : Int32} {H : Heap} {locs : List Loc} {ls : Array Slot} (X : gX p s m args c cX10_change 4 RX10 (kR kTab kA)) (hret : gRetI p l e (rmL 7 0 0) s m args below meth c cX10_change (cΩ ca) (cP dC dI cg kA ca) Q r S1) (hf : fX10_change_10 M x1 x2 x3 s0 = some (r, S1)) (hP : (cP dC dI cg kA ca) M s H) (hS : va_S (Fr (cΩ ca) s.heap.size) s.heap H locs) (hl : lv_has ls 4 [(0, .ref (ca 0)), (1, .int x1), (2, .int x2), (3, .int x3)]) : W p l e (rmL 7 0 0) s m args below meth c H locs 0 0 Q (F0 m 10 ls [.int s0]) := by
  have hx := X.hx
  have hb := X.hb
  have hown := X.hown
  have hts := X.hts
  rw [fX10_change_10] at hf
  refine lv_if_ne (tgt := 24) hx hb dX10_change_10 (by decide) (fun c1 => ?_) (fun c1 => ?_)
  · exact kX10_change_24 X hret (ifn c1 hf) hP hS (lv_sub hl [0, 1, 2, 3] rfl)
  · exact kX10_change_13 X hret (ifp c1 hf) hP hS (lv_sub hl [0] rfl)
set_option maxRecDepth 10000 in
theorem kX10_change_0 {r : Int32} {S1 : CS} {M : CS} {a1 : Int32} {a2 : Int32} {a3 : Int32} {H : Heap} {locs : List Loc} {ls : Array Slot} (X : gX p s m args c cX10_change 4 RX10 (kR kTab kA)) (hret : gRetI p l e (rmL 7 0 0) s m args below meth c cX10_change (cΩ ca) (cP dC dI cg kA ca) Q r S1) (hf : fX10_change_0 M a1 a2 a3 = some (r, S1)) (hP : (cP dC dI cg kA ca) M s H) (hS : va_S (Fr (cΩ ca) s.heap.size) s.heap H locs) (hl : lv_has ls 4 [(0, .ref (ca 0)), (1, .int a1), (2, .int a2), (3, .int a3)]) : W p l e (rmL 7 0 0) s m args below meth c H locs 0 0 Q (F0 m 0 ls []) := by
  have hx := X.hx
  have hb := X.hb
  have hown := X.hown
  have hts := X.hts
  rw [fX10_change_0] at hf
  refine lv_aload_n hx hb dX10_change_0 rfl (lv_at hl 0 rfl) ?_
  refine cr_get (k := 2) X hP (rfl : kc 0 = 0) rfl cv0_2 rfl cinX10 (by decide) rfl tw752 dX10_change_1 ?_
  refine lv_iload_n hx hb dX10_change_4 rfl (lv_at hl 1 rfl) ?_
  refine lv_iload_n hx hb dX10_change_5 rfl (lv_at hl 2 rfl) ?_
  refine lv_iload_n hx hb dX10_change_6 rfl (lv_at hl 3 rfl) ?_
  obtain ⟨q, hc, hf⟩ := bd hf
  refine gCallVR X rfl (vX2_allows (rfl : kc 13 = 11) hc) gRX10_X2_allows hdX2_allows rfl ⟨by decide, by decide⟩ (gB_blind cOK) (gB_at cOK X hP) (cr_rec hP (rfl : kc 13 = 11) rfl cw11 rfl) hl.1 (Nat.le_of_ble_eq_true rfl) ⟨Nat.zero_le _, Nat.zero_le _⟩ dX10_change_7 (As := [.int a1, .int a2, .int a3]) (rest := []) rfl ?_
  exact kX10_change_10 X hret hf hP hS (lv_sub hl [0, 1, 2, 3] rfl)
theorem vX10_change {l : Launch} {dC : Nat → ClassId} {dI : Nat → Nat → Nat} {cg : Nat → ClassId} {kA : String → Nat → Nat} {ca : Nat → Nat} {M S1 : CS} {r : Int32} {a1 : Int32} {a2 : Int32} {a3 : Int32} (hf : fX10_change M a1 a2 a3 = some (r, S1)) : gMetI l yX10_change cX10_change 4 (some .int) 7 (cΩ ca) (cP dC dI cg kA ca) (kR kTab kA) [.ref (ca 0), .int a1, .int a2, .int a3] M r S1 := gEntryI (ty := .int) (by decide) rfl rfl cOK (Nat.le_of_ble_eq_true rfl) (fun p e s m args below meth c Q ls X hP hS hret hl => 
  kX10_change_0 X hret hf hP hS (lv_sub hl [0, 1, 2, 3] rfl))
set_option maxRecDepth 10000 in
theorem kX10_letPass_14 {r : Int32} {S1 : CS} {M : CS} {s0 : Int32} {H : Heap} {locs : List Loc} {ls : Array Slot} (X : gX p s m args c cX10_letPass 2 RX10 (kR kTab kA)) (hret : gRetI p l e (rmL 8 0 0) s m args below meth c cX10_letPass (cΩ ca) (cP dC dI cg kA ca) Q r S1) (hf : fX10_letPass_14 M s0 = some (r, S1)) (hP : (cP dC dI cg kA ca) M s H) (hS : va_S (Fr (cΩ ca) s.heap.size) s.heap H locs) (hl : lv_has ls 2 [(0, .ref (ca 0))]) : W p l e (rmL 8 0 0) s m args below meth c H locs 0 0 Q (F0 m 14 ls [.int s0]) := by
  have hx := X.hx
  have hb := X.hb
  have hown := X.hown
  have hts := X.hts
  rw [fX10_letPass_14] at hf
  cases hf
  exact hret _ _ _ _ dX10_letPass_14 hP hS
set_option maxRecDepth 10000 in
theorem kX10_letPass_7 {r : Int32} {S1 : CS} {M : CS} {x1 : Int32} {H : Heap} {locs : List Loc} {ls : Array Slot} (X : gX p s m args c cX10_letPass 2 RX10 (kR kTab kA)) (hret : gRetI p l e (rmL 8 0 0) s m args below meth c cX10_letPass (cΩ ca) (cP dC dI cg kA ca) Q r S1) (hf : fX10_letPass_7 M x1 = some (r, S1)) (hP : (cP dC dI cg kA ca) M s H) (hS : va_S (Fr (cΩ ca) s.heap.size) s.heap H locs) (hl : lv_has ls 2 [(0, .ref (ca 0)), (1, .int x1)]) : W p l e (rmL 8 0 0) s m args below meth c H locs 0 0 Q (F0 m 7 ls []) := by
  have hx := X.hx
  have hb := X.hb
  have hown := X.hown
  have hts := X.hts
  rw [fX10_letPass_7] at hf
  refine lv_aload_n hx hb dX10_letPass_7 rfl (lv_at hl 0 rfl) ?_
  refine lv_iconst (v := 0) hx hb dX10_letPass_8 (by decide) ?_
  refine lv_iconst (v := (-1)) hx hb dX10_letPass_9 (by decide) ?_
  refine lv_iload_n hx hb dX10_letPass_10 rfl (lv_at hl 1 rfl) ?_
  obtain ⟨q, hc, hf⟩ := bd hf
  refine gCallVI X cOK rfl (vX10_change hc) gRX10_X10_change hdX10_change rfl ⟨by decide, by decide⟩ hP hS (cr_rec hP (rfl : kc 0 = 0) rfl cw0 rfl) hl.1 (Nat.le_of_ble_eq_true rfl) ⟨Nat.zero_le _, Nat.zero_le _⟩ dX10_letPass_11 (As := [.int 0, .int (-1), .int x1]) (rest := []) rfl (fun H locs hP hS => ?_)
  exact kX10_letPass_14 X hret hf hP hS (lv_sub hl [0] rfl)
set_option maxRecDepth 10000 in
theorem kX10_letPass_0 {r : Int32} {S1 : CS} {M : CS} {a1 : Int32} {H : Heap} {locs : List Loc} {ls : Array Slot} (X : gX p s m args c cX10_letPass 2 RX10 (kR kTab kA)) (hret : gRetI p l e (rmL 8 0 0) s m args below meth c cX10_letPass (cΩ ca) (cP dC dI cg kA ca) Q r S1) (hf : fX10_letPass_0 M a1 = some (r, S1)) (hP : (cP dC dI cg kA ca) M s H) (hS : va_S (Fr (cΩ ca) s.heap.size) s.heap H locs) (hl : lv_has ls 2 [(0, .ref (ca 0)), (1, .int a1)]) : W p l e (rmL 8 0 0) s m args below meth c H locs 0 0 Q (F0 m 0 ls []) := by
  have hx := X.hx
  have hb := X.hb
  have hown := X.hown
  have hts := X.hts
  rw [fX10_letPass_0] at hf
  refine lv_iload_n hx hb dX10_letPass_0 rfl (lv_at hl 1 rfl) ?_
  refine lv_iconst (v := 1) hx hb dX10_letPass_1 (by decide) ?_
  refine lv_bipush (v := 99) hx hb dX10_letPass_2 (by decide) ?_
  obtain ⟨q, hc, hf⟩ := bd hf
  refine gCallSV X cOK rfl (vX10_requireRange hc) gRX10_X10_requireRange hdX10_requireRange rfl ⟨by decide, by decide⟩ hP hS hl.1 (Nat.le_of_ble_eq_true rfl) ⟨Nat.zero_le _, Nat.zero_le _⟩ dX10_letPass_4 (As := [.int a1, .int 1, .int 99]) (rest := []) rfl (fun H locs hP hS => ?_)
  exact kX10_letPass_7 X hret hf hP hS (lv_sub hl [0, 1] rfl)
theorem vX10_letPass {l : Launch} {dC : Nat → ClassId} {dI : Nat → Nat → Nat} {cg : Nat → ClassId} {kA : String → Nat → Nat} {ca : Nat → Nat} {M S1 : CS} {r : Int32} {a1 : Int32} (hf : fX10_letPass M a1 = some (r, S1)) : gMetI l yX10_letPass cX10_letPass 2 (some .int) 8 (cΩ ca) (cP dC dI cg kA ca) (kR kTab kA) [.ref (ca 0), .int a1] M r S1 := gEntryI (ty := .int) (by decide) rfl rfl cOK (Nat.le_of_ble_eq_true rfl) (fun p e s m args below meth c Q ls X hP hS hret hl => 
  kX10_letPass_0 X hret hf hP hS (lv_sub hl [0, 1] rfl))
set_option maxRecDepth 10000 in
theorem kX10_openFlap_13 {r : Int32} {S1 : CS} {M : CS} {s0 : Int32} {H : Heap} {locs : List Loc} {ls : Array Slot} (X : gX p s m args c cX10_openFlap 2 RX10 (kR kTab kA)) (hret : gRetI p l e (rmL 8 0 0) s m args below meth c cX10_openFlap (cΩ ca) (cP dC dI cg kA ca) Q r S1) (hf : fX10_openFlap_13 M s0 = some (r, S1)) (hP : (cP dC dI cg kA ca) M s H) (hS : va_S (Fr (cΩ ca) s.heap.size) s.heap H locs) (hl : lv_has ls 2 [(0, .ref (ca 0))]) : W p l e (rmL 8 0 0) s m args below meth c H locs 0 0 Q (F0 m 13 ls [.int s0]) := by
  have hx := X.hx
  have hb := X.hb
  have hown := X.hown
  have hts := X.hts
  rw [fX10_openFlap_13] at hf
  cases hf
  exact hret _ _ _ _ dX10_openFlap_13 hP hS
set_option maxRecDepth 10000 in
theorem kX10_openFlap_5 {r : Int32} {S1 : CS} {M : CS} {z0 : Nat} {x1 : Int32} {H : Heap} {locs : List Loc} {ls : Array Slot} (X : gX p s m args c cX10_openFlap 2 RX10 (kR kTab kA)) (hret : gRetI p l e (rmL 8 0 0) s m args below meth c cX10_openFlap (cΩ ca) (cP dC dI cg kA ca) Q r S1) (hkz0 : kc z0 = 19) (hf : fX10_openFlap_5 M z0 x1 = some (r, S1)) (hP : (cP dC dI cg kA ca) M s H) (hS : va_S (Fr (cΩ ca) s.heap.size) s.heap H locs) (hl : lv_has ls 2 [(0, .ref (ca 0)), (1, .int x1)]) : W p l e (rmL 8 0 0) s m args below meth c H locs 0 0 Q (F0 m 5 ls [.ref (ca z0)]) := by
  have hx := X.hx
  have hb := X.hb
  have hown := X.hown
  have hts := X.hts
  rw [fX10_openFlap_5] at hf
  refine lv_pop hx hb dX10_openFlap_5 rfl ?_
  refine lv_aload_n hx hb dX10_openFlap_6 rfl (lv_at hl 0 rfl) ?_
  refine lv_iconst (v := 1) hx hb dX10_openFlap_7 (by decide) ?_
  refine lv_iload_n hx hb dX10_openFlap_8 rfl (lv_at hl 1 rfl) ?_
  refine lv_iconst (v := 0) hx hb dX10_openFlap_9 (by decide) ?_
  obtain ⟨q, hc, hf⟩ := bd hf
  refine gCallVI X cOK rfl (vX10_change hc) gRX10_X10_change hdX10_change rfl ⟨by decide, by decide⟩ hP hS (cr_rec hP (rfl : kc 0 = 0) rfl cw0 rfl) hl.1 (Nat.le_of_ble_eq_true rfl) ⟨Nat.zero_le _, Nat.zero_le _⟩ dX10_openFlap_10 (As := [.int 1, .int x1, .int 0]) (rest := []) rfl (fun H locs hP hS => ?_)
  exact kX10_openFlap_13 X hret hf hP hS (lv_sub hl [0] rfl)
set_option maxRecDepth 10000 in
theorem kX10_openFlap_0 {r : Int32} {S1 : CS} {M : CS} {a1 : Int32} {H : Heap} {locs : List Loc} {ls : Array Slot} (X : gX p s m args c cX10_openFlap 2 RX10 (kR kTab kA)) (hret : gRetI p l e (rmL 8 0 0) s m args below meth c cX10_openFlap (cΩ ca) (cP dC dI cg kA ca) Q r S1) (hf : fX10_openFlap_0 M a1 = some (r, S1)) (hP : (cP dC dI cg kA ca) M s H) (hS : va_S (Fr (cΩ ca) s.heap.size) s.heap H locs) (hl : lv_has ls 2 [(0, .ref (ca 0)), (1, .int a1)]) : W p l e (rmL 8 0 0) s m args below meth c H locs 0 0 Q (F0 m 0 ls []) := by
  have hx := X.hx
  have hb := X.hb
  have hown := X.hown
  have hts := X.hts
  rw [fX10_openFlap_0] at hf
  refine lv_aload_n hx hb dX10_openFlap_0 rfl (lv_at hl 0 rfl) ?_
  refine lv_iload_n hx hb dX10_openFlap_1 rfl (lv_at hl 1 rfl) ?_
  obtain ⟨q, hc, hf⟩ := bd hf
  refine gCallVP X rfl (vX10_sackAt hc) gRX10_X10_sackAt hdX10_sackAt rfl ⟨by decide, by decide⟩ (gB_blind cOK) (gB_at cOK X hP) (cr_rec hP (rfl : kc 0 = 0) rfl cw0 rfl) hl.1 (Nat.le_of_ble_eq_true rfl) ⟨Nat.zero_le _, Nat.zero_le _⟩ dX10_openFlap_2 (As := [.int a1]) (rest := []) rfl ?_
  exact kX10_openFlap_5 X hret (kkX10_sackAt hc) hf hP hS (lv_sub hl [0, 1] rfl)
theorem vX10_openFlap {l : Launch} {dC : Nat → ClassId} {dI : Nat → Nat → Nat} {cg : Nat → ClassId} {kA : String → Nat → Nat} {ca : Nat → Nat} {M S1 : CS} {r : Int32} {a1 : Int32} (hf : fX10_openFlap M a1 = some (r, S1)) : gMetI l yX10_openFlap cX10_openFlap 2 (some .int) 8 (cΩ ca) (cP dC dI cg kA ca) (kR kTab kA) [.ref (ca 0), .int a1] M r S1 := gEntryI (ty := .int) (by decide) rfl rfl cOK (Nat.le_of_ble_eq_true rfl) (fun p e s m args below meth c Q ls X hP hS hret hl => 
  kX10_openFlap_0 X hret hf hP hS (lv_sub hl [0, 1] rfl))
set_option maxRecDepth 10000 in
theorem kX10_shutFlap_13 {r : Int32} {S1 : CS} {M : CS} {s0 : Int32} {H : Heap} {locs : List Loc} {ls : Array Slot} (X : gX p s m args c cX10_shutFlap 2 RX10 (kR kTab kA)) (hret : gRetI p l e (rmL 8 0 0) s m args below meth c cX10_shutFlap (cΩ ca) (cP dC dI cg kA ca) Q r S1) (hf : fX10_shutFlap_13 M s0 = some (r, S1)) (hP : (cP dC dI cg kA ca) M s H) (hS : va_S (Fr (cΩ ca) s.heap.size) s.heap H locs) (hl : lv_has ls 2 [(0, .ref (ca 0))]) : W p l e (rmL 8 0 0) s m args below meth c H locs 0 0 Q (F0 m 13 ls [.int s0]) := by
  have hx := X.hx
  have hb := X.hb
  have hown := X.hown
  have hts := X.hts
  rw [fX10_shutFlap_13] at hf
  cases hf
  exact hret _ _ _ _ dX10_shutFlap_13 hP hS
set_option maxRecDepth 10000 in
theorem kX10_shutFlap_5 {r : Int32} {S1 : CS} {M : CS} {z0 : Nat} {x1 : Int32} {H : Heap} {locs : List Loc} {ls : Array Slot} (X : gX p s m args c cX10_shutFlap 2 RX10 (kR kTab kA)) (hret : gRetI p l e (rmL 8 0 0) s m args below meth c cX10_shutFlap (cΩ ca) (cP dC dI cg kA ca) Q r S1) (hkz0 : kc z0 = 19) (hf : fX10_shutFlap_5 M z0 x1 = some (r, S1)) (hP : (cP dC dI cg kA ca) M s H) (hS : va_S (Fr (cΩ ca) s.heap.size) s.heap H locs) (hl : lv_has ls 2 [(0, .ref (ca 0)), (1, .int x1)]) : W p l e (rmL 8 0 0) s m args below meth c H locs 0 0 Q (F0 m 5 ls [.ref (ca z0)]) := by
  have hx := X.hx
  have hb := X.hb
  have hown := X.hown
  have hts := X.hts
  rw [fX10_shutFlap_5] at hf
  refine lv_pop hx hb dX10_shutFlap_5 rfl ?_
  refine lv_aload_n hx hb dX10_shutFlap_6 rfl (lv_at hl 0 rfl) ?_
  refine lv_iconst (v := 2) hx hb dX10_shutFlap_7 (by decide) ?_
  refine lv_iload_n hx hb dX10_shutFlap_8 rfl (lv_at hl 1 rfl) ?_
  refine lv_iconst (v := 0) hx hb dX10_shutFlap_9 (by decide) ?_
  obtain ⟨q, hc, hf⟩ := bd hf
  refine gCallVI X cOK rfl (vX10_change hc) gRX10_X10_change hdX10_change rfl ⟨by decide, by decide⟩ hP hS (cr_rec hP (rfl : kc 0 = 0) rfl cw0 rfl) hl.1 (Nat.le_of_ble_eq_true rfl) ⟨Nat.zero_le _, Nat.zero_le _⟩ dX10_shutFlap_10 (As := [.int 2, .int x1, .int 0]) (rest := []) rfl (fun H locs hP hS => ?_)
  exact kX10_shutFlap_13 X hret hf hP hS (lv_sub hl [0] rfl)
set_option maxRecDepth 10000 in
theorem kX10_shutFlap_0 {r : Int32} {S1 : CS} {M : CS} {a1 : Int32} {H : Heap} {locs : List Loc} {ls : Array Slot} (X : gX p s m args c cX10_shutFlap 2 RX10 (kR kTab kA)) (hret : gRetI p l e (rmL 8 0 0) s m args below meth c cX10_shutFlap (cΩ ca) (cP dC dI cg kA ca) Q r S1) (hf : fX10_shutFlap_0 M a1 = some (r, S1)) (hP : (cP dC dI cg kA ca) M s H) (hS : va_S (Fr (cΩ ca) s.heap.size) s.heap H locs) (hl : lv_has ls 2 [(0, .ref (ca 0)), (1, .int a1)]) : W p l e (rmL 8 0 0) s m args below meth c H locs 0 0 Q (F0 m 0 ls []) := by
  have hx := X.hx
  have hb := X.hb
  have hown := X.hown
  have hts := X.hts
  rw [fX10_shutFlap_0] at hf
  refine lv_aload_n hx hb dX10_shutFlap_0 rfl (lv_at hl 0 rfl) ?_
  refine lv_iload_n hx hb dX10_shutFlap_1 rfl (lv_at hl 1 rfl) ?_
  obtain ⟨q, hc, hf⟩ := bd hf
  refine gCallVP X rfl (vX10_sackAt hc) gRX10_X10_sackAt hdX10_sackAt rfl ⟨by decide, by decide⟩ (gB_blind cOK) (gB_at cOK X hP) (cr_rec hP (rfl : kc 0 = 0) rfl cw0 rfl) hl.1 (Nat.le_of_ble_eq_true rfl) ⟨Nat.zero_le _, Nat.zero_le _⟩ dX10_shutFlap_2 (As := [.int a1]) (rest := []) rfl ?_
  exact kX10_shutFlap_5 X hret (kkX10_sackAt hc) hf hP hS (lv_sub hl [0, 1] rfl)
theorem vX10_shutFlap {l : Launch} {dC : Nat → ClassId} {dI : Nat → Nat → Nat} {cg : Nat → ClassId} {kA : String → Nat → Nat} {ca : Nat → Nat} {M S1 : CS} {r : Int32} {a1 : Int32} (hf : fX10_shutFlap M a1 = some (r, S1)) : gMetI l yX10_shutFlap cX10_shutFlap 2 (some .int) 8 (cΩ ca) (cP dC dI cg kA ca) (kR kTab kA) [.ref (ca 0), .int a1] M r S1 := gEntryI (ty := .int) (by decide) rfl rfl cOK (Nat.le_of_ble_eq_true rfl) (fun p e s m args below meth c Q ls X hP hS hret hl => 
  kX10_shutFlap_0 X hret hf hP hS (lv_sub hl [0, 1] rfl))
set_option maxRecDepth 10000 in
theorem kX10_addMice_20 {r : Int32} {S1 : CS} {M : CS} {s0 : Int32} {H : Heap} {locs : List Loc} {ls : Array Slot} (X : gX p s m args c cX10_addMice 3 RX10 (kR kTab kA)) (hret : gRetI p l e (rmL 8 0 0) s m args below meth c cX10_addMice (cΩ ca) (cP dC dI cg kA ca) Q r S1) (hf : fX10_addMice_20 M s0 = some (r, S1)) (hP : (cP dC dI cg kA ca) M s H) (hS : va_S (Fr (cΩ ca) s.heap.size) s.heap H locs) (hl : lv_has ls 3 [(0, .ref (ca 0))]) : W p l e (rmL 8 0 0) s m args below meth c H locs 0 0 Q (F0 m 20 ls [.int s0]) := by
  have hx := X.hx
  have hb := X.hb
  have hown := X.hown
  have hts := X.hts
  rw [fX10_addMice_20] at hf
  cases hf
  exact hret _ _ _ _ dX10_addMice_20 hP hS
set_option maxRecDepth 10000 in
theorem kX10_addMice_13 {r : Int32} {S1 : CS} {M : CS} {x1 : Int32} {x2 : Int32} {H : Heap} {locs : List Loc} {ls : Array Slot} (X : gX p s m args c cX10_addMice 3 RX10 (kR kTab kA)) (hret : gRetI p l e (rmL 8 0 0) s m args below meth c cX10_addMice (cΩ ca) (cP dC dI cg kA ca) Q r S1) (hf : fX10_addMice_13 M x1 x2 = some (r, S1)) (hP : (cP dC dI cg kA ca) M s H) (hS : va_S (Fr (cΩ ca) s.heap.size) s.heap H locs) (hl : lv_has ls 3 [(0, .ref (ca 0)), (1, .int x1), (2, .int x2)]) : W p l e (rmL 8 0 0) s m args below meth c H locs 0 0 Q (F0 m 13 ls []) := by
  have hx := X.hx
  have hb := X.hb
  have hown := X.hown
  have hts := X.hts
  rw [fX10_addMice_13] at hf
  refine lv_aload_n hx hb dX10_addMice_13 rfl (lv_at hl 0 rfl) ?_
  refine lv_iconst (v := 3) hx hb dX10_addMice_14 (by decide) ?_
  refine lv_iload_n hx hb dX10_addMice_15 rfl (lv_at hl 1 rfl) ?_
  refine lv_iload_n hx hb dX10_addMice_16 rfl (lv_at hl 2 rfl) ?_
  obtain ⟨q, hc, hf⟩ := bd hf
  refine gCallVI X cOK rfl (vX10_change hc) gRX10_X10_change hdX10_change rfl ⟨by decide, by decide⟩ hP hS (cr_rec hP (rfl : kc 0 = 0) rfl cw0 rfl) hl.1 (Nat.le_of_ble_eq_true rfl) ⟨Nat.zero_le _, Nat.zero_le _⟩ dX10_addMice_17 (As := [.int 3, .int x1, .int x2]) (rest := []) rfl (fun H locs hP hS => ?_)
  exact kX10_addMice_20 X hret hf hP hS (lv_sub hl [0] rfl)
set_option maxRecDepth 10000 in
theorem kX10_addMice_5 {r : Int32} {S1 : CS} {M : CS} {z0 : Nat} {x1 : Int32} {x2 : Int32} {H : Heap} {locs : List Loc} {ls : Array Slot} (X : gX p s m args c cX10_addMice 3 RX10 (kR kTab kA)) (hret : gRetI p l e (rmL 8 0 0) s m args below meth c cX10_addMice (cΩ ca) (cP dC dI cg kA ca) Q r S1) (hkz0 : kc z0 = 19) (hf : fX10_addMice_5 M z0 x1 x2 = some (r, S1)) (hP : (cP dC dI cg kA ca) M s H) (hS : va_S (Fr (cΩ ca) s.heap.size) s.heap H locs) (hl : lv_has ls 3 [(0, .ref (ca 0)), (1, .int x1), (2, .int x2)]) : W p l e (rmL 8 0 0) s m args below meth c H locs 0 0 Q (F0 m 5 ls [.ref (ca z0)]) := by
  have hx := X.hx
  have hb := X.hb
  have hown := X.hown
  have hts := X.hts
  rw [fX10_addMice_5] at hf
  refine lv_pop hx hb dX10_addMice_5 rfl ?_
  refine lv_iload_n hx hb dX10_addMice_6 rfl (lv_at hl 2 rfl) ?_
  refine lv_iconst (v := 1) hx hb dX10_addMice_7 (by decide) ?_
  refine lv_bipush (v := 99) hx hb dX10_addMice_8 (by decide) ?_
  obtain ⟨q, hc, hf⟩ := bd hf
  refine gCallSV X cOK rfl (vX10_requireRange hc) gRX10_X10_requireRange hdX10_requireRange rfl ⟨by decide, by decide⟩ hP hS hl.1 (Nat.le_of_ble_eq_true rfl) ⟨Nat.zero_le _, Nat.zero_le _⟩ dX10_addMice_10 (As := [.int x2, .int 1, .int 99]) (rest := []) rfl (fun H locs hP hS => ?_)
  exact kX10_addMice_13 X hret hf hP hS (lv_sub hl [0, 1, 2] rfl)
set_option maxRecDepth 10000 in
theorem kX10_addMice_0 {r : Int32} {S1 : CS} {M : CS} {a1 : Int32} {a2 : Int32} {H : Heap} {locs : List Loc} {ls : Array Slot} (X : gX p s m args c cX10_addMice 3 RX10 (kR kTab kA)) (hret : gRetI p l e (rmL 8 0 0) s m args below meth c cX10_addMice (cΩ ca) (cP dC dI cg kA ca) Q r S1) (hf : fX10_addMice_0 M a1 a2 = some (r, S1)) (hP : (cP dC dI cg kA ca) M s H) (hS : va_S (Fr (cΩ ca) s.heap.size) s.heap H locs) (hl : lv_has ls 3 [(0, .ref (ca 0)), (1, .int a1), (2, .int a2)]) : W p l e (rmL 8 0 0) s m args below meth c H locs 0 0 Q (F0 m 0 ls []) := by
  have hx := X.hx
  have hb := X.hb
  have hown := X.hown
  have hts := X.hts
  rw [fX10_addMice_0] at hf
  refine lv_aload_n hx hb dX10_addMice_0 rfl (lv_at hl 0 rfl) ?_
  refine lv_iload_n hx hb dX10_addMice_1 rfl (lv_at hl 1 rfl) ?_
  obtain ⟨q, hc, hf⟩ := bd hf
  refine gCallVP X rfl (vX10_sackAt hc) gRX10_X10_sackAt hdX10_sackAt rfl ⟨by decide, by decide⟩ (gB_blind cOK) (gB_at cOK X hP) (cr_rec hP (rfl : kc 0 = 0) rfl cw0 rfl) hl.1 (Nat.le_of_ble_eq_true rfl) ⟨Nat.zero_le _, Nat.zero_le _⟩ dX10_addMice_2 (As := [.int a1]) (rest := []) rfl ?_
  exact kX10_addMice_5 X hret (kkX10_sackAt hc) hf hP hS (lv_sub hl [0, 1, 2] rfl)
theorem vX10_addMice {l : Launch} {dC : Nat → ClassId} {dI : Nat → Nat → Nat} {cg : Nat → ClassId} {kA : String → Nat → Nat} {ca : Nat → Nat} {M S1 : CS} {r : Int32} {a1 : Int32} {a2 : Int32} (hf : fX10_addMice M a1 a2 = some (r, S1)) : gMetI l yX10_addMice cX10_addMice 3 (some .int) 8 (cΩ ca) (cP dC dI cg kA ca) (kR kTab kA) [.ref (ca 0), .int a1, .int a2] M r S1 := gEntryI (ty := .int) (by decide) rfl rfl cOK (Nat.le_of_ble_eq_true rfl) (fun p e s m args below meth c Q ls X hP hS hret hl => 
  kX10_addMice_0 X hret hf hP hS (lv_sub hl [0, 1, 2] rfl))
set_option maxRecDepth 10000 in
theorem kX10_addGrain_21 {r : Int32} {S1 : CS} {M : CS} {s0 : Int32} {H : Heap} {locs : List Loc} {ls : Array Slot} (X : gX p s m args c cX10_addGrain 3 RX10 (kR kTab kA)) (hret : gRetI p l e (rmL 8 0 0) s m args below meth c cX10_addGrain (cΩ ca) (cP dC dI cg kA ca) Q r S1) (hf : fX10_addGrain_21 M s0 = some (r, S1)) (hP : (cP dC dI cg kA ca) M s H) (hS : va_S (Fr (cΩ ca) s.heap.size) s.heap H locs) (hl : lv_has ls 3 [(0, .ref (ca 0))]) : W p l e (rmL 8 0 0) s m args below meth c H locs 0 0 Q (F0 m 21 ls [.int s0]) := by
  have hx := X.hx
  have hb := X.hb
  have hown := X.hown
  have hts := X.hts
  rw [fX10_addGrain_21] at hf
  cases hf
  exact hret _ _ _ _ dX10_addGrain_21 hP hS
set_option maxRecDepth 10000 in
theorem kX10_addGrain_14 {r : Int32} {S1 : CS} {M : CS} {x1 : Int32} {x2 : Int32} {H : Heap} {locs : List Loc} {ls : Array Slot} (X : gX p s m args c cX10_addGrain 3 RX10 (kR kTab kA)) (hret : gRetI p l e (rmL 8 0 0) s m args below meth c cX10_addGrain (cΩ ca) (cP dC dI cg kA ca) Q r S1) (hf : fX10_addGrain_14 M x1 x2 = some (r, S1)) (hP : (cP dC dI cg kA ca) M s H) (hS : va_S (Fr (cΩ ca) s.heap.size) s.heap H locs) (hl : lv_has ls 3 [(0, .ref (ca 0)), (1, .int x1), (2, .int x2)]) : W p l e (rmL 8 0 0) s m args below meth c H locs 0 0 Q (F0 m 14 ls []) := by
  have hx := X.hx
  have hb := X.hb
  have hown := X.hown
  have hts := X.hts
  rw [fX10_addGrain_14] at hf
  refine lv_aload_n hx hb dX10_addGrain_14 rfl (lv_at hl 0 rfl) ?_
  refine lv_iconst (v := 4) hx hb dX10_addGrain_15 (by decide) ?_
  refine lv_iload_n hx hb dX10_addGrain_16 rfl (lv_at hl 1 rfl) ?_
  refine lv_iload_n hx hb dX10_addGrain_17 rfl (lv_at hl 2 rfl) ?_
  obtain ⟨q, hc, hf⟩ := bd hf
  refine gCallVI X cOK rfl (vX10_change hc) gRX10_X10_change hdX10_change rfl ⟨by decide, by decide⟩ hP hS (cr_rec hP (rfl : kc 0 = 0) rfl cw0 rfl) hl.1 (Nat.le_of_ble_eq_true rfl) ⟨Nat.zero_le _, Nat.zero_le _⟩ dX10_addGrain_18 (As := [.int 4, .int x1, .int x2]) (rest := []) rfl (fun H locs hP hS => ?_)
  exact kX10_addGrain_21 X hret hf hP hS (lv_sub hl [0] rfl)
set_option maxRecDepth 10000 in
theorem kX10_addGrain_5 {r : Int32} {S1 : CS} {M : CS} {z0 : Nat} {x1 : Int32} {x2 : Int32} {H : Heap} {locs : List Loc} {ls : Array Slot} (X : gX p s m args c cX10_addGrain 3 RX10 (kR kTab kA)) (hret : gRetI p l e (rmL 8 0 0) s m args below meth c cX10_addGrain (cΩ ca) (cP dC dI cg kA ca) Q r S1) (hkz0 : kc z0 = 19) (hf : fX10_addGrain_5 M z0 x1 x2 = some (r, S1)) (hP : (cP dC dI cg kA ca) M s H) (hS : va_S (Fr (cΩ ca) s.heap.size) s.heap H locs) (hl : lv_has ls 3 [(0, .ref (ca 0)), (1, .int x1), (2, .int x2)]) : W p l e (rmL 8 0 0) s m args below meth c H locs 0 0 Q (F0 m 5 ls [.ref (ca z0)]) := by
  have hx := X.hx
  have hb := X.hb
  have hown := X.hown
  have hts := X.hts
  rw [fX10_addGrain_5] at hf
  refine lv_pop hx hb dX10_addGrain_5 rfl ?_
  refine lv_iload_n hx hb dX10_addGrain_6 rfl (lv_at hl 2 rfl) ?_
  refine lv_iconst (v := 1) hx hb dX10_addGrain_7 (by decide) ?_
  refine lv_sipush (v := 999) hx hb dX10_addGrain_8 (by decide) ?_
  obtain ⟨q, hc, hf⟩ := bd hf
  refine gCallSV X cOK rfl (vX10_requireRange hc) gRX10_X10_requireRange hdX10_requireRange rfl ⟨by decide, by decide⟩ hP hS hl.1 (Nat.le_of_ble_eq_true rfl) ⟨Nat.zero_le _, Nat.zero_le _⟩ dX10_addGrain_11 (As := [.int x2, .int 1, .int 999]) (rest := []) rfl (fun H locs hP hS => ?_)
  exact kX10_addGrain_14 X hret hf hP hS (lv_sub hl [0, 1, 2] rfl)
set_option maxRecDepth 10000 in
theorem kX10_addGrain_0 {r : Int32} {S1 : CS} {M : CS} {a1 : Int32} {a2 : Int32} {H : Heap} {locs : List Loc} {ls : Array Slot} (X : gX p s m args c cX10_addGrain 3 RX10 (kR kTab kA)) (hret : gRetI p l e (rmL 8 0 0) s m args below meth c cX10_addGrain (cΩ ca) (cP dC dI cg kA ca) Q r S1) (hf : fX10_addGrain_0 M a1 a2 = some (r, S1)) (hP : (cP dC dI cg kA ca) M s H) (hS : va_S (Fr (cΩ ca) s.heap.size) s.heap H locs) (hl : lv_has ls 3 [(0, .ref (ca 0)), (1, .int a1), (2, .int a2)]) : W p l e (rmL 8 0 0) s m args below meth c H locs 0 0 Q (F0 m 0 ls []) := by
  have hx := X.hx
  have hb := X.hb
  have hown := X.hown
  have hts := X.hts
  rw [fX10_addGrain_0] at hf
  refine lv_aload_n hx hb dX10_addGrain_0 rfl (lv_at hl 0 rfl) ?_
  refine lv_iload_n hx hb dX10_addGrain_1 rfl (lv_at hl 1 rfl) ?_
  obtain ⟨q, hc, hf⟩ := bd hf
  refine gCallVP X rfl (vX10_sackAt hc) gRX10_X10_sackAt hdX10_sackAt rfl ⟨by decide, by decide⟩ (gB_blind cOK) (gB_at cOK X hP) (cr_rec hP (rfl : kc 0 = 0) rfl cw0 rfl) hl.1 (Nat.le_of_ble_eq_true rfl) ⟨Nat.zero_le _, Nat.zero_le _⟩ dX10_addGrain_2 (As := [.int a1]) (rest := []) rfl ?_
  exact kX10_addGrain_5 X hret (kkX10_sackAt hc) hf hP hS (lv_sub hl [0, 1, 2] rfl)
theorem vX10_addGrain {l : Launch} {dC : Nat → ClassId} {dI : Nat → Nat → Nat} {cg : Nat → ClassId} {kA : String → Nat → Nat} {ca : Nat → Nat} {M S1 : CS} {r : Int32} {a1 : Int32} {a2 : Int32} (hf : fX10_addGrain M a1 a2 = some (r, S1)) : gMetI l yX10_addGrain cX10_addGrain 3 (some .int) 8 (cΩ ca) (cP dC dI cg kA ca) (kR kTab kA) [.ref (ca 0), .int a1, .int a2] M r S1 := gEntryI (ty := .int) (by decide) rfl rfl cOK (Nat.le_of_ble_eq_true rfl) (fun p e s m args below meth c Q ls X hP hS hret hl => 
  kX10_addGrain_0 X hret hf hP hS (lv_sub hl [0, 1, 2] rfl))
set_option maxRecDepth 10000 in
theorem kX10_dismiss_7 {r : Int32} {S1 : CS} {M : CS} {s0 : Int32} {H : Heap} {locs : List Loc} {ls : Array Slot} (X : gX p s m args c cX10_dismiss 1 RX10 (kR kTab kA)) (hret : gRetI p l e (rmL 8 0 0) s m args below meth c cX10_dismiss (cΩ ca) (cP dC dI cg kA ca) Q r S1) (hf : fX10_dismiss_7 M s0 = some (r, S1)) (hP : (cP dC dI cg kA ca) M s H) (hS : va_S (Fr (cΩ ca) s.heap.size) s.heap H locs) (hl : lv_has ls 1 [(0, .ref (ca 0))]) : W p l e (rmL 8 0 0) s m args below meth c H locs 0 0 Q (F0 m 7 ls [.int s0]) := by
  have hx := X.hx
  have hb := X.hb
  have hown := X.hown
  have hts := X.hts
  rw [fX10_dismiss_7] at hf
  cases hf
  exact hret _ _ _ _ dX10_dismiss_7 hP hS
set_option maxRecDepth 10000 in
theorem kX10_dismiss_0 {r : Int32} {S1 : CS} {M : CS} {H : Heap} {locs : List Loc} {ls : Array Slot} (X : gX p s m args c cX10_dismiss 1 RX10 (kR kTab kA)) (hret : gRetI p l e (rmL 8 0 0) s m args below meth c cX10_dismiss (cΩ ca) (cP dC dI cg kA ca) Q r S1) (hf : fX10_dismiss_0 M = some (r, S1)) (hP : (cP dC dI cg kA ca) M s H) (hS : va_S (Fr (cΩ ca) s.heap.size) s.heap H locs) (hl : lv_has ls 1 [(0, .ref (ca 0))]) : W p l e (rmL 8 0 0) s m args below meth c H locs 0 0 Q (F0 m 0 ls []) := by
  have hx := X.hx
  have hb := X.hb
  have hown := X.hown
  have hts := X.hts
  rw [fX10_dismiss_0] at hf
  refine lv_aload_n hx hb dX10_dismiss_0 rfl (lv_at hl 0 rfl) ?_
  refine lv_iconst (v := 5) hx hb dX10_dismiss_1 (by decide) ?_
  refine lv_iconst (v := (-1)) hx hb dX10_dismiss_2 (by decide) ?_
  refine lv_iconst (v := 0) hx hb dX10_dismiss_3 (by decide) ?_
  obtain ⟨q, hc, hf⟩ := bd hf
  refine gCallVI X cOK rfl (vX10_change hc) gRX10_X10_change hdX10_change rfl ⟨by decide, by decide⟩ hP hS (cr_rec hP (rfl : kc 0 = 0) rfl cw0 rfl) hl.1 (Nat.le_of_ble_eq_true rfl) ⟨Nat.zero_le _, Nat.zero_le _⟩ dX10_dismiss_4 (As := [.int 5, .int (-1), .int 0]) (rest := []) rfl (fun H locs hP hS => ?_)
  exact kX10_dismiss_7 X hret hf hP hS (lv_sub hl [0] rfl)
theorem vX10_dismiss {l : Launch} {dC : Nat → ClassId} {dI : Nat → Nat → Nat} {cg : Nat → ClassId} {kA : String → Nat → Nat} {ca : Nat → Nat} {M S1 : CS} {r : Int32} (hf : fX10_dismiss M  = some (r, S1)) : gMetI l yX10_dismiss cX10_dismiss 1 (some .int) 8 (cΩ ca) (cP dC dI cg kA ca) (kR kTab kA) [.ref (ca 0)] M r S1 := gEntryI (ty := .int) (by decide) rfl rfl cOK (Nat.le_of_ble_eq_true rfl) (fun p e s m args below meth c Q ls X hP hS hret hl => 
  kX10_dismiss_0 X hret hf hP hS (lv_sub hl [0] rfl))
set_option maxRecDepth 10000 in
theorem kX10_setMilk_15 {r : Int32} {S1 : CS} {M : CS} {s0 : Int32} {H : Heap} {locs : List Loc} {ls : Array Slot} (X : gX p s m args c cX10_setMilk 2 RX10 (kR kTab kA)) (hret : gRetI p l e (rmL 8 0 0) s m args below meth c cX10_setMilk (cΩ ca) (cP dC dI cg kA ca) Q r S1) (hf : fX10_setMilk_15 M s0 = some (r, S1)) (hP : (cP dC dI cg kA ca) M s H) (hS : va_S (Fr (cΩ ca) s.heap.size) s.heap H locs) (hl : lv_has ls 2 [(0, .ref (ca 0))]) : W p l e (rmL 8 0 0) s m args below meth c H locs 0 0 Q (F0 m 15 ls [.int s0]) := by
  have hx := X.hx
  have hb := X.hb
  have hown := X.hown
  have hts := X.hts
  rw [fX10_setMilk_15] at hf
  cases hf
  exact hret _ _ _ _ dX10_setMilk_15 hP hS
set_option maxRecDepth 10000 in
theorem kX10_setMilk_7 {r : Int32} {S1 : CS} {M : CS} {x1 : Int32} {H : Heap} {locs : List Loc} {ls : Array Slot} (X : gX p s m args c cX10_setMilk 2 RX10 (kR kTab kA)) (hret : gRetI p l e (rmL 8 0 0) s m args below meth c cX10_setMilk (cΩ ca) (cP dC dI cg kA ca) Q r S1) (hf : fX10_setMilk_7 M x1 = some (r, S1)) (hP : (cP dC dI cg kA ca) M s H) (hS : va_S (Fr (cΩ ca) s.heap.size) s.heap H locs) (hl : lv_has ls 2 [(0, .ref (ca 0)), (1, .int x1)]) : W p l e (rmL 8 0 0) s m args below meth c H locs 0 0 Q (F0 m 7 ls []) := by
  have hx := X.hx
  have hb := X.hb
  have hown := X.hown
  have hts := X.hts
  rw [fX10_setMilk_7] at hf
  refine lv_aload_n hx hb dX10_setMilk_7 rfl (lv_at hl 0 rfl) ?_
  refine lv_bipush (v := 6) hx hb dX10_setMilk_8 (by decide) ?_
  refine lv_iconst (v := (-1)) hx hb dX10_setMilk_10 (by decide) ?_
  refine lv_iload_n hx hb dX10_setMilk_11 rfl (lv_at hl 1 rfl) ?_
  obtain ⟨q, hc, hf⟩ := bd hf
  refine gCallVI X cOK rfl (vX10_change hc) gRX10_X10_change hdX10_change rfl ⟨by decide, by decide⟩ hP hS (cr_rec hP (rfl : kc 0 = 0) rfl cw0 rfl) hl.1 (Nat.le_of_ble_eq_true rfl) ⟨Nat.zero_le _, Nat.zero_le _⟩ dX10_setMilk_12 (As := [.int 6, .int (-1), .int x1]) (rest := []) rfl (fun H locs hP hS => ?_)
  exact kX10_setMilk_15 X hret hf hP hS (lv_sub hl [0] rfl)
set_option maxRecDepth 10000 in
theorem kX10_setMilk_0 {r : Int32} {S1 : CS} {M : CS} {a1 : Int32} {H : Heap} {locs : List Loc} {ls : Array Slot} (X : gX p s m args c cX10_setMilk 2 RX10 (kR kTab kA)) (hret : gRetI p l e (rmL 8 0 0) s m args below meth c cX10_setMilk (cΩ ca) (cP dC dI cg kA ca) Q r S1) (hf : fX10_setMilk_0 M a1 = some (r, S1)) (hP : (cP dC dI cg kA ca) M s H) (hS : va_S (Fr (cΩ ca) s.heap.size) s.heap H locs) (hl : lv_has ls 2 [(0, .ref (ca 0)), (1, .int a1)]) : W p l e (rmL 8 0 0) s m args below meth c H locs 0 0 Q (F0 m 0 ls []) := by
  have hx := X.hx
  have hb := X.hb
  have hown := X.hown
  have hts := X.hts
  rw [fX10_setMilk_0] at hf
  refine lv_iload_n hx hb dX10_setMilk_0 rfl (lv_at hl 1 rfl) ?_
  refine lv_iconst (v := 0) hx hb dX10_setMilk_1 (by decide) ?_
  refine lv_bipush (v := 9) hx hb dX10_setMilk_2 (by decide) ?_
  obtain ⟨q, hc, hf⟩ := bd hf
  refine gCallSV X cOK rfl (vX10_requireRange hc) gRX10_X10_requireRange hdX10_requireRange rfl ⟨by decide, by decide⟩ hP hS hl.1 (Nat.le_of_ble_eq_true rfl) ⟨Nat.zero_le _, Nat.zero_le _⟩ dX10_setMilk_4 (As := [.int a1, .int 0, .int 9]) (rest := []) rfl (fun H locs hP hS => ?_)
  exact kX10_setMilk_7 X hret hf hP hS (lv_sub hl [0, 1] rfl)
theorem vX10_setMilk {l : Launch} {dC : Nat → ClassId} {dI : Nat → Nat → Nat} {cg : Nat → ClassId} {kA : String → Nat → Nat} {ca : Nat → Nat} {M S1 : CS} {r : Int32} {a1 : Int32} (hf : fX10_setMilk M a1 = some (r, S1)) : gMetI l yX10_setMilk cX10_setMilk 2 (some .int) 8 (cΩ ca) (cP dC dI cg kA ca) (kR kTab kA) [.ref (ca 0), .int a1] M r S1 := gEntryI (ty := .int) (by decide) rfl rfl cOK (Nat.le_of_ble_eq_true rfl) (fun p e s m args below meth c Q ls X hP hS hret hl => 
  kX10_setMilk_0 X hret hf hP hS (lv_sub hl [0, 1] rfl))
