variable {l : Launch} {p : Program} {e : Env} {s : State} {m : MethodId} {args : Array Value} {below : List Frame} {meth : Method} {c : Code} {A : Nat → Prop} {Q : State → Prop}
variable {dC : Nat → ClassId} {dI : Nat → Nat → Nat} {cg : Nat → ClassId} {kA : String → Nat → Nat} {ca : Nat → Nat}
def fX8_appendWords_25 (a1 : List Int32) (M : CS) : Option (CS) := some M
def fX8_appendWords_19 (a1 : List Int32) (K2 : CS → Int32 → Option (CS)) (M : CS) (x2 : Int32) : Option (CS) := K2 M (x2 + 1)
def fX8_appendWords_10 (a1 : List Int32) (K2 : CS → Int32 → Option (CS)) (M : CS) (x2 : Int32) : Option (CS) := if gIn x2 a1.length then (fX8_append M (a1.getD x2.toNatClampNeg 0)).bind fun q => fX8_appendWords_19 a1 K2 q x2 else none
def fX8_appendWords_2 (a1 : List Int32) : Nat → CS → Int32 → Option (CS)
  | 0 => fun _ _ => none
  | k + 1 => fun M x2 => if (Int32.ofNat a1.length) ≤ x2 then fX8_appendWords_25 a1 M else fX8_appendWords_10 a1 (fX8_appendWords_2 a1 k) M x2
def fX8_appendWords_0 (a1 : List Int32) (M : CS) : Option (CS) := fX8_appendWords_2 a1 FU M 0
def fX8_appendWords (M : CS) (a1 : List Int32) : Option (CS) := fX8_appendWords_0 a1  M
def fX8_isWord_19 (a1 : List Int32) (M : CS) : Option (Int32) := some 0
def fX8_isWord_58 (a1 : List Int32) (M : CS) : Option (Int32) := some 1
def fX8_isWord_52 (a1 : List Int32) (K23 : CS → Int32 → Option (Int32)) (M : CS) (x2 : Int32) : Option (Int32) := K23 M (x2 + 1)
def fX8_isWord_50 (a1 : List Int32) (M : CS) : Option (Int32) := some 0
def fX8_isWord_31 (a1 : List Int32) (K23 : CS → Int32 → Option (Int32)) (M : CS) (x2 : Int32) : Option (Int32) := if gIn ((M.1 1 5) + x2) 600 then if gIn x2 a1.length then if (M.1 2 ((M.1 1 5) + x2).toNatClampNeg) = (a1.getD x2.toNatClampNeg 0) then fX8_isWord_52 a1 K23 M x2 else fX8_isWord_50 a1 M else none else none
def fX8_isWord_23 (a1 : List Int32) : Nat → CS → Int32 → Option (Int32)
  | 0 => fun _ _ => none
  | k + 1 => fun M x2 => if (Int32.ofNat a1.length) ≤ x2 then fX8_isWord_58 a1 M else fX8_isWord_31 a1 (fX8_isWord_23 a1 k) M x2
def fX8_isWord_21 (a1 : List Int32) (M : CS) : Option (Int32) := fX8_isWord_23 a1 FU M 0
def fX8_isWord_12 (a1 : List Int32) (M : CS) (s0 : Int32) : Option (Int32) := if s0 = (Int32.ofNat a1.length) then fX8_isWord_21 a1 M else fX8_isWord_19 a1 M
def fX8_isWord_8 (a1 : List Int32) (M : CS) : Option (Int32) := (fX8_tokenLength M ).bind fun q => fX8_isWord_12 a1 M q
def fX8_isWord_0 (a1 : List Int32) (M : CS) : Option (Int32) := if (M.1 1 4) = 1 then fX8_isWord_8 a1 M else fX8_isWord_19 a1 M
def fX8_isWord (M : CS) (a1 : List Int32) : Option (Int32) := bq (fX8_isWord_0 a1  M)
def fX10_hoursUntilUnguarded_46 (M : CS) : Option (Int32 × CS) := some ((-1), M)
def fX10_hoursUntilUnguarded_40 (K13 : CS → Int32 → Option (Int32 × CS)) (M : CS) (x1 : Int32) : Option (Int32 × CS) := K13 M (x1 + 1)
def fX10_hoursUntilUnguarded_33 (K13 : CS → Int32 → Option (Int32 × CS)) (M : CS) (x1 : Int32) : Option (Int32 × CS) := (fX2_passHour M 83).bind fun q => fX10_hoursUntilUnguarded_40 K13 q x1
def fX10_hoursUntilUnguarded_31 (M : CS) (x1 : Int32) : Option (Int32 × CS) := some (x1, M)
def fX10_hoursUntilUnguarded_20 (K13 : CS → Int32 → Option (Int32 × CS)) (M : CS) (x1 : Int32) : Option (Int32 × CS) := if (M.1 83 8) = (-1) then fX10_hoursUntilUnguarded_31 M x1 else fX10_hoursUntilUnguarded_33 K13 M x1
def fX10_hoursUntilUnguarded_13 : Nat → CS → Int32 → Option (Int32 × CS)
  | 0 => fun _ _ => none
  | k + 1 => fun M x1 => if 200 < x1 then fX10_hoursUntilUnguarded_46 M else fX10_hoursUntilUnguarded_20 (fX10_hoursUntilUnguarded_13 k) M x1
def fX10_hoursUntilUnguarded_11 (M : CS) : Option (Int32 × CS) := fX10_hoursUntilUnguarded_13 FU M 0
def fX10_hoursUntilUnguarded_0 (M : CS) : Option (Int32 × CS) := (fX2_copyFrom M 83 13).bind fun q => fX10_hoursUntilUnguarded_11 q
def fX10_hoursUntilUnguarded (M : CS) : Option (Int32 × CS) := fX10_hoursUntilUnguarded_0  M
def fX10_hoursUntilEmpty_56 (M : CS) : Option (Int32 × CS) := some ((-1), M)
def fX10_hoursUntilEmpty_50 (K19 : CS → Int32 → Int32 → Option (Int32 × CS)) (M : CS) (x1 : Int32) (x2 : Int32) : Option (Int32 × CS) := K19 M x1 (x2 + 1)
def fX10_hoursUntilEmpty_43 (K19 : CS → Int32 → Int32 → Option (Int32 × CS)) (M : CS) (x1 : Int32) (x2 : Int32) : Option (Int32 × CS) := (fX2_passHour M 83).bind fun q => fX10_hoursUntilEmpty_50 K19 q x1 x2
def fX10_hoursUntilEmpty_41 (M : CS) (x2 : Int32) : Option (Int32 × CS) := some (x2, M)
def fX10_hoursUntilEmpty_26 (K19 : CS → Int32 → Int32 → Option (Int32 × CS)) (M : CS) (x1 : Int32) (x2 : Int32) : Option (Int32 × CS) := if gIn x1 6 then if (M.1 ((83 + 2) + 15 + x1.toNatClampNeg) 1) = 0 then fX10_hoursUntilEmpty_41 M x2 else fX10_hoursUntilEmpty_43 K19 M x1 x2 else none
def fX10_hoursUntilEmpty_19 : Nat → CS → Int32 → Int32 → Option (Int32 × CS)
  | 0 => fun _ _ _ => none
  | k + 1 => fun M x1 x2 => if 200 < x2 then fX10_hoursUntilEmpty_56 M else fX10_hoursUntilEmpty_26 (fX10_hoursUntilEmpty_19 k) M x1 x2
def fX10_hoursUntilEmpty_17 (M : CS) (x1 : Int32) : Option (Int32 × CS) := fX10_hoursUntilEmpty_19 FU M x1 0
def fX10_hoursUntilEmpty_5 (M : CS) (z0 : Nat) (x1 : Int32) : Option (Int32 × CS) := (fX2_copyFrom M 83 13).bind fun q => fX10_hoursUntilEmpty_17 q x1
def fX10_hoursUntilEmpty_0 (M : CS) (a1 : Int32) : Option (Int32 × CS) := (fX10_sackAt M a1).bind fun q => fX10_hoursUntilEmpty_5 M q a1
def fX10_hoursUntilEmpty (M : CS) (a1 : Int32) : Option (Int32 × CS) := fX10_hoursUntilEmpty_0  M a1
def fX10_letterOf_21 (a1 : List Int32) (M : CS) (s0 : Int32) : Option (Int32) := some s0
def fX10_letterOf_20 (a1 : List Int32) (M : CS) : Option (Int32) := fX10_letterOf_21 a1 M (-1)
def fX10_letterOf_12 (a1 : List Int32) (M : CS) (x1 : Int32) : Option (Int32) := if gIn x1 a1.length then fX10_letterOf_21 a1 M (a1.getD x1.toNatClampNeg 0) else none
def fX10_letterOf_4 (a1 : List Int32) (M : CS) (x1 : Int32) : Option (Int32) := if (Int32.ofNat a1.length) ≤ x1 then fX10_letterOf_20 a1 M else fX10_letterOf_12 a1 M x1
def fX10_letterOf_0 (a1 : List Int32) (M : CS) (a2 : Int32) : Option (Int32) := if a2 < 0 then fX10_letterOf_20 a1 M else fX10_letterOf_4 a1 M a2
def fX10_letterOf (M : CS) (a1 : List Int32) (a2 : Int32) : Option (Int32) := fX10_letterOf_0 a1  M a2
def fX2_apply_45 (t : Nat) (M : CS) (s0 : Int32) : Option (Int32 × CS) := some (s0, M)
def fX2_apply_40 (t : Nat) (M : CS) (x3 : Int32) : Option (Int32 × CS) := (fX2_passHours M t x3).bind fun q => fX2_apply_45 t q.2 q.1
def fX2_apply_60 (t : Nat) (M : CS) (s0 : Int32) : Option (Int32 × CS) := some (s0, M)
def fX2_apply_56 (t : Nat) (M : CS) : Option (Int32 × CS) := (fX2_openFlaps M t).bind fun q => fX2_apply_60 t M q
def fX2_apply_46 (t : Nat) (M : CS) (x2 : Int32) : Option (Int32 × CS) := if gIn x2 6 then fX2_apply_56 t (va_up M.1 ((t + 2) + 15 + x2.toNatClampNeg) (upd (M.1 ((t + 2) + 15 + x2.toNatClampNeg)) 3 1), M.2) else none
def fX2_apply_75 (t : Nat) (M : CS) (s0 : Int32) : Option (Int32 × CS) := some (s0, M)
def fX2_apply_71 (t : Nat) (M : CS) : Option (Int32 × CS) := (fX2_openFlaps M t).bind fun q => fX2_apply_75 t M q
def fX2_apply_61 (t : Nat) (M : CS) (x2 : Int32) : Option (Int32 × CS) := if gIn x2 6 then fX2_apply_71 t (va_up M.1 ((t + 2) + 15 + x2.toNatClampNeg) (upd (M.1 ((t + 2) + 15 + x2.toNatClampNeg)) 3 0), M.2) else none
def fX2_apply_104 (t : Nat) (M : CS) (x2 : Int32) : Option (Int32 × CS) := if gIn x2 6 then some ((M.1 ((t + 2) + 15 + x2.toNatClampNeg) 2), M) else none
def fX2_apply_91 (t : Nat) (M : CS) (x2 : Int32) (x3 : Int32) : Option (Int32 × CS) := fX2_apply_104 t (va_up M.1 (t + 8) (upd (M.1 (t + 8)) 6 ((M.1 (t + 8) 6) + x3)), M.2) x2
def fX2_apply_76 (t : Nat) (M : CS) (x2 : Int32) (x3 : Int32) : Option (Int32 × CS) := if gIn x2 6 then fX2_apply_91 t (va_up M.1 ((t + 2) + 15 + x2.toNatClampNeg) (upd (M.1 ((t + 2) + 15 + x2.toNatClampNeg)) 2 ((M.1 ((t + 2) + 15 + x2.toNatClampNeg) 2) + x3)), M.2) x2 x3 else none
def fX2_apply_142 (t : Nat) (M : CS) (x2 : Int32) : Option (Int32 × CS) := if gIn x2 6 then some ((M.1 ((t + 2) + 15 + x2.toNatClampNeg) 1), M) else none
def fX2_apply_129 (t : Nat) (M : CS) (x2 : Int32) (x3 : Int32) : Option (Int32 × CS) := fX2_apply_142 t (va_up M.1 (t + 8) (upd (M.1 (t + 8)) 7 ((M.1 (t + 8) 7) + x3)), M.2) x2
def fX2_apply_114 (t : Nat) (M : CS) (x2 : Int32) (x3 : Int32) : Option (Int32 × CS) := if gIn x2 6 then fX2_apply_129 t (va_up M.1 ((t + 2) + 15 + x2.toNatClampNeg) (upd (M.1 ((t + 2) + 15 + x2.toNatClampNeg)) 1 ((M.1 ((t + 2) + 15 + x2.toNatClampNeg) 1) + x3)), M.2) x2 x3 else none
def fX2_apply_163 (t : Nat) (M : CS) (x4 : Int32) : Option (Int32 × CS) := some (x4, M)
def fX2_apply_152 (t : Nat) (M : CS) : Option (Int32 × CS) := fX2_apply_163 t (va_up M.1 t (upd (M.1 t) 8 (-1)), M.2) (M.1 t 8)
def fX2_apply_177 (t : Nat) (M : CS) (x5 : Int32) : Option (Int32 × CS) := some (x5, M)
def fX2_apply_166 (t : Nat) (M : CS) (x3 : Int32) : Option (Int32 × CS) := fX2_apply_177 t (va_up M.1 t (upd (M.1 t) 11 x3), M.2) (M.1 t 11)
def fX2_apply_0 (t : Nat) (M : CS) (a1 : Int32) (a2 : Int32) (a3 : Int32) : Option (Int32 × CS) := if a1 = 0 then fX2_apply_40 t M a3 else if a1 = 1 then fX2_apply_46 t M a2 else if a1 = 2 then fX2_apply_61 t M a2 else if a1 = 3 then fX2_apply_76 t M a2 a3 else if a1 = 4 then fX2_apply_114 t M a2 a3 else if a1 = 5 then fX2_apply_152 t M else fX2_apply_166 t M a3
def fX2_apply (M : CS) (t : Nat) (a1 : Int32) (a2 : Int32) (a3 : Int32) : Option (Int32 × CS) := fX2_apply_0 t  M a1 a2 a3
def fX2_catNamed_34 (t : Nat) (M : CS) : Option (Int32) := some (-1)
def fX2_catNamed_28 (t : Nat) (K2 : CS → Int32 → Option (Int32)) (M : CS) (x2 : Int32) : Option (Int32) := K2 M (x2 + 1)
def fX2_catNamed_26 (t : Nat) (M : CS) (x2 : Int32) : Option (Int32) := some x2
def fX2_catNamed_23 (t : Nat) (K2 : CS → Int32 → Option (Int32)) (M : CS) (x2 : Int32) (s0 : Int32) : Option (Int32) := if s0 = 0 then fX2_catNamed_28 t K2 M x2 else fX2_catNamed_26 t M x2
def fX2_catNamed_10 (t : Nat) (K2 : CS → Int32 → Option (Int32)) (M : CS) (x2 : Int32) : Option (Int32) := if gIn x2 8 then (fX8_isWord M (M.2 ((t + 1) + 8 + x2.toNatClampNeg))).bind fun q => fX2_catNamed_23 t K2 M x2 q else none
def fX2_catNamed_2 (t : Nat) : Nat → CS → Int32 → Option (Int32)
  | 0 => fun _ _ => none
  | k + 1 => fun M x2 => if (M.1 t 5) ≤ x2 then fX2_catNamed_34 t M else fX2_catNamed_10 t (fX2_catNamed_2 t k) M x2
def fX2_catNamed_0 (t : Nat) (M : CS) : Option (Int32) := fX2_catNamed_2 t FU M 0
def fX2_catNamed (M : CS) (t : Nat) : Option (Int32) := fX2_catNamed_0 t  M
def fX2_sackNamed_34 (t : Nat) (M : CS) : Option (Int32) := some (-1)
def fX2_sackNamed_28 (t : Nat) (K2 : CS → Int32 → Option (Int32)) (M : CS) (x2 : Int32) : Option (Int32) := K2 M (x2 + 1)
def fX2_sackNamed_26 (t : Nat) (M : CS) (x2 : Int32) : Option (Int32) := some x2
def fX2_sackNamed_23 (t : Nat) (K2 : CS → Int32 → Option (Int32)) (M : CS) (x2 : Int32) (s0 : Int32) : Option (Int32) := if s0 = 0 then fX2_sackNamed_28 t K2 M x2 else fX2_sackNamed_26 t M x2
def fX2_sackNamed_10 (t : Nat) (K2 : CS → Int32 → Option (Int32)) (M : CS) (x2 : Int32) : Option (Int32) := if gIn x2 6 then (fX8_isWord M (M.2 ((t + 2) + 15 + x2.toNatClampNeg))).bind fun q => fX2_sackNamed_23 t K2 M x2 q else none
def fX2_sackNamed_2 (t : Nat) : Nat → CS → Int32 → Option (Int32)
  | 0 => fun _ _ => none
  | k + 1 => fun M x2 => if (M.1 t 6) ≤ x2 then fX2_sackNamed_34 t M else fX2_sackNamed_10 t (fX2_sackNamed_2 t k) M x2
def fX2_sackNamed_0 (t : Nat) (M : CS) : Option (Int32) := fX2_sackNamed_2 t FU M 0
def fX2_sackNamed (M : CS) (t : Nat) : Option (Int32) := fX2_sackNamed_0 t  M
def fX5_kindOfStatement_102 (M : CS) (s0 : Int32) : Option (Int32) := some s0
def fX5_kindOfStatement_101 (M : CS) : Option (Int32) := fX5_kindOfStatement_102 M (-1)
def fX5_kindOfStatement_96 (M : CS) : Option (Int32) := fX5_kindOfStatement_102 M 6
def fX5_kindOfStatement_93 (M : CS) (s0 : Int32) : Option (Int32) := if s0 = 0 then fX5_kindOfStatement_101 M else fX5_kindOfStatement_96 M
def fX5_kindOfStatement_84 (M : CS) : Option (Int32) := (fX8_isWord M ([109, 105, 108, 107])).bind fun q => fX5_kindOfStatement_93 M q
def fX5_kindOfStatement_82 (M : CS) : Option (Int32) := some 5
def fX5_kindOfStatement_79 (M : CS) (s0 : Int32) : Option (Int32) := if s0 = 0 then fX5_kindOfStatement_84 M else fX5_kindOfStatement_82 M
def fX5_kindOfStatement_70 (M : CS) : Option (Int32) := (fX8_isWord M ([100, 105, 115, 109, 105, 115, 115])).bind fun q => fX5_kindOfStatement_79 M q
def fX5_kindOfStatement_68 (M : CS) : Option (Int32) := some 4
def fX5_kindOfStatement_65 (M : CS) (s0 : Int32) : Option (Int32) := if s0 = 0 then fX5_kindOfStatement_70 M else fX5_kindOfStatement_68 M
def fX5_kindOfStatement_56 (M : CS) : Option (Int32) := (fX8_isWord M ([103, 114, 97, 105, 110])).bind fun q => fX5_kindOfStatement_65 M q
def fX5_kindOfStatement_54 (M : CS) : Option (Int32) := some 3
def fX5_kindOfStatement_51 (M : CS) (s0 : Int32) : Option (Int32) := if s0 = 0 then fX5_kindOfStatement_56 M else fX5_kindOfStatement_54 M
def fX5_kindOfStatement_42 (M : CS) : Option (Int32) := (fX8_isWord M ([109, 105, 99, 101])).bind fun q => fX5_kindOfStatement_51 M q
def fX5_kindOfStatement_40 (M : CS) : Option (Int32) := some 2
def fX5_kindOfStatement_37 (M : CS) (s0 : Int32) : Option (Int32) := if s0 = 0 then fX5_kindOfStatement_42 M else fX5_kindOfStatement_40 M
def fX5_kindOfStatement_28 (M : CS) : Option (Int32) := (fX8_isWord M ([115, 104, 117, 116])).bind fun q => fX5_kindOfStatement_37 M q
def fX5_kindOfStatement_26 (M : CS) : Option (Int32) := some 1
def fX5_kindOfStatement_23 (M : CS) (s0 : Int32) : Option (Int32) := if s0 = 0 then fX5_kindOfStatement_28 M else fX5_kindOfStatement_26 M
def fX5_kindOfStatement_14 (M : CS) : Option (Int32) := (fX8_isWord M ([111, 112, 101, 110])).bind fun q => fX5_kindOfStatement_23 M q
def fX5_kindOfStatement_12 (M : CS) : Option (Int32) := some 0
def fX5_kindOfStatement_9 (M : CS) (s0 : Int32) : Option (Int32) := if s0 = 0 then fX5_kindOfStatement_14 M else fX5_kindOfStatement_12 M
def fX5_kindOfStatement_0 (M : CS) : Option (Int32) := (fX8_isWord M ([119, 97, 105, 116])).bind fun q => fX5_kindOfStatement_9 M q
def fX5_kindOfStatement (M : CS) : Option (Int32) := fX5_kindOfStatement_0  M
def fX8_takeEither_34 (a1 : List Int32) (a2 : List Int32) (M : CS) (s0 : Int32) : Option (Int32 × CS) := some (s0, M)
def fX8_takeEither_29 (a1 : List Int32) (a2 : List Int32) (M : CS) : Option (Int32 × CS) := fX8_takeEither_34 a1 a2 M 1
def fX8_takeEither_33 (a1 : List Int32) (a2 : List Int32) (M : CS) : Option (Int32 × CS) := fX8_takeEither_34 a1 a2 M 0
def fX8_takeEither_26 (a1 : List Int32) (a2 : List Int32) (M : CS) (s0 : Int32) : Option (Int32 × CS) := if s0 = 0 then fX8_takeEither_33 a1 a2 M else fX8_takeEither_29 a1 a2 M
def fX8_takeEither_21 (a1 : List Int32) (a2 : List Int32) (M : CS) : Option (Int32 × CS) := (fX8_fail M 1).bind fun q => fX8_takeEither_26 a1 a2 q.2 q.1
def fX8_takeEither_18 (a1 : List Int32) (a2 : List Int32) (M : CS) (s0 : Int32) : Option (Int32 × CS) := if s0 = 0 then fX8_takeEither_21 a1 a2 M else fX8_takeEither_29 a1 a2 M
def fX8_takeEither_13 (a1 : List Int32) (a2 : List Int32) (M : CS) : Option (Int32 × CS) := (fX8_isWord M a2).bind fun q => fX8_takeEither_18 a1 a2 M q
def fX8_takeEither_10 (a1 : List Int32) (a2 : List Int32) (M : CS) (s0 : Int32) : Option (Int32 × CS) := if s0 = 0 then fX8_takeEither_13 a1 a2 M else fX8_takeEither_29 a1 a2 M
def fX8_takeEither_4 (a1 : List Int32) (a2 : List Int32) (M : CS) (s0 : Int32) : Option (Int32 × CS) := (fX8_isWord M a1).bind fun q => fX8_takeEither_10 a1 a2 M q
def fX8_takeEither_0 (a1 : List Int32) (a2 : List Int32) (M : CS) : Option (Int32 × CS) := (fX8_advance M ).bind fun q => fX8_takeEither_4 a1 a2 q.2 q.1
def fX8_takeEither (M : CS) (a1 : List Int32) (a2 : List Int32) : Option (Int32 × CS) := bz (fX8_takeEither_0 a1 a2  M)
def fX10_catNameByte_12 (M : CS) (s0 : Int32) : Option (Int32) := some s0
def fX10_catNameByte_5 (M : CS) (z0 : Nat) (x2 : Int32) : Option (Int32) := (fX10_letterOf M (M.2 z0) x2).bind fun q => fX10_catNameByte_12 M q
def fX10_catNameByte_0 (M : CS) (a1 : Int32) (a2 : Int32) : Option (Int32) := (fX10_catAt M a1).bind fun q => fX10_catNameByte_5 M q a2
def fX10_catNameByte (M : CS) (a1 : Int32) (a2 : Int32) : Option (Int32) := fX10_catNameByte_0  M a1 a2
def fX10_sackNameByte_12 (M : CS) (s0 : Int32) : Option (Int32) := some s0
def fX10_sackNameByte_5 (M : CS) (z0 : Nat) (x2 : Int32) : Option (Int32) := (fX10_letterOf M (M.2 z0) x2).bind fun q => fX10_sackNameByte_12 M q
def fX10_sackNameByte_0 (M : CS) (a1 : Int32) (a2 : Int32) : Option (Int32) := (fX10_sackAt M a1).bind fun q => fX10_sackNameByte_5 M q a2
def fX10_sackNameByte (M : CS) (a1 : Int32) (a2 : Int32) : Option (Int32) := fX10_sackNameByte_0  M a1 a2
def fX10_writeSacks_56 (M : CS) : Option (Int32 × CS) := some ((M.1 5 1), M)
def fX10_writeSacks_50 (K10 : CS → Int32 → Option (Int32 × CS)) (M : CS) (x1 : Int32) : Option (Int32 × CS) := K10 M (x1 + 1)
def fX10_writeSacks_34 (K10 : CS → Int32 → Option (Int32 × CS)) (M : CS) (x1 : Int32) : Option (Int32 × CS) := if gIn x1 6 then (fX3_putSack M ((13 + 2) + 15 + x1.toNatClampNeg)).bind fun q => fX10_writeSacks_50 K10 q x1 else none
def fX10_writeSacks_25 (K10 : CS → Int32 → Option (Int32 × CS)) (M : CS) (x1 : Int32) : Option (Int32 × CS) := (fX3_put M 32).bind fun q => fX10_writeSacks_34 K10 q x1
def fX10_writeSacks_21 (K10 : CS → Int32 → Option (Int32 × CS)) (M : CS) (x1 : Int32) : Option (Int32 × CS) := if x1 ≤ 0 then fX10_writeSacks_34 K10 M x1 else fX10_writeSacks_25 K10 M x1
def fX10_writeSacks_10 : Nat → CS → Int32 → Option (Int32 × CS)
  | 0 => fun _ _ => none
  | k + 1 => fun M x1 => if (M.1 13 6) ≤ x1 then fX10_writeSacks_56 M else fX10_writeSacks_21 (fX10_writeSacks_10 k) M x1
def fX10_writeSacks_8 (M : CS) : Option (Int32 × CS) := fX10_writeSacks_10 FU M 0
def fX10_writeSacks_0 (M : CS) : Option (Int32 × CS) := fX10_writeSacks_8 (va_up M.1 5 (upd (M.1 5) 1 0), M.2)
def fX10_writeSacks (M : CS) : Option (Int32 × CS) := fX10_writeSacks_0  M
def fX10_predict_27 (M : CS) (s0 : Int32) : Option (CS) := some M
def fX10_predict_19 (M : CS) (x1 : Int32) : Option (CS) := (fX2_passHours M 83 x1).bind fun q => fX10_predict_27 q.2 q.1
def fX10_predict_8 (M : CS) (x1 : Int32) : Option (CS) := (fX2_copyFrom M 83 13).bind fun q => fX10_predict_19 q x1
def fX10_predict_0 (M : CS) (a1 : Int32) : Option (CS) := (fX10_requireRange M a1 0 200).bind fun q => fX10_predict_8 q a1
def fX10_predict (M : CS) (a1 : Int32) : Option (CS) := fX10_predict_0  M a1
def fX10_grainWithFlapChanged_59 (M : CS) (s0 : Int32) : Option (Int32 × CS) := some (s0, M)
def fX10_grainWithFlapChanged_51 (M : CS) (s0 : Int32) : Option (Int32 × CS) := (fX2_grainOfAll M 83).bind fun q => fX10_grainWithFlapChanged_59 M q
def fX10_grainWithFlapChanged_43 (M : CS) (x2 : Int32) : Option (Int32 × CS) := (fX2_passHours M 83 x2).bind fun q => fX10_grainWithFlapChanged_51 q.2 q.1
def fX10_grainWithFlapChanged_40 (M : CS) (z1 : Nat) (x2 : Int32) (s0 : Int32) : Option (Int32 × CS) := if s0 = 0 ∨ s0 = 1 then fX10_grainWithFlapChanged_43 (va_up M.1 z1 (upd (M.1 z1) 3 s0), M.2) x2 else none
def fX10_grainWithFlapChanged_39 (M : CS) (z0 : Nat) (x2 : Int32) : Option (Int32 × CS) := fX10_grainWithFlapChanged_40 M z0 x2 0
def fX10_grainWithFlapChanged_35 (M : CS) (z0 : Nat) (x2 : Int32) : Option (Int32 × CS) := fX10_grainWithFlapChanged_40 M z0 x2 1
def fX10_grainWithFlapChanged_11 (M : CS) (x1 : Int32) (x2 : Int32) : Option (Int32 × CS) := if gIn x1 6 then if gIn x1 6 then if (M.1 ((83 + 2) + 15 + x1.toNatClampNeg) 3) = 0 then fX10_grainWithFlapChanged_35 M ((83 + 2) + 15 + x1.toNatClampNeg) x2 else fX10_grainWithFlapChanged_39 M ((83 + 2) + 15 + x1.toNatClampNeg) x2 else none else none
def fX10_grainWithFlapChanged_0 (M : CS) (a1 : Int32) (a2 : Int32) : Option (Int32 × CS) := (fX2_copyFrom M 83 13).bind fun q => fX10_grainWithFlapChanged_11 q a1 a2
def fX10_grainWithFlapChanged (M : CS) (a1 : Int32) (a2 : Int32) : Option (Int32 × CS) := fX10_grainWithFlapChanged_0  M a1 a2
def fX5_readSackName_15 (M : CS) : Option (Int32 × CS) := some (1, M)
def fX5_readSackName_78 (M : CS) (s0 : Int32) : Option (Int32 × CS) := some (s0, M)
def fX5_readSackName_73 (M : CS) : Option (Int32 × CS) := fX5_readSackName_78 M 1
def fX5_readSackName_77 (M : CS) : Option (Int32 × CS) := fX5_readSackName_78 M 0
def fX5_readSackName_70 (M : CS) (s0 : Int32) : Option (Int32 × CS) := if s0 = 0 then fX5_readSackName_77 M else fX5_readSackName_73 M
def fX5_readSackName_62 (M : CS) : Option (Int32 × CS) := (fX8_fail M 4).bind fun q => fX5_readSackName_70 q.2 q.1
def fX5_readSackName_49 (M : CS) : Option (Int32 × CS) := if gIn (M.1 8 5) 30 then if (M.1 10 (M.1 8 5).toNatClampNeg) = (-1) then fX5_readSackName_62 M else fX5_readSackName_73 M else none
def fX5_readSackName_48 (M : CS) (s0 : Int32) (s1 : Int32) : Option (Int32 × CS) := if gIn s1 30 then fX5_readSackName_49 (va_up M.1 10 (upd (M.1 10) s1.toNatClampNeg s0), M.2) else none
def fX5_readSackName_29 (M : CS) : Option (Int32 × CS) := (fX2_sackNamed M 13).bind fun q => fX5_readSackName_48 M q (M.1 8 5)
def fX5_readSackName_27 (M : CS) : Option (Int32 × CS) := some (0, M)
def fX5_readSackName_24 (M : CS) (s0 : Int32) : Option (Int32 × CS) := if s0 = 0 then fX5_readSackName_27 M else fX5_readSackName_29 M
def fX5_readSackName_17 (M : CS) : Option (Int32 × CS) := (fX8_takeName M ).bind fun q => fX5_readSackName_24 q.2 q.1
def fX5_readSackName_9 (M : CS) (x1 : Int32) : Option (Int32 × CS) := if x1 = 6 then fX5_readSackName_15 M else fX5_readSackName_17 M
def fX5_readSackName_4 (M : CS) (x1 : Int32) : Option (Int32 × CS) := if x1 = 5 then fX5_readSackName_15 M else fX5_readSackName_9 M x1
def fX5_readSackName_0 (M : CS) (a1 : Int32) : Option (Int32 × CS) := if a1 = 0 then fX5_readSackName_15 M else fX5_readSackName_4 M a1
def fX5_readSackName (M : CS) (a1 : Int32) : Option (Int32 × CS) := bz (fX5_readSackName_0  M a1)
def fX5_execute_72 (M : CS) : Option (Int32 × CS) := some ((M.1 8 5), M)
def fX5_execute_65 (K2 : CS → Int32 → Option (Int32 × CS)) (M : CS) (x1 : Int32) (s0 : Int32) : Option (Int32 × CS) := K2 M (x1 + 1)
def fX5_execute_40 (K2 : CS → Int32 → Option (Int32 × CS)) (M : CS) (x1 : Int32) : Option (Int32 × CS) := if gIn x1 30 then if gIn x1 30 then if gIn x1 30 then (fX2_apply M 13 (M.1 9 x1.toNatClampNeg) (M.1 10 x1.toNatClampNeg) (M.1 11 x1.toNatClampNeg)).bind fun q => fX5_execute_65 K2 q.2 x1 q.1 else none else none else none
def fX5_execute_38 (M : CS) (x1 : Int32) : Option (Int32 × CS) := some (x1, M)
def fX5_execute_35 (K2 : CS → Int32 → Option (Int32 × CS)) (M : CS) (x1 : Int32) (s0 : Int32) : Option (Int32 × CS) := if s0 = 0 then fX5_execute_38 M x1 else fX5_execute_40 K2 M x1
def fX5_execute_10 (K2 : CS → Int32 → Option (Int32 × CS)) (M : CS) (x1 : Int32) : Option (Int32 × CS) := if gIn x1 30 then if gIn x1 30 then if gIn x1 30 then (fX2_allows M 13 (M.1 9 x1.toNatClampNeg) (M.1 10 x1.toNatClampNeg) (M.1 11 x1.toNatClampNeg)).bind fun q => fX5_execute_35 K2 M x1 q else none else none else none
def fX5_execute_2 : Nat → CS → Int32 → Option (Int32 × CS)
  | 0 => fun _ _ => none
  | k + 1 => fun M x1 => if (M.1 8 5) ≤ x1 then fX5_execute_72 M else fX5_execute_10 (fX5_execute_2 k) M x1
def fX5_execute_0 (M : CS) : Option (Int32 × CS) := fX5_execute_2 FU M 0
def fX5_execute (M : CS) : Option (Int32 × CS) := fX5_execute_0  M
def fX6_readShift_138 (M : CS) (s0 : Int32) : Option (Int32 × CS) := some (s0, M)
def fX6_readShift_131 (M : CS) : Option (Int32 × CS) := (fX8_takeSemicolon M ).bind fun q => fX6_readShift_138 q.2 q.1
def fX6_readShift_118 (M : CS) : Option (Int32 × CS) := fX6_readShift_131 (va_up M.1 48 (upd (M.1 48) 7 ((M.1 48 7) + 1)), M.2)
def fX6_readShift_93 (M : CS) : Option (Int32 × CS) := if gIn (M.1 48 7) 12 then fX6_readShift_118 (va_up M.1 ((48 + 3) + 20 + (M.1 48 7).toNatClampNeg) (upd (M.1 ((48 + 3) + 20 + (M.1 48 7).toNatClampNeg)) 1 (M.1 1 6)), M.2) else none
def fX6_readShift_74 (M : CS) (x1 : Int32) : Option (Int32 × CS) := if gIn (M.1 48 7) 12 then fX6_readShift_93 (va_up M.1 ((48 + 3) + 20 + (M.1 48 7).toNatClampNeg) (upd (M.1 ((48 + 3) + 20 + (M.1 48 7).toNatClampNeg)) 0 x1), M.2) else none
def fX6_readShift_72 (M : CS) : Option (Int32 × CS) := some (0, M)
def fX6_readShift_69 (M : CS) (x1 : Int32) (s0 : Int32) : Option (Int32 × CS) := if s0 = 0 then fX6_readShift_72 M else fX6_readShift_74 M x1
def fX6_readShift_59 (M : CS) (x1 : Int32) : Option (Int32 × CS) := (fX8_takeNumber M 1 24).bind fun q => fX6_readShift_69 q.2 x1 q.1
def fX6_readShift_58 (M : CS) (s0 : Int32) : Option (Int32 × CS) := some (s0, M)
def fX6_readShift_50 (M : CS) : Option (Int32 × CS) := (fX8_fail M 4).bind fun q => fX6_readShift_58 q.2 q.1
def fX6_readShift_44 (M : CS) (s0 : Int32) : Option (Int32 × CS) := if s0 = (-1) then fX6_readShift_50 M else fX6_readShift_59 M s0
def fX6_readShift_33 (M : CS) : Option (Int32 × CS) := (fX2_catNamed M 48).bind fun q => fX6_readShift_44 M q
def fX6_readShift_31 (M : CS) : Option (Int32 × CS) := some (0, M)
def fX6_readShift_28 (M : CS) (s0 : Int32) : Option (Int32 × CS) := if s0 = 0 then fX6_readShift_31 M else fX6_readShift_33 M
def fX6_readShift_21 (M : CS) : Option (Int32 × CS) := (fX8_takeName M ).bind fun q => fX6_readShift_28 q.2 q.1
def fX6_readShift_20 (M : CS) (s0 : Int32) : Option (Int32 × CS) := some (s0, M)
def fX6_readShift_12 (M : CS) : Option (Int32 × CS) := (fX8_fail M 5).bind fun q => fX6_readShift_20 q.2 q.1
def fX6_readShift_0 (M : CS) : Option (Int32 × CS) := if (M.1 48 7) < 12 then fX6_readShift_21 M else fX6_readShift_12 M
def fX6_readShift (M : CS) : Option (Int32 × CS) := bz (fX6_readShift_0  M)
set_option maxRecDepth 10000 in
theorem kX8_appendWords_25 {S1 : CS} {a1 : List Int32} {M : CS} {H : Heap} {locs : List Loc} {ls : Array Slot} (X : gX p s m args c cX8_appendWords 3 RX8 (kR kTab kA)) (hret : gRetV p l e (rmL 5 0 0) s m args below meth c cX8_appendWords (cΩ ca) (cP dC dI cg kA ca) Q S1) {wa1 : Nat} (hwa1 : strAt wa1 a1 (cΩ ca) s s.heap) (hf : fX8_appendWords_25 a1 M = some S1) (hP : (cP dC dI cg kA ca) M s H) (hS : va_S (Fr (cΩ ca) s.heap.size) s.heap H locs) (hl : lv_has ls 3 [(0, .ref (ca 1))]) : W p l e (rmL 5 0 0) s m args below meth c H locs 0 0 Q (F0 m 25 ls []) := by
  have hx := X.hx
  have hb := X.hb
  have hown := X.hown
  have hts := X.hts
  rw [fX8_appendWords_25] at hf
  cases hf
  exact hret _ _ _ _ dX8_appendWords_25 hP hS
set_option maxRecDepth 10000 in
theorem kX8_appendWords_19 {S1 : CS} {a1 : List Int32} {K2 : CS → Int32 → Option (CS)} {M : CS} {x2 : Int32} {H : Heap} {locs : List Loc} {ls : Array Slot} (X : gX p s m args c cX8_appendWords 3 RX8 (kR kTab kA)) (hret : gRetV p l e (rmL 5 0 0) s m args below meth c cX8_appendWords (cΩ ca) (cP dC dI cg kA ca) Q S1) {wa1 : Nat} (hwa1 : strAt wa1 a1 (cΩ ca) s s.heap) (hK2 : ∀ (M : CS) (x2 : Int32) (H : Heap) (locs : List Loc) (ls : Array Slot), K2 M x2 = some S1 → (cP dC dI cg kA ca) M s H → va_S (Fr (cΩ ca) s.heap.size) s.heap H locs → lv_has ls 3 [(0, .ref (ca 1)), (1, .ref wa1), (2, .int x2)] → W p l e (rmL 5 0 0) s m args below meth c H locs 0 0 Q (F0 m 2 ls [])) (hf : fX8_appendWords_19 a1 K2 M x2 = some S1) (hP : (cP dC dI cg kA ca) M s H) (hS : va_S (Fr (cΩ ca) s.heap.size) s.heap H locs) (hl : lv_has ls 3 [(0, .ref (ca 1)), (1, .ref wa1), (2, .int x2)]) : W p l e (rmL 5 0 0) s m args below meth c H locs 0 0 Q (F0 m 19 ls []) := by
  have hx := X.hx
  have hb := X.hb
  have hown := X.hown
  have hts := X.hts
  rw [fX8_appendWords_19] at hf
  refine lv_iinc (v := (x2 + 1)) (lv' := [(2, .int (x2 + 1)), (0, .ref (ca 1)), (1, .ref wa1)]) hx hb dX8_appendWords_19 hl (k := 2) rfl (by rfl) (by decide) rfl (fun ls hl => ?_)
  refine lv_goto (tgt := 2) hx hb dX8_appendWords_22 (by decide) ?_
  exact hK2 _ _ _ _ _ hf hP hS (lv_sub hl [1, 2, 0] rfl)
set_option maxRecDepth 10000 in
theorem kX8_appendWords_10 {S1 : CS} {a1 : List Int32} {K2 : CS → Int32 → Option (CS)} {M : CS} {x2 : Int32} {H : Heap} {locs : List Loc} {ls : Array Slot} (X : gX p s m args c cX8_appendWords 3 RX8 (kR kTab kA)) (hret : gRetV p l e (rmL 5 0 0) s m args below meth c cX8_appendWords (cΩ ca) (cP dC dI cg kA ca) Q S1) {wa1 : Nat} (hwa1 : strAt wa1 a1 (cΩ ca) s s.heap) (hK2 : ∀ (M : CS) (x2 : Int32) (H : Heap) (locs : List Loc) (ls : Array Slot), K2 M x2 = some S1 → (cP dC dI cg kA ca) M s H → va_S (Fr (cΩ ca) s.heap.size) s.heap H locs → lv_has ls 3 [(0, .ref (ca 1)), (1, .ref wa1), (2, .int x2)] → W p l e (rmL 5 0 0) s m args below meth c H locs 0 0 Q (F0 m 2 ls [])) (hf : fX8_appendWords_10 a1 K2 M x2 = some S1) (hP : (cP dC dI cg kA ca) M s H) (hS : va_S (Fr (cΩ ca) s.heap.size) s.heap H locs) (hl : lv_has ls 3 [(0, .ref (ca 1)), (1, .ref wa1), (2, .int x2)]) : W p l e (rmL 5 0 0) s m args below meth c H locs 0 0 Q (F0 m 10 ls []) := by
  have hx := X.hx
  have hb := X.hb
  have hown := X.hown
  have hts := X.hts
  rw [fX8_appendWords_10] at hf
  refine lv_aload_n hx hb dX8_appendWords_10 rfl (lv_at hl 0 rfl) ?_
  refine lv_aload_n hx hb dX8_appendWords_11 rfl (lv_at hl 1 rfl) ?_
  refine lv_iload_n hx hb dX8_appendWords_12 rfl (lv_at hl 2 rfl) ?_
  obtain ⟨g1, hf⟩ := gd hf
  refine gCallVR X rfl (vJ0_charAt (Ω := (cΩ ca)) g1 ((hwa1).kept (fr_k hS)).1 ((hwa1).kept (fr_k hS)).2.1) gsRX8_J0_charAt hdJ0_charAt rfl ⟨by decide, by decide⟩ sB_blind (sB_at (ccmp hP) ((hwa1).kept (fr_k hS))) ((hwa1).kept (fr_k hS)).rec hl.1 (Nat.le_of_ble_eq_true rfl) ⟨Nat.zero_le _, Nat.zero_le _⟩ dX8_appendWords_13 (As := [.int x2]) (rest := [.ref (ca 1)]) rfl ?_
  obtain ⟨q, hc, hf⟩ := bd hf
  refine gCallVV X cOK rfl (vX8_append hc) gRX8_X8_append hdX8_append rfl ⟨by decide, by decide⟩ hP hS (cr_rec hP (rfl : kc 1 = 1) rfl cw1 rfl) hl.1 (Nat.le_of_ble_eq_true rfl) ⟨Nat.zero_le _, Nat.zero_le _⟩ dX8_appendWords_16 (As := [.int (a1.getD x2.toNatClampNeg 0)]) (rest := []) rfl (fun H locs hP hS => ?_)
  exact kX8_appendWords_19 X hret hwa1 hK2 hf hP hS (lv_sub hl [0, 1, 2] rfl)
set_option maxRecDepth 10000 in
theorem kX8_appendWords_2 {S1 : CS} {a1 : List Int32} (X : gX p s m args c cX8_appendWords 3 RX8 (kR kTab kA)) (hret : gRetV p l e (rmL 5 0 0) s m args below meth c cX8_appendWords (cΩ ca) (cP dC dI cg kA ca) Q S1) {wa1 : Nat} (hwa1 : strAt wa1 a1 (cΩ ca) s s.heap) : ∀ (n : Nat) (M : CS) (x2 : Int32) (H : Heap) (locs : List Loc) (ls : Array Slot), fX8_appendWords_2 a1 n M x2 = some S1 → (cP dC dI cg kA ca) M s H → va_S (Fr (cΩ ca) s.heap.size) s.heap H locs → lv_has ls 3 [(0, .ref (ca 1)), (1, .ref wa1), (2, .int x2)] → W p l e (rmL 5 0 0) s m args below meth c H locs 0 0 Q (F0 m 2 ls []) := by
  intro n
  induction n with
  | zero => intro M x2 H locs ls hf; cases hf
  | succ k ih =>
    intro M x2 H locs ls hf hP hS hl
    have hx := X.hx
    have hb := X.hb
    have hown := X.hown
    have hts := X.hts
    rw [fX8_appendWords_2] at hf
    try dsimp only at hf
    refine lv_iload_n hx hb dX8_appendWords_2 rfl (lv_at hl 2 rfl) ?_
    refine lv_aload_n hx hb dX8_appendWords_3 rfl (lv_at hl 1 rfl) ?_
    refine gCallVR X rfl (vJ0_length (Ω := (cΩ ca)) (bs := a1)) gsRX8_J0_length hdJ0_length rfl ⟨by decide, by decide⟩ sB_blind (sB_at (ccmp hP) ((hwa1).kept (fr_k hS))) ((hwa1).kept (fr_k hS)).rec hl.1 (Nat.le_of_ble_eq_true rfl) ⟨Nat.zero_le _, Nat.zero_le _⟩ dX8_appendWords_4 (As := []) (rest := [.int x2]) rfl ?_
    refine lv_icmp_ge (tgt := 25) hx hb dX8_appendWords_7 (by decide) (fun c1 => ?_) (fun c1 => ?_)
    · exact kX8_appendWords_25 X hret hwa1 (ifp c1 hf) hP hS (lv_sub hl [0] rfl)
    · exact kX8_appendWords_10 X hret hwa1 ih (ifn c1 hf) hP hS (lv_sub hl [0, 1, 2] rfl)
set_option maxRecDepth 10000 in
theorem kX8_appendWords_0 {S1 : CS} {a1 : List Int32} {M : CS} {H : Heap} {locs : List Loc} {ls : Array Slot} (X : gX p s m args c cX8_appendWords 3 RX8 (kR kTab kA)) (hret : gRetV p l e (rmL 5 0 0) s m args below meth c cX8_appendWords (cΩ ca) (cP dC dI cg kA ca) Q S1) {wa1 : Nat} (hwa1 : strAt wa1 a1 (cΩ ca) s s.heap) (hf : fX8_appendWords_0 a1 M = some S1) (hP : (cP dC dI cg kA ca) M s H) (hS : va_S (Fr (cΩ ca) s.heap.size) s.heap H locs) (hl : lv_has ls 3 [(0, .ref (ca 1)), (1, .ref wa1)]) : W p l e (rmL 5 0 0) s m args below meth c H locs 0 0 Q (F0 m 0 ls []) := by
  have hx := X.hx
  have hb := X.hb
  have hown := X.hown
  have hts := X.hts
  rw [fX8_appendWords_0] at hf
  refine lv_iconst (v := 0) hx hb dX8_appendWords_0 (by decide) ?_
  refine lv_istore_n (lv' := [(2, .int 0), (0, .ref (ca 1)), (1, .ref wa1)]) hx hb dX8_appendWords_1 rfl hl (by decide) rfl (fun ls hl => ?_)
  exact kX8_appendWords_2 X hret hwa1 FU _ _ _ _ _ hf hP hS (lv_sub hl [1, 2, 0] rfl)
theorem vX8_appendWords {l : Launch} {dC : Nat → ClassId} {dI : Nat → Nat → Nat} {cg : Nat → ClassId} {kA : String → Nat → Nat} {ca : Nat → Nat} {M S1 : CS} {a1 : List Int32} {wa1 : Nat} (hf : fX8_appendWords M a1 = some S1) : gMetV l yX8_appendWords cX8_appendWords 3 5 (cΩ ca) (gPS (cP dC dI cg kA ca) (cΩ ca) [(wa1, a1)]) (kR kTab kA) [.ref (ca 1), .ref wa1] M S1 := gEntryV (by decide) (gPS_ok cOK) (Nat.le_of_ble_eq_true rfl) (fun p e s m args below meth c Q ls X hP hS hret hl => 
  kX8_appendWords_0 X (gPS_V hP.2 hret) (hP.2 (wa1, a1) (by simp)) hf hP.1 hS (lv_sub hl [0, 1] rfl))
set_option maxRecDepth 10000 in
theorem kX8_isWord_19 {r : Int32} {a1 : List Int32} {M : CS} (X : gX p s m args c cX8_isWord 3 RX8 (kR kTab kA)) (hret : gRetR p l e (rmL 5 0 0) s m args below meth c cX8_isWord Q r) {wa1 : Nat} (hwa1 : strAt wa1 a1 (cΩ ca) s s.heap) (hf : fX8_isWord_19 a1 M = some r) {ls : Array Slot} (hP : (cP dC dI cg kA ca) M s s.heap) (hl : lv_has ls 3 [(0, .ref (ca 1))]) : W p l e (rmL 5 0 0) s m args below meth c s.heap [] 0 0 Q (F0 m 19 ls []) := by
  have hx := X.hx
  have hb := X.hb
  have hown := X.hown
  have hts := X.hts
  rw [fX8_isWord_19] at hf
  refine lv_iconst (v := 0) hx hb dX8_isWord_19 (by decide) ?_
  cases hf
  exact hret _ _ dX8_isWord_20
set_option maxRecDepth 10000 in
theorem kX8_isWord_58 {r : Int32} {a1 : List Int32} {M : CS} (X : gX p s m args c cX8_isWord 3 RX8 (kR kTab kA)) (hret : gRetR p l e (rmL 5 0 0) s m args below meth c cX8_isWord Q r) {wa1 : Nat} (hwa1 : strAt wa1 a1 (cΩ ca) s s.heap) (hf : fX8_isWord_58 a1 M = some r) {ls : Array Slot} (hP : (cP dC dI cg kA ca) M s s.heap) (hl : lv_has ls 3 [(0, .ref (ca 1))]) : W p l e (rmL 5 0 0) s m args below meth c s.heap [] 0 0 Q (F0 m 58 ls []) := by
  have hx := X.hx
  have hb := X.hb
  have hown := X.hown
  have hts := X.hts
  rw [fX8_isWord_58] at hf
  refine lv_iconst (v := 1) hx hb dX8_isWord_58 (by decide) ?_
  cases hf
  exact hret _ _ dX8_isWord_59
set_option maxRecDepth 10000 in
theorem kX8_isWord_52 {r : Int32} {a1 : List Int32} {K23 : CS → Int32 → Option (Int32)} {M : CS} {x2 : Int32} (X : gX p s m args c cX8_isWord 3 RX8 (kR kTab kA)) (hret : gRetR p l e (rmL 5 0 0) s m args below meth c cX8_isWord Q r) {wa1 : Nat} (hwa1 : strAt wa1 a1 (cΩ ca) s s.heap) (hK23 : ∀ (M : CS) (x2 : Int32) (ls : Array Slot), K23 M x2 = some r → (cP dC dI cg kA ca) M s s.heap → lv_has ls 3 [(0, .ref (ca 1)), (1, .ref wa1), (2, .int x2)] → W p l e (rmL 5 0 0) s m args below meth c s.heap [] 0 0 Q (F0 m 23 ls [])) (hf : fX8_isWord_52 a1 K23 M x2 = some r) {ls : Array Slot} (hP : (cP dC dI cg kA ca) M s s.heap) (hl : lv_has ls 3 [(0, .ref (ca 1)), (1, .ref wa1), (2, .int x2)]) : W p l e (rmL 5 0 0) s m args below meth c s.heap [] 0 0 Q (F0 m 52 ls []) := by
  have hx := X.hx
  have hb := X.hb
  have hown := X.hown
  have hts := X.hts
  rw [fX8_isWord_52] at hf
  refine lv_iinc (v := (x2 + 1)) (lv' := [(2, .int (x2 + 1)), (0, .ref (ca 1)), (1, .ref wa1)]) hx hb dX8_isWord_52 hl (k := 2) rfl (by rfl) (by decide) rfl (fun ls hl => ?_)
  refine lv_goto (tgt := 23) hx hb dX8_isWord_55 (by decide) ?_
  exact hK23 _ _ _ hf hP (lv_sub hl [1, 2, 0] rfl)
set_option maxRecDepth 10000 in
theorem kX8_isWord_50 {r : Int32} {a1 : List Int32} {M : CS} (X : gX p s m args c cX8_isWord 3 RX8 (kR kTab kA)) (hret : gRetR p l e (rmL 5 0 0) s m args below meth c cX8_isWord Q r) {wa1 : Nat} (hwa1 : strAt wa1 a1 (cΩ ca) s s.heap) (hf : fX8_isWord_50 a1 M = some r) {ls : Array Slot} (hP : (cP dC dI cg kA ca) M s s.heap) (hl : lv_has ls 3 [(0, .ref (ca 1))]) : W p l e (rmL 5 0 0) s m args below meth c s.heap [] 0 0 Q (F0 m 50 ls []) := by
  have hx := X.hx
  have hb := X.hb
  have hown := X.hown
  have hts := X.hts
  rw [fX8_isWord_50] at hf
  refine lv_iconst (v := 0) hx hb dX8_isWord_50 (by decide) ?_
  cases hf
  exact hret _ _ dX8_isWord_51
set_option maxRecDepth 10000 in
theorem kX8_isWord_31 {r : Int32} {a1 : List Int32} {K23 : CS → Int32 → Option (Int32)} {M : CS} {x2 : Int32} (X : gX p s m args c cX8_isWord 3 RX8 (kR kTab kA)) (hret : gRetR p l e (rmL 5 0 0) s m args below meth c cX8_isWord Q r) {wa1 : Nat} (hwa1 : strAt wa1 a1 (cΩ ca) s s.heap) (hK23 : ∀ (M : CS) (x2 : Int32) (ls : Array Slot), K23 M x2 = some r → (cP dC dI cg kA ca) M s s.heap → lv_has ls 3 [(0, .ref (ca 1)), (1, .ref wa1), (2, .int x2)] → W p l e (rmL 5 0 0) s m args below meth c s.heap [] 0 0 Q (F0 m 23 ls [])) (hf : fX8_isWord_31 a1 K23 M x2 = some r) {ls : Array Slot} (hP : (cP dC dI cg kA ca) M s s.heap) (hl : lv_has ls 3 [(0, .ref (ca 1)), (1, .ref wa1), (2, .int x2)]) : W p l e (rmL 5 0 0) s m args below meth c s.heap [] 0 0 Q (F0 m 31 ls []) := by
  have hx := X.hx
  have hb := X.hb
  have hown := X.hown
  have hts := X.hts
  rw [fX8_isWord_31] at hf
  refine lv_aload_n hx hb dX8_isWord_31 rfl (lv_at hl 0 rfl) ?_
  refine cr_get (k := 0) X hP (rfl : kc 1 = 1) rfl cv1_0 rfl cinX8 (by decide) rfl tw81 dX8_isWord_32 ?_
  refine lv_aload_n hx hb dX8_isWord_35 rfl (lv_at hl 0 rfl) ?_
  refine cr_get (k := 5) X hP (rfl : kc 1 = 1) rfl cv1_5 rfl cinX8 (by decide) rfl tw89 dX8_isWord_36 ?_
  refine lv_iload_n hx hb dX8_isWord_39 rfl (lv_at hl 2 rfl) ?_
  refine lv_iadd hx hb dX8_isWord_40 ?_
  obtain ⟨g1, hf⟩ := gd hf
  refine cr_bald X hP (rfl : kc 2 = 2) rfl (fun _ => rfl) g1 dX8_isWord_41 ?_
  refine lv_aload_n hx hb dX8_isWord_42 rfl (lv_at hl 1 rfl) ?_
  refine lv_iload_n hx hb dX8_isWord_43 rfl (lv_at hl 2 rfl) ?_
  obtain ⟨g2, hf⟩ := gd hf
  refine gCallVR X rfl (vJ0_charAt (Ω := (cΩ ca)) g2 hwa1.1 hwa1.2.1) gsRX8_J0_charAt hdJ0_charAt rfl ⟨by decide, by decide⟩ sB_blind (sB_at (ccmp hP) hwa1) hwa1.rec hl.1 (Nat.le_of_ble_eq_true rfl) ⟨Nat.zero_le _, Nat.zero_le _⟩ dX8_isWord_44 (As := [.int x2]) (rest := [.int (M.1 2 ((M.1 1 5) + x2).toNatClampNeg)]) rfl ?_
  refine lv_icmp_eq (tgt := 52) hx hb dX8_isWord_47 (by decide) (fun c1 => ?_) (fun c1 => ?_)
  · exact kX8_isWord_52 X hret hwa1 hK23 (ifp c1 hf) hP (lv_sub hl [0, 1, 2] rfl)
  · exact kX8_isWord_50 X hret hwa1 (ifn c1 hf) hP (lv_sub hl [0] rfl)
set_option maxRecDepth 10000 in
theorem kX8_isWord_23 {r : Int32} {a1 : List Int32} (X : gX p s m args c cX8_isWord 3 RX8 (kR kTab kA)) (hret : gRetR p l e (rmL 5 0 0) s m args below meth c cX8_isWord Q r) {wa1 : Nat} (hwa1 : strAt wa1 a1 (cΩ ca) s s.heap) : ∀ (n : Nat) (M : CS) (x2 : Int32) (ls : Array Slot), fX8_isWord_23 a1 n M x2 = some r → (cP dC dI cg kA ca) M s s.heap → lv_has ls 3 [(0, .ref (ca 1)), (1, .ref wa1), (2, .int x2)] → W p l e (rmL 5 0 0) s m args below meth c s.heap [] 0 0 Q (F0 m 23 ls []) := by
  intro n
  induction n with
  | zero => intro M x2 ls hf; cases hf
  | succ k ih =>
    intro M x2 ls hf hP hl
    have hx := X.hx
    have hb := X.hb
    have hown := X.hown
    have hts := X.hts
    rw [fX8_isWord_23] at hf
    try dsimp only at hf
    refine lv_iload_n hx hb dX8_isWord_23 rfl (lv_at hl 2 rfl) ?_
    refine lv_aload_n hx hb dX8_isWord_24 rfl (lv_at hl 1 rfl) ?_
    refine gCallVR X rfl (vJ0_length (Ω := (cΩ ca)) (bs := a1)) gsRX8_J0_length hdJ0_length rfl ⟨by decide, by decide⟩ sB_blind (sB_at (ccmp hP) hwa1) hwa1.rec hl.1 (Nat.le_of_ble_eq_true rfl) ⟨Nat.zero_le _, Nat.zero_le _⟩ dX8_isWord_25 (As := []) (rest := [.int x2]) rfl ?_
    refine lv_icmp_ge (tgt := 58) hx hb dX8_isWord_28 (by decide) (fun c1 => ?_) (fun c1 => ?_)
    · exact kX8_isWord_58 X hret hwa1 (ifp c1 hf) hP (lv_sub hl [0] rfl)
    · exact kX8_isWord_31 X hret hwa1 ih (ifn c1 hf) hP (lv_sub hl [0, 1, 2] rfl)
set_option maxRecDepth 10000 in
theorem kX8_isWord_21 {r : Int32} {a1 : List Int32} {M : CS} (X : gX p s m args c cX8_isWord 3 RX8 (kR kTab kA)) (hret : gRetR p l e (rmL 5 0 0) s m args below meth c cX8_isWord Q r) {wa1 : Nat} (hwa1 : strAt wa1 a1 (cΩ ca) s s.heap) (hf : fX8_isWord_21 a1 M = some r) {ls : Array Slot} (hP : (cP dC dI cg kA ca) M s s.heap) (hl : lv_has ls 3 [(0, .ref (ca 1)), (1, .ref wa1)]) : W p l e (rmL 5 0 0) s m args below meth c s.heap [] 0 0 Q (F0 m 21 ls []) := by
  have hx := X.hx
  have hb := X.hb
  have hown := X.hown
  have hts := X.hts
  rw [fX8_isWord_21] at hf
  refine lv_iconst (v := 0) hx hb dX8_isWord_21 (by decide) ?_
  refine lv_istore_n (lv' := [(2, .int 0), (0, .ref (ca 1)), (1, .ref wa1)]) hx hb dX8_isWord_22 rfl hl (by decide) rfl (fun ls hl => ?_)
  exact kX8_isWord_23 X hret hwa1 FU _ _ _ hf hP (lv_sub hl [1, 2, 0] rfl)
set_option maxRecDepth 10000 in
theorem kX8_isWord_12 {r : Int32} {a1 : List Int32} {M : CS} {s0 : Int32} (X : gX p s m args c cX8_isWord 3 RX8 (kR kTab kA)) (hret : gRetR p l e (rmL 5 0 0) s m args below meth c cX8_isWord Q r) {wa1 : Nat} (hwa1 : strAt wa1 a1 (cΩ ca) s s.heap) (hf : fX8_isWord_12 a1 M s0 = some r) {ls : Array Slot} (hP : (cP dC dI cg kA ca) M s s.heap) (hl : lv_has ls 3 [(0, .ref (ca 1)), (1, .ref wa1)]) : W p l e (rmL 5 0 0) s m args below meth c s.heap [] 0 0 Q (F0 m 12 ls [.int s0]) := by
  have hx := X.hx
  have hb := X.hb
  have hown := X.hown
  have hts := X.hts
  rw [fX8_isWord_12] at hf
  refine lv_aload_n hx hb dX8_isWord_12 rfl (lv_at hl 1 rfl) ?_
  refine gCallVR X rfl (vJ0_length (Ω := (cΩ ca)) (bs := a1)) gsRX8_J0_length hdJ0_length rfl ⟨by decide, by decide⟩ sB_blind (sB_at (ccmp hP) hwa1) hwa1.rec hl.1 (Nat.le_of_ble_eq_true rfl) ⟨Nat.zero_le _, Nat.zero_le _⟩ dX8_isWord_13 (As := []) (rest := [.int s0]) rfl ?_
  refine lv_icmp_eq (tgt := 21) hx hb dX8_isWord_16 (by decide) (fun c1 => ?_) (fun c1 => ?_)
  · exact kX8_isWord_21 X hret hwa1 (ifp c1 hf) hP (lv_sub hl [0, 1] rfl)
  · exact kX8_isWord_19 X hret hwa1 (ifn c1 hf) hP (lv_sub hl [0] rfl)
set_option maxRecDepth 10000 in
theorem kX8_isWord_8 {r : Int32} {a1 : List Int32} {M : CS} (X : gX p s m args c cX8_isWord 3 RX8 (kR kTab kA)) (hret : gRetR p l e (rmL 5 0 0) s m args below meth c cX8_isWord Q r) {wa1 : Nat} (hwa1 : strAt wa1 a1 (cΩ ca) s s.heap) (hf : fX8_isWord_8 a1 M = some r) {ls : Array Slot} (hP : (cP dC dI cg kA ca) M s s.heap) (hl : lv_has ls 3 [(0, .ref (ca 1)), (1, .ref wa1)]) : W p l e (rmL 5 0 0) s m args below meth c s.heap [] 0 0 Q (F0 m 8 ls []) := by
  have hx := X.hx
  have hb := X.hb
  have hown := X.hown
  have hts := X.hts
  rw [fX8_isWord_8] at hf
  refine lv_aload_n hx hb dX8_isWord_8 rfl (lv_at hl 0 rfl) ?_
  obtain ⟨q, hc, hf⟩ := bd hf
  refine gCallVR X rfl (vX8_tokenLength hc) gRX8_X8_tokenLength hdX8_tokenLength rfl ⟨by decide, by decide⟩ (gB_blind cOK) (gB_at cOK X hP) (cr_rec hP (rfl : kc 1 = 1) rfl cw1 rfl) hl.1 (Nat.le_of_ble_eq_true rfl) ⟨Nat.zero_le _, Nat.zero_le _⟩ dX8_isWord_9 (As := []) (rest := []) rfl ?_
  exact kX8_isWord_12 X hret hwa1 hf hP (lv_sub hl [0, 1] rfl)
set_option maxRecDepth 10000 in
theorem kX8_isWord_0 {r : Int32} {a1 : List Int32} {M : CS} (X : gX p s m args c cX8_isWord 3 RX8 (kR kTab kA)) (hret : gRetR p l e (rmL 5 0 0) s m args below meth c cX8_isWord Q r) {wa1 : Nat} (hwa1 : strAt wa1 a1 (cΩ ca) s s.heap) (hf : fX8_isWord_0 a1 M = some r) {ls : Array Slot} (hP : (cP dC dI cg kA ca) M s s.heap) (hl : lv_has ls 3 [(0, .ref (ca 1)), (1, .ref wa1)]) : W p l e (rmL 5 0 0) s m args below meth c s.heap [] 0 0 Q (F0 m 0 ls []) := by
  have hx := X.hx
  have hb := X.hb
  have hown := X.hown
  have hts := X.hts
  rw [fX8_isWord_0] at hf
  refine lv_aload_n hx hb dX8_isWord_0 rfl (lv_at hl 0 rfl) ?_
  refine cr_get (k := 4) X hP (rfl : kc 1 = 1) rfl cv1_4 rfl cinX8 (by decide) rfl tw88 dX8_isWord_1 ?_
  refine lv_iconst (v := 1) hx hb dX8_isWord_4 (by decide) ?_
  refine lv_icmp_ne (tgt := 19) hx hb dX8_isWord_5 (by decide) (fun c1 => ?_) (fun c1 => ?_)
  · exact kX8_isWord_19 X hret hwa1 (ifn c1 hf) hP (lv_sub hl [0] rfl)
  · exact kX8_isWord_8 X hret hwa1 (ifp c1 hf) hP (lv_sub hl [0, 1] rfl)
theorem vX8_isWord {l : Launch} {dC : Nat → ClassId} {dI : Nat → Nat → Nat} {cg : Nat → ClassId} {kA : String → Nat → Nat} {ca : Nat → Nat} {M : CS} {r : Int32} {a1 : List Int32} {wa1 : Nat} (hf : fX8_isWord M a1 = some r) : gMetR l yX8_isWord cX8_isWord 3 (some .boolean) 5 (gBS (cP dC dI cg kA ca) (kR kTab kA) M (cΩ ca) wa1 a1) [.ref (ca 1), .ref wa1] r := gEntryR (ty := .boolean) (by decide) rfl (bq_n hf) (Nat.le_of_ble_eq_true rfl) (fun _ h => h.1.2) (fun p e s m args below meth c Q ls X hB hret hl => 
  kX8_isWord_0 X hret hB.2 (bq_f hf) hB.1.1 (lv_sub hl [0, 1] rfl))
set_option maxRecDepth 10000 in
theorem kX10_hoursUntilUnguarded_46 {r : Int32} {S1 : CS} {M : CS} {H : Heap} {locs : List Loc} {ls : Array Slot} (X : gX p s m args c cX10_hoursUntilUnguarded 2 RX10 (kR kTab kA)) (hret : gRetI p l e (rmL 5 0 0) s m args below meth c cX10_hoursUntilUnguarded (cΩ ca) (cP dC dI cg kA ca) Q r S1) (hf : fX10_hoursUntilUnguarded_46 M = some (r, S1)) (hP : (cP dC dI cg kA ca) M s H) (hS : va_S (Fr (cΩ ca) s.heap.size) s.heap H locs) (hl : lv_has ls 2 [(0, .ref (ca 0))]) : W p l e (rmL 5 0 0) s m args below meth c H locs 0 0 Q (F0 m 46 ls []) := by
  have hx := X.hx
  have hb := X.hb
  have hown := X.hown
  have hts := X.hts
  rw [fX10_hoursUntilUnguarded_46] at hf
  refine lv_iconst (v := (-1)) hx hb dX10_hoursUntilUnguarded_46 (by decide) ?_
  cases hf
  exact hret _ _ _ _ dX10_hoursUntilUnguarded_47 hP hS
set_option maxRecDepth 10000 in
theorem kX10_hoursUntilUnguarded_40 {r : Int32} {S1 : CS} {K13 : CS → Int32 → Option (Int32 × CS)} {M : CS} {x1 : Int32} {H : Heap} {locs : List Loc} {ls : Array Slot} (X : gX p s m args c cX10_hoursUntilUnguarded 2 RX10 (kR kTab kA)) (hret : gRetI p l e (rmL 5 0 0) s m args below meth c cX10_hoursUntilUnguarded (cΩ ca) (cP dC dI cg kA ca) Q r S1) (hK13 : ∀ (M : CS) (x1 : Int32) (H : Heap) (locs : List Loc) (ls : Array Slot), K13 M x1 = some (r, S1) → (cP dC dI cg kA ca) M s H → va_S (Fr (cΩ ca) s.heap.size) s.heap H locs → lv_has ls 2 [(0, .ref (ca 0)), (1, .int x1)] → W p l e (rmL 5 0 0) s m args below meth c H locs 0 0 Q (F0 m 13 ls [])) (hf : fX10_hoursUntilUnguarded_40 K13 M x1 = some (r, S1)) (hP : (cP dC dI cg kA ca) M s H) (hS : va_S (Fr (cΩ ca) s.heap.size) s.heap H locs) (hl : lv_has ls 2 [(0, .ref (ca 0)), (1, .int x1)]) : W p l e (rmL 5 0 0) s m args below meth c H locs 0 0 Q (F0 m 40 ls []) := by
  have hx := X.hx
  have hb := X.hb
  have hown := X.hown
  have hts := X.hts
  rw [fX10_hoursUntilUnguarded_40] at hf
  refine lv_iinc (v := (x1 + 1)) (lv' := [(1, .int (x1 + 1)), (0, .ref (ca 0))]) hx hb dX10_hoursUntilUnguarded_40 hl (k := 1) rfl (by rfl) (by decide) rfl (fun ls hl => ?_)
  refine lv_goto (tgt := 13) hx hb dX10_hoursUntilUnguarded_43 (by decide) ?_
  exact hK13 _ _ _ _ _ hf hP hS (lv_sub hl [1, 0] rfl)
set_option maxRecDepth 10000 in
theorem kX10_hoursUntilUnguarded_33 {r : Int32} {S1 : CS} {K13 : CS → Int32 → Option (Int32 × CS)} {M : CS} {x1 : Int32} {H : Heap} {locs : List Loc} {ls : Array Slot} (X : gX p s m args c cX10_hoursUntilUnguarded 2 RX10 (kR kTab kA)) (hret : gRetI p l e (rmL 5 0 0) s m args below meth c cX10_hoursUntilUnguarded (cΩ ca) (cP dC dI cg kA ca) Q r S1) (hK13 : ∀ (M : CS) (x1 : Int32) (H : Heap) (locs : List Loc) (ls : Array Slot), K13 M x1 = some (r, S1) → (cP dC dI cg kA ca) M s H → va_S (Fr (cΩ ca) s.heap.size) s.heap H locs → lv_has ls 2 [(0, .ref (ca 0)), (1, .int x1)] → W p l e (rmL 5 0 0) s m args below meth c H locs 0 0 Q (F0 m 13 ls [])) (hf : fX10_hoursUntilUnguarded_33 K13 M x1 = some (r, S1)) (hP : (cP dC dI cg kA ca) M s H) (hS : va_S (Fr (cΩ ca) s.heap.size) s.heap H locs) (hl : lv_has ls 2 [(0, .ref (ca 0)), (1, .int x1)]) : W p l e (rmL 5 0 0) s m args below meth c H locs 0 0 Q (F0 m 33 ls []) := by
  have hx := X.hx
  have hb := X.hb
  have hown := X.hown
  have hts := X.hts
  rw [fX10_hoursUntilUnguarded_33] at hf
  refine lv_aload_n hx hb dX10_hoursUntilUnguarded_33 rfl (lv_at hl 0 rfl) ?_
  refine cr_get (k := 4) X hP (rfl : kc 0 = 0) rfl cv0_4 rfl cinX10 (by decide) rfl tw959 dX10_hoursUntilUnguarded_34 ?_
  obtain ⟨q, hc, hf⟩ := bd hf
  refine gCallVV X cOK rfl (vX2_passHour (rfl : kc 83 = 11) hc) gRX10_X2_passHour hdX2_passHour rfl ⟨by decide, by decide⟩ hP hS (cr_rec hP (rfl : kc 83 = 11) rfl cw11 rfl) hl.1 (Nat.le_of_ble_eq_true rfl) ⟨Nat.zero_le _, Nat.zero_le _⟩ dX10_hoursUntilUnguarded_37 (As := []) (rest := []) rfl (fun H locs hP hS => ?_)
  exact kX10_hoursUntilUnguarded_40 X hret hK13 hf hP hS (lv_sub hl [0, 1] rfl)
set_option maxRecDepth 10000 in
theorem kX10_hoursUntilUnguarded_31 {r : Int32} {S1 : CS} {M : CS} {x1 : Int32} {H : Heap} {locs : List Loc} {ls : Array Slot} (X : gX p s m args c cX10_hoursUntilUnguarded 2 RX10 (kR kTab kA)) (hret : gRetI p l e (rmL 5 0 0) s m args below meth c cX10_hoursUntilUnguarded (cΩ ca) (cP dC dI cg kA ca) Q r S1) (hf : fX10_hoursUntilUnguarded_31 M x1 = some (r, S1)) (hP : (cP dC dI cg kA ca) M s H) (hS : va_S (Fr (cΩ ca) s.heap.size) s.heap H locs) (hl : lv_has ls 2 [(0, .ref (ca 0)), (1, .int x1)]) : W p l e (rmL 5 0 0) s m args below meth c H locs 0 0 Q (F0 m 31 ls []) := by
  have hx := X.hx
  have hb := X.hb
  have hown := X.hown
  have hts := X.hts
  rw [fX10_hoursUntilUnguarded_31] at hf
  refine lv_iload_n hx hb dX10_hoursUntilUnguarded_31 rfl (lv_at hl 1 rfl) ?_
  cases hf
  exact hret _ _ _ _ dX10_hoursUntilUnguarded_32 hP hS
set_option maxRecDepth 10000 in
theorem kX10_hoursUntilUnguarded_20 {r : Int32} {S1 : CS} {K13 : CS → Int32 → Option (Int32 × CS)} {M : CS} {x1 : Int32} {H : Heap} {locs : List Loc} {ls : Array Slot} (X : gX p s m args c cX10_hoursUntilUnguarded 2 RX10 (kR kTab kA)) (hret : gRetI p l e (rmL 5 0 0) s m args below meth c cX10_hoursUntilUnguarded (cΩ ca) (cP dC dI cg kA ca) Q r S1) (hK13 : ∀ (M : CS) (x1 : Int32) (H : Heap) (locs : List Loc) (ls : Array Slot), K13 M x1 = some (r, S1) → (cP dC dI cg kA ca) M s H → va_S (Fr (cΩ ca) s.heap.size) s.heap H locs → lv_has ls 2 [(0, .ref (ca 0)), (1, .int x1)] → W p l e (rmL 5 0 0) s m args below meth c H locs 0 0 Q (F0 m 13 ls [])) (hf : fX10_hoursUntilUnguarded_20 K13 M x1 = some (r, S1)) (hP : (cP dC dI cg kA ca) M s H) (hS : va_S (Fr (cΩ ca) s.heap.size) s.heap H locs) (hl : lv_has ls 2 [(0, .ref (ca 0)), (1, .int x1)]) : W p l e (rmL 5 0 0) s m args below meth c H locs 0 0 Q (F0 m 20 ls []) := by
  have hx := X.hx
  have hb := X.hb
  have hown := X.hown
  have hts := X.hts
  rw [fX10_hoursUntilUnguarded_20] at hf
  refine lv_aload_n hx hb dX10_hoursUntilUnguarded_20 rfl (lv_at hl 0 rfl) ?_
  refine cr_get (k := 4) X hP (rfl : kc 0 = 0) rfl cv0_4 rfl cinX10 (by decide) rfl tw959 dX10_hoursUntilUnguarded_21 ?_
  refine cr_get (k := 8) X hP (rfl : kc 83 = 11) rfl cv11_8 rfl cinX2 (by decide) rfl tw336 dX10_hoursUntilUnguarded_24 ?_
  refine lv_iconst (v := (-1)) hx hb dX10_hoursUntilUnguarded_27 (by decide) ?_
  refine lv_icmp_ne (tgt := 33) hx hb dX10_hoursUntilUnguarded_28 (by decide) (fun c1 => ?_) (fun c1 => ?_)
  · exact kX10_hoursUntilUnguarded_33 X hret hK13 (ifn c1 hf) hP hS (lv_sub hl [0, 1] rfl)
  · exact kX10_hoursUntilUnguarded_31 X hret (ifp c1 hf) hP hS (lv_sub hl [0, 1] rfl)
set_option maxRecDepth 10000 in
theorem kX10_hoursUntilUnguarded_13 {r : Int32} {S1 : CS} (X : gX p s m args c cX10_hoursUntilUnguarded 2 RX10 (kR kTab kA)) (hret : gRetI p l e (rmL 5 0 0) s m args below meth c cX10_hoursUntilUnguarded (cΩ ca) (cP dC dI cg kA ca) Q r S1) : ∀ (n : Nat) (M : CS) (x1 : Int32) (H : Heap) (locs : List Loc) (ls : Array Slot), fX10_hoursUntilUnguarded_13 n M x1 = some (r, S1) → (cP dC dI cg kA ca) M s H → va_S (Fr (cΩ ca) s.heap.size) s.heap H locs → lv_has ls 2 [(0, .ref (ca 0)), (1, .int x1)] → W p l e (rmL 5 0 0) s m args below meth c H locs 0 0 Q (F0 m 13 ls []) := by
  intro n
  induction n with
  | zero => intro M x1 H locs ls hf; cases hf
  | succ k ih =>
    intro M x1 H locs ls hf hP hS hl
    have hx := X.hx
    have hb := X.hb
    have hown := X.hown
    have hts := X.hts
    rw [fX10_hoursUntilUnguarded_13] at hf
    try dsimp only at hf
    refine lv_iload_n hx hb dX10_hoursUntilUnguarded_13 rfl (lv_at hl 1 rfl) ?_
    refine lv_sipush (v := 200) hx hb dX10_hoursUntilUnguarded_14 (by decide) ?_
    refine lv_icmp_gt (tgt := 46) hx hb dX10_hoursUntilUnguarded_17 (by decide) (fun c1 => ?_) (fun c1 => ?_)
    · exact kX10_hoursUntilUnguarded_46 X hret (ifp c1 hf) hP hS (lv_sub hl [0] rfl)
    · exact kX10_hoursUntilUnguarded_20 X hret ih (ifn c1 hf) hP hS (lv_sub hl [0, 1] rfl)
set_option maxRecDepth 10000 in
theorem kX10_hoursUntilUnguarded_11 {r : Int32} {S1 : CS} {M : CS} {H : Heap} {locs : List Loc} {ls : Array Slot} (X : gX p s m args c cX10_hoursUntilUnguarded 2 RX10 (kR kTab kA)) (hret : gRetI p l e (rmL 5 0 0) s m args below meth c cX10_hoursUntilUnguarded (cΩ ca) (cP dC dI cg kA ca) Q r S1) (hf : fX10_hoursUntilUnguarded_11 M = some (r, S1)) (hP : (cP dC dI cg kA ca) M s H) (hS : va_S (Fr (cΩ ca) s.heap.size) s.heap H locs) (hl : lv_has ls 2 [(0, .ref (ca 0))]) : W p l e (rmL 5 0 0) s m args below meth c H locs 0 0 Q (F0 m 11 ls []) := by
  have hx := X.hx
  have hb := X.hb
  have hown := X.hown
  have hts := X.hts
  rw [fX10_hoursUntilUnguarded_11] at hf
  refine lv_iconst (v := 0) hx hb dX10_hoursUntilUnguarded_11 (by decide) ?_
  refine lv_istore_n (lv' := [(1, .int 0), (0, .ref (ca 0))]) hx hb dX10_hoursUntilUnguarded_12 rfl hl (by decide) rfl (fun ls hl => ?_)
  exact kX10_hoursUntilUnguarded_13 X hret FU _ _ _ _ _ hf hP hS (lv_sub hl [1, 0] rfl)
set_option maxRecDepth 10000 in
theorem kX10_hoursUntilUnguarded_0 {r : Int32} {S1 : CS} {M : CS} {H : Heap} {locs : List Loc} {ls : Array Slot} (X : gX p s m args c cX10_hoursUntilUnguarded 2 RX10 (kR kTab kA)) (hret : gRetI p l e (rmL 5 0 0) s m args below meth c cX10_hoursUntilUnguarded (cΩ ca) (cP dC dI cg kA ca) Q r S1) (hf : fX10_hoursUntilUnguarded_0 M = some (r, S1)) (hP : (cP dC dI cg kA ca) M s H) (hS : va_S (Fr (cΩ ca) s.heap.size) s.heap H locs) (hl : lv_has ls 2 [(0, .ref (ca 0))]) : W p l e (rmL 5 0 0) s m args below meth c H locs 0 0 Q (F0 m 0 ls []) := by
  have hx := X.hx
  have hb := X.hb
  have hown := X.hown
  have hts := X.hts
  rw [fX10_hoursUntilUnguarded_0] at hf
  refine lv_aload_n hx hb dX10_hoursUntilUnguarded_0 rfl (lv_at hl 0 rfl) ?_
  refine cr_get (k := 4) X hP (rfl : kc 0 = 0) rfl cv0_4 rfl cinX10 (by decide) rfl tw959 dX10_hoursUntilUnguarded_1 ?_
  refine lv_aload_n hx hb dX10_hoursUntilUnguarded_4 rfl (lv_at hl 0 rfl) ?_
  refine cr_get (k := 2) X hP (rfl : kc 0 = 0) rfl cv0_2 rfl cinX10 (by decide) rfl tw957 dX10_hoursUntilUnguarded_5 ?_
  obtain ⟨q, hc, hf⟩ := bd hf
  refine gCallVV X cOK rfl (vX2_copyFrom (rfl : kc 83 = 11) (rfl : kc 13 = 11) hc) gRX10_X2_copyFrom hdX2_copyFrom rfl ⟨by decide, by decide⟩ hP hS (cr_rec hP (rfl : kc 83 = 11) rfl cw11 rfl) hl.1 (Nat.le_of_ble_eq_true rfl) ⟨Nat.zero_le _, Nat.zero_le _⟩ dX10_hoursUntilUnguarded_8 (As := [.ref (ca 13)]) (rest := []) rfl (fun H locs hP hS => ?_)
  exact kX10_hoursUntilUnguarded_11 X hret hf hP hS (lv_sub hl [0] rfl)
theorem vX10_hoursUntilUnguarded {l : Launch} {dC : Nat → ClassId} {dI : Nat → Nat → Nat} {cg : Nat → ClassId} {kA : String → Nat → Nat} {ca : Nat → Nat} {M S1 : CS} {r : Int32} (hf : fX10_hoursUntilUnguarded M  = some (r, S1)) : gMetI l yX10_hoursUntilUnguarded cX10_hoursUntilUnguarded 2 (some .int) 5 (cΩ ca) (cP dC dI cg kA ca) (kR kTab kA) [.ref (ca 0)] M r S1 := gEntryI (ty := .int) (by decide) rfl rfl cOK (Nat.le_of_ble_eq_true rfl) (fun p e s m args below meth c Q ls X hP hS hret hl => 
  kX10_hoursUntilUnguarded_0 X hret hf hP hS (lv_sub hl [0] rfl))
set_option maxRecDepth 10000 in
theorem kX10_hoursUntilEmpty_56 {r : Int32} {S1 : CS} {M : CS} {H : Heap} {locs : List Loc} {ls : Array Slot} (X : gX p s m args c cX10_hoursUntilEmpty 3 RX10 (kR kTab kA)) (hret : gRetI p l e (rmL 5 0 0) s m args below meth c cX10_hoursUntilEmpty (cΩ ca) (cP dC dI cg kA ca) Q r S1) (hf : fX10_hoursUntilEmpty_56 M = some (r, S1)) (hP : (cP dC dI cg kA ca) M s H) (hS : va_S (Fr (cΩ ca) s.heap.size) s.heap H locs) (hl : lv_has ls 3 [(0, .ref (ca 0))]) : W p l e (rmL 5 0 0) s m args below meth c H locs 0 0 Q (F0 m 56 ls []) := by
  have hx := X.hx
  have hb := X.hb
  have hown := X.hown
  have hts := X.hts
  rw [fX10_hoursUntilEmpty_56] at hf
  refine lv_iconst (v := (-1)) hx hb dX10_hoursUntilEmpty_56 (by decide) ?_
  cases hf
  exact hret _ _ _ _ dX10_hoursUntilEmpty_57 hP hS
set_option maxRecDepth 10000 in
theorem kX10_hoursUntilEmpty_50 {r : Int32} {S1 : CS} {K19 : CS → Int32 → Int32 → Option (Int32 × CS)} {M : CS} {x1 : Int32} {x2 : Int32} {H : Heap} {locs : List Loc} {ls : Array Slot} (X : gX p s m args c cX10_hoursUntilEmpty 3 RX10 (kR kTab kA)) (hret : gRetI p l e (rmL 5 0 0) s m args below meth c cX10_hoursUntilEmpty (cΩ ca) (cP dC dI cg kA ca) Q r S1) (hK19 : ∀ (M : CS) (x1 : Int32) (x2 : Int32) (H : Heap) (locs : List Loc) (ls : Array Slot), K19 M x1 x2 = some (r, S1) → (cP dC dI cg kA ca) M s H → va_S (Fr (cΩ ca) s.heap.size) s.heap H locs → lv_has ls 3 [(0, .ref (ca 0)), (1, .int x1), (2, .int x2)] → W p l e (rmL 5 0 0) s m args below meth c H locs 0 0 Q (F0 m 19 ls [])) (hf : fX10_hoursUntilEmpty_50 K19 M x1 x2 = some (r, S1)) (hP : (cP dC dI cg kA ca) M s H) (hS : va_S (Fr (cΩ ca) s.heap.size) s.heap H locs) (hl : lv_has ls 3 [(0, .ref (ca 0)), (1, .int x1), (2, .int x2)]) : W p l e (rmL 5 0 0) s m args below meth c H locs 0 0 Q (F0 m 50 ls []) := by
  have hx := X.hx
  have hb := X.hb
  have hown := X.hown
  have hts := X.hts
  rw [fX10_hoursUntilEmpty_50] at hf
  refine lv_iinc (v := (x2 + 1)) (lv' := [(2, .int (x2 + 1)), (0, .ref (ca 0)), (1, .int x1)]) hx hb dX10_hoursUntilEmpty_50 hl (k := 2) rfl (by rfl) (by decide) rfl (fun ls hl => ?_)
  refine lv_goto (tgt := 19) hx hb dX10_hoursUntilEmpty_53 (by decide) ?_
  exact hK19 _ _ _ _ _ _ hf hP hS (lv_sub hl [1, 2, 0] rfl)
set_option maxRecDepth 10000 in
theorem kX10_hoursUntilEmpty_43 {r : Int32} {S1 : CS} {K19 : CS → Int32 → Int32 → Option (Int32 × CS)} {M : CS} {x1 : Int32} {x2 : Int32} {H : Heap} {locs : List Loc} {ls : Array Slot} (X : gX p s m args c cX10_hoursUntilEmpty 3 RX10 (kR kTab kA)) (hret : gRetI p l e (rmL 5 0 0) s m args below meth c cX10_hoursUntilEmpty (cΩ ca) (cP dC dI cg kA ca) Q r S1) (hK19 : ∀ (M : CS) (x1 : Int32) (x2 : Int32) (H : Heap) (locs : List Loc) (ls : Array Slot), K19 M x1 x2 = some (r, S1) → (cP dC dI cg kA ca) M s H → va_S (Fr (cΩ ca) s.heap.size) s.heap H locs → lv_has ls 3 [(0, .ref (ca 0)), (1, .int x1), (2, .int x2)] → W p l e (rmL 5 0 0) s m args below meth c H locs 0 0 Q (F0 m 19 ls [])) (hf : fX10_hoursUntilEmpty_43 K19 M x1 x2 = some (r, S1)) (hP : (cP dC dI cg kA ca) M s H) (hS : va_S (Fr (cΩ ca) s.heap.size) s.heap H locs) (hl : lv_has ls 3 [(0, .ref (ca 0)), (1, .int x1), (2, .int x2)]) : W p l e (rmL 5 0 0) s m args below meth c H locs 0 0 Q (F0 m 43 ls []) := by
  have hx := X.hx
  have hb := X.hb
  have hown := X.hown
  have hts := X.hts
  rw [fX10_hoursUntilEmpty_43] at hf
  refine lv_aload_n hx hb dX10_hoursUntilEmpty_43 rfl (lv_at hl 0 rfl) ?_
  refine cr_get (k := 4) X hP (rfl : kc 0 = 0) rfl cv0_4 rfl cinX10 (by decide) rfl tw959 dX10_hoursUntilEmpty_44 ?_
  obtain ⟨q, hc, hf⟩ := bd hf
  refine gCallVV X cOK rfl (vX2_passHour (rfl : kc 83 = 11) hc) gRX10_X2_passHour hdX2_passHour rfl ⟨by decide, by decide⟩ hP hS (cr_rec hP (rfl : kc 83 = 11) rfl cw11 rfl) hl.1 (Nat.le_of_ble_eq_true rfl) ⟨Nat.zero_le _, Nat.zero_le _⟩ dX10_hoursUntilEmpty_47 (As := []) (rest := []) rfl (fun H locs hP hS => ?_)
  exact kX10_hoursUntilEmpty_50 X hret hK19 hf hP hS (lv_sub hl [0, 1, 2] rfl)
set_option maxRecDepth 10000 in
theorem kX10_hoursUntilEmpty_41 {r : Int32} {S1 : CS} {M : CS} {x2 : Int32} {H : Heap} {locs : List Loc} {ls : Array Slot} (X : gX p s m args c cX10_hoursUntilEmpty 3 RX10 (kR kTab kA)) (hret : gRetI p l e (rmL 5 0 0) s m args below meth c cX10_hoursUntilEmpty (cΩ ca) (cP dC dI cg kA ca) Q r S1) (hf : fX10_hoursUntilEmpty_41 M x2 = some (r, S1)) (hP : (cP dC dI cg kA ca) M s H) (hS : va_S (Fr (cΩ ca) s.heap.size) s.heap H locs) (hl : lv_has ls 3 [(0, .ref (ca 0)), (2, .int x2)]) : W p l e (rmL 5 0 0) s m args below meth c H locs 0 0 Q (F0 m 41 ls []) := by
  have hx := X.hx
  have hb := X.hb
  have hown := X.hown
  have hts := X.hts
  rw [fX10_hoursUntilEmpty_41] at hf
  refine lv_iload_n hx hb dX10_hoursUntilEmpty_41 rfl (lv_at hl 1 rfl) ?_
  cases hf
  exact hret _ _ _ _ dX10_hoursUntilEmpty_42 hP hS
set_option maxRecDepth 10000 in
theorem kX10_hoursUntilEmpty_26 {r : Int32} {S1 : CS} {K19 : CS → Int32 → Int32 → Option (Int32 × CS)} {M : CS} {x1 : Int32} {x2 : Int32} {H : Heap} {locs : List Loc} {ls : Array Slot} (X : gX p s m args c cX10_hoursUntilEmpty 3 RX10 (kR kTab kA)) (hret : gRetI p l e (rmL 5 0 0) s m args below meth c cX10_hoursUntilEmpty (cΩ ca) (cP dC dI cg kA ca) Q r S1) (hK19 : ∀ (M : CS) (x1 : Int32) (x2 : Int32) (H : Heap) (locs : List Loc) (ls : Array Slot), K19 M x1 x2 = some (r, S1) → (cP dC dI cg kA ca) M s H → va_S (Fr (cΩ ca) s.heap.size) s.heap H locs → lv_has ls 3 [(0, .ref (ca 0)), (1, .int x1), (2, .int x2)] → W p l e (rmL 5 0 0) s m args below meth c H locs 0 0 Q (F0 m 19 ls [])) (hf : fX10_hoursUntilEmpty_26 K19 M x1 x2 = some (r, S1)) (hP : (cP dC dI cg kA ca) M s H) (hS : va_S (Fr (cΩ ca) s.heap.size) s.heap H locs) (hl : lv_has ls 3 [(0, .ref (ca 0)), (1, .int x1), (2, .int x2)]) : W p l e (rmL 5 0 0) s m args below meth c H locs 0 0 Q (F0 m 26 ls []) := by
  have hx := X.hx
  have hb := X.hb
  have hown := X.hown
  have hts := X.hts
  rw [fX10_hoursUntilEmpty_26] at hf
  refine lv_aload_n hx hb dX10_hoursUntilEmpty_26 rfl (lv_at hl 0 rfl) ?_
  refine cr_get (k := 4) X hP (rfl : kc 0 = 0) rfl cv0_4 rfl cinX10 (by decide) rfl tw959 dX10_hoursUntilEmpty_27 ?_
  refine cr_get (k := 1) X hP (rfl : kc 83 = 11) rfl cv11_1 rfl cinX2 (by decide) rfl tw318 dX10_hoursUntilEmpty_30 ?_
  refine lv_iload_n hx hb dX10_hoursUntilEmpty_33 rfl (lv_at hl 1 rfl) ?_
  obtain ⟨g1, hf⟩ := gd hf
  refine cr_aald (f := fun i => (83 + 2) + 15 + i) X hP (kc_sacks (rfl : kc 83 = 11)) rfl (fun _ => rfl) rfl g1 dX10_hoursUntilEmpty_34 ?_
  refine cr_get (k := 1) X hP (kc_sack (kc_sacks (rfl : kc 83 = 11)) g1) rfl cv19_1 rfl cinX4 (by decide) rfl tw269 dX10_hoursUntilEmpty_35 ?_
  refine lv_if_ne (tgt := 43) hx hb dX10_hoursUntilEmpty_38 (by decide) (fun c1 => ?_) (fun c1 => ?_)
  · exact kX10_hoursUntilEmpty_43 X hret hK19 (ifn c1 hf) hP hS (lv_sub hl [0, 1, 2] rfl)
  · exact kX10_hoursUntilEmpty_41 X hret (ifp c1 hf) hP hS (lv_sub hl [0, 2] rfl)
set_option maxRecDepth 10000 in
theorem kX10_hoursUntilEmpty_19 {r : Int32} {S1 : CS} (X : gX p s m args c cX10_hoursUntilEmpty 3 RX10 (kR kTab kA)) (hret : gRetI p l e (rmL 5 0 0) s m args below meth c cX10_hoursUntilEmpty (cΩ ca) (cP dC dI cg kA ca) Q r S1) : ∀ (n : Nat) (M : CS) (x1 : Int32) (x2 : Int32) (H : Heap) (locs : List Loc) (ls : Array Slot), fX10_hoursUntilEmpty_19 n M x1 x2 = some (r, S1) → (cP dC dI cg kA ca) M s H → va_S (Fr (cΩ ca) s.heap.size) s.heap H locs → lv_has ls 3 [(0, .ref (ca 0)), (1, .int x1), (2, .int x2)] → W p l e (rmL 5 0 0) s m args below meth c H locs 0 0 Q (F0 m 19 ls []) := by
  intro n
  induction n with
  | zero => intro M x1 x2 H locs ls hf; cases hf
  | succ k ih =>
    intro M x1 x2 H locs ls hf hP hS hl
    have hx := X.hx
    have hb := X.hb
    have hown := X.hown
    have hts := X.hts
    rw [fX10_hoursUntilEmpty_19] at hf
    try dsimp only at hf
    refine lv_iload_n hx hb dX10_hoursUntilEmpty_19 rfl (lv_at hl 2 rfl) ?_
    refine lv_sipush (v := 200) hx hb dX10_hoursUntilEmpty_20 (by decide) ?_
    refine lv_icmp_gt (tgt := 56) hx hb dX10_hoursUntilEmpty_23 (by decide) (fun c1 => ?_) (fun c1 => ?_)
    · exact kX10_hoursUntilEmpty_56 X hret (ifp c1 hf) hP hS (lv_sub hl [0] rfl)
    · exact kX10_hoursUntilEmpty_26 X hret ih (ifn c1 hf) hP hS (lv_sub hl [0, 1, 2] rfl)
set_option maxRecDepth 10000 in
theorem kX10_hoursUntilEmpty_17 {r : Int32} {S1 : CS} {M : CS} {x1 : Int32} {H : Heap} {locs : List Loc} {ls : Array Slot} (X : gX p s m args c cX10_hoursUntilEmpty 3 RX10 (kR kTab kA)) (hret : gRetI p l e (rmL 5 0 0) s m args below meth c cX10_hoursUntilEmpty (cΩ ca) (cP dC dI cg kA ca) Q r S1) (hf : fX10_hoursUntilEmpty_17 M x1 = some (r, S1)) (hP : (cP dC dI cg kA ca) M s H) (hS : va_S (Fr (cΩ ca) s.heap.size) s.heap H locs) (hl : lv_has ls 3 [(0, .ref (ca 0)), (1, .int x1)]) : W p l e (rmL 5 0 0) s m args below meth c H locs 0 0 Q (F0 m 17 ls []) := by
  have hx := X.hx
  have hb := X.hb
  have hown := X.hown
  have hts := X.hts
  rw [fX10_hoursUntilEmpty_17] at hf
  refine lv_iconst (v := 0) hx hb dX10_hoursUntilEmpty_17 (by decide) ?_
  refine lv_istore_n (lv' := [(2, .int 0), (0, .ref (ca 0)), (1, .int x1)]) hx hb dX10_hoursUntilEmpty_18 rfl hl (by decide) rfl (fun ls hl => ?_)
  exact kX10_hoursUntilEmpty_19 X hret FU _ _ _ _ _ _ hf hP hS (lv_sub hl [1, 2, 0] rfl)
set_option maxRecDepth 10000 in
theorem kX10_hoursUntilEmpty_5 {r : Int32} {S1 : CS} {M : CS} {z0 : Nat} {x1 : Int32} {H : Heap} {locs : List Loc} {ls : Array Slot} (X : gX p s m args c cX10_hoursUntilEmpty 3 RX10 (kR kTab kA)) (hret : gRetI p l e (rmL 5 0 0) s m args below meth c cX10_hoursUntilEmpty (cΩ ca) (cP dC dI cg kA ca) Q r S1) (hkz0 : kc z0 = 19) (hf : fX10_hoursUntilEmpty_5 M z0 x1 = some (r, S1)) (hP : (cP dC dI cg kA ca) M s H) (hS : va_S (Fr (cΩ ca) s.heap.size) s.heap H locs) (hl : lv_has ls 3 [(0, .ref (ca 0)), (1, .int x1)]) : W p l e (rmL 5 0 0) s m args below meth c H locs 0 0 Q (F0 m 5 ls [.ref (ca z0)]) := by
  have hx := X.hx
  have hb := X.hb
  have hown := X.hown
  have hts := X.hts
  rw [fX10_hoursUntilEmpty_5] at hf
  refine lv_pop hx hb dX10_hoursUntilEmpty_5 rfl ?_
  refine lv_aload_n hx hb dX10_hoursUntilEmpty_6 rfl (lv_at hl 0 rfl) ?_
  refine cr_get (k := 4) X hP (rfl : kc 0 = 0) rfl cv0_4 rfl cinX10 (by decide) rfl tw959 dX10_hoursUntilEmpty_7 ?_
  refine lv_aload_n hx hb dX10_hoursUntilEmpty_10 rfl (lv_at hl 0 rfl) ?_
  refine cr_get (k := 2) X hP (rfl : kc 0 = 0) rfl cv0_2 rfl cinX10 (by decide) rfl tw957 dX10_hoursUntilEmpty_11 ?_
  obtain ⟨q, hc, hf⟩ := bd hf
  refine gCallVV X cOK rfl (vX2_copyFrom (rfl : kc 83 = 11) (rfl : kc 13 = 11) hc) gRX10_X2_copyFrom hdX2_copyFrom rfl ⟨by decide, by decide⟩ hP hS (cr_rec hP (rfl : kc 83 = 11) rfl cw11 rfl) hl.1 (Nat.le_of_ble_eq_true rfl) ⟨Nat.zero_le _, Nat.zero_le _⟩ dX10_hoursUntilEmpty_14 (As := [.ref (ca 13)]) (rest := []) rfl (fun H locs hP hS => ?_)
  exact kX10_hoursUntilEmpty_17 X hret hf hP hS (lv_sub hl [0, 1] rfl)
set_option maxRecDepth 10000 in
theorem kX10_hoursUntilEmpty_0 {r : Int32} {S1 : CS} {M : CS} {a1 : Int32} {H : Heap} {locs : List Loc} {ls : Array Slot} (X : gX p s m args c cX10_hoursUntilEmpty 3 RX10 (kR kTab kA)) (hret : gRetI p l e (rmL 5 0 0) s m args below meth c cX10_hoursUntilEmpty (cΩ ca) (cP dC dI cg kA ca) Q r S1) (hf : fX10_hoursUntilEmpty_0 M a1 = some (r, S1)) (hP : (cP dC dI cg kA ca) M s H) (hS : va_S (Fr (cΩ ca) s.heap.size) s.heap H locs) (hl : lv_has ls 3 [(0, .ref (ca 0)), (1, .int a1)]) : W p l e (rmL 5 0 0) s m args below meth c H locs 0 0 Q (F0 m 0 ls []) := by
  have hx := X.hx
  have hb := X.hb
  have hown := X.hown
  have hts := X.hts
  rw [fX10_hoursUntilEmpty_0] at hf
  refine lv_aload_n hx hb dX10_hoursUntilEmpty_0 rfl (lv_at hl 0 rfl) ?_
  refine lv_iload_n hx hb dX10_hoursUntilEmpty_1 rfl (lv_at hl 1 rfl) ?_
  obtain ⟨q, hc, hf⟩ := bd hf
  refine gCallVP X rfl (vX10_sackAt hc) gRX10_X10_sackAt hdX10_sackAt rfl ⟨by decide, by decide⟩ (gB_blind cOK) (gB_at cOK X hP) (cr_rec hP (rfl : kc 0 = 0) rfl cw0 rfl) hl.1 (Nat.le_of_ble_eq_true rfl) ⟨Nat.zero_le _, Nat.zero_le _⟩ dX10_hoursUntilEmpty_2 (As := [.int a1]) (rest := []) rfl ?_
  exact kX10_hoursUntilEmpty_5 X hret (kkX10_sackAt hc) hf hP hS (lv_sub hl [0, 1] rfl)
theorem vX10_hoursUntilEmpty {l : Launch} {dC : Nat → ClassId} {dI : Nat → Nat → Nat} {cg : Nat → ClassId} {kA : String → Nat → Nat} {ca : Nat → Nat} {M S1 : CS} {r : Int32} {a1 : Int32} (hf : fX10_hoursUntilEmpty M a1 = some (r, S1)) : gMetI l yX10_hoursUntilEmpty cX10_hoursUntilEmpty 3 (some .int) 5 (cΩ ca) (cP dC dI cg kA ca) (kR kTab kA) [.ref (ca 0), .int a1] M r S1 := gEntryI (ty := .int) (by decide) rfl rfl cOK (Nat.le_of_ble_eq_true rfl) (fun p e s m args below meth c Q ls X hP hS hret hl => 
  kX10_hoursUntilEmpty_0 X hret hf hP hS (lv_sub hl [0, 1] rfl))
set_option maxRecDepth 10000 in
theorem kX10_letterOf_21 {r : Int32} {a1 : List Int32} {M : CS} {s0 : Int32} (X : gX p s m args c cX10_letterOf 2 RX10 (kR kTab kA)) (hret : gRetR p l e (rmL 5 0 0) s m args below meth c cX10_letterOf Q r) {wa1 : Nat} (hwa1 : strAt wa1 a1 (cΩ ca) s s.heap) (hf : fX10_letterOf_21 a1 M s0 = some r) {ls : Array Slot} (hP : (cP dC dI cg kA ca) M s s.heap) (hl : lv_has ls 2 []) : W p l e (rmL 5 0 0) s m args below meth c s.heap [] 0 0 Q (F0 m 21 ls [.int s0]) := by
  have hx := X.hx
  have hb := X.hb
  have hown := X.hown
  have hts := X.hts
  rw [fX10_letterOf_21] at hf
  cases hf
  exact hret _ _ dX10_letterOf_21
set_option maxRecDepth 10000 in
theorem kX10_letterOf_20 {r : Int32} {a1 : List Int32} {M : CS} (X : gX p s m args c cX10_letterOf 2 RX10 (kR kTab kA)) (hret : gRetR p l e (rmL 5 0 0) s m args below meth c cX10_letterOf Q r) {wa1 : Nat} (hwa1 : strAt wa1 a1 (cΩ ca) s s.heap) (hf : fX10_letterOf_20 a1 M = some r) {ls : Array Slot} (hP : (cP dC dI cg kA ca) M s s.heap) (hl : lv_has ls 2 []) : W p l e (rmL 5 0 0) s m args below meth c s.heap [] 0 0 Q (F0 m 20 ls []) := by
  have hx := X.hx
  have hb := X.hb
  have hown := X.hown
  have hts := X.hts
  rw [fX10_letterOf_20] at hf
  refine lv_iconst (v := (-1)) hx hb dX10_letterOf_20 (by decide) ?_
  exact kX10_letterOf_21 X hret hwa1 hf hP (lv_sub hl [] rfl)
set_option maxRecDepth 10000 in
theorem kX10_letterOf_12 {r : Int32} {a1 : List Int32} {M : CS} {x1 : Int32} (X : gX p s m args c cX10_letterOf 2 RX10 (kR kTab kA)) (hret : gRetR p l e (rmL 5 0 0) s m args below meth c cX10_letterOf Q r) {wa1 : Nat} (hwa1 : strAt wa1 a1 (cΩ ca) s s.heap) (hf : fX10_letterOf_12 a1 M x1 = some r) {ls : Array Slot} (hP : (cP dC dI cg kA ca) M s s.heap) (hl : lv_has ls 2 [(0, .ref wa1), (1, .int x1)]) : W p l e (rmL 5 0 0) s m args below meth c s.heap [] 0 0 Q (F0 m 12 ls []) := by
  have hx := X.hx
  have hb := X.hb
  have hown := X.hown
  have hts := X.hts
  rw [fX10_letterOf_12] at hf
  refine lv_aload_n hx hb dX10_letterOf_12 rfl (lv_at hl 0 rfl) ?_
  refine lv_iload_n hx hb dX10_letterOf_13 rfl (lv_at hl 1 rfl) ?_
  obtain ⟨g1, hf⟩ := gd hf
  refine gCallVR X rfl (vJ0_charAt (Ω := (cΩ ca)) g1 hwa1.1 hwa1.2.1) gsRX10_J0_charAt hdJ0_charAt rfl ⟨by decide, by decide⟩ sB_blind (sB_at (ccmp hP) hwa1) hwa1.rec hl.1 (Nat.le_of_ble_eq_true rfl) ⟨Nat.zero_le _, Nat.zero_le _⟩ dX10_letterOf_14 (As := [.int x1]) (rest := []) rfl ?_
  refine lv_goto (tgt := 21) hx hb dX10_letterOf_17 (by decide) ?_
  exact kX10_letterOf_21 X hret hwa1 hf hP (lv_sub hl [] rfl)
set_option maxRecDepth 10000 in
theorem kX10_letterOf_4 {r : Int32} {a1 : List Int32} {M : CS} {x1 : Int32} (X : gX p s m args c cX10_letterOf 2 RX10 (kR kTab kA)) (hret : gRetR p l e (rmL 5 0 0) s m args below meth c cX10_letterOf Q r) {wa1 : Nat} (hwa1 : strAt wa1 a1 (cΩ ca) s s.heap) (hf : fX10_letterOf_4 a1 M x1 = some r) {ls : Array Slot} (hP : (cP dC dI cg kA ca) M s s.heap) (hl : lv_has ls 2 [(0, .ref wa1), (1, .int x1)]) : W p l e (rmL 5 0 0) s m args below meth c s.heap [] 0 0 Q (F0 m 4 ls []) := by
  have hx := X.hx
  have hb := X.hb
  have hown := X.hown
  have hts := X.hts
  rw [fX10_letterOf_4] at hf
  refine lv_iload_n hx hb dX10_letterOf_4 rfl (lv_at hl 1 rfl) ?_
  refine lv_aload_n hx hb dX10_letterOf_5 rfl (lv_at hl 0 rfl) ?_
  refine gCallVR X rfl (vJ0_length (Ω := (cΩ ca)) (bs := a1)) gsRX10_J0_length hdJ0_length rfl ⟨by decide, by decide⟩ sB_blind (sB_at (ccmp hP) hwa1) hwa1.rec hl.1 (Nat.le_of_ble_eq_true rfl) ⟨Nat.zero_le _, Nat.zero_le _⟩ dX10_letterOf_6 (As := []) (rest := [.int x1]) rfl ?_
  refine lv_icmp_ge (tgt := 20) hx hb dX10_letterOf_9 (by decide) (fun c1 => ?_) (fun c1 => ?_)
  · exact kX10_letterOf_20 X hret hwa1 (ifp c1 hf) hP (lv_sub hl [] rfl)
  · exact kX10_letterOf_12 X hret hwa1 (ifn c1 hf) hP (lv_sub hl [0, 1] rfl)
set_option maxRecDepth 10000 in
theorem kX10_letterOf_0 {r : Int32} {a1 : List Int32} {M : CS} {a2 : Int32} (X : gX p s m args c cX10_letterOf 2 RX10 (kR kTab kA)) (hret : gRetR p l e (rmL 5 0 0) s m args below meth c cX10_letterOf Q r) {wa1 : Nat} (hwa1 : strAt wa1 a1 (cΩ ca) s s.heap) (hf : fX10_letterOf_0 a1 M a2 = some r) {ls : Array Slot} (hP : (cP dC dI cg kA ca) M s s.heap) (hl : lv_has ls 2 [(0, .ref wa1), (1, .int a2)]) : W p l e (rmL 5 0 0) s m args below meth c s.heap [] 0 0 Q (F0 m 0 ls []) := by
  have hx := X.hx
  have hb := X.hb
  have hown := X.hown
  have hts := X.hts
  rw [fX10_letterOf_0] at hf
  refine lv_iload_n hx hb dX10_letterOf_0 rfl (lv_at hl 1 rfl) ?_
  refine lv_if_lt (tgt := 20) hx hb dX10_letterOf_1 (by decide) (fun c1 => ?_) (fun c1 => ?_)
  · exact kX10_letterOf_20 X hret hwa1 (ifp c1 hf) hP (lv_sub hl [] rfl)
  · exact kX10_letterOf_4 X hret hwa1 (ifn c1 hf) hP (lv_sub hl [0, 1] rfl)
theorem vX10_letterOf {l : Launch} {dC : Nat → ClassId} {dI : Nat → Nat → Nat} {cg : Nat → ClassId} {kA : String → Nat → Nat} {ca : Nat → Nat} {M : CS} {r : Int32} {a1 : List Int32} {a2 : Int32} {wa1 : Nat} (hf : fX10_letterOf M a1 a2 = some r) : gMetR l yX10_letterOf cX10_letterOf 2 (some .int) 5 (gBS (cP dC dI cg kA ca) (kR kTab kA) M (cΩ ca) wa1 a1) [.ref wa1, .int a2] r := gEntryR (ty := .int) (by decide) rfl rfl (Nat.le_of_ble_eq_true rfl) (fun _ h => h.1.2) (fun p e s m args below meth c Q ls X hB hret hl => 
  kX10_letterOf_0 X hret hB.2 hf hB.1.1 (lv_sub hl [0, 1] rfl))
set_option maxRecDepth 10000 in
theorem kX2_apply_45 {r : Int32} {S1 : CS} {t : Nat} {M : CS} {s0 : Int32} {H : Heap} {locs : List Loc} {ls : Array Slot} (X : gX p s m args c cX2_apply 6 RX2 (kR kTab kA)) (hret : gRetI p l e (rmL 6 0 0) s m args below meth c cX2_apply (cΩ ca) (cP dC dI cg kA ca) Q r S1) (hkt : kc t = 11) (hf : fX2_apply_45 t M s0 = some (r, S1)) (hP : (cP dC dI cg kA ca) M s H) (hS : va_S (Fr (cΩ ca) s.heap.size) s.heap H locs) (hl : lv_has ls 6 [(0, .ref (ca t))]) : W p l e (rmL 6 0 0) s m args below meth c H locs 0 0 Q (F0 m 45 ls [.int s0]) := by
  have hx := X.hx
  have hb := X.hb
  have hown := X.hown
  have hts := X.hts
  rw [fX2_apply_45] at hf
  cases hf
  exact hret _ _ _ _ dX2_apply_45 hP hS
set_option maxRecDepth 10000 in
theorem kX2_apply_40 {r : Int32} {S1 : CS} {t : Nat} {M : CS} {x3 : Int32} {H : Heap} {locs : List Loc} {ls : Array Slot} (X : gX p s m args c cX2_apply 6 RX2 (kR kTab kA)) (hret : gRetI p l e (rmL 6 0 0) s m args below meth c cX2_apply (cΩ ca) (cP dC dI cg kA ca) Q r S1) (hkt : kc t = 11) (hf : fX2_apply_40 t M x3 = some (r, S1)) (hP : (cP dC dI cg kA ca) M s H) (hS : va_S (Fr (cΩ ca) s.heap.size) s.heap H locs) (hl : lv_has ls 6 [(0, .ref (ca t)), (3, .int x3)]) : W p l e (rmL 6 0 0) s m args below meth c H locs 0 0 Q (F0 m 40 ls []) := by
  have hx := X.hx
  have hb := X.hb
  have hown := X.hown
  have hts := X.hts
  rw [fX2_apply_40] at hf
  refine lv_aload_n hx hb dX2_apply_40 rfl (lv_at hl 0 rfl) ?_
  refine lv_iload_n hx hb dX2_apply_41 rfl (lv_at hl 1 rfl) ?_
  obtain ⟨q, hc, hf⟩ := bd hf
  refine gCallVI X cOK rfl (vX2_passHours hkt hc) gRX2_X2_passHours hdX2_passHours rfl ⟨by decide, by decide⟩ hP hS (cr_rec hP hkt rfl cw11 rfl) hl.1 (Nat.le_of_ble_eq_true rfl) ⟨Nat.zero_le _, Nat.zero_le _⟩ dX2_apply_42 (As := [.int x3]) (rest := []) rfl (fun H locs hP hS => ?_)
  exact kX2_apply_45 X hret hkt hf hP hS (lv_sub hl [0] rfl)
set_option maxRecDepth 10000 in
theorem kX2_apply_60 {r : Int32} {S1 : CS} {t : Nat} {M : CS} {s0 : Int32} {H : Heap} {locs : List Loc} {ls : Array Slot} (X : gX p s m args c cX2_apply 6 RX2 (kR kTab kA)) (hret : gRetI p l e (rmL 6 0 0) s m args below meth c cX2_apply (cΩ ca) (cP dC dI cg kA ca) Q r S1) (hkt : kc t = 11) (hf : fX2_apply_60 t M s0 = some (r, S1)) (hP : (cP dC dI cg kA ca) M s H) (hS : va_S (Fr (cΩ ca) s.heap.size) s.heap H locs) (hl : lv_has ls 6 [(0, .ref (ca t))]) : W p l e (rmL 6 0 0) s m args below meth c H locs 0 0 Q (F0 m 60 ls [.int s0]) := by
  have hx := X.hx
  have hb := X.hb
  have hown := X.hown
  have hts := X.hts
  rw [fX2_apply_60] at hf
  cases hf
  exact hret _ _ _ _ dX2_apply_60 hP hS
set_option maxRecDepth 10000 in
theorem kX2_apply_56 {r : Int32} {S1 : CS} {t : Nat} {M : CS} {H : Heap} {locs : List Loc} {ls : Array Slot} (X : gX p s m args c cX2_apply 6 RX2 (kR kTab kA)) (hret : gRetI p l e (rmL 6 0 0) s m args below meth c cX2_apply (cΩ ca) (cP dC dI cg kA ca) Q r S1) (hkt : kc t = 11) (hf : fX2_apply_56 t M = some (r, S1)) (hP : (cP dC dI cg kA ca) M s H) (hS : va_S (Fr (cΩ ca) s.heap.size) s.heap H locs) (hl : lv_has ls 6 [(0, .ref (ca t))]) : W p l e (rmL 6 0 0) s m args below meth c H locs 0 0 Q (F0 m 56 ls []) := by
  have hx := X.hx
  have hb := X.hb
  have hown := X.hown
  have hts := X.hts
  rw [fX2_apply_56] at hf
  refine lv_aload_n hx hb dX2_apply_56 rfl (lv_at hl 0 rfl) ?_
  obtain ⟨q, hc, hf⟩ := bd hf
  refine gCallVR X rfl (vX2_openFlaps hkt hc) gRX2_X2_openFlaps hdX2_openFlaps rfl ⟨by decide, by decide⟩ (gB_blind cOK) (gB_at cOK X hP) (cr_rec hP hkt rfl cw11 rfl) hl.1 (Nat.le_of_ble_eq_true rfl) ⟨Nat.zero_le _, Nat.zero_le _⟩ dX2_apply_57 (As := []) (rest := []) rfl ?_
  exact kX2_apply_60 X hret hkt hf hP hS (lv_sub hl [0] rfl)
set_option maxRecDepth 10000 in
theorem kX2_apply_46 {r : Int32} {S1 : CS} {t : Nat} {M : CS} {x2 : Int32} {H : Heap} {locs : List Loc} {ls : Array Slot} (X : gX p s m args c cX2_apply 6 RX2 (kR kTab kA)) (hret : gRetI p l e (rmL 6 0 0) s m args below meth c cX2_apply (cΩ ca) (cP dC dI cg kA ca) Q r S1) (hkt : kc t = 11) (hf : fX2_apply_46 t M x2 = some (r, S1)) (hP : (cP dC dI cg kA ca) M s H) (hS : va_S (Fr (cΩ ca) s.heap.size) s.heap H locs) (hl : lv_has ls 6 [(0, .ref (ca t)), (2, .int x2)]) : W p l e (rmL 6 0 0) s m args below meth c H locs 0 0 Q (F0 m 46 ls []) := by
  have hx := X.hx
  have hb := X.hb
  have hown := X.hown
  have hts := X.hts
  rw [fX2_apply_46] at hf
  refine lv_aload_n hx hb dX2_apply_46 rfl (lv_at hl 0 rfl) ?_
  refine cr_get (k := 1) X hP hkt rfl cv11_1 rfl cinX2 (by decide) rfl tw316 dX2_apply_47 ?_
  refine lv_iload_n hx hb dX2_apply_50 rfl (lv_at hl 1 rfl) ?_
  obtain ⟨g1, hf⟩ := gd hf
  refine cr_aald (f := fun i => (t + 2) + 15 + i) X hP (kc_sacks hkt) rfl (fun _ => rfl) rfl g1 dX2_apply_51 ?_
  refine lv_iconst (v := 1) hx hb dX2_apply_52 (by decide) ?_
  refine cr_put (k := 3) X hP hS (kc_sack (kc_sacks hkt) g1) rfl cs19_3 rfl cinX4 tyX4_ok nmX4 (by decide) rfl rfl (by decide +kernel) (by decide +kernel) tw277 dX2_apply_53 (fun H locs hP hS => ?_)
  exact kX2_apply_56 X hret hkt hf hP hS (lv_sub hl [0] rfl)
set_option maxRecDepth 10000 in
theorem kX2_apply_75 {r : Int32} {S1 : CS} {t : Nat} {M : CS} {s0 : Int32} {H : Heap} {locs : List Loc} {ls : Array Slot} (X : gX p s m args c cX2_apply 6 RX2 (kR kTab kA)) (hret : gRetI p l e (rmL 6 0 0) s m args below meth c cX2_apply (cΩ ca) (cP dC dI cg kA ca) Q r S1) (hkt : kc t = 11) (hf : fX2_apply_75 t M s0 = some (r, S1)) (hP : (cP dC dI cg kA ca) M s H) (hS : va_S (Fr (cΩ ca) s.heap.size) s.heap H locs) (hl : lv_has ls 6 [(0, .ref (ca t))]) : W p l e (rmL 6 0 0) s m args below meth c H locs 0 0 Q (F0 m 75 ls [.int s0]) := by
  have hx := X.hx
  have hb := X.hb
  have hown := X.hown
  have hts := X.hts
  rw [fX2_apply_75] at hf
  cases hf
  exact hret _ _ _ _ dX2_apply_75 hP hS
set_option maxRecDepth 10000 in
theorem kX2_apply_71 {r : Int32} {S1 : CS} {t : Nat} {M : CS} {H : Heap} {locs : List Loc} {ls : Array Slot} (X : gX p s m args c cX2_apply 6 RX2 (kR kTab kA)) (hret : gRetI p l e (rmL 6 0 0) s m args below meth c cX2_apply (cΩ ca) (cP dC dI cg kA ca) Q r S1) (hkt : kc t = 11) (hf : fX2_apply_71 t M = some (r, S1)) (hP : (cP dC dI cg kA ca) M s H) (hS : va_S (Fr (cΩ ca) s.heap.size) s.heap H locs) (hl : lv_has ls 6 [(0, .ref (ca t))]) : W p l e (rmL 6 0 0) s m args below meth c H locs 0 0 Q (F0 m 71 ls []) := by
  have hx := X.hx
  have hb := X.hb
  have hown := X.hown
  have hts := X.hts
  rw [fX2_apply_71] at hf
  refine lv_aload_n hx hb dX2_apply_71 rfl (lv_at hl 0 rfl) ?_
  obtain ⟨q, hc, hf⟩ := bd hf
  refine gCallVR X rfl (vX2_openFlaps hkt hc) gRX2_X2_openFlaps hdX2_openFlaps rfl ⟨by decide, by decide⟩ (gB_blind cOK) (gB_at cOK X hP) (cr_rec hP hkt rfl cw11 rfl) hl.1 (Nat.le_of_ble_eq_true rfl) ⟨Nat.zero_le _, Nat.zero_le _⟩ dX2_apply_72 (As := []) (rest := []) rfl ?_
  exact kX2_apply_75 X hret hkt hf hP hS (lv_sub hl [0] rfl)
set_option maxRecDepth 10000 in
theorem kX2_apply_61 {r : Int32} {S1 : CS} {t : Nat} {M : CS} {x2 : Int32} {H : Heap} {locs : List Loc} {ls : Array Slot} (X : gX p s m args c cX2_apply 6 RX2 (kR kTab kA)) (hret : gRetI p l e (rmL 6 0 0) s m args below meth c cX2_apply (cΩ ca) (cP dC dI cg kA ca) Q r S1) (hkt : kc t = 11) (hf : fX2_apply_61 t M x2 = some (r, S1)) (hP : (cP dC dI cg kA ca) M s H) (hS : va_S (Fr (cΩ ca) s.heap.size) s.heap H locs) (hl : lv_has ls 6 [(0, .ref (ca t)), (2, .int x2)]) : W p l e (rmL 6 0 0) s m args below meth c H locs 0 0 Q (F0 m 61 ls []) := by
  have hx := X.hx
  have hb := X.hb
  have hown := X.hown
  have hts := X.hts
  rw [fX2_apply_61] at hf
  refine lv_aload_n hx hb dX2_apply_61 rfl (lv_at hl 0 rfl) ?_
  refine cr_get (k := 1) X hP hkt rfl cv11_1 rfl cinX2 (by decide) rfl tw316 dX2_apply_62 ?_
  refine lv_iload_n hx hb dX2_apply_65 rfl (lv_at hl 1 rfl) ?_
  obtain ⟨g1, hf⟩ := gd hf
  refine cr_aald (f := fun i => (t + 2) + 15 + i) X hP (kc_sacks hkt) rfl (fun _ => rfl) rfl g1 dX2_apply_66 ?_
  refine lv_iconst (v := 0) hx hb dX2_apply_67 (by decide) ?_
  refine cr_put (k := 3) X hP hS (kc_sack (kc_sacks hkt) g1) rfl cs19_3 rfl cinX4 tyX4_ok nmX4 (by decide) rfl rfl (by decide +kernel) (by decide +kernel) tw277 dX2_apply_68 (fun H locs hP hS => ?_)
  exact kX2_apply_71 X hret hkt hf hP hS (lv_sub hl [0] rfl)
set_option maxRecDepth 10000 in
theorem kX2_apply_104 {r : Int32} {S1 : CS} {t : Nat} {M : CS} {x2 : Int32} {H : Heap} {locs : List Loc} {ls : Array Slot} (X : gX p s m args c cX2_apply 6 RX2 (kR kTab kA)) (hret : gRetI p l e (rmL 6 0 0) s m args below meth c cX2_apply (cΩ ca) (cP dC dI cg kA ca) Q r S1) (hkt : kc t = 11) (hf : fX2_apply_104 t M x2 = some (r, S1)) (hP : (cP dC dI cg kA ca) M s H) (hS : va_S (Fr (cΩ ca) s.heap.size) s.heap H locs) (hl : lv_has ls 6 [(0, .ref (ca t)), (2, .int x2)]) : W p l e (rmL 6 0 0) s m args below meth c H locs 0 0 Q (F0 m 104 ls []) := by
  have hx := X.hx
  have hb := X.hb
  have hown := X.hown
  have hts := X.hts
  rw [fX2_apply_104] at hf
  refine lv_aload_n hx hb dX2_apply_104 rfl (lv_at hl 0 rfl) ?_
  refine cr_get (k := 1) X hP hkt rfl cv11_1 rfl cinX2 (by decide) rfl tw316 dX2_apply_105 ?_
  refine lv_iload_n hx hb dX2_apply_108 rfl (lv_at hl 1 rfl) ?_
  obtain ⟨g1, hf⟩ := gd hf
  refine cr_aald (f := fun i => (t + 2) + 15 + i) X hP (kc_sacks hkt) rfl (fun _ => rfl) rfl g1 dX2_apply_109 ?_
  refine cr_get (k := 2) X hP (kc_sack (kc_sacks hkt) g1) rfl cv19_2 rfl cinX4 (by decide) rfl tw272 dX2_apply_110 ?_
  cases hf
  exact hret _ _ _ _ dX2_apply_113 hP hS
set_option maxRecDepth 10000 in
theorem kX2_apply_91 {r : Int32} {S1 : CS} {t : Nat} {M : CS} {x2 : Int32} {x3 : Int32} {H : Heap} {locs : List Loc} {ls : Array Slot} (X : gX p s m args c cX2_apply 6 RX2 (kR kTab kA)) (hret : gRetI p l e (rmL 6 0 0) s m args below meth c cX2_apply (cΩ ca) (cP dC dI cg kA ca) Q r S1) (hkt : kc t = 11) (hf : fX2_apply_91 t M x2 x3 = some (r, S1)) (hP : (cP dC dI cg kA ca) M s H) (hS : va_S (Fr (cΩ ca) s.heap.size) s.heap H locs) (hl : lv_has ls 6 [(0, .ref (ca t)), (2, .int x2), (3, .int x3)]) : W p l e (rmL 6 0 0) s m args below meth c H locs 0 0 Q (F0 m 91 ls []) := by
  have hx := X.hx
  have hb := X.hb
  have hown := X.hown
  have hts := X.hts
  rw [fX2_apply_91] at hf
  refine lv_aload_n hx hb dX2_apply_91 rfl (lv_at hl 0 rfl) ?_
  refine cr_get (k := 4) X hP hkt rfl cv11_4 rfl cinX2 (by decide) rfl tw324 dX2_apply_92 ?_
  refine lv_dup hx hb dX2_apply_95 rfl ?_
  refine cr_get (k := 6) X hP (kc_totals hkt) rfl cv17_6 rfl cinX9 (by decide) rfl tw195 dX2_apply_96 ?_
  refine lv_iload_n hx hb dX2_apply_99 rfl (lv_at hl 2 rfl) ?_
  refine lv_iadd hx hb dX2_apply_100 ?_
  refine cr_put (k := 6) X hP hS (kc_totals hkt) rfl cs17_6 rfl cinX9 tyX9_ok nmX9 (by decide) rfl rfl rfl rfl tw195 dX2_apply_101 (fun H locs hP hS => ?_)
  exact kX2_apply_104 X hret hkt hf hP hS (lv_sub hl [0, 1] rfl)
set_option maxRecDepth 10000 in
theorem kX2_apply_76 {r : Int32} {S1 : CS} {t : Nat} {M : CS} {x2 : Int32} {x3 : Int32} {H : Heap} {locs : List Loc} {ls : Array Slot} (X : gX p s m args c cX2_apply 6 RX2 (kR kTab kA)) (hret : gRetI p l e (rmL 6 0 0) s m args below meth c cX2_apply (cΩ ca) (cP dC dI cg kA ca) Q r S1) (hkt : kc t = 11) (hf : fX2_apply_76 t M x2 x3 = some (r, S1)) (hP : (cP dC dI cg kA ca) M s H) (hS : va_S (Fr (cΩ ca) s.heap.size) s.heap H locs) (hl : lv_has ls 6 [(0, .ref (ca t)), (2, .int x2), (3, .int x3)]) : W p l e (rmL 6 0 0) s m args below meth c H locs 0 0 Q (F0 m 76 ls []) := by
  have hx := X.hx
  have hb := X.hb
  have hown := X.hown
  have hts := X.hts
  rw [fX2_apply_76] at hf
  refine lv_aload_n hx hb dX2_apply_76 rfl (lv_at hl 0 rfl) ?_
  refine cr_get (k := 1) X hP hkt rfl cv11_1 rfl cinX2 (by decide) rfl tw316 dX2_apply_77 ?_
  refine lv_iload_n hx hb dX2_apply_80 rfl (lv_at hl 1 rfl) ?_
  obtain ⟨g1, hf⟩ := gd hf
  refine cr_aald (f := fun i => (t + 2) + 15 + i) X hP (kc_sacks hkt) rfl (fun _ => rfl) rfl g1 dX2_apply_81 ?_
  refine lv_dup hx hb dX2_apply_82 rfl ?_
  refine cr_get (k := 2) X hP (kc_sack (kc_sacks hkt) g1) rfl cv19_2 rfl cinX4 (by decide) rfl tw272 dX2_apply_83 ?_
  refine lv_iload_n hx hb dX2_apply_86 rfl (lv_at hl 2 rfl) ?_
  refine lv_iadd hx hb dX2_apply_87 ?_
  refine cr_put (k := 2) X hP hS (kc_sack (kc_sacks hkt) g1) rfl cs19_2 rfl cinX4 tyX4_ok nmX4 (by decide) rfl rfl rfl rfl tw272 dX2_apply_88 (fun H locs hP hS => ?_)
  exact kX2_apply_91 X hret hkt hf hP hS (lv_sub hl [0, 1, 2] rfl)
set_option maxRecDepth 10000 in
theorem kX2_apply_142 {r : Int32} {S1 : CS} {t : Nat} {M : CS} {x2 : Int32} {H : Heap} {locs : List Loc} {ls : Array Slot} (X : gX p s m args c cX2_apply 6 RX2 (kR kTab kA)) (hret : gRetI p l e (rmL 6 0 0) s m args below meth c cX2_apply (cΩ ca) (cP dC dI cg kA ca) Q r S1) (hkt : kc t = 11) (hf : fX2_apply_142 t M x2 = some (r, S1)) (hP : (cP dC dI cg kA ca) M s H) (hS : va_S (Fr (cΩ ca) s.heap.size) s.heap H locs) (hl : lv_has ls 6 [(0, .ref (ca t)), (2, .int x2)]) : W p l e (rmL 6 0 0) s m args below meth c H locs 0 0 Q (F0 m 142 ls []) := by
  have hx := X.hx
  have hb := X.hb
  have hown := X.hown
  have hts := X.hts
  rw [fX2_apply_142] at hf
  refine lv_aload_n hx hb dX2_apply_142 rfl (lv_at hl 0 rfl) ?_
  refine cr_get (k := 1) X hP hkt rfl cv11_1 rfl cinX2 (by decide) rfl tw316 dX2_apply_143 ?_
  refine lv_iload_n hx hb dX2_apply_146 rfl (lv_at hl 1 rfl) ?_
  obtain ⟨g1, hf⟩ := gd hf
  refine cr_aald (f := fun i => (t + 2) + 15 + i) X hP (kc_sacks hkt) rfl (fun _ => rfl) rfl g1 dX2_apply_147 ?_
  refine cr_get (k := 1) X hP (kc_sack (kc_sacks hkt) g1) rfl cv19_1 rfl cinX4 (by decide) rfl tw268 dX2_apply_148 ?_
  cases hf
  exact hret _ _ _ _ dX2_apply_151 hP hS
set_option maxRecDepth 10000 in
theorem kX2_apply_129 {r : Int32} {S1 : CS} {t : Nat} {M : CS} {x2 : Int32} {x3 : Int32} {H : Heap} {locs : List Loc} {ls : Array Slot} (X : gX p s m args c cX2_apply 6 RX2 (kR kTab kA)) (hret : gRetI p l e (rmL 6 0 0) s m args below meth c cX2_apply (cΩ ca) (cP dC dI cg kA ca) Q r S1) (hkt : kc t = 11) (hf : fX2_apply_129 t M x2 x3 = some (r, S1)) (hP : (cP dC dI cg kA ca) M s H) (hS : va_S (Fr (cΩ ca) s.heap.size) s.heap H locs) (hl : lv_has ls 6 [(0, .ref (ca t)), (2, .int x2), (3, .int x3)]) : W p l e (rmL 6 0 0) s m args below meth c H locs 0 0 Q (F0 m 129 ls []) := by
  have hx := X.hx
  have hb := X.hb
  have hown := X.hown
  have hts := X.hts
  rw [fX2_apply_129] at hf
  refine lv_aload_n hx hb dX2_apply_129 rfl (lv_at hl 0 rfl) ?_
  refine cr_get (k := 4) X hP hkt rfl cv11_4 rfl cinX2 (by decide) rfl tw324 dX2_apply_130 ?_
  refine lv_dup hx hb dX2_apply_133 rfl ?_
  refine cr_get (k := 7) X hP (kc_totals hkt) rfl cv17_7 rfl cinX9 (by decide) rfl tw197 dX2_apply_134 ?_
  refine lv_iload_n hx hb dX2_apply_137 rfl (lv_at hl 2 rfl) ?_
  refine lv_iadd hx hb dX2_apply_138 ?_
  refine cr_put (k := 7) X hP hS (kc_totals hkt) rfl cs17_7 rfl cinX9 tyX9_ok nmX9 (by decide) rfl rfl rfl rfl tw197 dX2_apply_139 (fun H locs hP hS => ?_)
  exact kX2_apply_142 X hret hkt hf hP hS (lv_sub hl [0, 1] rfl)
set_option maxRecDepth 10000 in
theorem kX2_apply_114 {r : Int32} {S1 : CS} {t : Nat} {M : CS} {x2 : Int32} {x3 : Int32} {H : Heap} {locs : List Loc} {ls : Array Slot} (X : gX p s m args c cX2_apply 6 RX2 (kR kTab kA)) (hret : gRetI p l e (rmL 6 0 0) s m args below meth c cX2_apply (cΩ ca) (cP dC dI cg kA ca) Q r S1) (hkt : kc t = 11) (hf : fX2_apply_114 t M x2 x3 = some (r, S1)) (hP : (cP dC dI cg kA ca) M s H) (hS : va_S (Fr (cΩ ca) s.heap.size) s.heap H locs) (hl : lv_has ls 6 [(0, .ref (ca t)), (2, .int x2), (3, .int x3)]) : W p l e (rmL 6 0 0) s m args below meth c H locs 0 0 Q (F0 m 114 ls []) := by
  have hx := X.hx
  have hb := X.hb
  have hown := X.hown
  have hts := X.hts
  rw [fX2_apply_114] at hf
  refine lv_aload_n hx hb dX2_apply_114 rfl (lv_at hl 0 rfl) ?_
  refine cr_get (k := 1) X hP hkt rfl cv11_1 rfl cinX2 (by decide) rfl tw316 dX2_apply_115 ?_
  refine lv_iload_n hx hb dX2_apply_118 rfl (lv_at hl 1 rfl) ?_
  obtain ⟨g1, hf⟩ := gd hf
  refine cr_aald (f := fun i => (t + 2) + 15 + i) X hP (kc_sacks hkt) rfl (fun _ => rfl) rfl g1 dX2_apply_119 ?_
  refine lv_dup hx hb dX2_apply_120 rfl ?_
  refine cr_get (k := 1) X hP (kc_sack (kc_sacks hkt) g1) rfl cv19_1 rfl cinX4 (by decide) rfl tw268 dX2_apply_121 ?_
  refine lv_iload_n hx hb dX2_apply_124 rfl (lv_at hl 2 rfl) ?_
  refine lv_iadd hx hb dX2_apply_125 ?_
  refine cr_put (k := 1) X hP hS (kc_sack (kc_sacks hkt) g1) rfl cs19_1 rfl cinX4 tyX4_ok nmX4 (by decide) rfl rfl rfl rfl tw268 dX2_apply_126 (fun H locs hP hS => ?_)
  exact kX2_apply_129 X hret hkt hf hP hS (lv_sub hl [0, 1, 2] rfl)
set_option maxRecDepth 10000 in
theorem kX2_apply_163 {r : Int32} {S1 : CS} {t : Nat} {M : CS} {x4 : Int32} {H : Heap} {locs : List Loc} {ls : Array Slot} (X : gX p s m args c cX2_apply 6 RX2 (kR kTab kA)) (hret : gRetI p l e (rmL 6 0 0) s m args below meth c cX2_apply (cΩ ca) (cP dC dI cg kA ca) Q r S1) (hkt : kc t = 11) (hf : fX2_apply_163 t M x4 = some (r, S1)) (hP : (cP dC dI cg kA ca) M s H) (hS : va_S (Fr (cΩ ca) s.heap.size) s.heap H locs) (hl : lv_has ls 6 [(0, .ref (ca t)), (4, .int x4)]) : W p l e (rmL 6 0 0) s m args below meth c H locs 0 0 Q (F0 m 163 ls []) := by
  have hx := X.hx
  have hb := X.hb
  have hown := X.hown
  have hts := X.hts
  rw [fX2_apply_163] at hf
  refine lv_iload hx hb dX2_apply_163 (lv_at hl 1 rfl) ?_
  cases hf
  exact hret _ _ _ _ dX2_apply_165 hP hS
set_option maxRecDepth 10000 in
theorem kX2_apply_152 {r : Int32} {S1 : CS} {t : Nat} {M : CS} {H : Heap} {locs : List Loc} {ls : Array Slot} (X : gX p s m args c cX2_apply 6 RX2 (kR kTab kA)) (hret : gRetI p l e (rmL 6 0 0) s m args below meth c cX2_apply (cΩ ca) (cP dC dI cg kA ca) Q r S1) (hkt : kc t = 11) (hf : fX2_apply_152 t M = some (r, S1)) (hP : (cP dC dI cg kA ca) M s H) (hS : va_S (Fr (cΩ ca) s.heap.size) s.heap H locs) (hl : lv_has ls 6 [(0, .ref (ca t))]) : W p l e (rmL 6 0 0) s m args below meth c H locs 0 0 Q (F0 m 152 ls []) := by
  have hx := X.hx
  have hb := X.hb
  have hown := X.hown
  have hts := X.hts
  rw [fX2_apply_152] at hf
  refine lv_aload_n hx hb dX2_apply_152 rfl (lv_at hl 0 rfl) ?_
  refine cr_get (k := 8) X hP hkt rfl cv11_8 rfl cinX2 (by decide) rfl tw335 dX2_apply_153 ?_
  refine lv_istore (lv' := [(4, .int (M.1 t 8)), (0, .ref (ca t))]) hx hb dX2_apply_156 hl (by decide) rfl (fun ls hl => ?_)
  refine lv_aload_n hx hb dX2_apply_158 rfl (lv_at hl 1 rfl) ?_
  refine lv_iconst (v := (-1)) hx hb dX2_apply_159 (by decide) ?_
  refine cr_put (k := 8) X hP hS hkt rfl cs11_8 rfl cinX2 tyX2_ok nmX2 (by decide) rfl rfl rfl rfl tw335 dX2_apply_160 (fun H locs hP hS => ?_)
  exact kX2_apply_163 X hret hkt hf hP hS (lv_sub hl [1, 0] rfl)
set_option maxRecDepth 10000 in
theorem kX2_apply_177 {r : Int32} {S1 : CS} {t : Nat} {M : CS} {x5 : Int32} {H : Heap} {locs : List Loc} {ls : Array Slot} (X : gX p s m args c cX2_apply 6 RX2 (kR kTab kA)) (hret : gRetI p l e (rmL 6 0 0) s m args below meth c cX2_apply (cΩ ca) (cP dC dI cg kA ca) Q r S1) (hkt : kc t = 11) (hf : fX2_apply_177 t M x5 = some (r, S1)) (hP : (cP dC dI cg kA ca) M s H) (hS : va_S (Fr (cΩ ca) s.heap.size) s.heap H locs) (hl : lv_has ls 6 [(0, .ref (ca t)), (5, .int x5)]) : W p l e (rmL 6 0 0) s m args below meth c H locs 0 0 Q (F0 m 177 ls []) := by
  have hx := X.hx
  have hb := X.hb
  have hown := X.hown
  have hts := X.hts
  rw [fX2_apply_177] at hf
  refine lv_iload hx hb dX2_apply_177 (lv_at hl 1 rfl) ?_
  cases hf
  exact hret _ _ _ _ dX2_apply_179 hP hS
set_option maxRecDepth 10000 in
theorem kX2_apply_166 {r : Int32} {S1 : CS} {t : Nat} {M : CS} {x3 : Int32} {H : Heap} {locs : List Loc} {ls : Array Slot} (X : gX p s m args c cX2_apply 6 RX2 (kR kTab kA)) (hret : gRetI p l e (rmL 6 0 0) s m args below meth c cX2_apply (cΩ ca) (cP dC dI cg kA ca) Q r S1) (hkt : kc t = 11) (hf : fX2_apply_166 t M x3 = some (r, S1)) (hP : (cP dC dI cg kA ca) M s H) (hS : va_S (Fr (cΩ ca) s.heap.size) s.heap H locs) (hl : lv_has ls 6 [(0, .ref (ca t)), (3, .int x3)]) : W p l e (rmL 6 0 0) s m args below meth c H locs 0 0 Q (F0 m 166 ls []) := by
  have hx := X.hx
  have hb := X.hb
  have hown := X.hown
  have hts := X.hts
  rw [fX2_apply_166] at hf
  refine lv_aload_n hx hb dX2_apply_166 rfl (lv_at hl 0 rfl) ?_
  refine cr_get (k := 11) X hP hkt rfl cv11_11 rfl cinX2 (by decide) rfl tw341 dX2_apply_167 ?_
  refine lv_istore (lv' := [(5, .int (M.1 t 11)), (0, .ref (ca t)), (3, .int x3)]) hx hb dX2_apply_170 hl (by decide) rfl (fun ls hl => ?_)
  refine lv_aload_n hx hb dX2_apply_172 rfl (lv_at hl 1 rfl) ?_
  refine lv_iload_n hx hb dX2_apply_173 rfl (lv_at hl 2 rfl) ?_
  refine cr_put (k := 11) X hP hS hkt rfl cs11_11 rfl cinX2 tyX2_ok nmX2 (by decide) rfl rfl rfl rfl tw341 dX2_apply_174 (fun H locs hP hS => ?_)
  exact kX2_apply_177 X hret hkt hf hP hS (lv_sub hl [1, 0] rfl)
set_option maxRecDepth 10000 in
theorem kX2_apply_0 {r : Int32} {S1 : CS} {t : Nat} {M : CS} {a1 : Int32} {a2 : Int32} {a3 : Int32} {H : Heap} {locs : List Loc} {ls : Array Slot} (X : gX p s m args c cX2_apply 6 RX2 (kR kTab kA)) (hret : gRetI p l e (rmL 6 0 0) s m args below meth c cX2_apply (cΩ ca) (cP dC dI cg kA ca) Q r S1) (hkt : kc t = 11) (hf : fX2_apply_0 t M a1 a2 a3 = some (r, S1)) (hP : (cP dC dI cg kA ca) M s H) (hS : va_S (Fr (cΩ ca) s.heap.size) s.heap H locs) (hl : lv_has ls 6 [(0, .ref (ca t)), (1, .int a1), (2, .int a2), (3, .int a3)]) : W p l e (rmL 6 0 0) s m args below meth c H locs 0 0 Q (F0 m 0 ls []) := by
  have hx := X.hx
  have hb := X.hb
  have hown := X.hown
  have hts := X.hts
  rw [fX2_apply_0] at hf
  refine lv_iload_n hx hb dX2_apply_0 rfl (lv_at hl 1 rfl) ?_
  by_cases c0 : a1 = 0
  · refine lv_tableIn (off := 39) (tgt := 40) hx hb dX2_apply_1 (by rw [c0]; decide) (by rw [c0]; decide) (by rw [c0]; rfl) (by decide) ?_
    exact kX2_apply_40 X hret hkt (ifp c0 hf) hP hS (lv_sub hl [0, 3] rfl)
  replace hf := ifn c0 hf
  by_cases c1 : a1 = 1
  · refine lv_tableIn (off := 45) (tgt := 46) hx hb dX2_apply_1 (by rw [c1]; decide) (by rw [c1]; decide) (by rw [c1]; rfl) (by decide) ?_
    exact kX2_apply_46 X hret hkt (ifp c1 hf) hP hS (lv_sub hl [0, 2] rfl)
  replace hf := ifn c1 hf
  by_cases c2 : a1 = 2
  · refine lv_tableIn (off := 60) (tgt := 61) hx hb dX2_apply_1 (by rw [c2]; decide) (by rw [c2]; decide) (by rw [c2]; rfl) (by decide) ?_
    exact kX2_apply_61 X hret hkt (ifp c2 hf) hP hS (lv_sub hl [0, 2] rfl)
  replace hf := ifn c2 hf
  by_cases c3 : a1 = 3
  · refine lv_tableIn (off := 75) (tgt := 76) hx hb dX2_apply_1 (by rw [c3]; decide) (by rw [c3]; decide) (by rw [c3]; rfl) (by decide) ?_
    exact kX2_apply_76 X hret hkt (ifp c3 hf) hP hS (lv_sub hl [0, 2, 3] rfl)
  replace hf := ifn c3 hf
  by_cases c4 : a1 = 4
  · refine lv_tableIn (off := 113) (tgt := 114) hx hb dX2_apply_1 (by rw [c4]; decide) (by rw [c4]; decide) (by rw [c4]; rfl) (by decide) ?_
    exact kX2_apply_114 X hret hkt (ifp c4 hf) hP hS (lv_sub hl [0, 2, 3] rfl)
  replace hf := ifn c4 hf
  by_cases c5 : a1 = 5
  · refine lv_tableIn (off := 151) (tgt := 152) hx hb dX2_apply_1 (by rw [c5]; decide) (by rw [c5]; decide) (by rw [c5]; rfl) (by decide) ?_
    exact kX2_apply_152 X hret hkt (ifp c5 hf) hP hS (lv_sub hl [0] rfl)
  replace hf := ifn c5 hf
  refine lv_tableOut (tgt := 166) hx hb dX2_apply_1 (sw_out 0 5 (by decide) (by decide) (fun k h1 h2 h3 => by have hk : k = 0 ∨ k = 1 ∨ k = 2 ∨ k = 3 ∨ k = 4 ∨ k = 5 := (by omega); rcases hk with rfl | rfl | rfl | rfl | rfl | rfl <;> first | exact c0 (h3.trans (by decide)) | exact c1 (h3.trans (by decide)) | exact c2 (h3.trans (by decide)) | exact c3 (h3.trans (by decide)) | exact c4 (h3.trans (by decide)) | exact c5 (h3.trans (by decide)))) (by decide) ?_
  exact kX2_apply_166 X hret hkt hf hP hS (lv_sub hl [0, 3] rfl)
theorem vX2_apply {l : Launch} {dC : Nat → ClassId} {dI : Nat → Nat → Nat} {cg : Nat → ClassId} {kA : String → Nat → Nat} {ca : Nat → Nat} {M S1 : CS} {r : Int32} {t : Nat} {a1 : Int32} {a2 : Int32} {a3 : Int32} (hkt : kc t = 11) (hf : fX2_apply M t a1 a2 a3 = some (r, S1)) : gMetI l yX2_apply cX2_apply 6 (some .int) 6 (cΩ ca) (cP dC dI cg kA ca) (kR kTab kA) [.ref (ca t), .int a1, .int a2, .int a3] M r S1 := gEntryI (ty := .int) (by decide) rfl rfl cOK (Nat.le_of_ble_eq_true rfl) (fun p e s m args below meth c Q ls X hP hS hret hl => 
  kX2_apply_0 X hret hkt hf hP hS (lv_sub hl [0, 1, 2, 3] rfl))
set_option maxRecDepth 10000 in
theorem kX2_catNamed_34 {r : Int32} {t : Nat} {M : CS} (X : gX p s m args c cX2_catNamed 3 RX2 (kR kTab kA)) (hret : gRetR p l e (rmL 6 0 0) s m args below meth c cX2_catNamed Q r) (hkt : kc t = 11) (hf : fX2_catNamed_34 t M = some r) {ls : Array Slot} (hP : (cP dC dI cg kA ca) M s s.heap) (hl : lv_has ls 3 [(0, .ref (ca t))]) : W p l e (rmL 6 0 0) s m args below meth c s.heap [] 0 0 Q (F0 m 34 ls []) := by
  have hx := X.hx
  have hb := X.hb
  have hown := X.hown
  have hts := X.hts
  rw [fX2_catNamed_34] at hf
  refine lv_iconst (v := (-1)) hx hb dX2_catNamed_34 (by decide) ?_
  cases hf
  exact hret _ _ dX2_catNamed_35
set_option maxRecDepth 10000 in
theorem kX2_catNamed_28 {r : Int32} {t : Nat} {K2 : CS → Int32 → Option (Int32)} {M : CS} {x2 : Int32} (X : gX p s m args c cX2_catNamed 3 RX2 (kR kTab kA)) (hret : gRetR p l e (rmL 6 0 0) s m args below meth c cX2_catNamed Q r) (hkt : kc t = 11) (hK2 : ∀ (M : CS) (x2 : Int32) (ls : Array Slot), K2 M x2 = some r → (cP dC dI cg kA ca) M s s.heap → lv_has ls 3 [(0, .ref (ca t)), (1, .ref (ca 1)), (2, .int x2)] → W p l e (rmL 6 0 0) s m args below meth c s.heap [] 0 0 Q (F0 m 2 ls [])) (hf : fX2_catNamed_28 t K2 M x2 = some r) {ls : Array Slot} (hP : (cP dC dI cg kA ca) M s s.heap) (hl : lv_has ls 3 [(0, .ref (ca t)), (1, .ref (ca 1)), (2, .int x2)]) : W p l e (rmL 6 0 0) s m args below meth c s.heap [] 0 0 Q (F0 m 28 ls []) := by
  have hx := X.hx
  have hb := X.hb
  have hown := X.hown
  have hts := X.hts
  rw [fX2_catNamed_28] at hf
  refine lv_iinc (v := (x2 + 1)) (lv' := [(2, .int (x2 + 1)), (0, .ref (ca t)), (1, .ref (ca 1))]) hx hb dX2_catNamed_28 hl (k := 2) rfl (by rfl) (by decide) rfl (fun ls hl => ?_)
  refine lv_goto (tgt := 2) hx hb dX2_catNamed_31 (by decide) ?_
  exact hK2 _ _ _ hf hP (lv_sub hl [1, 2, 0] rfl)
set_option maxRecDepth 10000 in
theorem kX2_catNamed_26 {r : Int32} {t : Nat} {M : CS} {x2 : Int32} (X : gX p s m args c cX2_catNamed 3 RX2 (kR kTab kA)) (hret : gRetR p l e (rmL 6 0 0) s m args below meth c cX2_catNamed Q r) (hkt : kc t = 11) (hf : fX2_catNamed_26 t M x2 = some r) {ls : Array Slot} (hP : (cP dC dI cg kA ca) M s s.heap) (hl : lv_has ls 3 [(0, .ref (ca t)), (2, .int x2)]) : W p l e (rmL 6 0 0) s m args below meth c s.heap [] 0 0 Q (F0 m 26 ls []) := by
  have hx := X.hx
  have hb := X.hb
  have hown := X.hown
  have hts := X.hts
  rw [fX2_catNamed_26] at hf
  refine lv_iload_n hx hb dX2_catNamed_26 rfl (lv_at hl 1 rfl) ?_
  cases hf
  exact hret _ _ dX2_catNamed_27
set_option maxRecDepth 10000 in
theorem kX2_catNamed_23 {r : Int32} {t : Nat} {K2 : CS → Int32 → Option (Int32)} {M : CS} {x2 : Int32} {s0 : Int32} (X : gX p s m args c cX2_catNamed 3 RX2 (kR kTab kA)) (hret : gRetR p l e (rmL 6 0 0) s m args below meth c cX2_catNamed Q r) (hkt : kc t = 11) (hK2 : ∀ (M : CS) (x2 : Int32) (ls : Array Slot), K2 M x2 = some r → (cP dC dI cg kA ca) M s s.heap → lv_has ls 3 [(0, .ref (ca t)), (1, .ref (ca 1)), (2, .int x2)] → W p l e (rmL 6 0 0) s m args below meth c s.heap [] 0 0 Q (F0 m 2 ls [])) (hf : fX2_catNamed_23 t K2 M x2 s0 = some r) {ls : Array Slot} (hP : (cP dC dI cg kA ca) M s s.heap) (hl : lv_has ls 3 [(0, .ref (ca t)), (1, .ref (ca 1)), (2, .int x2)]) : W p l e (rmL 6 0 0) s m args below meth c s.heap [] 0 0 Q (F0 m 23 ls [.int s0]) := by
  have hx := X.hx
  have hb := X.hb
  have hown := X.hown
  have hts := X.hts
  rw [fX2_catNamed_23] at hf
  refine lv_if_eq (tgt := 28) hx hb dX2_catNamed_23 (by decide) (fun c1 => ?_) (fun c1 => ?_)
  · exact kX2_catNamed_28 X hret hkt hK2 (ifp c1 hf) hP (lv_sub hl [0, 1, 2] rfl)
  · exact kX2_catNamed_26 X hret hkt (ifn c1 hf) hP (lv_sub hl [0, 2] rfl)
set_option maxRecDepth 10000 in
theorem kX2_catNamed_10 {r : Int32} {t : Nat} {K2 : CS → Int32 → Option (Int32)} {M : CS} {x2 : Int32} (X : gX p s m args c cX2_catNamed 3 RX2 (kR kTab kA)) (hret : gRetR p l e (rmL 6 0 0) s m args below meth c cX2_catNamed Q r) (hkt : kc t = 11) (hK2 : ∀ (M : CS) (x2 : Int32) (ls : Array Slot), K2 M x2 = some r → (cP dC dI cg kA ca) M s s.heap → lv_has ls 3 [(0, .ref (ca t)), (1, .ref (ca 1)), (2, .int x2)] → W p l e (rmL 6 0 0) s m args below meth c s.heap [] 0 0 Q (F0 m 2 ls [])) (hf : fX2_catNamed_10 t K2 M x2 = some r) {ls : Array Slot} (hP : (cP dC dI cg kA ca) M s s.heap) (hl : lv_has ls 3 [(0, .ref (ca t)), (1, .ref (ca 1)), (2, .int x2)]) : W p l e (rmL 6 0 0) s m args below meth c s.heap [] 0 0 Q (F0 m 10 ls []) := by
  have hx := X.hx
  have hb := X.hb
  have hown := X.hown
  have hts := X.hts
  rw [fX2_catNamed_10] at hf
  refine lv_aload_n hx hb dX2_catNamed_10 rfl (lv_at hl 1 rfl) ?_
  refine lv_aload_n hx hb dX2_catNamed_11 rfl (lv_at hl 0 rfl) ?_
  refine cr_get (k := 0) X hP hkt rfl cv11_0 rfl cinX2 (by decide) rfl tw313 dX2_catNamed_12 ?_
  refine lv_iload_n hx hb dX2_catNamed_15 rfl (lv_at hl 2 rfl) ?_
  obtain ⟨g1, hf⟩ := gd hf
  refine cr_aald (f := fun i => (t + 1) + 8 + i) X hP (kc_cats hkt) rfl (fun _ => rfl) rfl g1 dX2_catNamed_16 ?_
  refine cr_name X hP (kc_cat (kc_cats hkt) g1) rfl cv18_0 rfl cinX0 (by decide) rfl tw224 dX2_catNamed_17 (fun n1 hn1 => ?_)
  obtain ⟨q, hc, hf⟩ := bd hf
  refine gCallVR X rfl (vX8_isWord hc) gRX2_X8_isWord hdX8_isWord rfl ⟨by decide, by decide⟩ (gBS_blind cOK) (gBS_at cOK X hP hn1) (cr_rec hP (rfl : kc 1 = 1) rfl cw1 rfl) hl.1 (Nat.le_of_ble_eq_true rfl) ⟨Nat.zero_le _, Nat.zero_le _⟩ dX2_catNamed_20 (As := [.ref n1]) (rest := []) rfl ?_
  exact kX2_catNamed_23 X hret hkt hK2 hf hP (lv_sub hl [0, 1, 2] rfl)
set_option maxRecDepth 10000 in
theorem kX2_catNamed_2 {r : Int32} {t : Nat} (X : gX p s m args c cX2_catNamed 3 RX2 (kR kTab kA)) (hret : gRetR p l e (rmL 6 0 0) s m args below meth c cX2_catNamed Q r) (hkt : kc t = 11) : ∀ (n : Nat) (M : CS) (x2 : Int32) (ls : Array Slot), fX2_catNamed_2 t n M x2 = some r → (cP dC dI cg kA ca) M s s.heap → lv_has ls 3 [(0, .ref (ca t)), (1, .ref (ca 1)), (2, .int x2)] → W p l e (rmL 6 0 0) s m args below meth c s.heap [] 0 0 Q (F0 m 2 ls []) := by
  intro n
  induction n with
  | zero => intro M x2 ls hf; cases hf
  | succ k ih =>
    intro M x2 ls hf hP hl
    have hx := X.hx
    have hb := X.hb
    have hown := X.hown
    have hts := X.hts
    rw [fX2_catNamed_2] at hf
    try dsimp only at hf
    refine lv_iload_n hx hb dX2_catNamed_2 rfl (lv_at hl 2 rfl) ?_
    refine lv_aload_n hx hb dX2_catNamed_3 rfl (lv_at hl 0 rfl) ?_
    refine cr_get (k := 5) X hP hkt rfl cv11_5 rfl cinX2 (by decide) rfl tw326 dX2_catNamed_4 ?_
    refine lv_icmp_ge (tgt := 34) hx hb dX2_catNamed_7 (by decide) (fun c1 => ?_) (fun c1 => ?_)
    · exact kX2_catNamed_34 X hret hkt (ifp c1 hf) hP (lv_sub hl [0] rfl)
    · exact kX2_catNamed_10 X hret hkt ih (ifn c1 hf) hP (lv_sub hl [0, 1, 2] rfl)
set_option maxRecDepth 10000 in
theorem kX2_catNamed_0 {r : Int32} {t : Nat} {M : CS} (X : gX p s m args c cX2_catNamed 3 RX2 (kR kTab kA)) (hret : gRetR p l e (rmL 6 0 0) s m args below meth c cX2_catNamed Q r) (hkt : kc t = 11) (hf : fX2_catNamed_0 t M = some r) {ls : Array Slot} (hP : (cP dC dI cg kA ca) M s s.heap) (hl : lv_has ls 3 [(0, .ref (ca t)), (1, .ref (ca 1))]) : W p l e (rmL 6 0 0) s m args below meth c s.heap [] 0 0 Q (F0 m 0 ls []) := by
  have hx := X.hx
  have hb := X.hb
  have hown := X.hown
  have hts := X.hts
  rw [fX2_catNamed_0] at hf
  refine lv_iconst (v := 0) hx hb dX2_catNamed_0 (by decide) ?_
  refine lv_istore_n (lv' := [(2, .int 0), (0, .ref (ca t)), (1, .ref (ca 1))]) hx hb dX2_catNamed_1 rfl hl (by decide) rfl (fun ls hl => ?_)
  exact kX2_catNamed_2 X hret hkt FU _ _ _ hf hP (lv_sub hl [1, 2, 0] rfl)
theorem vX2_catNamed {l : Launch} {dC : Nat → ClassId} {dI : Nat → Nat → Nat} {cg : Nat → ClassId} {kA : String → Nat → Nat} {ca : Nat → Nat} {M : CS} {r : Int32} {t : Nat} (hkt : kc t = 11) (hf : fX2_catNamed M t  = some r) : gMetR l yX2_catNamed cX2_catNamed 3 (some .int) 6 (gB (cP dC dI cg kA ca) (kR kTab kA) M) [.ref (ca t), .ref (ca 1)] r := gEntryR (ty := .int) (by decide) rfl rfl (Nat.le_of_ble_eq_true rfl) (fun _ h => h.2) (fun p e s m args below meth c Q ls X hB hret hl => 
  kX2_catNamed_0 X hret hkt hf hB.1 (lv_sub hl [0, 1] rfl))
set_option maxRecDepth 10000 in
theorem kX2_sackNamed_34 {r : Int32} {t : Nat} {M : CS} (X : gX p s m args c cX2_sackNamed 3 RX2 (kR kTab kA)) (hret : gRetR p l e (rmL 6 0 0) s m args below meth c cX2_sackNamed Q r) (hkt : kc t = 11) (hf : fX2_sackNamed_34 t M = some r) {ls : Array Slot} (hP : (cP dC dI cg kA ca) M s s.heap) (hl : lv_has ls 3 [(0, .ref (ca t))]) : W p l e (rmL 6 0 0) s m args below meth c s.heap [] 0 0 Q (F0 m 34 ls []) := by
  have hx := X.hx
  have hb := X.hb
  have hown := X.hown
  have hts := X.hts
  rw [fX2_sackNamed_34] at hf
  refine lv_iconst (v := (-1)) hx hb dX2_sackNamed_34 (by decide) ?_
  cases hf
  exact hret _ _ dX2_sackNamed_35
set_option maxRecDepth 10000 in
theorem kX2_sackNamed_28 {r : Int32} {t : Nat} {K2 : CS → Int32 → Option (Int32)} {M : CS} {x2 : Int32} (X : gX p s m args c cX2_sackNamed 3 RX2 (kR kTab kA)) (hret : gRetR p l e (rmL 6 0 0) s m args below meth c cX2_sackNamed Q r) (hkt : kc t = 11) (hK2 : ∀ (M : CS) (x2 : Int32) (ls : Array Slot), K2 M x2 = some r → (cP dC dI cg kA ca) M s s.heap → lv_has ls 3 [(0, .ref (ca t)), (1, .ref (ca 1)), (2, .int x2)] → W p l e (rmL 6 0 0) s m args below meth c s.heap [] 0 0 Q (F0 m 2 ls [])) (hf : fX2_sackNamed_28 t K2 M x2 = some r) {ls : Array Slot} (hP : (cP dC dI cg kA ca) M s s.heap) (hl : lv_has ls 3 [(0, .ref (ca t)), (1, .ref (ca 1)), (2, .int x2)]) : W p l e (rmL 6 0 0) s m args below meth c s.heap [] 0 0 Q (F0 m 28 ls []) := by
  have hx := X.hx
  have hb := X.hb
  have hown := X.hown
  have hts := X.hts
  rw [fX2_sackNamed_28] at hf
  refine lv_iinc (v := (x2 + 1)) (lv' := [(2, .int (x2 + 1)), (0, .ref (ca t)), (1, .ref (ca 1))]) hx hb dX2_sackNamed_28 hl (k := 2) rfl (by rfl) (by decide) rfl (fun ls hl => ?_)
  refine lv_goto (tgt := 2) hx hb dX2_sackNamed_31 (by decide) ?_
  exact hK2 _ _ _ hf hP (lv_sub hl [1, 2, 0] rfl)
set_option maxRecDepth 10000 in
theorem kX2_sackNamed_26 {r : Int32} {t : Nat} {M : CS} {x2 : Int32} (X : gX p s m args c cX2_sackNamed 3 RX2 (kR kTab kA)) (hret : gRetR p l e (rmL 6 0 0) s m args below meth c cX2_sackNamed Q r) (hkt : kc t = 11) (hf : fX2_sackNamed_26 t M x2 = some r) {ls : Array Slot} (hP : (cP dC dI cg kA ca) M s s.heap) (hl : lv_has ls 3 [(0, .ref (ca t)), (2, .int x2)]) : W p l e (rmL 6 0 0) s m args below meth c s.heap [] 0 0 Q (F0 m 26 ls []) := by
  have hx := X.hx
  have hb := X.hb
  have hown := X.hown
  have hts := X.hts
  rw [fX2_sackNamed_26] at hf
  refine lv_iload_n hx hb dX2_sackNamed_26 rfl (lv_at hl 1 rfl) ?_
  cases hf
  exact hret _ _ dX2_sackNamed_27
set_option maxRecDepth 10000 in
theorem kX2_sackNamed_23 {r : Int32} {t : Nat} {K2 : CS → Int32 → Option (Int32)} {M : CS} {x2 : Int32} {s0 : Int32} (X : gX p s m args c cX2_sackNamed 3 RX2 (kR kTab kA)) (hret : gRetR p l e (rmL 6 0 0) s m args below meth c cX2_sackNamed Q r) (hkt : kc t = 11) (hK2 : ∀ (M : CS) (x2 : Int32) (ls : Array Slot), K2 M x2 = some r → (cP dC dI cg kA ca) M s s.heap → lv_has ls 3 [(0, .ref (ca t)), (1, .ref (ca 1)), (2, .int x2)] → W p l e (rmL 6 0 0) s m args below meth c s.heap [] 0 0 Q (F0 m 2 ls [])) (hf : fX2_sackNamed_23 t K2 M x2 s0 = some r) {ls : Array Slot} (hP : (cP dC dI cg kA ca) M s s.heap) (hl : lv_has ls 3 [(0, .ref (ca t)), (1, .ref (ca 1)), (2, .int x2)]) : W p l e (rmL 6 0 0) s m args below meth c s.heap [] 0 0 Q (F0 m 23 ls [.int s0]) := by
  have hx := X.hx
  have hb := X.hb
  have hown := X.hown
  have hts := X.hts
  rw [fX2_sackNamed_23] at hf
  refine lv_if_eq (tgt := 28) hx hb dX2_sackNamed_23 (by decide) (fun c1 => ?_) (fun c1 => ?_)
  · exact kX2_sackNamed_28 X hret hkt hK2 (ifp c1 hf) hP (lv_sub hl [0, 1, 2] rfl)
  · exact kX2_sackNamed_26 X hret hkt (ifn c1 hf) hP (lv_sub hl [0, 2] rfl)
set_option maxRecDepth 10000 in
theorem kX2_sackNamed_10 {r : Int32} {t : Nat} {K2 : CS → Int32 → Option (Int32)} {M : CS} {x2 : Int32} (X : gX p s m args c cX2_sackNamed 3 RX2 (kR kTab kA)) (hret : gRetR p l e (rmL 6 0 0) s m args below meth c cX2_sackNamed Q r) (hkt : kc t = 11) (hK2 : ∀ (M : CS) (x2 : Int32) (ls : Array Slot), K2 M x2 = some r → (cP dC dI cg kA ca) M s s.heap → lv_has ls 3 [(0, .ref (ca t)), (1, .ref (ca 1)), (2, .int x2)] → W p l e (rmL 6 0 0) s m args below meth c s.heap [] 0 0 Q (F0 m 2 ls [])) (hf : fX2_sackNamed_10 t K2 M x2 = some r) {ls : Array Slot} (hP : (cP dC dI cg kA ca) M s s.heap) (hl : lv_has ls 3 [(0, .ref (ca t)), (1, .ref (ca 1)), (2, .int x2)]) : W p l e (rmL 6 0 0) s m args below meth c s.heap [] 0 0 Q (F0 m 10 ls []) := by
  have hx := X.hx
  have hb := X.hb
  have hown := X.hown
  have hts := X.hts
  rw [fX2_sackNamed_10] at hf
  refine lv_aload_n hx hb dX2_sackNamed_10 rfl (lv_at hl 1 rfl) ?_
  refine lv_aload_n hx hb dX2_sackNamed_11 rfl (lv_at hl 0 rfl) ?_
  refine cr_get (k := 1) X hP hkt rfl cv11_1 rfl cinX2 (by decide) rfl tw316 dX2_sackNamed_12 ?_
  refine lv_iload_n hx hb dX2_sackNamed_15 rfl (lv_at hl 2 rfl) ?_
  obtain ⟨g1, hf⟩ := gd hf
  refine cr_aald (f := fun i => (t + 2) + 15 + i) X hP (kc_sacks hkt) rfl (fun _ => rfl) rfl g1 dX2_sackNamed_16 ?_
  refine cr_name X hP (kc_sack (kc_sacks hkt) g1) rfl cv19_0 rfl cinX4 (by decide) rfl tw264 dX2_sackNamed_17 (fun n1 hn1 => ?_)
  obtain ⟨q, hc, hf⟩ := bd hf
  refine gCallVR X rfl (vX8_isWord hc) gRX2_X8_isWord hdX8_isWord rfl ⟨by decide, by decide⟩ (gBS_blind cOK) (gBS_at cOK X hP hn1) (cr_rec hP (rfl : kc 1 = 1) rfl cw1 rfl) hl.1 (Nat.le_of_ble_eq_true rfl) ⟨Nat.zero_le _, Nat.zero_le _⟩ dX2_sackNamed_20 (As := [.ref n1]) (rest := []) rfl ?_
  exact kX2_sackNamed_23 X hret hkt hK2 hf hP (lv_sub hl [0, 1, 2] rfl)
set_option maxRecDepth 10000 in
theorem kX2_sackNamed_2 {r : Int32} {t : Nat} (X : gX p s m args c cX2_sackNamed 3 RX2 (kR kTab kA)) (hret : gRetR p l e (rmL 6 0 0) s m args below meth c cX2_sackNamed Q r) (hkt : kc t = 11) : ∀ (n : Nat) (M : CS) (x2 : Int32) (ls : Array Slot), fX2_sackNamed_2 t n M x2 = some r → (cP dC dI cg kA ca) M s s.heap → lv_has ls 3 [(0, .ref (ca t)), (1, .ref (ca 1)), (2, .int x2)] → W p l e (rmL 6 0 0) s m args below meth c s.heap [] 0 0 Q (F0 m 2 ls []) := by
  intro n
  induction n with
  | zero => intro M x2 ls hf; cases hf
  | succ k ih =>
    intro M x2 ls hf hP hl
    have hx := X.hx
    have hb := X.hb
    have hown := X.hown
    have hts := X.hts
    rw [fX2_sackNamed_2] at hf
    try dsimp only at hf
    refine lv_iload_n hx hb dX2_sackNamed_2 rfl (lv_at hl 2 rfl) ?_
    refine lv_aload_n hx hb dX2_sackNamed_3 rfl (lv_at hl 0 rfl) ?_
    refine cr_get (k := 6) X hP hkt rfl cv11_6 rfl cinX2 (by decide) rfl tw329 dX2_sackNamed_4 ?_
    refine lv_icmp_ge (tgt := 34) hx hb dX2_sackNamed_7 (by decide) (fun c1 => ?_) (fun c1 => ?_)
    · exact kX2_sackNamed_34 X hret hkt (ifp c1 hf) hP (lv_sub hl [0] rfl)
    · exact kX2_sackNamed_10 X hret hkt ih (ifn c1 hf) hP (lv_sub hl [0, 1, 2] rfl)
set_option maxRecDepth 10000 in
theorem kX2_sackNamed_0 {r : Int32} {t : Nat} {M : CS} (X : gX p s m args c cX2_sackNamed 3 RX2 (kR kTab kA)) (hret : gRetR p l e (rmL 6 0 0) s m args below meth c cX2_sackNamed Q r) (hkt : kc t = 11) (hf : fX2_sackNamed_0 t M = some r) {ls : Array Slot} (hP : (cP dC dI cg kA ca) M s s.heap) (hl : lv_has ls 3 [(0, .ref (ca t)), (1, .ref (ca 1))]) : W p l e (rmL 6 0 0) s m args below meth c s.heap [] 0 0 Q (F0 m 0 ls []) := by
  have hx := X.hx
  have hb := X.hb
  have hown := X.hown
  have hts := X.hts
  rw [fX2_sackNamed_0] at hf
  refine lv_iconst (v := 0) hx hb dX2_sackNamed_0 (by decide) ?_
  refine lv_istore_n (lv' := [(2, .int 0), (0, .ref (ca t)), (1, .ref (ca 1))]) hx hb dX2_sackNamed_1 rfl hl (by decide) rfl (fun ls hl => ?_)
  exact kX2_sackNamed_2 X hret hkt FU _ _ _ hf hP (lv_sub hl [1, 2, 0] rfl)
theorem vX2_sackNamed {l : Launch} {dC : Nat → ClassId} {dI : Nat → Nat → Nat} {cg : Nat → ClassId} {kA : String → Nat → Nat} {ca : Nat → Nat} {M : CS} {r : Int32} {t : Nat} (hkt : kc t = 11) (hf : fX2_sackNamed M t  = some r) : gMetR l yX2_sackNamed cX2_sackNamed 3 (some .int) 6 (gB (cP dC dI cg kA ca) (kR kTab kA) M) [.ref (ca t), .ref (ca 1)] r := gEntryR (ty := .int) (by decide) rfl rfl (Nat.le_of_ble_eq_true rfl) (fun _ h => h.2) (fun p e s m args below meth c Q ls X hB hret hl => 
  kX2_sackNamed_0 X hret hkt hf hB.1 (lv_sub hl [0, 1] rfl))
set_option maxRecDepth 10000 in
theorem kX5_kindOfStatement_102 {r : Int32} {M : CS} {s0 : Int32} (X : gX p s m args c cX5_kindOfStatement 1 RX5 (kR kTab kA)) (hret : gRetR p l e (rmL 6 0 0) s m args below meth c cX5_kindOfStatement Q r) (hf : fX5_kindOfStatement_102 M s0 = some r) {ls : Array Slot} (hP : (cP dC dI cg kA ca) M s s.heap) (hl : lv_has ls 1 [(0, .ref (ca 8))]) : W p l e (rmL 6 0 0) s m args below meth c s.heap [] 0 0 Q (F0 m 102 ls [.int s0]) := by
  have hx := X.hx
  have hb := X.hb
  have hown := X.hown
  have hts := X.hts
  rw [fX5_kindOfStatement_102] at hf
  cases hf
  exact hret _ _ dX5_kindOfStatement_102
set_option maxRecDepth 10000 in
theorem kX5_kindOfStatement_101 {r : Int32} {M : CS} (X : gX p s m args c cX5_kindOfStatement 1 RX5 (kR kTab kA)) (hret : gRetR p l e (rmL 6 0 0) s m args below meth c cX5_kindOfStatement Q r) (hf : fX5_kindOfStatement_101 M = some r) {ls : Array Slot} (hP : (cP dC dI cg kA ca) M s s.heap) (hl : lv_has ls 1 [(0, .ref (ca 8))]) : W p l e (rmL 6 0 0) s m args below meth c s.heap [] 0 0 Q (F0 m 101 ls []) := by
  have hx := X.hx
  have hb := X.hb
  have hown := X.hown
  have hts := X.hts
  rw [fX5_kindOfStatement_101] at hf
  refine lv_iconst (v := (-1)) hx hb dX5_kindOfStatement_101 (by decide) ?_
  exact kX5_kindOfStatement_102 X hret hf hP (lv_sub hl [0] rfl)
set_option maxRecDepth 10000 in
theorem kX5_kindOfStatement_96 {r : Int32} {M : CS} (X : gX p s m args c cX5_kindOfStatement 1 RX5 (kR kTab kA)) (hret : gRetR p l e (rmL 6 0 0) s m args below meth c cX5_kindOfStatement Q r) (hf : fX5_kindOfStatement_96 M = some r) {ls : Array Slot} (hP : (cP dC dI cg kA ca) M s s.heap) (hl : lv_has ls 1 [(0, .ref (ca 8))]) : W p l e (rmL 6 0 0) s m args below meth c s.heap [] 0 0 Q (F0 m 96 ls []) := by
  have hx := X.hx
  have hb := X.hb
  have hown := X.hown
  have hts := X.hts
  rw [fX5_kindOfStatement_96] at hf
  refine lv_bipush (v := 6) hx hb dX5_kindOfStatement_96 (by decide) ?_
  refine lv_goto (tgt := 102) hx hb dX5_kindOfStatement_98 (by decide) ?_
  exact kX5_kindOfStatement_102 X hret hf hP (lv_sub hl [0] rfl)
set_option maxRecDepth 10000 in
theorem kX5_kindOfStatement_93 {r : Int32} {M : CS} {s0 : Int32} (X : gX p s m args c cX5_kindOfStatement 1 RX5 (kR kTab kA)) (hret : gRetR p l e (rmL 6 0 0) s m args below meth c cX5_kindOfStatement Q r) (hf : fX5_kindOfStatement_93 M s0 = some r) {ls : Array Slot} (hP : (cP dC dI cg kA ca) M s s.heap) (hl : lv_has ls 1 [(0, .ref (ca 8))]) : W p l e (rmL 6 0 0) s m args below meth c s.heap [] 0 0 Q (F0 m 93 ls [.int s0]) := by
  have hx := X.hx
  have hb := X.hb
  have hown := X.hown
  have hts := X.hts
  rw [fX5_kindOfStatement_93] at hf
  refine lv_if_eq (tgt := 101) hx hb dX5_kindOfStatement_93 (by decide) (fun c1 => ?_) (fun c1 => ?_)
  · exact kX5_kindOfStatement_101 X hret (ifp c1 hf) hP (lv_sub hl [0] rfl)
  · exact kX5_kindOfStatement_96 X hret (ifn c1 hf) hP (lv_sub hl [0] rfl)
set_option maxRecDepth 10000 in
theorem kX5_kindOfStatement_84 {r : Int32} {M : CS} (X : gX p s m args c cX5_kindOfStatement 1 RX5 (kR kTab kA)) (hret : gRetR p l e (rmL 6 0 0) s m args below meth c cX5_kindOfStatement Q r) (hf : fX5_kindOfStatement_84 M = some r) {ls : Array Slot} (hP : (cP dC dI cg kA ca) M s s.heap) (hl : lv_has ls 1 [(0, .ref (ca 8))]) : W p l e (rmL 6 0 0) s m args below meth c s.heap [] 0 0 Q (F0 m 84 ls []) := by
  have hx := X.hx
  have hb := X.hb
  have hown := X.hown
  have hts := X.hts
  rw [fX5_kindOfStatement_84] at hf
  refine lv_aload_n hx hb dX5_kindOfStatement_84 rfl (lv_at hl 0 rfl) ?_
  refine cr_get (k := 0) X hP (rfl : kc 8 = 8) rfl cv8_0 rfl cinX5 (by decide) rfl tw394 dX5_kindOfStatement_85 ?_
  refine va_ldcS hx hb hown (kRat (q := ("GranaryWatch$Script", 72, "milk", [109, 105, 108, 107])) X.ks 16 rfl) dX5_kindOfStatement_88 ?_
  obtain ⟨q, hc, hf⟩ := bd hf
  refine gCallVR X rfl (vX8_isWord hc) gRX5_X8_isWord hdX8_isWord rfl ⟨by decide, by decide⟩ (gBS_blind cOK) (gBS_at cOK X hP (cstr (q := ("GranaryWatch$Script", 72, "milk", [109, 105, 108, 107])) hP 16 rfl)) (cr_rec hP (rfl : kc 1 = 1) rfl cw1 rfl) hl.1 (Nat.le_of_ble_eq_true rfl) ⟨Nat.zero_le _, Nat.zero_le _⟩ dX5_kindOfStatement_90 (As := [.ref (kA RX5 72)]) (rest := []) rfl ?_
  exact kX5_kindOfStatement_93 X hret hf hP (lv_sub hl [0] rfl)
set_option maxRecDepth 10000 in
theorem kX5_kindOfStatement_82 {r : Int32} {M : CS} (X : gX p s m args c cX5_kindOfStatement 1 RX5 (kR kTab kA)) (hret : gRetR p l e (rmL 6 0 0) s m args below meth c cX5_kindOfStatement Q r) (hf : fX5_kindOfStatement_82 M = some r) {ls : Array Slot} (hP : (cP dC dI cg kA ca) M s s.heap) (hl : lv_has ls 1 [(0, .ref (ca 8))]) : W p l e (rmL 6 0 0) s m args below meth c s.heap [] 0 0 Q (F0 m 82 ls []) := by
  have hx := X.hx
  have hb := X.hb
  have hown := X.hown
  have hts := X.hts
  rw [fX5_kindOfStatement_82] at hf
  refine lv_iconst (v := 5) hx hb dX5_kindOfStatement_82 (by decide) ?_
  cases hf
  exact hret _ _ dX5_kindOfStatement_83
set_option maxRecDepth 10000 in
theorem kX5_kindOfStatement_79 {r : Int32} {M : CS} {s0 : Int32} (X : gX p s m args c cX5_kindOfStatement 1 RX5 (kR kTab kA)) (hret : gRetR p l e (rmL 6 0 0) s m args below meth c cX5_kindOfStatement Q r) (hf : fX5_kindOfStatement_79 M s0 = some r) {ls : Array Slot} (hP : (cP dC dI cg kA ca) M s s.heap) (hl : lv_has ls 1 [(0, .ref (ca 8))]) : W p l e (rmL 6 0 0) s m args below meth c s.heap [] 0 0 Q (F0 m 79 ls [.int s0]) := by
  have hx := X.hx
  have hb := X.hb
  have hown := X.hown
  have hts := X.hts
  rw [fX5_kindOfStatement_79] at hf
  refine lv_if_eq (tgt := 84) hx hb dX5_kindOfStatement_79 (by decide) (fun c1 => ?_) (fun c1 => ?_)
  · exact kX5_kindOfStatement_84 X hret (ifp c1 hf) hP (lv_sub hl [0] rfl)
  · exact kX5_kindOfStatement_82 X hret (ifn c1 hf) hP (lv_sub hl [0] rfl)
set_option maxRecDepth 10000 in
theorem kX5_kindOfStatement_70 {r : Int32} {M : CS} (X : gX p s m args c cX5_kindOfStatement 1 RX5 (kR kTab kA)) (hret : gRetR p l e (rmL 6 0 0) s m args below meth c cX5_kindOfStatement Q r) (hf : fX5_kindOfStatement_70 M = some r) {ls : Array Slot} (hP : (cP dC dI cg kA ca) M s s.heap) (hl : lv_has ls 1 [(0, .ref (ca 8))]) : W p l e (rmL 6 0 0) s m args below meth c s.heap [] 0 0 Q (F0 m 70 ls []) := by
  have hx := X.hx
  have hb := X.hb
  have hown := X.hown
  have hts := X.hts
  rw [fX5_kindOfStatement_70] at hf
  refine lv_aload_n hx hb dX5_kindOfStatement_70 rfl (lv_at hl 0 rfl) ?_
  refine cr_get (k := 0) X hP (rfl : kc 8 = 8) rfl cv8_0 rfl cinX5 (by decide) rfl tw394 dX5_kindOfStatement_71 ?_
  refine va_ldcS hx hb hown (kRat (q := ("GranaryWatch$Script", 70, "dismiss", [100, 105, 115, 109, 105, 115, 115])) X.ks 15 rfl) dX5_kindOfStatement_74 ?_
  obtain ⟨q, hc, hf⟩ := bd hf
  refine gCallVR X rfl (vX8_isWord hc) gRX5_X8_isWord hdX8_isWord rfl ⟨by decide, by decide⟩ (gBS_blind cOK) (gBS_at cOK X hP (cstr (q := ("GranaryWatch$Script", 70, "dismiss", [100, 105, 115, 109, 105, 115, 115])) hP 15 rfl)) (cr_rec hP (rfl : kc 1 = 1) rfl cw1 rfl) hl.1 (Nat.le_of_ble_eq_true rfl) ⟨Nat.zero_le _, Nat.zero_le _⟩ dX5_kindOfStatement_76 (As := [.ref (kA RX5 70)]) (rest := []) rfl ?_
  exact kX5_kindOfStatement_79 X hret hf hP (lv_sub hl [0] rfl)
set_option maxRecDepth 10000 in
theorem kX5_kindOfStatement_68 {r : Int32} {M : CS} (X : gX p s m args c cX5_kindOfStatement 1 RX5 (kR kTab kA)) (hret : gRetR p l e (rmL 6 0 0) s m args below meth c cX5_kindOfStatement Q r) (hf : fX5_kindOfStatement_68 M = some r) {ls : Array Slot} (hP : (cP dC dI cg kA ca) M s s.heap) (hl : lv_has ls 1 [(0, .ref (ca 8))]) : W p l e (rmL 6 0 0) s m args below meth c s.heap [] 0 0 Q (F0 m 68 ls []) := by
  have hx := X.hx
  have hb := X.hb
  have hown := X.hown
  have hts := X.hts
  rw [fX5_kindOfStatement_68] at hf
  refine lv_iconst (v := 4) hx hb dX5_kindOfStatement_68 (by decide) ?_
  cases hf
  exact hret _ _ dX5_kindOfStatement_69
set_option maxRecDepth 10000 in
theorem kX5_kindOfStatement_65 {r : Int32} {M : CS} {s0 : Int32} (X : gX p s m args c cX5_kindOfStatement 1 RX5 (kR kTab kA)) (hret : gRetR p l e (rmL 6 0 0) s m args below meth c cX5_kindOfStatement Q r) (hf : fX5_kindOfStatement_65 M s0 = some r) {ls : Array Slot} (hP : (cP dC dI cg kA ca) M s s.heap) (hl : lv_has ls 1 [(0, .ref (ca 8))]) : W p l e (rmL 6 0 0) s m args below meth c s.heap [] 0 0 Q (F0 m 65 ls [.int s0]) := by
  have hx := X.hx
  have hb := X.hb
  have hown := X.hown
  have hts := X.hts
  rw [fX5_kindOfStatement_65] at hf
  refine lv_if_eq (tgt := 70) hx hb dX5_kindOfStatement_65 (by decide) (fun c1 => ?_) (fun c1 => ?_)
  · exact kX5_kindOfStatement_70 X hret (ifp c1 hf) hP (lv_sub hl [0] rfl)
  · exact kX5_kindOfStatement_68 X hret (ifn c1 hf) hP (lv_sub hl [0] rfl)
set_option maxRecDepth 10000 in
theorem kX5_kindOfStatement_56 {r : Int32} {M : CS} (X : gX p s m args c cX5_kindOfStatement 1 RX5 (kR kTab kA)) (hret : gRetR p l e (rmL 6 0 0) s m args below meth c cX5_kindOfStatement Q r) (hf : fX5_kindOfStatement_56 M = some r) {ls : Array Slot} (hP : (cP dC dI cg kA ca) M s s.heap) (hl : lv_has ls 1 [(0, .ref (ca 8))]) : W p l e (rmL 6 0 0) s m args below meth c s.heap [] 0 0 Q (F0 m 56 ls []) := by
  have hx := X.hx
  have hb := X.hb
  have hown := X.hown
  have hts := X.hts
  rw [fX5_kindOfStatement_56] at hf
  refine lv_aload_n hx hb dX5_kindOfStatement_56 rfl (lv_at hl 0 rfl) ?_
  refine cr_get (k := 0) X hP (rfl : kc 8 = 8) rfl cv8_0 rfl cinX5 (by decide) rfl tw394 dX5_kindOfStatement_57 ?_
  refine va_ldcS hx hb hown (kRat (q := ("GranaryWatch$Script", 68, "grain", [103, 114, 97, 105, 110])) X.ks 14 rfl) dX5_kindOfStatement_60 ?_
  obtain ⟨q, hc, hf⟩ := bd hf
  refine gCallVR X rfl (vX8_isWord hc) gRX5_X8_isWord hdX8_isWord rfl ⟨by decide, by decide⟩ (gBS_blind cOK) (gBS_at cOK X hP (cstr (q := ("GranaryWatch$Script", 68, "grain", [103, 114, 97, 105, 110])) hP 14 rfl)) (cr_rec hP (rfl : kc 1 = 1) rfl cw1 rfl) hl.1 (Nat.le_of_ble_eq_true rfl) ⟨Nat.zero_le _, Nat.zero_le _⟩ dX5_kindOfStatement_62 (As := [.ref (kA RX5 68)]) (rest := []) rfl ?_
  exact kX5_kindOfStatement_65 X hret hf hP (lv_sub hl [0] rfl)
set_option maxRecDepth 10000 in
theorem kX5_kindOfStatement_54 {r : Int32} {M : CS} (X : gX p s m args c cX5_kindOfStatement 1 RX5 (kR kTab kA)) (hret : gRetR p l e (rmL 6 0 0) s m args below meth c cX5_kindOfStatement Q r) (hf : fX5_kindOfStatement_54 M = some r) {ls : Array Slot} (hP : (cP dC dI cg kA ca) M s s.heap) (hl : lv_has ls 1 [(0, .ref (ca 8))]) : W p l e (rmL 6 0 0) s m args below meth c s.heap [] 0 0 Q (F0 m 54 ls []) := by
  have hx := X.hx
  have hb := X.hb
  have hown := X.hown
  have hts := X.hts
  rw [fX5_kindOfStatement_54] at hf
  refine lv_iconst (v := 3) hx hb dX5_kindOfStatement_54 (by decide) ?_
  cases hf
  exact hret _ _ dX5_kindOfStatement_55
set_option maxRecDepth 10000 in
theorem kX5_kindOfStatement_51 {r : Int32} {M : CS} {s0 : Int32} (X : gX p s m args c cX5_kindOfStatement 1 RX5 (kR kTab kA)) (hret : gRetR p l e (rmL 6 0 0) s m args below meth c cX5_kindOfStatement Q r) (hf : fX5_kindOfStatement_51 M s0 = some r) {ls : Array Slot} (hP : (cP dC dI cg kA ca) M s s.heap) (hl : lv_has ls 1 [(0, .ref (ca 8))]) : W p l e (rmL 6 0 0) s m args below meth c s.heap [] 0 0 Q (F0 m 51 ls [.int s0]) := by
  have hx := X.hx
  have hb := X.hb
  have hown := X.hown
  have hts := X.hts
  rw [fX5_kindOfStatement_51] at hf
  refine lv_if_eq (tgt := 56) hx hb dX5_kindOfStatement_51 (by decide) (fun c1 => ?_) (fun c1 => ?_)
  · exact kX5_kindOfStatement_56 X hret (ifp c1 hf) hP (lv_sub hl [0] rfl)
  · exact kX5_kindOfStatement_54 X hret (ifn c1 hf) hP (lv_sub hl [0] rfl)
set_option maxRecDepth 10000 in
theorem kX5_kindOfStatement_42 {r : Int32} {M : CS} (X : gX p s m args c cX5_kindOfStatement 1 RX5 (kR kTab kA)) (hret : gRetR p l e (rmL 6 0 0) s m args below meth c cX5_kindOfStatement Q r) (hf : fX5_kindOfStatement_42 M = some r) {ls : Array Slot} (hP : (cP dC dI cg kA ca) M s s.heap) (hl : lv_has ls 1 [(0, .ref (ca 8))]) : W p l e (rmL 6 0 0) s m args below meth c s.heap [] 0 0 Q (F0 m 42 ls []) := by
  have hx := X.hx
  have hb := X.hb
  have hown := X.hown
  have hts := X.hts
  rw [fX5_kindOfStatement_42] at hf
  refine lv_aload_n hx hb dX5_kindOfStatement_42 rfl (lv_at hl 0 rfl) ?_
  refine cr_get (k := 0) X hP (rfl : kc 8 = 8) rfl cv8_0 rfl cinX5 (by decide) rfl tw394 dX5_kindOfStatement_43 ?_
  refine va_ldcS hx hb hown (kRat (q := ("GranaryWatch$Script", 66, "mice", [109, 105, 99, 101])) X.ks 13 rfl) dX5_kindOfStatement_46 ?_
  obtain ⟨q, hc, hf⟩ := bd hf
  refine gCallVR X rfl (vX8_isWord hc) gRX5_X8_isWord hdX8_isWord rfl ⟨by decide, by decide⟩ (gBS_blind cOK) (gBS_at cOK X hP (cstr (q := ("GranaryWatch$Script", 66, "mice", [109, 105, 99, 101])) hP 13 rfl)) (cr_rec hP (rfl : kc 1 = 1) rfl cw1 rfl) hl.1 (Nat.le_of_ble_eq_true rfl) ⟨Nat.zero_le _, Nat.zero_le _⟩ dX5_kindOfStatement_48 (As := [.ref (kA RX5 66)]) (rest := []) rfl ?_
  exact kX5_kindOfStatement_51 X hret hf hP (lv_sub hl [0] rfl)
set_option maxRecDepth 10000 in
theorem kX5_kindOfStatement_40 {r : Int32} {M : CS} (X : gX p s m args c cX5_kindOfStatement 1 RX5 (kR kTab kA)) (hret : gRetR p l e (rmL 6 0 0) s m args below meth c cX5_kindOfStatement Q r) (hf : fX5_kindOfStatement_40 M = some r) {ls : Array Slot} (hP : (cP dC dI cg kA ca) M s s.heap) (hl : lv_has ls 1 [(0, .ref (ca 8))]) : W p l e (rmL 6 0 0) s m args below meth c s.heap [] 0 0 Q (F0 m 40 ls []) := by
  have hx := X.hx
  have hb := X.hb
  have hown := X.hown
  have hts := X.hts
  rw [fX5_kindOfStatement_40] at hf
  refine lv_iconst (v := 2) hx hb dX5_kindOfStatement_40 (by decide) ?_
  cases hf
  exact hret _ _ dX5_kindOfStatement_41
set_option maxRecDepth 10000 in
theorem kX5_kindOfStatement_37 {r : Int32} {M : CS} {s0 : Int32} (X : gX p s m args c cX5_kindOfStatement 1 RX5 (kR kTab kA)) (hret : gRetR p l e (rmL 6 0 0) s m args below meth c cX5_kindOfStatement Q r) (hf : fX5_kindOfStatement_37 M s0 = some r) {ls : Array Slot} (hP : (cP dC dI cg kA ca) M s s.heap) (hl : lv_has ls 1 [(0, .ref (ca 8))]) : W p l e (rmL 6 0 0) s m args below meth c s.heap [] 0 0 Q (F0 m 37 ls [.int s0]) := by
  have hx := X.hx
  have hb := X.hb
  have hown := X.hown
  have hts := X.hts
  rw [fX5_kindOfStatement_37] at hf
  refine lv_if_eq (tgt := 42) hx hb dX5_kindOfStatement_37 (by decide) (fun c1 => ?_) (fun c1 => ?_)
  · exact kX5_kindOfStatement_42 X hret (ifp c1 hf) hP (lv_sub hl [0] rfl)
  · exact kX5_kindOfStatement_40 X hret (ifn c1 hf) hP (lv_sub hl [0] rfl)
set_option maxRecDepth 10000 in
theorem kX5_kindOfStatement_28 {r : Int32} {M : CS} (X : gX p s m args c cX5_kindOfStatement 1 RX5 (kR kTab kA)) (hret : gRetR p l e (rmL 6 0 0) s m args below meth c cX5_kindOfStatement Q r) (hf : fX5_kindOfStatement_28 M = some r) {ls : Array Slot} (hP : (cP dC dI cg kA ca) M s s.heap) (hl : lv_has ls 1 [(0, .ref (ca 8))]) : W p l e (rmL 6 0 0) s m args below meth c s.heap [] 0 0 Q (F0 m 28 ls []) := by
  have hx := X.hx
  have hb := X.hb
  have hown := X.hown
  have hts := X.hts
  rw [fX5_kindOfStatement_28] at hf
  refine lv_aload_n hx hb dX5_kindOfStatement_28 rfl (lv_at hl 0 rfl) ?_
  refine cr_get (k := 0) X hP (rfl : kc 8 = 8) rfl cv8_0 rfl cinX5 (by decide) rfl tw394 dX5_kindOfStatement_29 ?_
  refine va_ldcS hx hb hown (kRat (q := ("GranaryWatch$Script", 64, "shut", [115, 104, 117, 116])) X.ks 12 rfl) dX5_kindOfStatement_32 ?_
  obtain ⟨q, hc, hf⟩ := bd hf
  refine gCallVR X rfl (vX8_isWord hc) gRX5_X8_isWord hdX8_isWord rfl ⟨by decide, by decide⟩ (gBS_blind cOK) (gBS_at cOK X hP (cstr (q := ("GranaryWatch$Script", 64, "shut", [115, 104, 117, 116])) hP 12 rfl)) (cr_rec hP (rfl : kc 1 = 1) rfl cw1 rfl) hl.1 (Nat.le_of_ble_eq_true rfl) ⟨Nat.zero_le _, Nat.zero_le _⟩ dX5_kindOfStatement_34 (As := [.ref (kA RX5 64)]) (rest := []) rfl ?_
  exact kX5_kindOfStatement_37 X hret hf hP (lv_sub hl [0] rfl)
set_option maxRecDepth 10000 in
theorem kX5_kindOfStatement_26 {r : Int32} {M : CS} (X : gX p s m args c cX5_kindOfStatement 1 RX5 (kR kTab kA)) (hret : gRetR p l e (rmL 6 0 0) s m args below meth c cX5_kindOfStatement Q r) (hf : fX5_kindOfStatement_26 M = some r) {ls : Array Slot} (hP : (cP dC dI cg kA ca) M s s.heap) (hl : lv_has ls 1 [(0, .ref (ca 8))]) : W p l e (rmL 6 0 0) s m args below meth c s.heap [] 0 0 Q (F0 m 26 ls []) := by
  have hx := X.hx
  have hb := X.hb
  have hown := X.hown
  have hts := X.hts
  rw [fX5_kindOfStatement_26] at hf
  refine lv_iconst (v := 1) hx hb dX5_kindOfStatement_26 (by decide) ?_
  cases hf
  exact hret _ _ dX5_kindOfStatement_27
set_option maxRecDepth 10000 in
theorem kX5_kindOfStatement_23 {r : Int32} {M : CS} {s0 : Int32} (X : gX p s m args c cX5_kindOfStatement 1 RX5 (kR kTab kA)) (hret : gRetR p l e (rmL 6 0 0) s m args below meth c cX5_kindOfStatement Q r) (hf : fX5_kindOfStatement_23 M s0 = some r) {ls : Array Slot} (hP : (cP dC dI cg kA ca) M s s.heap) (hl : lv_has ls 1 [(0, .ref (ca 8))]) : W p l e (rmL 6 0 0) s m args below meth c s.heap [] 0 0 Q (F0 m 23 ls [.int s0]) := by
  have hx := X.hx
  have hb := X.hb
  have hown := X.hown
  have hts := X.hts
  rw [fX5_kindOfStatement_23] at hf
  refine lv_if_eq (tgt := 28) hx hb dX5_kindOfStatement_23 (by decide) (fun c1 => ?_) (fun c1 => ?_)
  · exact kX5_kindOfStatement_28 X hret (ifp c1 hf) hP (lv_sub hl [0] rfl)
  · exact kX5_kindOfStatement_26 X hret (ifn c1 hf) hP (lv_sub hl [0] rfl)
set_option maxRecDepth 10000 in
theorem kX5_kindOfStatement_14 {r : Int32} {M : CS} (X : gX p s m args c cX5_kindOfStatement 1 RX5 (kR kTab kA)) (hret : gRetR p l e (rmL 6 0 0) s m args below meth c cX5_kindOfStatement Q r) (hf : fX5_kindOfStatement_14 M = some r) {ls : Array Slot} (hP : (cP dC dI cg kA ca) M s s.heap) (hl : lv_has ls 1 [(0, .ref (ca 8))]) : W p l e (rmL 6 0 0) s m args below meth c s.heap [] 0 0 Q (F0 m 14 ls []) := by
  have hx := X.hx
  have hb := X.hb
  have hown := X.hown
  have hts := X.hts
  rw [fX5_kindOfStatement_14] at hf
  refine lv_aload_n hx hb dX5_kindOfStatement_14 rfl (lv_at hl 0 rfl) ?_
  refine cr_get (k := 0) X hP (rfl : kc 8 = 8) rfl cv8_0 rfl cinX5 (by decide) rfl tw394 dX5_kindOfStatement_15 ?_
  refine va_ldcS hx hb hown (kRat (q := ("GranaryWatch$Script", 62, "open", [111, 112, 101, 110])) X.ks 11 rfl) dX5_kindOfStatement_18 ?_
  obtain ⟨q, hc, hf⟩ := bd hf
  refine gCallVR X rfl (vX8_isWord hc) gRX5_X8_isWord hdX8_isWord rfl ⟨by decide, by decide⟩ (gBS_blind cOK) (gBS_at cOK X hP (cstr (q := ("GranaryWatch$Script", 62, "open", [111, 112, 101, 110])) hP 11 rfl)) (cr_rec hP (rfl : kc 1 = 1) rfl cw1 rfl) hl.1 (Nat.le_of_ble_eq_true rfl) ⟨Nat.zero_le _, Nat.zero_le _⟩ dX5_kindOfStatement_20 (As := [.ref (kA RX5 62)]) (rest := []) rfl ?_
  exact kX5_kindOfStatement_23 X hret hf hP (lv_sub hl [0] rfl)
set_option maxRecDepth 10000 in
theorem kX5_kindOfStatement_12 {r : Int32} {M : CS} (X : gX p s m args c cX5_kindOfStatement 1 RX5 (kR kTab kA)) (hret : gRetR p l e (rmL 6 0 0) s m args below meth c cX5_kindOfStatement Q r) (hf : fX5_kindOfStatement_12 M = some r) {ls : Array Slot} (hP : (cP dC dI cg kA ca) M s s.heap) (hl : lv_has ls 1 [(0, .ref (ca 8))]) : W p l e (rmL 6 0 0) s m args below meth c s.heap [] 0 0 Q (F0 m 12 ls []) := by
  have hx := X.hx
  have hb := X.hb
  have hown := X.hown
  have hts := X.hts
  rw [fX5_kindOfStatement_12] at hf
  refine lv_iconst (v := 0) hx hb dX5_kindOfStatement_12 (by decide) ?_
  cases hf
  exact hret _ _ dX5_kindOfStatement_13
set_option maxRecDepth 10000 in
theorem kX5_kindOfStatement_9 {r : Int32} {M : CS} {s0 : Int32} (X : gX p s m args c cX5_kindOfStatement 1 RX5 (kR kTab kA)) (hret : gRetR p l e (rmL 6 0 0) s m args below meth c cX5_kindOfStatement Q r) (hf : fX5_kindOfStatement_9 M s0 = some r) {ls : Array Slot} (hP : (cP dC dI cg kA ca) M s s.heap) (hl : lv_has ls 1 [(0, .ref (ca 8))]) : W p l e (rmL 6 0 0) s m args below meth c s.heap [] 0 0 Q (F0 m 9 ls [.int s0]) := by
  have hx := X.hx
  have hb := X.hb
  have hown := X.hown
  have hts := X.hts
  rw [fX5_kindOfStatement_9] at hf
  refine lv_if_eq (tgt := 14) hx hb dX5_kindOfStatement_9 (by decide) (fun c1 => ?_) (fun c1 => ?_)
  · exact kX5_kindOfStatement_14 X hret (ifp c1 hf) hP (lv_sub hl [0] rfl)
  · exact kX5_kindOfStatement_12 X hret (ifn c1 hf) hP (lv_sub hl [0] rfl)
set_option maxRecDepth 10000 in
theorem kX5_kindOfStatement_0 {r : Int32} {M : CS} (X : gX p s m args c cX5_kindOfStatement 1 RX5 (kR kTab kA)) (hret : gRetR p l e (rmL 6 0 0) s m args below meth c cX5_kindOfStatement Q r) (hf : fX5_kindOfStatement_0 M = some r) {ls : Array Slot} (hP : (cP dC dI cg kA ca) M s s.heap) (hl : lv_has ls 1 [(0, .ref (ca 8))]) : W p l e (rmL 6 0 0) s m args below meth c s.heap [] 0 0 Q (F0 m 0 ls []) := by
  have hx := X.hx
  have hb := X.hb
  have hown := X.hown
  have hts := X.hts
  rw [fX5_kindOfStatement_0] at hf
  refine lv_aload_n hx hb dX5_kindOfStatement_0 rfl (lv_at hl 0 rfl) ?_
  refine cr_get (k := 0) X hP (rfl : kc 8 = 8) rfl cv8_0 rfl cinX5 (by decide) rfl tw394 dX5_kindOfStatement_1 ?_
  refine va_ldcS hx hb hown (kRat (q := ("GranaryWatch$Script", 56, "wait", [119, 97, 105, 116])) X.ks 10 rfl) dX5_kindOfStatement_4 ?_
  obtain ⟨q, hc, hf⟩ := bd hf
  refine gCallVR X rfl (vX8_isWord hc) gRX5_X8_isWord hdX8_isWord rfl ⟨by decide, by decide⟩ (gBS_blind cOK) (gBS_at cOK X hP (cstr (q := ("GranaryWatch$Script", 56, "wait", [119, 97, 105, 116])) hP 10 rfl)) (cr_rec hP (rfl : kc 1 = 1) rfl cw1 rfl) hl.1 (Nat.le_of_ble_eq_true rfl) ⟨Nat.zero_le _, Nat.zero_le _⟩ dX5_kindOfStatement_6 (As := [.ref (kA RX5 56)]) (rest := []) rfl ?_
  exact kX5_kindOfStatement_9 X hret hf hP (lv_sub hl [0] rfl)
theorem vX5_kindOfStatement {l : Launch} {dC : Nat → ClassId} {dI : Nat → Nat → Nat} {cg : Nat → ClassId} {kA : String → Nat → Nat} {ca : Nat → Nat} {M : CS} {r : Int32} (hf : fX5_kindOfStatement M  = some r) : gMetR l yX5_kindOfStatement cX5_kindOfStatement 1 (some .int) 6 (gB (cP dC dI cg kA ca) (kR kTab kA) M) [.ref (ca 8)] r := gEntryR (ty := .int) (by decide) rfl rfl (Nat.le_of_ble_eq_true rfl) (fun _ h => h.2) (fun p e s m args below meth c Q ls X hB hret hl => 
  kX5_kindOfStatement_0 X hret hf hB.1 (lv_sub hl [0] rfl))
set_option maxRecDepth 10000 in
theorem kX8_takeEither_34 {r : Int32} {S1 : CS} {a1 : List Int32} {a2 : List Int32} {M : CS} {s0 : Int32} {H : Heap} {locs : List Loc} {ls : Array Slot} (X : gX p s m args c cX8_takeEither 3 RX8 (kR kTab kA)) (hret : gRetI p l e (rmL 6 0 0) s m args below meth c cX8_takeEither (cΩ ca) (cP dC dI cg kA ca) Q r S1) {wa1 : Nat} {wa2 : Nat} (hwa1 : strAt wa1 a1 (cΩ ca) s s.heap) (hwa2 : strAt wa2 a2 (cΩ ca) s s.heap) (hf : fX8_takeEither_34 a1 a2 M s0 = some (r, S1)) (hP : (cP dC dI cg kA ca) M s H) (hS : va_S (Fr (cΩ ca) s.heap.size) s.heap H locs) (hl : lv_has ls 3 [(0, .ref (ca 1))]) : W p l e (rmL 6 0 0) s m args below meth c H locs 0 0 Q (F0 m 34 ls [.int s0]) := by
  have hx := X.hx
  have hb := X.hb
  have hown := X.hown
  have hts := X.hts
  rw [fX8_takeEither_34] at hf
  cases hf
  exact hret _ _ _ _ dX8_takeEither_34 hP hS
set_option maxRecDepth 10000 in
theorem kX8_takeEither_29 {r : Int32} {S1 : CS} {a1 : List Int32} {a2 : List Int32} {M : CS} {H : Heap} {locs : List Loc} {ls : Array Slot} (X : gX p s m args c cX8_takeEither 3 RX8 (kR kTab kA)) (hret : gRetI p l e (rmL 6 0 0) s m args below meth c cX8_takeEither (cΩ ca) (cP dC dI cg kA ca) Q r S1) {wa1 : Nat} {wa2 : Nat} (hwa1 : strAt wa1 a1 (cΩ ca) s s.heap) (hwa2 : strAt wa2 a2 (cΩ ca) s s.heap) (hf : fX8_takeEither_29 a1 a2 M = some (r, S1)) (hP : (cP dC dI cg kA ca) M s H) (hS : va_S (Fr (cΩ ca) s.heap.size) s.heap H locs) (hl : lv_has ls 3 [(0, .ref (ca 1))]) : W p l e (rmL 6 0 0) s m args below meth c H locs 0 0 Q (F0 m 29 ls []) := by
  have hx := X.hx
  have hb := X.hb
  have hown := X.hown
  have hts := X.hts
  rw [fX8_takeEither_29] at hf
  refine lv_iconst (v := 1) hx hb dX8_takeEither_29 (by decide) ?_
  refine lv_goto (tgt := 34) hx hb dX8_takeEither_30 (by decide) ?_
  exact kX8_takeEither_34 X hret hwa1 hwa2 hf hP hS (lv_sub hl [0] rfl)
set_option maxRecDepth 10000 in
theorem kX8_takeEither_33 {r : Int32} {S1 : CS} {a1 : List Int32} {a2 : List Int32} {M : CS} {H : Heap} {locs : List Loc} {ls : Array Slot} (X : gX p s m args c cX8_takeEither 3 RX8 (kR kTab kA)) (hret : gRetI p l e (rmL 6 0 0) s m args below meth c cX8_takeEither (cΩ ca) (cP dC dI cg kA ca) Q r S1) {wa1 : Nat} {wa2 : Nat} (hwa1 : strAt wa1 a1 (cΩ ca) s s.heap) (hwa2 : strAt wa2 a2 (cΩ ca) s s.heap) (hf : fX8_takeEither_33 a1 a2 M = some (r, S1)) (hP : (cP dC dI cg kA ca) M s H) (hS : va_S (Fr (cΩ ca) s.heap.size) s.heap H locs) (hl : lv_has ls 3 [(0, .ref (ca 1))]) : W p l e (rmL 6 0 0) s m args below meth c H locs 0 0 Q (F0 m 33 ls []) := by
  have hx := X.hx
  have hb := X.hb
  have hown := X.hown
  have hts := X.hts
  rw [fX8_takeEither_33] at hf
  refine lv_iconst (v := 0) hx hb dX8_takeEither_33 (by decide) ?_
  exact kX8_takeEither_34 X hret hwa1 hwa2 hf hP hS (lv_sub hl [0] rfl)
set_option maxRecDepth 10000 in
theorem kX8_takeEither_26 {r : Int32} {S1 : CS} {a1 : List Int32} {a2 : List Int32} {M : CS} {s0 : Int32} {H : Heap} {locs : List Loc} {ls : Array Slot} (X : gX p s m args c cX8_takeEither 3 RX8 (kR kTab kA)) (hret : gRetI p l e (rmL 6 0 0) s m args below meth c cX8_takeEither (cΩ ca) (cP dC dI cg kA ca) Q r S1) {wa1 : Nat} {wa2 : Nat} (hwa1 : strAt wa1 a1 (cΩ ca) s s.heap) (hwa2 : strAt wa2 a2 (cΩ ca) s s.heap) (hf : fX8_takeEither_26 a1 a2 M s0 = some (r, S1)) (hP : (cP dC dI cg kA ca) M s H) (hS : va_S (Fr (cΩ ca) s.heap.size) s.heap H locs) (hl : lv_has ls 3 [(0, .ref (ca 1))]) : W p l e (rmL 6 0 0) s m args below meth c H locs 0 0 Q (F0 m 26 ls [.int s0]) := by
  have hx := X.hx
  have hb := X.hb
  have hown := X.hown
  have hts := X.hts
  rw [fX8_takeEither_26] at hf
  refine lv_if_eq (tgt := 33) hx hb dX8_takeEither_26 (by decide) (fun c1 => ?_) (fun c1 => ?_)
  · exact kX8_takeEither_33 X hret hwa1 hwa2 (ifp c1 hf) hP hS (lv_sub hl [0] rfl)
  · exact kX8_takeEither_29 X hret hwa1 hwa2 (ifn c1 hf) hP hS (lv_sub hl [0] rfl)
set_option maxRecDepth 10000 in
theorem kX8_takeEither_21 {r : Int32} {S1 : CS} {a1 : List Int32} {a2 : List Int32} {M : CS} {H : Heap} {locs : List Loc} {ls : Array Slot} (X : gX p s m args c cX8_takeEither 3 RX8 (kR kTab kA)) (hret : gRetI p l e (rmL 6 0 0) s m args below meth c cX8_takeEither (cΩ ca) (cP dC dI cg kA ca) Q r S1) {wa1 : Nat} {wa2 : Nat} (hwa1 : strAt wa1 a1 (cΩ ca) s s.heap) (hwa2 : strAt wa2 a2 (cΩ ca) s s.heap) (hf : fX8_takeEither_21 a1 a2 M = some (r, S1)) (hP : (cP dC dI cg kA ca) M s H) (hS : va_S (Fr (cΩ ca) s.heap.size) s.heap H locs) (hl : lv_has ls 3 [(0, .ref (ca 1))]) : W p l e (rmL 6 0 0) s m args below meth c H locs 0 0 Q (F0 m 21 ls []) := by
  have hx := X.hx
  have hb := X.hb
  have hown := X.hown
  have hts := X.hts
  rw [fX8_takeEither_21] at hf
  refine lv_aload_n hx hb dX8_takeEither_21 rfl (lv_at hl 0 rfl) ?_
  refine lv_iconst (v := 1) hx hb dX8_takeEither_22 (by decide) ?_
  obtain ⟨q, hc, hf⟩ := bd hf
  refine gCallVI X cOK rfl (vX8_fail hc) gRX8_X8_fail hdX8_fail rfl ⟨by decide, by decide⟩ hP hS (cr_rec hP (rfl : kc 1 = 1) rfl cw1 rfl) hl.1 (Nat.le_of_ble_eq_true rfl) ⟨Nat.zero_le _, Nat.zero_le _⟩ dX8_takeEither_23 (As := [.int 1]) (rest := []) rfl (fun H locs hP hS => ?_)
  exact kX8_takeEither_26 X hret hwa1 hwa2 hf hP hS (lv_sub hl [0] rfl)
set_option maxRecDepth 10000 in
theorem kX8_takeEither_18 {r : Int32} {S1 : CS} {a1 : List Int32} {a2 : List Int32} {M : CS} {s0 : Int32} {H : Heap} {locs : List Loc} {ls : Array Slot} (X : gX p s m args c cX8_takeEither 3 RX8 (kR kTab kA)) (hret : gRetI p l e (rmL 6 0 0) s m args below meth c cX8_takeEither (cΩ ca) (cP dC dI cg kA ca) Q r S1) {wa1 : Nat} {wa2 : Nat} (hwa1 : strAt wa1 a1 (cΩ ca) s s.heap) (hwa2 : strAt wa2 a2 (cΩ ca) s s.heap) (hf : fX8_takeEither_18 a1 a2 M s0 = some (r, S1)) (hP : (cP dC dI cg kA ca) M s H) (hS : va_S (Fr (cΩ ca) s.heap.size) s.heap H locs) (hl : lv_has ls 3 [(0, .ref (ca 1))]) : W p l e (rmL 6 0 0) s m args below meth c H locs 0 0 Q (F0 m 18 ls [.int s0]) := by
  have hx := X.hx
  have hb := X.hb
  have hown := X.hown
  have hts := X.hts
  rw [fX8_takeEither_18] at hf
  refine lv_if_ne (tgt := 29) hx hb dX8_takeEither_18 (by decide) (fun c1 => ?_) (fun c1 => ?_)
  · exact kX8_takeEither_29 X hret hwa1 hwa2 (ifn c1 hf) hP hS (lv_sub hl [0] rfl)
  · exact kX8_takeEither_21 X hret hwa1 hwa2 (ifp c1 hf) hP hS (lv_sub hl [0] rfl)
set_option maxRecDepth 10000 in
theorem kX8_takeEither_13 {r : Int32} {S1 : CS} {a1 : List Int32} {a2 : List Int32} {M : CS} {H : Heap} {locs : List Loc} {ls : Array Slot} (X : gX p s m args c cX8_takeEither 3 RX8 (kR kTab kA)) (hret : gRetI p l e (rmL 6 0 0) s m args below meth c cX8_takeEither (cΩ ca) (cP dC dI cg kA ca) Q r S1) {wa1 : Nat} {wa2 : Nat} (hwa1 : strAt wa1 a1 (cΩ ca) s s.heap) (hwa2 : strAt wa2 a2 (cΩ ca) s s.heap) (hf : fX8_takeEither_13 a1 a2 M = some (r, S1)) (hP : (cP dC dI cg kA ca) M s H) (hS : va_S (Fr (cΩ ca) s.heap.size) s.heap H locs) (hl : lv_has ls 3 [(0, .ref (ca 1)), (2, .ref wa2)]) : W p l e (rmL 6 0 0) s m args below meth c H locs 0 0 Q (F0 m 13 ls []) := by
  have hx := X.hx
  have hb := X.hb
  have hown := X.hown
  have hts := X.hts
  rw [fX8_takeEither_13] at hf
  refine lv_aload_n hx hb dX8_takeEither_13 rfl (lv_at hl 0 rfl) ?_
  refine lv_aload_n hx hb dX8_takeEither_14 rfl (lv_at hl 1 rfl) ?_
  obtain ⟨q, hc, hf⟩ := bd hf
  refine gCallVR X rfl (vX8_isWord hc) gRX8_X8_isWord hdX8_isWord rfl ⟨by decide, by decide⟩ (gBS_blind cOK) (gBS_at cOK X hP ((hwa2).kept (fr_k hS))) (cr_rec hP (rfl : kc 1 = 1) rfl cw1 rfl) hl.1 (Nat.le_of_ble_eq_true rfl) ⟨Nat.zero_le _, Nat.zero_le _⟩ dX8_takeEither_15 (As := [.ref wa2]) (rest := []) rfl ?_
  exact kX8_takeEither_18 X hret hwa1 hwa2 hf hP hS (lv_sub hl [0] rfl)
set_option maxRecDepth 10000 in
theorem kX8_takeEither_10 {r : Int32} {S1 : CS} {a1 : List Int32} {a2 : List Int32} {M : CS} {s0 : Int32} {H : Heap} {locs : List Loc} {ls : Array Slot} (X : gX p s m args c cX8_takeEither 3 RX8 (kR kTab kA)) (hret : gRetI p l e (rmL 6 0 0) s m args below meth c cX8_takeEither (cΩ ca) (cP dC dI cg kA ca) Q r S1) {wa1 : Nat} {wa2 : Nat} (hwa1 : strAt wa1 a1 (cΩ ca) s s.heap) (hwa2 : strAt wa2 a2 (cΩ ca) s s.heap) (hf : fX8_takeEither_10 a1 a2 M s0 = some (r, S1)) (hP : (cP dC dI cg kA ca) M s H) (hS : va_S (Fr (cΩ ca) s.heap.size) s.heap H locs) (hl : lv_has ls 3 [(0, .ref (ca 1)), (2, .ref wa2)]) : W p l e (rmL 6 0 0) s m args below meth c H locs 0 0 Q (F0 m 10 ls [.int s0]) := by
  have hx := X.hx
  have hb := X.hb
  have hown := X.hown
  have hts := X.hts
  rw [fX8_takeEither_10] at hf
  refine lv_if_ne (tgt := 29) hx hb dX8_takeEither_10 (by decide) (fun c1 => ?_) (fun c1 => ?_)
  · exact kX8_takeEither_29 X hret hwa1 hwa2 (ifn c1 hf) hP hS (lv_sub hl [0] rfl)
  · exact kX8_takeEither_13 X hret hwa1 hwa2 (ifp c1 hf) hP hS (lv_sub hl [0, 1] rfl)
set_option maxRecDepth 10000 in
theorem kX8_takeEither_4 {r : Int32} {S1 : CS} {a1 : List Int32} {a2 : List Int32} {M : CS} {s0 : Int32} {H : Heap} {locs : List Loc} {ls : Array Slot} (X : gX p s m args c cX8_takeEither 3 RX8 (kR kTab kA)) (hret : gRetI p l e (rmL 6 0 0) s m args below meth c cX8_takeEither (cΩ ca) (cP dC dI cg kA ca) Q r S1) {wa1 : Nat} {wa2 : Nat} (hwa1 : strAt wa1 a1 (cΩ ca) s s.heap) (hwa2 : strAt wa2 a2 (cΩ ca) s s.heap) (hf : fX8_takeEither_4 a1 a2 M s0 = some (r, S1)) (hP : (cP dC dI cg kA ca) M s H) (hS : va_S (Fr (cΩ ca) s.heap.size) s.heap H locs) (hl : lv_has ls 3 [(0, .ref (ca 1)), (1, .ref wa1), (2, .ref wa2)]) : W p l e (rmL 6 0 0) s m args below meth c H locs 0 0 Q (F0 m 4 ls [.int s0]) := by
  have hx := X.hx
  have hb := X.hb
  have hown := X.hown
  have hts := X.hts
  rw [fX8_takeEither_4] at hf
  refine lv_pop hx hb dX8_takeEither_4 rfl ?_
  refine lv_aload_n hx hb dX8_takeEither_5 rfl (lv_at hl 0 rfl) ?_
  refine lv_aload_n hx hb dX8_takeEither_6 rfl (lv_at hl 1 rfl) ?_
  obtain ⟨q, hc, hf⟩ := bd hf
  refine gCallVR X rfl (vX8_isWord hc) gRX8_X8_isWord hdX8_isWord rfl ⟨by decide, by decide⟩ (gBS_blind cOK) (gBS_at cOK X hP ((hwa1).kept (fr_k hS))) (cr_rec hP (rfl : kc 1 = 1) rfl cw1 rfl) hl.1 (Nat.le_of_ble_eq_true rfl) ⟨Nat.zero_le _, Nat.zero_le _⟩ dX8_takeEither_7 (As := [.ref wa1]) (rest := []) rfl ?_
  exact kX8_takeEither_10 X hret hwa1 hwa2 hf hP hS (lv_sub hl [0, 2] rfl)
set_option maxRecDepth 10000 in
theorem kX8_takeEither_0 {r : Int32} {S1 : CS} {a1 : List Int32} {a2 : List Int32} {M : CS} {H : Heap} {locs : List Loc} {ls : Array Slot} (X : gX p s m args c cX8_takeEither 3 RX8 (kR kTab kA)) (hret : gRetI p l e (rmL 6 0 0) s m args below meth c cX8_takeEither (cΩ ca) (cP dC dI cg kA ca) Q r S1) {wa1 : Nat} {wa2 : Nat} (hwa1 : strAt wa1 a1 (cΩ ca) s s.heap) (hwa2 : strAt wa2 a2 (cΩ ca) s s.heap) (hf : fX8_takeEither_0 a1 a2 M = some (r, S1)) (hP : (cP dC dI cg kA ca) M s H) (hS : va_S (Fr (cΩ ca) s.heap.size) s.heap H locs) (hl : lv_has ls 3 [(0, .ref (ca 1)), (1, .ref wa1), (2, .ref wa2)]) : W p l e (rmL 6 0 0) s m args below meth c H locs 0 0 Q (F0 m 0 ls []) := by
  have hx := X.hx
  have hb := X.hb
  have hown := X.hown
  have hts := X.hts
  rw [fX8_takeEither_0] at hf
  refine lv_aload_n hx hb dX8_takeEither_0 rfl (lv_at hl 0 rfl) ?_
  obtain ⟨q, hc, hf⟩ := bd hf
  refine gCallVI X cOK rfl (vX8_advance hc) gRX8_X8_advance hdX8_advance rfl ⟨by decide, by decide⟩ hP hS (cr_rec hP (rfl : kc 1 = 1) rfl cw1 rfl) hl.1 (Nat.le_of_ble_eq_true rfl) ⟨Nat.zero_le _, Nat.zero_le _⟩ dX8_takeEither_1 (As := []) (rest := []) rfl (fun H locs hP hS => ?_)
  exact kX8_takeEither_4 X hret hwa1 hwa2 hf hP hS (lv_sub hl [0, 1, 2] rfl)
theorem vX8_takeEither {l : Launch} {dC : Nat → ClassId} {dI : Nat → Nat → Nat} {cg : Nat → ClassId} {kA : String → Nat → Nat} {ca : Nat → Nat} {M S1 : CS} {r : Int32} {a1 : List Int32} {a2 : List Int32} {wa1 : Nat} {wa2 : Nat} (hf : fX8_takeEither M a1 a2 = some (r, S1)) : gMetI l yX8_takeEither cX8_takeEither 3 (some .boolean) 6 (cΩ ca) (gPS (cP dC dI cg kA ca) (cΩ ca) [(wa1, a1), (wa2, a2)]) (kR kTab kA) [.ref (ca 1), .ref wa1, .ref wa2] M r S1 := gEntryI (ty := .boolean) (by decide) rfl (bz_n hf) (gPS_ok cOK) (Nat.le_of_ble_eq_true rfl) (fun p e s m args below meth c Q ls X hP hS hret hl => 
  kX8_takeEither_0 X (gPS_I hP.2 hret) (hP.2 (wa1, a1) (by simp)) (hP.2 (wa2, a2) (by simp)) (bz_f hf) hP.1 hS (lv_sub hl [0, 1, 2] rfl))
set_option maxRecDepth 10000 in
theorem kX10_catNameByte_12 {r : Int32} {M : CS} {s0 : Int32} (X : gX p s m args c cX10_catNameByte 3 RX10 (kR kTab kA)) (hret : gRetR p l e (rmL 6 0 0) s m args below meth c cX10_catNameByte Q r) (hf : fX10_catNameByte_12 M s0 = some r) {ls : Array Slot} (hP : (cP dC dI cg kA ca) M s s.heap) (hl : lv_has ls 3 [(0, .ref (ca 0))]) : W p l e (rmL 6 0 0) s m args below meth c s.heap [] 0 0 Q (F0 m 12 ls [.int s0]) := by
  have hx := X.hx
  have hb := X.hb
  have hown := X.hown
  have hts := X.hts
  rw [fX10_catNameByte_12] at hf
  cases hf
  exact hret _ _ dX10_catNameByte_12
set_option maxRecDepth 10000 in
theorem kX10_catNameByte_5 {r : Int32} {M : CS} {z0 : Nat} {x2 : Int32} (X : gX p s m args c cX10_catNameByte 3 RX10 (kR kTab kA)) (hret : gRetR p l e (rmL 6 0 0) s m args below meth c cX10_catNameByte Q r) (hkz0 : kc z0 = 18) (hf : fX10_catNameByte_5 M z0 x2 = some r) {ls : Array Slot} (hP : (cP dC dI cg kA ca) M s s.heap) (hl : lv_has ls 3 [(0, .ref (ca 0)), (2, .int x2)]) : W p l e (rmL 6 0 0) s m args below meth c s.heap [] 0 0 Q (F0 m 5 ls [.ref (ca z0)]) := by
  have hx := X.hx
  have hb := X.hb
  have hown := X.hown
  have hts := X.hts
  rw [fX10_catNameByte_5] at hf
  refine cr_name X hP hkz0 rfl cv18_0 rfl cinX0 (by decide) rfl tw223 dX10_catNameByte_5 (fun n1 hn1 => ?_)
  refine lv_iload_n hx hb dX10_catNameByte_8 rfl (lv_at hl 1 rfl) ?_
  obtain ⟨q, hc, hf⟩ := bd hf
  refine gCallSR X rfl (vX10_letterOf hc) gRX10_X10_letterOf hdX10_letterOf rfl ⟨by decide, by decide⟩ (gBS_blind cOK) (gBS_at cOK X hP hn1) hl.1 (Nat.le_of_ble_eq_true rfl) ⟨Nat.zero_le _, Nat.zero_le _⟩ dX10_catNameByte_9 (As := [.ref n1, .int x2]) (rest := []) rfl ?_
  exact kX10_catNameByte_12 X hret hf hP (lv_sub hl [0] rfl)
set_option maxRecDepth 10000 in
theorem kX10_catNameByte_0 {r : Int32} {M : CS} {a1 : Int32} {a2 : Int32} (X : gX p s m args c cX10_catNameByte 3 RX10 (kR kTab kA)) (hret : gRetR p l e (rmL 6 0 0) s m args below meth c cX10_catNameByte Q r) (hf : fX10_catNameByte_0 M a1 a2 = some r) {ls : Array Slot} (hP : (cP dC dI cg kA ca) M s s.heap) (hl : lv_has ls 3 [(0, .ref (ca 0)), (1, .int a1), (2, .int a2)]) : W p l e (rmL 6 0 0) s m args below meth c s.heap [] 0 0 Q (F0 m 0 ls []) := by
  have hx := X.hx
  have hb := X.hb
  have hown := X.hown
  have hts := X.hts
  rw [fX10_catNameByte_0] at hf
  refine lv_aload_n hx hb dX10_catNameByte_0 rfl (lv_at hl 0 rfl) ?_
  refine lv_iload_n hx hb dX10_catNameByte_1 rfl (lv_at hl 1 rfl) ?_
  obtain ⟨q, hc, hf⟩ := bd hf
  refine gCallVP X rfl (vX10_catAt hc) gRX10_X10_catAt hdX10_catAt rfl ⟨by decide, by decide⟩ (gB_blind cOK) (gB_at cOK X hP) (cr_rec hP (rfl : kc 0 = 0) rfl cw0 rfl) hl.1 (Nat.le_of_ble_eq_true rfl) ⟨Nat.zero_le _, Nat.zero_le _⟩ dX10_catNameByte_2 (As := [.int a1]) (rest := []) rfl ?_
  exact kX10_catNameByte_5 X hret (kkX10_catAt hc) hf hP (lv_sub hl [0, 2] rfl)
theorem vX10_catNameByte {l : Launch} {dC : Nat → ClassId} {dI : Nat → Nat → Nat} {cg : Nat → ClassId} {kA : String → Nat → Nat} {ca : Nat → Nat} {M : CS} {r : Int32} {a1 : Int32} {a2 : Int32} (hf : fX10_catNameByte M a1 a2 = some r) : gMetR l yX10_catNameByte cX10_catNameByte 3 (some .int) 6 (gB (cP dC dI cg kA ca) (kR kTab kA) M) [.ref (ca 0), .int a1, .int a2] r := gEntryR (ty := .int) (by decide) rfl rfl (Nat.le_of_ble_eq_true rfl) (fun _ h => h.2) (fun p e s m args below meth c Q ls X hB hret hl => 
  kX10_catNameByte_0 X hret hf hB.1 (lv_sub hl [0, 1, 2] rfl))
set_option maxRecDepth 10000 in
theorem kX10_sackNameByte_12 {r : Int32} {M : CS} {s0 : Int32} (X : gX p s m args c cX10_sackNameByte 3 RX10 (kR kTab kA)) (hret : gRetR p l e (rmL 6 0 0) s m args below meth c cX10_sackNameByte Q r) (hf : fX10_sackNameByte_12 M s0 = some r) {ls : Array Slot} (hP : (cP dC dI cg kA ca) M s s.heap) (hl : lv_has ls 3 [(0, .ref (ca 0))]) : W p l e (rmL 6 0 0) s m args below meth c s.heap [] 0 0 Q (F0 m 12 ls [.int s0]) := by
  have hx := X.hx
  have hb := X.hb
  have hown := X.hown
  have hts := X.hts
  rw [fX10_sackNameByte_12] at hf
  cases hf
  exact hret _ _ dX10_sackNameByte_12
set_option maxRecDepth 10000 in
theorem kX10_sackNameByte_5 {r : Int32} {M : CS} {z0 : Nat} {x2 : Int32} (X : gX p s m args c cX10_sackNameByte 3 RX10 (kR kTab kA)) (hret : gRetR p l e (rmL 6 0 0) s m args below meth c cX10_sackNameByte Q r) (hkz0 : kc z0 = 19) (hf : fX10_sackNameByte_5 M z0 x2 = some r) {ls : Array Slot} (hP : (cP dC dI cg kA ca) M s s.heap) (hl : lv_has ls 3 [(0, .ref (ca 0)), (2, .int x2)]) : W p l e (rmL 6 0 0) s m args below meth c s.heap [] 0 0 Q (F0 m 5 ls [.ref (ca z0)]) := by
  have hx := X.hx
  have hb := X.hb
  have hown := X.hown
  have hts := X.hts
  rw [fX10_sackNameByte_5] at hf
  refine cr_name X hP hkz0 rfl cv19_0 rfl cinX4 (by decide) rfl tw263 dX10_sackNameByte_5 (fun n1 hn1 => ?_)
  refine lv_iload_n hx hb dX10_sackNameByte_8 rfl (lv_at hl 1 rfl) ?_
  obtain ⟨q, hc, hf⟩ := bd hf
  refine gCallSR X rfl (vX10_letterOf hc) gRX10_X10_letterOf hdX10_letterOf rfl ⟨by decide, by decide⟩ (gBS_blind cOK) (gBS_at cOK X hP hn1) hl.1 (Nat.le_of_ble_eq_true rfl) ⟨Nat.zero_le _, Nat.zero_le _⟩ dX10_sackNameByte_9 (As := [.ref n1, .int x2]) (rest := []) rfl ?_
  exact kX10_sackNameByte_12 X hret hf hP (lv_sub hl [0] rfl)
set_option maxRecDepth 10000 in
theorem kX10_sackNameByte_0 {r : Int32} {M : CS} {a1 : Int32} {a2 : Int32} (X : gX p s m args c cX10_sackNameByte 3 RX10 (kR kTab kA)) (hret : gRetR p l e (rmL 6 0 0) s m args below meth c cX10_sackNameByte Q r) (hf : fX10_sackNameByte_0 M a1 a2 = some r) {ls : Array Slot} (hP : (cP dC dI cg kA ca) M s s.heap) (hl : lv_has ls 3 [(0, .ref (ca 0)), (1, .int a1), (2, .int a2)]) : W p l e (rmL 6 0 0) s m args below meth c s.heap [] 0 0 Q (F0 m 0 ls []) := by
  have hx := X.hx
  have hb := X.hb
  have hown := X.hown
  have hts := X.hts
  rw [fX10_sackNameByte_0] at hf
  refine lv_aload_n hx hb dX10_sackNameByte_0 rfl (lv_at hl 0 rfl) ?_
  refine lv_iload_n hx hb dX10_sackNameByte_1 rfl (lv_at hl 1 rfl) ?_
  obtain ⟨q, hc, hf⟩ := bd hf
  refine gCallVP X rfl (vX10_sackAt hc) gRX10_X10_sackAt hdX10_sackAt rfl ⟨by decide, by decide⟩ (gB_blind cOK) (gB_at cOK X hP) (cr_rec hP (rfl : kc 0 = 0) rfl cw0 rfl) hl.1 (Nat.le_of_ble_eq_true rfl) ⟨Nat.zero_le _, Nat.zero_le _⟩ dX10_sackNameByte_2 (As := [.int a1]) (rest := []) rfl ?_
  exact kX10_sackNameByte_5 X hret (kkX10_sackAt hc) hf hP (lv_sub hl [0, 2] rfl)
theorem vX10_sackNameByte {l : Launch} {dC : Nat → ClassId} {dI : Nat → Nat → Nat} {cg : Nat → ClassId} {kA : String → Nat → Nat} {ca : Nat → Nat} {M : CS} {r : Int32} {a1 : Int32} {a2 : Int32} (hf : fX10_sackNameByte M a1 a2 = some r) : gMetR l yX10_sackNameByte cX10_sackNameByte 3 (some .int) 6 (gB (cP dC dI cg kA ca) (kR kTab kA) M) [.ref (ca 0), .int a1, .int a2] r := gEntryR (ty := .int) (by decide) rfl rfl (Nat.le_of_ble_eq_true rfl) (fun _ h => h.2) (fun p e s m args below meth c Q ls X hB hret hl => 
  kX10_sackNameByte_0 X hret hf hB.1 (lv_sub hl [0, 1, 2] rfl))
set_option maxRecDepth 10000 in
theorem kX10_writeSacks_56 {r : Int32} {S1 : CS} {M : CS} {H : Heap} {locs : List Loc} {ls : Array Slot} (X : gX p s m args c cX10_writeSacks 2 RX10 (kR kTab kA)) (hret : gRetI p l e (rmL 6 0 0) s m args below meth c cX10_writeSacks (cΩ ca) (cP dC dI cg kA ca) Q r S1) (hf : fX10_writeSacks_56 M = some (r, S1)) (hP : (cP dC dI cg kA ca) M s H) (hS : va_S (Fr (cΩ ca) s.heap.size) s.heap H locs) (hl : lv_has ls 2 [(0, .ref (ca 0))]) : W p l e (rmL 6 0 0) s m args below meth c H locs 0 0 Q (F0 m 56 ls []) := by
  have hx := X.hx
  have hb := X.hb
  have hown := X.hown
  have hts := X.hts
  rw [fX10_writeSacks_56] at hf
  refine lv_aload_n hx hb dX10_writeSacks_56 rfl (lv_at hl 0 rfl) ?_
  refine cr_get (k := 1) X hP (rfl : kc 0 = 0) rfl cv0_1 rfl cinX10 (by decide) rfl tw956 dX10_writeSacks_57 ?_
  refine cr_get (k := 1) X hP (rfl : kc 5 = 5) rfl cv5_1 rfl cinX3 (by decide) rfl tw125 dX10_writeSacks_60 ?_
  cases hf
  exact hret _ _ _ _ dX10_writeSacks_63 hP hS
set_option maxRecDepth 10000 in
theorem kX10_writeSacks_50 {r : Int32} {S1 : CS} {K10 : CS → Int32 → Option (Int32 × CS)} {M : CS} {x1 : Int32} {H : Heap} {locs : List Loc} {ls : Array Slot} (X : gX p s m args c cX10_writeSacks 2 RX10 (kR kTab kA)) (hret : gRetI p l e (rmL 6 0 0) s m args below meth c cX10_writeSacks (cΩ ca) (cP dC dI cg kA ca) Q r S1) (hK10 : ∀ (M : CS) (x1 : Int32) (H : Heap) (locs : List Loc) (ls : Array Slot), K10 M x1 = some (r, S1) → (cP dC dI cg kA ca) M s H → va_S (Fr (cΩ ca) s.heap.size) s.heap H locs → lv_has ls 2 [(0, .ref (ca 0)), (1, .int x1)] → W p l e (rmL 6 0 0) s m args below meth c H locs 0 0 Q (F0 m 10 ls [])) (hf : fX10_writeSacks_50 K10 M x1 = some (r, S1)) (hP : (cP dC dI cg kA ca) M s H) (hS : va_S (Fr (cΩ ca) s.heap.size) s.heap H locs) (hl : lv_has ls 2 [(0, .ref (ca 0)), (1, .int x1)]) : W p l e (rmL 6 0 0) s m args below meth c H locs 0 0 Q (F0 m 50 ls []) := by
  have hx := X.hx
  have hb := X.hb
  have hown := X.hown
  have hts := X.hts
  rw [fX10_writeSacks_50] at hf
  refine lv_iinc (v := (x1 + 1)) (lv' := [(1, .int (x1 + 1)), (0, .ref (ca 0))]) hx hb dX10_writeSacks_50 hl (k := 1) rfl (by rfl) (by decide) rfl (fun ls hl => ?_)
  refine lv_goto (tgt := 10) hx hb dX10_writeSacks_53 (by decide) ?_
  exact hK10 _ _ _ _ _ hf hP hS (lv_sub hl [1, 0] rfl)
set_option maxRecDepth 10000 in
theorem kX10_writeSacks_34 {r : Int32} {S1 : CS} {K10 : CS → Int32 → Option (Int32 × CS)} {M : CS} {x1 : Int32} {H : Heap} {locs : List Loc} {ls : Array Slot} (X : gX p s m args c cX10_writeSacks 2 RX10 (kR kTab kA)) (hret : gRetI p l e (rmL 6 0 0) s m args below meth c cX10_writeSacks (cΩ ca) (cP dC dI cg kA ca) Q r S1) (hK10 : ∀ (M : CS) (x1 : Int32) (H : Heap) (locs : List Loc) (ls : Array Slot), K10 M x1 = some (r, S1) → (cP dC dI cg kA ca) M s H → va_S (Fr (cΩ ca) s.heap.size) s.heap H locs → lv_has ls 2 [(0, .ref (ca 0)), (1, .int x1)] → W p l e (rmL 6 0 0) s m args below meth c H locs 0 0 Q (F0 m 10 ls [])) (hf : fX10_writeSacks_34 K10 M x1 = some (r, S1)) (hP : (cP dC dI cg kA ca) M s H) (hS : va_S (Fr (cΩ ca) s.heap.size) s.heap H locs) (hl : lv_has ls 2 [(0, .ref (ca 0)), (1, .int x1)]) : W p l e (rmL 6 0 0) s m args below meth c H locs 0 0 Q (F0 m 34 ls []) := by
  have hx := X.hx
  have hb := X.hb
  have hown := X.hown
  have hts := X.hts
  rw [fX10_writeSacks_34] at hf
  refine lv_aload_n hx hb dX10_writeSacks_34 rfl (lv_at hl 0 rfl) ?_
  refine cr_get (k := 1) X hP (rfl : kc 0 = 0) rfl cv0_1 rfl cinX10 (by decide) rfl tw956 dX10_writeSacks_35 ?_
  refine lv_aload_n hx hb dX10_writeSacks_38 rfl (lv_at hl 0 rfl) ?_
  refine cr_get (k := 2) X hP (rfl : kc 0 = 0) rfl cv0_2 rfl cinX10 (by decide) rfl tw957 dX10_writeSacks_39 ?_
  refine cr_get (k := 1) X hP (rfl : kc 13 = 11) rfl cv11_1 rfl cinX2 (by decide) rfl tw318 dX10_writeSacks_42 ?_
  refine lv_iload_n hx hb dX10_writeSacks_45 rfl (lv_at hl 1 rfl) ?_
  obtain ⟨g1, hf⟩ := gd hf
  refine cr_aald (f := fun i => (13 + 2) + 15 + i) X hP (kc_sacks (rfl : kc 13 = 11)) rfl (fun _ => rfl) rfl g1 dX10_writeSacks_46 ?_
  obtain ⟨q, hc, hf⟩ := bd hf
  refine gCallVV X cOK rfl (vX3_putSack (kc_sack (kc_sacks (rfl : kc 13 = 11)) g1) hc) gRX10_X3_putSack hdX3_putSack rfl ⟨by decide, by decide⟩ hP hS (cr_rec hP (rfl : kc 5 = 5) rfl cw5 rfl) hl.1 (Nat.le_of_ble_eq_true rfl) ⟨Nat.zero_le _, Nat.zero_le _⟩ dX10_writeSacks_47 (As := [.ref (ca ((13 + 2) + 15 + x1.toNatClampNeg))]) (rest := []) rfl (fun H locs hP hS => ?_)
  exact kX10_writeSacks_50 X hret hK10 hf hP hS (lv_sub hl [0, 1] rfl)
set_option maxRecDepth 10000 in
theorem kX10_writeSacks_25 {r : Int32} {S1 : CS} {K10 : CS → Int32 → Option (Int32 × CS)} {M : CS} {x1 : Int32} {H : Heap} {locs : List Loc} {ls : Array Slot} (X : gX p s m args c cX10_writeSacks 2 RX10 (kR kTab kA)) (hret : gRetI p l e (rmL 6 0 0) s m args below meth c cX10_writeSacks (cΩ ca) (cP dC dI cg kA ca) Q r S1) (hK10 : ∀ (M : CS) (x1 : Int32) (H : Heap) (locs : List Loc) (ls : Array Slot), K10 M x1 = some (r, S1) → (cP dC dI cg kA ca) M s H → va_S (Fr (cΩ ca) s.heap.size) s.heap H locs → lv_has ls 2 [(0, .ref (ca 0)), (1, .int x1)] → W p l e (rmL 6 0 0) s m args below meth c H locs 0 0 Q (F0 m 10 ls [])) (hf : fX10_writeSacks_25 K10 M x1 = some (r, S1)) (hP : (cP dC dI cg kA ca) M s H) (hS : va_S (Fr (cΩ ca) s.heap.size) s.heap H locs) (hl : lv_has ls 2 [(0, .ref (ca 0)), (1, .int x1)]) : W p l e (rmL 6 0 0) s m args below meth c H locs 0 0 Q (F0 m 25 ls []) := by
  have hx := X.hx
  have hb := X.hb
  have hown := X.hown
  have hts := X.hts
  rw [fX10_writeSacks_25] at hf
  refine lv_aload_n hx hb dX10_writeSacks_25 rfl (lv_at hl 0 rfl) ?_
  refine cr_get (k := 1) X hP (rfl : kc 0 = 0) rfl cv0_1 rfl cinX10 (by decide) rfl tw956 dX10_writeSacks_26 ?_
  refine lv_bipush (v := 32) hx hb dX10_writeSacks_29 (by decide) ?_
  obtain ⟨q, hc, hf⟩ := bd hf
  refine gCallVV X cOK rfl (vX3_put hc) gRX10_X3_put hdX3_put rfl ⟨by decide, by decide⟩ hP hS (cr_rec hP (rfl : kc 5 = 5) rfl cw5 rfl) hl.1 (Nat.le_of_ble_eq_true rfl) ⟨Nat.zero_le _, Nat.zero_le _⟩ dX10_writeSacks_31 (As := [.int 32]) (rest := []) rfl (fun H locs hP hS => ?_)
  exact kX10_writeSacks_34 X hret hK10 hf hP hS (lv_sub hl [0, 1] rfl)
set_option maxRecDepth 10000 in
theorem kX10_writeSacks_21 {r : Int32} {S1 : CS} {K10 : CS → Int32 → Option (Int32 × CS)} {M : CS} {x1 : Int32} {H : Heap} {locs : List Loc} {ls : Array Slot} (X : gX p s m args c cX10_writeSacks 2 RX10 (kR kTab kA)) (hret : gRetI p l e (rmL 6 0 0) s m args below meth c cX10_writeSacks (cΩ ca) (cP dC dI cg kA ca) Q r S1) (hK10 : ∀ (M : CS) (x1 : Int32) (H : Heap) (locs : List Loc) (ls : Array Slot), K10 M x1 = some (r, S1) → (cP dC dI cg kA ca) M s H → va_S (Fr (cΩ ca) s.heap.size) s.heap H locs → lv_has ls 2 [(0, .ref (ca 0)), (1, .int x1)] → W p l e (rmL 6 0 0) s m args below meth c H locs 0 0 Q (F0 m 10 ls [])) (hf : fX10_writeSacks_21 K10 M x1 = some (r, S1)) (hP : (cP dC dI cg kA ca) M s H) (hS : va_S (Fr (cΩ ca) s.heap.size) s.heap H locs) (hl : lv_has ls 2 [(0, .ref (ca 0)), (1, .int x1)]) : W p l e (rmL 6 0 0) s m args below meth c H locs 0 0 Q (F0 m 21 ls []) := by
  have hx := X.hx
  have hb := X.hb
  have hown := X.hown
  have hts := X.hts
  rw [fX10_writeSacks_21] at hf
  refine lv_iload_n hx hb dX10_writeSacks_21 rfl (lv_at hl 1 rfl) ?_
  refine lv_if_le (tgt := 34) hx hb dX10_writeSacks_22 (by decide) (fun c1 => ?_) (fun c1 => ?_)
  · exact kX10_writeSacks_34 X hret hK10 (ifp c1 hf) hP hS (lv_sub hl [0, 1] rfl)
  · exact kX10_writeSacks_25 X hret hK10 (ifn c1 hf) hP hS (lv_sub hl [0, 1] rfl)
set_option maxRecDepth 10000 in
theorem kX10_writeSacks_10 {r : Int32} {S1 : CS} (X : gX p s m args c cX10_writeSacks 2 RX10 (kR kTab kA)) (hret : gRetI p l e (rmL 6 0 0) s m args below meth c cX10_writeSacks (cΩ ca) (cP dC dI cg kA ca) Q r S1) : ∀ (n : Nat) (M : CS) (x1 : Int32) (H : Heap) (locs : List Loc) (ls : Array Slot), fX10_writeSacks_10 n M x1 = some (r, S1) → (cP dC dI cg kA ca) M s H → va_S (Fr (cΩ ca) s.heap.size) s.heap H locs → lv_has ls 2 [(0, .ref (ca 0)), (1, .int x1)] → W p l e (rmL 6 0 0) s m args below meth c H locs 0 0 Q (F0 m 10 ls []) := by
  intro n
  induction n with
  | zero => intro M x1 H locs ls hf; cases hf
  | succ k ih =>
    intro M x1 H locs ls hf hP hS hl
    have hx := X.hx
    have hb := X.hb
    have hown := X.hown
    have hts := X.hts
    rw [fX10_writeSacks_10] at hf
    try dsimp only at hf
    refine lv_iload_n hx hb dX10_writeSacks_10 rfl (lv_at hl 1 rfl) ?_
    refine lv_aload_n hx hb dX10_writeSacks_11 rfl (lv_at hl 0 rfl) ?_
    refine cr_get (k := 2) X hP (rfl : kc 0 = 0) rfl cv0_2 rfl cinX10 (by decide) rfl tw957 dX10_writeSacks_12 ?_
    refine cr_get (k := 6) X hP (rfl : kc 13 = 11) rfl cv11_6 rfl cinX2 (by decide) rfl tw331 dX10_writeSacks_15 ?_
    refine lv_icmp_ge (tgt := 56) hx hb dX10_writeSacks_18 (by decide) (fun c1 => ?_) (fun c1 => ?_)
    · exact kX10_writeSacks_56 X hret (ifp c1 hf) hP hS (lv_sub hl [0] rfl)
    · exact kX10_writeSacks_21 X hret ih (ifn c1 hf) hP hS (lv_sub hl [0, 1] rfl)
set_option maxRecDepth 10000 in
theorem kX10_writeSacks_8 {r : Int32} {S1 : CS} {M : CS} {H : Heap} {locs : List Loc} {ls : Array Slot} (X : gX p s m args c cX10_writeSacks 2 RX10 (kR kTab kA)) (hret : gRetI p l e (rmL 6 0 0) s m args below meth c cX10_writeSacks (cΩ ca) (cP dC dI cg kA ca) Q r S1) (hf : fX10_writeSacks_8 M = some (r, S1)) (hP : (cP dC dI cg kA ca) M s H) (hS : va_S (Fr (cΩ ca) s.heap.size) s.heap H locs) (hl : lv_has ls 2 [(0, .ref (ca 0))]) : W p l e (rmL 6 0 0) s m args below meth c H locs 0 0 Q (F0 m 8 ls []) := by
  have hx := X.hx
  have hb := X.hb
  have hown := X.hown
  have hts := X.hts
  rw [fX10_writeSacks_8] at hf
  refine lv_iconst (v := 0) hx hb dX10_writeSacks_8 (by decide) ?_
  refine lv_istore_n (lv' := [(1, .int 0), (0, .ref (ca 0))]) hx hb dX10_writeSacks_9 rfl hl (by decide) rfl (fun ls hl => ?_)
  exact kX10_writeSacks_10 X hret FU _ _ _ _ _ hf hP hS (lv_sub hl [1, 0] rfl)
set_option maxRecDepth 10000 in
theorem kX10_writeSacks_0 {r : Int32} {S1 : CS} {M : CS} {H : Heap} {locs : List Loc} {ls : Array Slot} (X : gX p s m args c cX10_writeSacks 2 RX10 (kR kTab kA)) (hret : gRetI p l e (rmL 6 0 0) s m args below meth c cX10_writeSacks (cΩ ca) (cP dC dI cg kA ca) Q r S1) (hf : fX10_writeSacks_0 M = some (r, S1)) (hP : (cP dC dI cg kA ca) M s H) (hS : va_S (Fr (cΩ ca) s.heap.size) s.heap H locs) (hl : lv_has ls 2 [(0, .ref (ca 0))]) : W p l e (rmL 6 0 0) s m args below meth c H locs 0 0 Q (F0 m 0 ls []) := by
  have hx := X.hx
  have hb := X.hb
  have hown := X.hown
  have hts := X.hts
  rw [fX10_writeSacks_0] at hf
  refine lv_aload_n hx hb dX10_writeSacks_0 rfl (lv_at hl 0 rfl) ?_
  refine cr_get (k := 1) X hP (rfl : kc 0 = 0) rfl cv0_1 rfl cinX10 (by decide) rfl tw956 dX10_writeSacks_1 ?_
  refine lv_iconst (v := 0) hx hb dX10_writeSacks_4 (by decide) ?_
  refine cr_put (k := 1) X hP hS (rfl : kc 5 = 5) rfl cs5_1 rfl cinX3 tyX3_ok nmX3 (by decide) rfl rfl rfl rfl tw125 dX10_writeSacks_5 (fun H locs hP hS => ?_)
  exact kX10_writeSacks_8 X hret hf hP hS (lv_sub hl [0] rfl)
theorem vX10_writeSacks {l : Launch} {dC : Nat → ClassId} {dI : Nat → Nat → Nat} {cg : Nat → ClassId} {kA : String → Nat → Nat} {ca : Nat → Nat} {M S1 : CS} {r : Int32} (hf : fX10_writeSacks M  = some (r, S1)) : gMetI l yX10_writeSacks cX10_writeSacks 2 (some .int) 6 (cΩ ca) (cP dC dI cg kA ca) (kR kTab kA) [.ref (ca 0)] M r S1 := gEntryI (ty := .int) (by decide) rfl rfl cOK (Nat.le_of_ble_eq_true rfl) (fun p e s m args below meth c Q ls X hP hS hret hl => 
  kX10_writeSacks_0 X hret hf hP hS (lv_sub hl [0] rfl))
set_option maxRecDepth 10000 in
theorem kX10_predict_27 {S1 : CS} {M : CS} {s0 : Int32} {H : Heap} {locs : List Loc} {ls : Array Slot} (X : gX p s m args c cX10_predict 2 RX10 (kR kTab kA)) (hret : gRetV p l e (rmL 6 0 0) s m args below meth c cX10_predict (cΩ ca) (cP dC dI cg kA ca) Q S1) (hf : fX10_predict_27 M s0 = some S1) (hP : (cP dC dI cg kA ca) M s H) (hS : va_S (Fr (cΩ ca) s.heap.size) s.heap H locs) (hl : lv_has ls 2 [(0, .ref (ca 0))]) : W p l e (rmL 6 0 0) s m args below meth c H locs 0 0 Q (F0 m 27 ls [.int s0]) := by
  have hx := X.hx
  have hb := X.hb
  have hown := X.hown
  have hts := X.hts
  rw [fX10_predict_27] at hf
  refine lv_pop hx hb dX10_predict_27 rfl ?_
  cases hf
  exact hret _ _ _ _ dX10_predict_28 hP hS
set_option maxRecDepth 10000 in
theorem kX10_predict_19 {S1 : CS} {M : CS} {x1 : Int32} {H : Heap} {locs : List Loc} {ls : Array Slot} (X : gX p s m args c cX10_predict 2 RX10 (kR kTab kA)) (hret : gRetV p l e (rmL 6 0 0) s m args below meth c cX10_predict (cΩ ca) (cP dC dI cg kA ca) Q S1) (hf : fX10_predict_19 M x1 = some S1) (hP : (cP dC dI cg kA ca) M s H) (hS : va_S (Fr (cΩ ca) s.heap.size) s.heap H locs) (hl : lv_has ls 2 [(0, .ref (ca 0)), (1, .int x1)]) : W p l e (rmL 6 0 0) s m args below meth c H locs 0 0 Q (F0 m 19 ls []) := by
  have hx := X.hx
  have hb := X.hb
  have hown := X.hown
  have hts := X.hts
  rw [fX10_predict_19] at hf
  refine lv_aload_n hx hb dX10_predict_19 rfl (lv_at hl 0 rfl) ?_
  refine cr_get (k := 4) X hP (rfl : kc 0 = 0) rfl cv0_4 rfl cinX10 (by decide) rfl tw959 dX10_predict_20 ?_
  refine lv_iload_n hx hb dX10_predict_23 rfl (lv_at hl 1 rfl) ?_
  obtain ⟨q, hc, hf⟩ := bd hf
  refine gCallVI X cOK rfl (vX2_passHours (rfl : kc 83 = 11) hc) gRX10_X2_passHours hdX2_passHours rfl ⟨by decide, by decide⟩ hP hS (cr_rec hP (rfl : kc 83 = 11) rfl cw11 rfl) hl.1 (Nat.le_of_ble_eq_true rfl) ⟨Nat.zero_le _, Nat.zero_le _⟩ dX10_predict_24 (As := [.int x1]) (rest := []) rfl (fun H locs hP hS => ?_)
  exact kX10_predict_27 X hret hf hP hS (lv_sub hl [0] rfl)
set_option maxRecDepth 10000 in
theorem kX10_predict_8 {S1 : CS} {M : CS} {x1 : Int32} {H : Heap} {locs : List Loc} {ls : Array Slot} (X : gX p s m args c cX10_predict 2 RX10 (kR kTab kA)) (hret : gRetV p l e (rmL 6 0 0) s m args below meth c cX10_predict (cΩ ca) (cP dC dI cg kA ca) Q S1) (hf : fX10_predict_8 M x1 = some S1) (hP : (cP dC dI cg kA ca) M s H) (hS : va_S (Fr (cΩ ca) s.heap.size) s.heap H locs) (hl : lv_has ls 2 [(0, .ref (ca 0)), (1, .int x1)]) : W p l e (rmL 6 0 0) s m args below meth c H locs 0 0 Q (F0 m 8 ls []) := by
  have hx := X.hx
  have hb := X.hb
  have hown := X.hown
  have hts := X.hts
  rw [fX10_predict_8] at hf
  refine lv_aload_n hx hb dX10_predict_8 rfl (lv_at hl 0 rfl) ?_
  refine cr_get (k := 4) X hP (rfl : kc 0 = 0) rfl cv0_4 rfl cinX10 (by decide) rfl tw959 dX10_predict_9 ?_
  refine lv_aload_n hx hb dX10_predict_12 rfl (lv_at hl 0 rfl) ?_
  refine cr_get (k := 2) X hP (rfl : kc 0 = 0) rfl cv0_2 rfl cinX10 (by decide) rfl tw957 dX10_predict_13 ?_
  obtain ⟨q, hc, hf⟩ := bd hf
  refine gCallVV X cOK rfl (vX2_copyFrom (rfl : kc 83 = 11) (rfl : kc 13 = 11) hc) gRX10_X2_copyFrom hdX2_copyFrom rfl ⟨by decide, by decide⟩ hP hS (cr_rec hP (rfl : kc 83 = 11) rfl cw11 rfl) hl.1 (Nat.le_of_ble_eq_true rfl) ⟨Nat.zero_le _, Nat.zero_le _⟩ dX10_predict_16 (As := [.ref (ca 13)]) (rest := []) rfl (fun H locs hP hS => ?_)
  exact kX10_predict_19 X hret hf hP hS (lv_sub hl [0, 1] rfl)
set_option maxRecDepth 10000 in
theorem kX10_predict_0 {S1 : CS} {M : CS} {a1 : Int32} {H : Heap} {locs : List Loc} {ls : Array Slot} (X : gX p s m args c cX10_predict 2 RX10 (kR kTab kA)) (hret : gRetV p l e (rmL 6 0 0) s m args below meth c cX10_predict (cΩ ca) (cP dC dI cg kA ca) Q S1) (hf : fX10_predict_0 M a1 = some S1) (hP : (cP dC dI cg kA ca) M s H) (hS : va_S (Fr (cΩ ca) s.heap.size) s.heap H locs) (hl : lv_has ls 2 [(0, .ref (ca 0)), (1, .int a1)]) : W p l e (rmL 6 0 0) s m args below meth c H locs 0 0 Q (F0 m 0 ls []) := by
  have hx := X.hx
  have hb := X.hb
  have hown := X.hown
  have hts := X.hts
  rw [fX10_predict_0] at hf
  refine lv_iload_n hx hb dX10_predict_0 rfl (lv_at hl 1 rfl) ?_
  refine lv_iconst (v := 0) hx hb dX10_predict_1 (by decide) ?_
  refine lv_sipush (v := 200) hx hb dX10_predict_2 (by decide) ?_
  obtain ⟨q, hc, hf⟩ := bd hf
  refine gCallSV X cOK rfl (vX10_requireRange hc) gRX10_X10_requireRange hdX10_requireRange rfl ⟨by decide, by decide⟩ hP hS hl.1 (Nat.le_of_ble_eq_true rfl) ⟨Nat.zero_le _, Nat.zero_le _⟩ dX10_predict_5 (As := [.int a1, .int 0, .int 200]) (rest := []) rfl (fun H locs hP hS => ?_)
  exact kX10_predict_8 X hret hf hP hS (lv_sub hl [0, 1] rfl)
theorem vX10_predict {l : Launch} {dC : Nat → ClassId} {dI : Nat → Nat → Nat} {cg : Nat → ClassId} {kA : String → Nat → Nat} {ca : Nat → Nat} {M S1 : CS} {a1 : Int32} (hf : fX10_predict M a1 = some S1) : gMetV l yX10_predict cX10_predict 2 6 (cΩ ca) (cP dC dI cg kA ca) (kR kTab kA) [.ref (ca 0), .int a1] M S1 := gEntryV (by decide) cOK (Nat.le_of_ble_eq_true rfl) (fun p e s m args below meth c Q ls X hP hS hret hl => 
  kX10_predict_0 X hret hf hP hS (lv_sub hl [0, 1] rfl))
set_option maxRecDepth 10000 in
theorem kX10_grainWithFlapChanged_59 {r : Int32} {S1 : CS} {M : CS} {s0 : Int32} {H : Heap} {locs : List Loc} {ls : Array Slot} (X : gX p s m args c cX10_grainWithFlapChanged 3 RX10 (kR kTab kA)) (hret : gRetI p l e (rmL 6 0 0) s m args below meth c cX10_grainWithFlapChanged (cΩ ca) (cP dC dI cg kA ca) Q r S1) (hf : fX10_grainWithFlapChanged_59 M s0 = some (r, S1)) (hP : (cP dC dI cg kA ca) M s H) (hS : va_S (Fr (cΩ ca) s.heap.size) s.heap H locs) (hl : lv_has ls 3 [(0, .ref (ca 0))]) : W p l e (rmL 6 0 0) s m args below meth c H locs 0 0 Q (F0 m 59 ls [.int s0]) := by
  have hx := X.hx
  have hb := X.hb
  have hown := X.hown
  have hts := X.hts
  rw [fX10_grainWithFlapChanged_59] at hf
  cases hf
  exact hret _ _ _ _ dX10_grainWithFlapChanged_59 hP hS
set_option maxRecDepth 10000 in
theorem kX10_grainWithFlapChanged_51 {r : Int32} {S1 : CS} {M : CS} {s0 : Int32} {H : Heap} {locs : List Loc} {ls : Array Slot} (X : gX p s m args c cX10_grainWithFlapChanged 3 RX10 (kR kTab kA)) (hret : gRetI p l e (rmL 6 0 0) s m args below meth c cX10_grainWithFlapChanged (cΩ ca) (cP dC dI cg kA ca) Q r S1) (hf : fX10_grainWithFlapChanged_51 M s0 = some (r, S1)) (hP : (cP dC dI cg kA ca) M s H) (hS : va_S (Fr (cΩ ca) s.heap.size) s.heap H locs) (hl : lv_has ls 3 [(0, .ref (ca 0))]) : W p l e (rmL 6 0 0) s m args below meth c H locs 0 0 Q (F0 m 51 ls [.int s0]) := by
  have hx := X.hx
  have hb := X.hb
  have hown := X.hown
  have hts := X.hts
  rw [fX10_grainWithFlapChanged_51] at hf
  refine lv_pop hx hb dX10_grainWithFlapChanged_51 rfl ?_
  refine lv_aload_n hx hb dX10_grainWithFlapChanged_52 rfl (lv_at hl 0 rfl) ?_
  refine cr_get (k := 4) X hP (rfl : kc 0 = 0) rfl cv0_4 rfl cinX10 (by decide) rfl tw959 dX10_grainWithFlapChanged_53 ?_
  obtain ⟨q, hc, hf⟩ := bd hf
  refine gCallVR X rfl (vX2_grainOfAll (rfl : kc 83 = 11) hc) gRX10_X2_grainOfAll hdX2_grainOfAll rfl ⟨by decide, by decide⟩ (gB_blind cOK) (gB_at cOK X hP) (cr_rec hP (rfl : kc 83 = 11) rfl cw11 rfl) hl.1 (Nat.le_of_ble_eq_true rfl) ⟨Nat.zero_le _, Nat.zero_le _⟩ dX10_grainWithFlapChanged_56 (As := []) (rest := []) rfl ?_
  exact kX10_grainWithFlapChanged_59 X hret hf hP hS (lv_sub hl [0] rfl)
set_option maxRecDepth 10000 in
theorem kX10_grainWithFlapChanged_43 {r : Int32} {S1 : CS} {M : CS} {x2 : Int32} {H : Heap} {locs : List Loc} {ls : Array Slot} (X : gX p s m args c cX10_grainWithFlapChanged 3 RX10 (kR kTab kA)) (hret : gRetI p l e (rmL 6 0 0) s m args below meth c cX10_grainWithFlapChanged (cΩ ca) (cP dC dI cg kA ca) Q r S1) (hf : fX10_grainWithFlapChanged_43 M x2 = some (r, S1)) (hP : (cP dC dI cg kA ca) M s H) (hS : va_S (Fr (cΩ ca) s.heap.size) s.heap H locs) (hl : lv_has ls 3 [(0, .ref (ca 0)), (2, .int x2)]) : W p l e (rmL 6 0 0) s m args below meth c H locs 0 0 Q (F0 m 43 ls []) := by
  have hx := X.hx
  have hb := X.hb
  have hown := X.hown
  have hts := X.hts
  rw [fX10_grainWithFlapChanged_43] at hf
  refine lv_aload_n hx hb dX10_grainWithFlapChanged_43 rfl (lv_at hl 0 rfl) ?_
  refine cr_get (k := 4) X hP (rfl : kc 0 = 0) rfl cv0_4 rfl cinX10 (by decide) rfl tw959 dX10_grainWithFlapChanged_44 ?_
  refine lv_iload_n hx hb dX10_grainWithFlapChanged_47 rfl (lv_at hl 1 rfl) ?_
  obtain ⟨q, hc, hf⟩ := bd hf
  refine gCallVI X cOK rfl (vX2_passHours (rfl : kc 83 = 11) hc) gRX10_X2_passHours hdX2_passHours rfl ⟨by decide, by decide⟩ hP hS (cr_rec hP (rfl : kc 83 = 11) rfl cw11 rfl) hl.1 (Nat.le_of_ble_eq_true rfl) ⟨Nat.zero_le _, Nat.zero_le _⟩ dX10_grainWithFlapChanged_48 (As := [.int x2]) (rest := []) rfl (fun H locs hP hS => ?_)
  exact kX10_grainWithFlapChanged_51 X hret hf hP hS (lv_sub hl [0] rfl)
set_option maxRecDepth 10000 in
theorem kX10_grainWithFlapChanged_40 {r : Int32} {S1 : CS} {M : CS} {z1 : Nat} {x2 : Int32} {s0 : Int32} {H : Heap} {locs : List Loc} {ls : Array Slot} (X : gX p s m args c cX10_grainWithFlapChanged 3 RX10 (kR kTab kA)) (hret : gRetI p l e (rmL 6 0 0) s m args below meth c cX10_grainWithFlapChanged (cΩ ca) (cP dC dI cg kA ca) Q r S1) (hkz1 : kc z1 = 19) (hf : fX10_grainWithFlapChanged_40 M z1 x2 s0 = some (r, S1)) (hP : (cP dC dI cg kA ca) M s H) (hS : va_S (Fr (cΩ ca) s.heap.size) s.heap H locs) (hl : lv_has ls 3 [(0, .ref (ca 0)), (2, .int x2)]) : W p l e (rmL 6 0 0) s m args below meth c H locs 0 0 Q (F0 m 40 ls [.int s0, .ref (ca z1)]) := by
  have hx := X.hx
  have hb := X.hb
  have hown := X.hown
  have hts := X.hts
  rw [fX10_grainWithFlapChanged_40] at hf
  obtain ⟨g1, hf⟩ := gd hf
  refine cr_put (k := 3) X hP hS hkz1 rfl cs19_3 rfl cinX4 tyX4_ok nmX4 (by decide) rfl rfl (nz g1) (fz g1) tw279 dX10_grainWithFlapChanged_40 (fun H locs hP hS => ?_)
  exact kX10_grainWithFlapChanged_43 X hret hf hP hS (lv_sub hl [0, 1] rfl)
set_option maxRecDepth 10000 in
theorem kX10_grainWithFlapChanged_39 {r : Int32} {S1 : CS} {M : CS} {z0 : Nat} {x2 : Int32} {H : Heap} {locs : List Loc} {ls : Array Slot} (X : gX p s m args c cX10_grainWithFlapChanged 3 RX10 (kR kTab kA)) (hret : gRetI p l e (rmL 6 0 0) s m args below meth c cX10_grainWithFlapChanged (cΩ ca) (cP dC dI cg kA ca) Q r S1) (hkz0 : kc z0 = 19) (hf : fX10_grainWithFlapChanged_39 M z0 x2 = some (r, S1)) (hP : (cP dC dI cg kA ca) M s H) (hS : va_S (Fr (cΩ ca) s.heap.size) s.heap H locs) (hl : lv_has ls 3 [(0, .ref (ca 0)), (2, .int x2)]) : W p l e (rmL 6 0 0) s m args below meth c H locs 0 0 Q (F0 m 39 ls [.ref (ca z0)]) := by
  have hx := X.hx
  have hb := X.hb
  have hown := X.hown
  have hts := X.hts
  rw [fX10_grainWithFlapChanged_39] at hf
  refine lv_iconst (v := 0) hx hb dX10_grainWithFlapChanged_39 (by decide) ?_
  exact kX10_grainWithFlapChanged_40 X hret hkz0 hf hP hS (lv_sub hl [0, 1] rfl)
set_option maxRecDepth 10000 in
theorem kX10_grainWithFlapChanged_35 {r : Int32} {S1 : CS} {M : CS} {z0 : Nat} {x2 : Int32} {H : Heap} {locs : List Loc} {ls : Array Slot} (X : gX p s m args c cX10_grainWithFlapChanged 3 RX10 (kR kTab kA)) (hret : gRetI p l e (rmL 6 0 0) s m args below meth c cX10_grainWithFlapChanged (cΩ ca) (cP dC dI cg kA ca) Q r S1) (hkz0 : kc z0 = 19) (hf : fX10_grainWithFlapChanged_35 M z0 x2 = some (r, S1)) (hP : (cP dC dI cg kA ca) M s H) (hS : va_S (Fr (cΩ ca) s.heap.size) s.heap H locs) (hl : lv_has ls 3 [(0, .ref (ca 0)), (2, .int x2)]) : W p l e (rmL 6 0 0) s m args below meth c H locs 0 0 Q (F0 m 35 ls [.ref (ca z0)]) := by
  have hx := X.hx
  have hb := X.hb
  have hown := X.hown
  have hts := X.hts
  rw [fX10_grainWithFlapChanged_35] at hf
  refine lv_iconst (v := 1) hx hb dX10_grainWithFlapChanged_35 (by decide) ?_
  refine lv_goto (tgt := 40) hx hb dX10_grainWithFlapChanged_36 (by decide) ?_
  exact kX10_grainWithFlapChanged_40 X hret hkz0 hf hP hS (lv_sub hl [0, 1] rfl)
set_option maxRecDepth 10000 in
theorem kX10_grainWithFlapChanged_11 {r : Int32} {S1 : CS} {M : CS} {x1 : Int32} {x2 : Int32} {H : Heap} {locs : List Loc} {ls : Array Slot} (X : gX p s m args c cX10_grainWithFlapChanged 3 RX10 (kR kTab kA)) (hret : gRetI p l e (rmL 6 0 0) s m args below meth c cX10_grainWithFlapChanged (cΩ ca) (cP dC dI cg kA ca) Q r S1) (hf : fX10_grainWithFlapChanged_11 M x1 x2 = some (r, S1)) (hP : (cP dC dI cg kA ca) M s H) (hS : va_S (Fr (cΩ ca) s.heap.size) s.heap H locs) (hl : lv_has ls 3 [(0, .ref (ca 0)), (1, .int x1), (2, .int x2)]) : W p l e (rmL 6 0 0) s m args below meth c H locs 0 0 Q (F0 m 11 ls []) := by
  have hx := X.hx
  have hb := X.hb
  have hown := X.hown
  have hts := X.hts
  rw [fX10_grainWithFlapChanged_11] at hf
  refine lv_aload_n hx hb dX10_grainWithFlapChanged_11 rfl (lv_at hl 0 rfl) ?_
  refine cr_get (k := 4) X hP (rfl : kc 0 = 0) rfl cv0_4 rfl cinX10 (by decide) rfl tw959 dX10_grainWithFlapChanged_12 ?_
  refine cr_get (k := 1) X hP (rfl : kc 83 = 11) rfl cv11_1 rfl cinX2 (by decide) rfl tw318 dX10_grainWithFlapChanged_15 ?_
  refine lv_iload_n hx hb dX10_grainWithFlapChanged_18 rfl (lv_at hl 1 rfl) ?_
  obtain ⟨g1, hf⟩ := gd hf
  refine cr_aald (f := fun i => (83 + 2) + 15 + i) X hP (kc_sacks (rfl : kc 83 = 11)) rfl (fun _ => rfl) rfl g1 dX10_grainWithFlapChanged_19 ?_
  refine lv_aload_n hx hb dX10_grainWithFlapChanged_20 rfl (lv_at hl 0 rfl) ?_
  refine cr_get (k := 4) X hP (rfl : kc 0 = 0) rfl cv0_4 rfl cinX10 (by decide) rfl tw959 dX10_grainWithFlapChanged_21 ?_
  refine cr_get (k := 1) X hP (rfl : kc 83 = 11) rfl cv11_1 rfl cinX2 (by decide) rfl tw318 dX10_grainWithFlapChanged_24 ?_
  refine lv_iload_n hx hb dX10_grainWithFlapChanged_27 rfl (lv_at hl 1 rfl) ?_
  obtain ⟨g2, hf⟩ := gd hf
  refine cr_aald (f := fun i => (83 + 2) + 15 + i) X hP (kc_sacks (rfl : kc 83 = 11)) rfl (fun _ => rfl) rfl g2 dX10_grainWithFlapChanged_28 ?_
  refine cr_get (k := 3) X hP (kc_sack (kc_sacks (rfl : kc 83 = 11)) g2) rfl cv19_3 rfl cinX4 (by decide) rfl tw279 dX10_grainWithFlapChanged_29 ?_
  refine lv_if_ne (tgt := 39) hx hb dX10_grainWithFlapChanged_32 (by decide) (fun c1 => ?_) (fun c1 => ?_)
  · exact kX10_grainWithFlapChanged_39 X hret (kc_sack (kc_sacks (rfl : kc 83 = 11)) g1) (ifn c1 hf) hP hS (lv_sub hl [0, 2] rfl)
  · exact kX10_grainWithFlapChanged_35 X hret (kc_sack (kc_sacks (rfl : kc 83 = 11)) g1) (ifp c1 hf) hP hS (lv_sub hl [0, 2] rfl)
set_option maxRecDepth 10000 in
theorem kX10_grainWithFlapChanged_0 {r : Int32} {S1 : CS} {M : CS} {a1 : Int32} {a2 : Int32} {H : Heap} {locs : List Loc} {ls : Array Slot} (X : gX p s m args c cX10_grainWithFlapChanged 3 RX10 (kR kTab kA)) (hret : gRetI p l e (rmL 6 0 0) s m args below meth c cX10_grainWithFlapChanged (cΩ ca) (cP dC dI cg kA ca) Q r S1) (hf : fX10_grainWithFlapChanged_0 M a1 a2 = some (r, S1)) (hP : (cP dC dI cg kA ca) M s H) (hS : va_S (Fr (cΩ ca) s.heap.size) s.heap H locs) (hl : lv_has ls 3 [(0, .ref (ca 0)), (1, .int a1), (2, .int a2)]) : W p l e (rmL 6 0 0) s m args below meth c H locs 0 0 Q (F0 m 0 ls []) := by
  have hx := X.hx
  have hb := X.hb
  have hown := X.hown
  have hts := X.hts
  rw [fX10_grainWithFlapChanged_0] at hf
  refine lv_aload_n hx hb dX10_grainWithFlapChanged_0 rfl (lv_at hl 0 rfl) ?_
  refine cr_get (k := 4) X hP (rfl : kc 0 = 0) rfl cv0_4 rfl cinX10 (by decide) rfl tw959 dX10_grainWithFlapChanged_1 ?_
  refine lv_aload_n hx hb dX10_grainWithFlapChanged_4 rfl (lv_at hl 0 rfl) ?_
  refine cr_get (k := 2) X hP (rfl : kc 0 = 0) rfl cv0_2 rfl cinX10 (by decide) rfl tw957 dX10_grainWithFlapChanged_5 ?_
  obtain ⟨q, hc, hf⟩ := bd hf
  refine gCallVV X cOK rfl (vX2_copyFrom (rfl : kc 83 = 11) (rfl : kc 13 = 11) hc) gRX10_X2_copyFrom hdX2_copyFrom rfl ⟨by decide, by decide⟩ hP hS (cr_rec hP (rfl : kc 83 = 11) rfl cw11 rfl) hl.1 (Nat.le_of_ble_eq_true rfl) ⟨Nat.zero_le _, Nat.zero_le _⟩ dX10_grainWithFlapChanged_8 (As := [.ref (ca 13)]) (rest := []) rfl (fun H locs hP hS => ?_)
  exact kX10_grainWithFlapChanged_11 X hret hf hP hS (lv_sub hl [0, 1, 2] rfl)
theorem vX10_grainWithFlapChanged {l : Launch} {dC : Nat → ClassId} {dI : Nat → Nat → Nat} {cg : Nat → ClassId} {kA : String → Nat → Nat} {ca : Nat → Nat} {M S1 : CS} {r : Int32} {a1 : Int32} {a2 : Int32} (hf : fX10_grainWithFlapChanged M a1 a2 = some (r, S1)) : gMetI l yX10_grainWithFlapChanged cX10_grainWithFlapChanged 3 (some .int) 6 (cΩ ca) (cP dC dI cg kA ca) (kR kTab kA) [.ref (ca 0), .int a1, .int a2] M r S1 := gEntryI (ty := .int) (by decide) rfl rfl cOK (Nat.le_of_ble_eq_true rfl) (fun p e s m args below meth c Q ls X hP hS hret hl => 
  kX10_grainWithFlapChanged_0 X hret hf hP hS (lv_sub hl [0, 1, 2] rfl))
set_option maxRecDepth 10000 in
theorem kX5_readSackName_15 {r : Int32} {S1 : CS} {M : CS} {H : Heap} {locs : List Loc} {ls : Array Slot} (X : gX p s m args c cX5_readSackName 2 RX5 (kR kTab kA)) (hret : gRetI p l e (rmL 7 0 0) s m args below meth c cX5_readSackName (cΩ ca) (cP dC dI cg kA ca) Q r S1) (hf : fX5_readSackName_15 M = some (r, S1)) (hP : (cP dC dI cg kA ca) M s H) (hS : va_S (Fr (cΩ ca) s.heap.size) s.heap H locs) (hl : lv_has ls 2 [(0, .ref (ca 8))]) : W p l e (rmL 7 0 0) s m args below meth c H locs 0 0 Q (F0 m 15 ls []) := by
  have hx := X.hx
  have hb := X.hb
  have hown := X.hown
  have hts := X.hts
  rw [fX5_readSackName_15] at hf
  refine lv_iconst (v := 1) hx hb dX5_readSackName_15 (by decide) ?_
  cases hf
  exact hret _ _ _ _ dX5_readSackName_16 hP hS
set_option maxRecDepth 10000 in
theorem kX5_readSackName_78 {r : Int32} {S1 : CS} {M : CS} {s0 : Int32} {H : Heap} {locs : List Loc} {ls : Array Slot} (X : gX p s m args c cX5_readSackName 2 RX5 (kR kTab kA)) (hret : gRetI p l e (rmL 7 0 0) s m args below meth c cX5_readSackName (cΩ ca) (cP dC dI cg kA ca) Q r S1) (hf : fX5_readSackName_78 M s0 = some (r, S1)) (hP : (cP dC dI cg kA ca) M s H) (hS : va_S (Fr (cΩ ca) s.heap.size) s.heap H locs) (hl : lv_has ls 2 [(0, .ref (ca 8))]) : W p l e (rmL 7 0 0) s m args below meth c H locs 0 0 Q (F0 m 78 ls [.int s0]) := by
  have hx := X.hx
  have hb := X.hb
  have hown := X.hown
  have hts := X.hts
  rw [fX5_readSackName_78] at hf
  cases hf
  exact hret _ _ _ _ dX5_readSackName_78 hP hS
set_option maxRecDepth 10000 in
theorem kX5_readSackName_73 {r : Int32} {S1 : CS} {M : CS} {H : Heap} {locs : List Loc} {ls : Array Slot} (X : gX p s m args c cX5_readSackName 2 RX5 (kR kTab kA)) (hret : gRetI p l e (rmL 7 0 0) s m args below meth c cX5_readSackName (cΩ ca) (cP dC dI cg kA ca) Q r S1) (hf : fX5_readSackName_73 M = some (r, S1)) (hP : (cP dC dI cg kA ca) M s H) (hS : va_S (Fr (cΩ ca) s.heap.size) s.heap H locs) (hl : lv_has ls 2 [(0, .ref (ca 8))]) : W p l e (rmL 7 0 0) s m args below meth c H locs 0 0 Q (F0 m 73 ls []) := by
  have hx := X.hx
  have hb := X.hb
  have hown := X.hown
  have hts := X.hts
  rw [fX5_readSackName_73] at hf
  refine lv_iconst (v := 1) hx hb dX5_readSackName_73 (by decide) ?_
  refine lv_goto (tgt := 78) hx hb dX5_readSackName_74 (by decide) ?_
  exact kX5_readSackName_78 X hret hf hP hS (lv_sub hl [0] rfl)
set_option maxRecDepth 10000 in
theorem kX5_readSackName_77 {r : Int32} {S1 : CS} {M : CS} {H : Heap} {locs : List Loc} {ls : Array Slot} (X : gX p s m args c cX5_readSackName 2 RX5 (kR kTab kA)) (hret : gRetI p l e (rmL 7 0 0) s m args below meth c cX5_readSackName (cΩ ca) (cP dC dI cg kA ca) Q r S1) (hf : fX5_readSackName_77 M = some (r, S1)) (hP : (cP dC dI cg kA ca) M s H) (hS : va_S (Fr (cΩ ca) s.heap.size) s.heap H locs) (hl : lv_has ls 2 [(0, .ref (ca 8))]) : W p l e (rmL 7 0 0) s m args below meth c H locs 0 0 Q (F0 m 77 ls []) := by
  have hx := X.hx
  have hb := X.hb
  have hown := X.hown
  have hts := X.hts
  rw [fX5_readSackName_77] at hf
  refine lv_iconst (v := 0) hx hb dX5_readSackName_77 (by decide) ?_
  exact kX5_readSackName_78 X hret hf hP hS (lv_sub hl [0] rfl)
set_option maxRecDepth 10000 in
theorem kX5_readSackName_70 {r : Int32} {S1 : CS} {M : CS} {s0 : Int32} {H : Heap} {locs : List Loc} {ls : Array Slot} (X : gX p s m args c cX5_readSackName 2 RX5 (kR kTab kA)) (hret : gRetI p l e (rmL 7 0 0) s m args below meth c cX5_readSackName (cΩ ca) (cP dC dI cg kA ca) Q r S1) (hf : fX5_readSackName_70 M s0 = some (r, S1)) (hP : (cP dC dI cg kA ca) M s H) (hS : va_S (Fr (cΩ ca) s.heap.size) s.heap H locs) (hl : lv_has ls 2 [(0, .ref (ca 8))]) : W p l e (rmL 7 0 0) s m args below meth c H locs 0 0 Q (F0 m 70 ls [.int s0]) := by
  have hx := X.hx
  have hb := X.hb
  have hown := X.hown
  have hts := X.hts
  rw [fX5_readSackName_70] at hf
  refine lv_if_eq (tgt := 77) hx hb dX5_readSackName_70 (by decide) (fun c1 => ?_) (fun c1 => ?_)
  · exact kX5_readSackName_77 X hret (ifp c1 hf) hP hS (lv_sub hl [0] rfl)
  · exact kX5_readSackName_73 X hret (ifn c1 hf) hP hS (lv_sub hl [0] rfl)
set_option maxRecDepth 10000 in
theorem kX5_readSackName_62 {r : Int32} {S1 : CS} {M : CS} {H : Heap} {locs : List Loc} {ls : Array Slot} (X : gX p s m args c cX5_readSackName 2 RX5 (kR kTab kA)) (hret : gRetI p l e (rmL 7 0 0) s m args below meth c cX5_readSackName (cΩ ca) (cP dC dI cg kA ca) Q r S1) (hf : fX5_readSackName_62 M = some (r, S1)) (hP : (cP dC dI cg kA ca) M s H) (hS : va_S (Fr (cΩ ca) s.heap.size) s.heap H locs) (hl : lv_has ls 2 [(0, .ref (ca 8))]) : W p l e (rmL 7 0 0) s m args below meth c H locs 0 0 Q (F0 m 62 ls []) := by
  have hx := X.hx
  have hb := X.hb
  have hown := X.hown
  have hts := X.hts
  rw [fX5_readSackName_62] at hf
  refine lv_aload_n hx hb dX5_readSackName_62 rfl (lv_at hl 0 rfl) ?_
  refine cr_get (k := 0) X hP (rfl : kc 8 = 8) rfl cv8_0 rfl cinX5 (by decide) rfl tw394 dX5_readSackName_63 ?_
  refine lv_iconst (v := 4) hx hb dX5_readSackName_66 (by decide) ?_
  obtain ⟨q, hc, hf⟩ := bd hf
  refine gCallVI X cOK rfl (vX8_fail hc) gRX5_X8_fail hdX8_fail rfl ⟨by decide, by decide⟩ hP hS (cr_rec hP (rfl : kc 1 = 1) rfl cw1 rfl) hl.1 (Nat.le_of_ble_eq_true rfl) ⟨Nat.zero_le _, Nat.zero_le _⟩ dX5_readSackName_67 (As := [.int 4]) (rest := []) rfl (fun H locs hP hS => ?_)
  exact kX5_readSackName_70 X hret hf hP hS (lv_sub hl [0] rfl)
set_option maxRecDepth 10000 in
theorem kX5_readSackName_49 {r : Int32} {S1 : CS} {M : CS} {H : Heap} {locs : List Loc} {ls : Array Slot} (X : gX p s m args c cX5_readSackName 2 RX5 (kR kTab kA)) (hret : gRetI p l e (rmL 7 0 0) s m args below meth c cX5_readSackName (cΩ ca) (cP dC dI cg kA ca) Q r S1) (hf : fX5_readSackName_49 M = some (r, S1)) (hP : (cP dC dI cg kA ca) M s H) (hS : va_S (Fr (cΩ ca) s.heap.size) s.heap H locs) (hl : lv_has ls 2 [(0, .ref (ca 8))]) : W p l e (rmL 7 0 0) s m args below meth c H locs 0 0 Q (F0 m 49 ls []) := by
  have hx := X.hx
  have hb := X.hb
  have hown := X.hown
  have hts := X.hts
  rw [fX5_readSackName_49] at hf
  refine lv_aload_n hx hb dX5_readSackName_49 rfl (lv_at hl 0 rfl) ?_
  refine cr_get (k := 3) X hP (rfl : kc 8 = 8) rfl cv8_3 rfl cinX5 (by decide) rfl tw397 dX5_readSackName_50 ?_
  refine lv_aload_n hx hb dX5_readSackName_53 rfl (lv_at hl 0 rfl) ?_
  refine cr_get (k := 5) X hP (rfl : kc 8 = 8) rfl cv8_5 rfl cinX5 (by decide) rfl tw399 dX5_readSackName_54 ?_
  obtain ⟨g1, hf⟩ := gd hf
  refine cr_iald X hP (rfl : kc 10 = 9) rfl (fun _ => rfl) g1 dX5_readSackName_57 ?_
  refine lv_iconst (v := (-1)) hx hb dX5_readSackName_58 (by decide) ?_
  refine lv_icmp_ne (tgt := 73) hx hb dX5_readSackName_59 (by decide) (fun c1 => ?_) (fun c1 => ?_)
  · exact kX5_readSackName_73 X hret (ifn c1 hf) hP hS (lv_sub hl [0] rfl)
  · exact kX5_readSackName_62 X hret (ifp c1 hf) hP hS (lv_sub hl [0] rfl)
set_option maxRecDepth 10000 in
theorem kX5_readSackName_48 {r : Int32} {S1 : CS} {M : CS} {s0 : Int32} {s1 : Int32} {H : Heap} {locs : List Loc} {ls : Array Slot} (X : gX p s m args c cX5_readSackName 2 RX5 (kR kTab kA)) (hret : gRetI p l e (rmL 7 0 0) s m args below meth c cX5_readSackName (cΩ ca) (cP dC dI cg kA ca) Q r S1) (hf : fX5_readSackName_48 M s0 s1 = some (r, S1)) (hP : (cP dC dI cg kA ca) M s H) (hS : va_S (Fr (cΩ ca) s.heap.size) s.heap H locs) (hl : lv_has ls 2 [(0, .ref (ca 8))]) : W p l e (rmL 7 0 0) s m args below meth c H locs 0 0 Q (F0 m 48 ls [.int s0, .int s1, .ref (ca 10)]) := by
  have hx := X.hx
  have hb := X.hb
  have hown := X.hown
  have hts := X.hts
  rw [fX5_readSackName_48] at hf
  obtain ⟨g1, hf⟩ := gd hf
  refine cr_iast X hP hS (rfl : kc 10 = 9) rfl (fun _ _ => rfl) g1 dX5_readSackName_48 (fun H locs hP hS => ?_)
  exact kX5_readSackName_49 X hret hf hP hS (lv_sub hl [0] rfl)
set_option maxRecDepth 10000 in
theorem kX5_readSackName_29 {r : Int32} {S1 : CS} {M : CS} {H : Heap} {locs : List Loc} {ls : Array Slot} (X : gX p s m args c cX5_readSackName 2 RX5 (kR kTab kA)) (hret : gRetI p l e (rmL 7 0 0) s m args below meth c cX5_readSackName (cΩ ca) (cP dC dI cg kA ca) Q r S1) (hf : fX5_readSackName_29 M = some (r, S1)) (hP : (cP dC dI cg kA ca) M s H) (hS : va_S (Fr (cΩ ca) s.heap.size) s.heap H locs) (hl : lv_has ls 2 [(0, .ref (ca 8))]) : W p l e (rmL 7 0 0) s m args below meth c H locs 0 0 Q (F0 m 29 ls []) := by
  have hx := X.hx
  have hb := X.hb
  have hown := X.hown
  have hts := X.hts
  rw [fX5_readSackName_29] at hf
  refine lv_aload_n hx hb dX5_readSackName_29 rfl (lv_at hl 0 rfl) ?_
  refine cr_get (k := 3) X hP (rfl : kc 8 = 8) rfl cv8_3 rfl cinX5 (by decide) rfl tw397 dX5_readSackName_30 ?_
  refine lv_aload_n hx hb dX5_readSackName_33 rfl (lv_at hl 0 rfl) ?_
  refine cr_get (k := 5) X hP (rfl : kc 8 = 8) rfl cv8_5 rfl cinX5 (by decide) rfl tw399 dX5_readSackName_34 ?_
  refine lv_aload_n hx hb dX5_readSackName_37 rfl (lv_at hl 0 rfl) ?_
  refine cr_get (k := 1) X hP (rfl : kc 8 = 8) rfl cv8_1 rfl cinX5 (by decide) rfl tw395 dX5_readSackName_38 ?_
  refine lv_aload_n hx hb dX5_readSackName_41 rfl (lv_at hl 0 rfl) ?_
  refine cr_get (k := 0) X hP (rfl : kc 8 = 8) rfl cv8_0 rfl cinX5 (by decide) rfl tw394 dX5_readSackName_42 ?_
  obtain ⟨q, hc, hf⟩ := bd hf
  refine gCallVR X rfl (vX2_sackNamed (rfl : kc 13 = 11) hc) gRX5_X2_sackNamed hdX2_sackNamed rfl ⟨by decide, by decide⟩ (gB_blind cOK) (gB_at cOK X hP) (cr_rec hP (rfl : kc 13 = 11) rfl cw11 rfl) hl.1 (Nat.le_of_ble_eq_true rfl) ⟨Nat.zero_le _, Nat.zero_le _⟩ dX5_readSackName_45 (As := [.ref (ca 1)]) (rest := [.int (M.1 8 5), .ref (ca 10)]) rfl ?_
  exact kX5_readSackName_48 X hret hf hP hS (lv_sub hl [0] rfl)
set_option maxRecDepth 10000 in
theorem kX5_readSackName_27 {r : Int32} {S1 : CS} {M : CS} {H : Heap} {locs : List Loc} {ls : Array Slot} (X : gX p s m args c cX5_readSackName 2 RX5 (kR kTab kA)) (hret : gRetI p l e (rmL 7 0 0) s m args below meth c cX5_readSackName (cΩ ca) (cP dC dI cg kA ca) Q r S1) (hf : fX5_readSackName_27 M = some (r, S1)) (hP : (cP dC dI cg kA ca) M s H) (hS : va_S (Fr (cΩ ca) s.heap.size) s.heap H locs) (hl : lv_has ls 2 [(0, .ref (ca 8))]) : W p l e (rmL 7 0 0) s m args below meth c H locs 0 0 Q (F0 m 27 ls []) := by
  have hx := X.hx
  have hb := X.hb
  have hown := X.hown
  have hts := X.hts
  rw [fX5_readSackName_27] at hf
  refine lv_iconst (v := 0) hx hb dX5_readSackName_27 (by decide) ?_
  cases hf
  exact hret _ _ _ _ dX5_readSackName_28 hP hS
set_option maxRecDepth 10000 in
theorem kX5_readSackName_24 {r : Int32} {S1 : CS} {M : CS} {s0 : Int32} {H : Heap} {locs : List Loc} {ls : Array Slot} (X : gX p s m args c cX5_readSackName 2 RX5 (kR kTab kA)) (hret : gRetI p l e (rmL 7 0 0) s m args below meth c cX5_readSackName (cΩ ca) (cP dC dI cg kA ca) Q r S1) (hf : fX5_readSackName_24 M s0 = some (r, S1)) (hP : (cP dC dI cg kA ca) M s H) (hS : va_S (Fr (cΩ ca) s.heap.size) s.heap H locs) (hl : lv_has ls 2 [(0, .ref (ca 8))]) : W p l e (rmL 7 0 0) s m args below meth c H locs 0 0 Q (F0 m 24 ls [.int s0]) := by
  have hx := X.hx
  have hb := X.hb
  have hown := X.hown
  have hts := X.hts
  rw [fX5_readSackName_24] at hf
  refine lv_if_ne (tgt := 29) hx hb dX5_readSackName_24 (by decide) (fun c1 => ?_) (fun c1 => ?_)
  · exact kX5_readSackName_29 X hret (ifn c1 hf) hP hS (lv_sub hl [0] rfl)
  · exact kX5_readSackName_27 X hret (ifp c1 hf) hP hS (lv_sub hl [0] rfl)
set_option maxRecDepth 10000 in
theorem kX5_readSackName_17 {r : Int32} {S1 : CS} {M : CS} {H : Heap} {locs : List Loc} {ls : Array Slot} (X : gX p s m args c cX5_readSackName 2 RX5 (kR kTab kA)) (hret : gRetI p l e (rmL 7 0 0) s m args below meth c cX5_readSackName (cΩ ca) (cP dC dI cg kA ca) Q r S1) (hf : fX5_readSackName_17 M = some (r, S1)) (hP : (cP dC dI cg kA ca) M s H) (hS : va_S (Fr (cΩ ca) s.heap.size) s.heap H locs) (hl : lv_has ls 2 [(0, .ref (ca 8))]) : W p l e (rmL 7 0 0) s m args below meth c H locs 0 0 Q (F0 m 17 ls []) := by
  have hx := X.hx
  have hb := X.hb
  have hown := X.hown
  have hts := X.hts
  rw [fX5_readSackName_17] at hf
  refine lv_aload_n hx hb dX5_readSackName_17 rfl (lv_at hl 0 rfl) ?_
  refine cr_get (k := 0) X hP (rfl : kc 8 = 8) rfl cv8_0 rfl cinX5 (by decide) rfl tw394 dX5_readSackName_18 ?_
  obtain ⟨q, hc, hf⟩ := bd hf
  refine gCallVI X cOK rfl (vX8_takeName hc) gRX5_X8_takeName hdX8_takeName rfl ⟨by decide, by decide⟩ hP hS (cr_rec hP (rfl : kc 1 = 1) rfl cw1 rfl) hl.1 (Nat.le_of_ble_eq_true rfl) ⟨Nat.zero_le _, Nat.zero_le _⟩ dX5_readSackName_21 (As := []) (rest := []) rfl (fun H locs hP hS => ?_)
  exact kX5_readSackName_24 X hret hf hP hS (lv_sub hl [0] rfl)
set_option maxRecDepth 10000 in
theorem kX5_readSackName_9 {r : Int32} {S1 : CS} {M : CS} {x1 : Int32} {H : Heap} {locs : List Loc} {ls : Array Slot} (X : gX p s m args c cX5_readSackName 2 RX5 (kR kTab kA)) (hret : gRetI p l e (rmL 7 0 0) s m args below meth c cX5_readSackName (cΩ ca) (cP dC dI cg kA ca) Q r S1) (hf : fX5_readSackName_9 M x1 = some (r, S1)) (hP : (cP dC dI cg kA ca) M s H) (hS : va_S (Fr (cΩ ca) s.heap.size) s.heap H locs) (hl : lv_has ls 2 [(0, .ref (ca 8)), (1, .int x1)]) : W p l e (rmL 7 0 0) s m args below meth c H locs 0 0 Q (F0 m 9 ls []) := by
  have hx := X.hx
  have hb := X.hb
  have hown := X.hown
  have hts := X.hts
  rw [fX5_readSackName_9] at hf
  refine lv_iload_n hx hb dX5_readSackName_9 rfl (lv_at hl 1 rfl) ?_
  refine lv_bipush (v := 6) hx hb dX5_readSackName_10 (by decide) ?_
  refine lv_icmp_ne (tgt := 17) hx hb dX5_readSackName_12 (by decide) (fun c1 => ?_) (fun c1 => ?_)
  · exact kX5_readSackName_17 X hret (ifn c1 hf) hP hS (lv_sub hl [0] rfl)
  · exact kX5_readSackName_15 X hret (ifp c1 hf) hP hS (lv_sub hl [0] rfl)
set_option maxRecDepth 10000 in
theorem kX5_readSackName_4 {r : Int32} {S1 : CS} {M : CS} {x1 : Int32} {H : Heap} {locs : List Loc} {ls : Array Slot} (X : gX p s m args c cX5_readSackName 2 RX5 (kR kTab kA)) (hret : gRetI p l e (rmL 7 0 0) s m args below meth c cX5_readSackName (cΩ ca) (cP dC dI cg kA ca) Q r S1) (hf : fX5_readSackName_4 M x1 = some (r, S1)) (hP : (cP dC dI cg kA ca) M s H) (hS : va_S (Fr (cΩ ca) s.heap.size) s.heap H locs) (hl : lv_has ls 2 [(0, .ref (ca 8)), (1, .int x1)]) : W p l e (rmL 7 0 0) s m args below meth c H locs 0 0 Q (F0 m 4 ls []) := by
  have hx := X.hx
  have hb := X.hb
  have hown := X.hown
  have hts := X.hts
  rw [fX5_readSackName_4] at hf
  refine lv_iload_n hx hb dX5_readSackName_4 rfl (lv_at hl 1 rfl) ?_
  refine lv_iconst (v := 5) hx hb dX5_readSackName_5 (by decide) ?_
  refine lv_icmp_eq (tgt := 15) hx hb dX5_readSackName_6 (by decide) (fun c1 => ?_) (fun c1 => ?_)
  · exact kX5_readSackName_15 X hret (ifp c1 hf) hP hS (lv_sub hl [0] rfl)
  · exact kX5_readSackName_9 X hret (ifn c1 hf) hP hS (lv_sub hl [0, 1] rfl)
set_option maxRecDepth 10000 in
theorem kX5_readSackName_0 {r : Int32} {S1 : CS} {M : CS} {a1 : Int32} {H : Heap} {locs : List Loc} {ls : Array Slot} (X : gX p s m args c cX5_readSackName 2 RX5 (kR kTab kA)) (hret : gRetI p l e (rmL 7 0 0) s m args below meth c cX5_readSackName (cΩ ca) (cP dC dI cg kA ca) Q r S1) (hf : fX5_readSackName_0 M a1 = some (r, S1)) (hP : (cP dC dI cg kA ca) M s H) (hS : va_S (Fr (cΩ ca) s.heap.size) s.heap H locs) (hl : lv_has ls 2 [(0, .ref (ca 8)), (1, .int a1)]) : W p l e (rmL 7 0 0) s m args below meth c H locs 0 0 Q (F0 m 0 ls []) := by
  have hx := X.hx
  have hb := X.hb
  have hown := X.hown
  have hts := X.hts
  rw [fX5_readSackName_0] at hf
  refine lv_iload_n hx hb dX5_readSackName_0 rfl (lv_at hl 1 rfl) ?_
  refine lv_if_eq (tgt := 15) hx hb dX5_readSackName_1 (by decide) (fun c1 => ?_) (fun c1 => ?_)
  · exact kX5_readSackName_15 X hret (ifp c1 hf) hP hS (lv_sub hl [0] rfl)
  · exact kX5_readSackName_4 X hret (ifn c1 hf) hP hS (lv_sub hl [0, 1] rfl)
theorem vX5_readSackName {l : Launch} {dC : Nat → ClassId} {dI : Nat → Nat → Nat} {cg : Nat → ClassId} {kA : String → Nat → Nat} {ca : Nat → Nat} {M S1 : CS} {r : Int32} {a1 : Int32} (hf : fX5_readSackName M a1 = some (r, S1)) : gMetI l yX5_readSackName cX5_readSackName 2 (some .boolean) 7 (cΩ ca) (cP dC dI cg kA ca) (kR kTab kA) [.ref (ca 8), .int a1] M r S1 := gEntryI (ty := .boolean) (by decide) rfl (bz_n hf) cOK (Nat.le_of_ble_eq_true rfl) (fun p e s m args below meth c Q ls X hP hS hret hl => 
  kX5_readSackName_0 X hret (bz_f hf) hP hS (lv_sub hl [0, 1] rfl))
set_option maxRecDepth 10000 in
theorem kX5_execute_72 {r : Int32} {S1 : CS} {M : CS} {H : Heap} {locs : List Loc} {ls : Array Slot} (X : gX p s m args c cX5_execute 2 RX5 (kR kTab kA)) (hret : gRetI p l e (rmL 7 0 0) s m args below meth c cX5_execute (cΩ ca) (cP dC dI cg kA ca) Q r S1) (hf : fX5_execute_72 M = some (r, S1)) (hP : (cP dC dI cg kA ca) M s H) (hS : va_S (Fr (cΩ ca) s.heap.size) s.heap H locs) (hl : lv_has ls 2 [(0, .ref (ca 8))]) : W p l e (rmL 7 0 0) s m args below meth c H locs 0 0 Q (F0 m 72 ls []) := by
  have hx := X.hx
  have hb := X.hb
  have hown := X.hown
  have hts := X.hts
  rw [fX5_execute_72] at hf
  refine lv_aload_n hx hb dX5_execute_72 rfl (lv_at hl 0 rfl) ?_
  refine cr_get (k := 5) X hP (rfl : kc 8 = 8) rfl cv8_5 rfl cinX5 (by decide) rfl tw399 dX5_execute_73 ?_
  cases hf
  exact hret _ _ _ _ dX5_execute_76 hP hS
set_option maxRecDepth 10000 in
theorem kX5_execute_65 {r : Int32} {S1 : CS} {K2 : CS → Int32 → Option (Int32 × CS)} {M : CS} {x1 : Int32} {s0 : Int32} {H : Heap} {locs : List Loc} {ls : Array Slot} (X : gX p s m args c cX5_execute 2 RX5 (kR kTab kA)) (hret : gRetI p l e (rmL 7 0 0) s m args below meth c cX5_execute (cΩ ca) (cP dC dI cg kA ca) Q r S1) (hK2 : ∀ (M : CS) (x1 : Int32) (H : Heap) (locs : List Loc) (ls : Array Slot), K2 M x1 = some (r, S1) → (cP dC dI cg kA ca) M s H → va_S (Fr (cΩ ca) s.heap.size) s.heap H locs → lv_has ls 2 [(0, .ref (ca 8)), (1, .int x1)] → W p l e (rmL 7 0 0) s m args below meth c H locs 0 0 Q (F0 m 2 ls [])) (hf : fX5_execute_65 K2 M x1 s0 = some (r, S1)) (hP : (cP dC dI cg kA ca) M s H) (hS : va_S (Fr (cΩ ca) s.heap.size) s.heap H locs) (hl : lv_has ls 2 [(0, .ref (ca 8)), (1, .int x1)]) : W p l e (rmL 7 0 0) s m args below meth c H locs 0 0 Q (F0 m 65 ls [.int s0]) := by
  have hx := X.hx
  have hb := X.hb
  have hown := X.hown
  have hts := X.hts
  rw [fX5_execute_65] at hf
  refine lv_pop hx hb dX5_execute_65 rfl ?_
  refine lv_iinc (v := (x1 + 1)) (lv' := [(1, .int (x1 + 1)), (0, .ref (ca 8))]) hx hb dX5_execute_66 hl (k := 1) rfl (by rfl) (by decide) rfl (fun ls hl => ?_)
  refine lv_goto (tgt := 2) hx hb dX5_execute_69 (by decide) ?_
  exact hK2 _ _ _ _ _ hf hP hS (lv_sub hl [1, 0] rfl)
set_option maxRecDepth 10000 in
theorem kX5_execute_40 {r : Int32} {S1 : CS} {K2 : CS → Int32 → Option (Int32 × CS)} {M : CS} {x1 : Int32} {H : Heap} {locs : List Loc} {ls : Array Slot} (X : gX p s m args c cX5_execute 2 RX5 (kR kTab kA)) (hret : gRetI p l e (rmL 7 0 0) s m args below meth c cX5_execute (cΩ ca) (cP dC dI cg kA ca) Q r S1) (hK2 : ∀ (M : CS) (x1 : Int32) (H : Heap) (locs : List Loc) (ls : Array Slot), K2 M x1 = some (r, S1) → (cP dC dI cg kA ca) M s H → va_S (Fr (cΩ ca) s.heap.size) s.heap H locs → lv_has ls 2 [(0, .ref (ca 8)), (1, .int x1)] → W p l e (rmL 7 0 0) s m args below meth c H locs 0 0 Q (F0 m 2 ls [])) (hf : fX5_execute_40 K2 M x1 = some (r, S1)) (hP : (cP dC dI cg kA ca) M s H) (hS : va_S (Fr (cΩ ca) s.heap.size) s.heap H locs) (hl : lv_has ls 2 [(0, .ref (ca 8)), (1, .int x1)]) : W p l e (rmL 7 0 0) s m args below meth c H locs 0 0 Q (F0 m 40 ls []) := by
  have hx := X.hx
  have hb := X.hb
  have hown := X.hown
  have hts := X.hts
  rw [fX5_execute_40] at hf
  refine lv_aload_n hx hb dX5_execute_40 rfl (lv_at hl 0 rfl) ?_
  refine cr_get (k := 1) X hP (rfl : kc 8 = 8) rfl cv8_1 rfl cinX5 (by decide) rfl tw395 dX5_execute_41 ?_
  refine lv_aload_n hx hb dX5_execute_44 rfl (lv_at hl 0 rfl) ?_
  refine cr_get (k := 2) X hP (rfl : kc 8 = 8) rfl cv8_2 rfl cinX5 (by decide) rfl tw396 dX5_execute_45 ?_
  refine lv_iload_n hx hb dX5_execute_48 rfl (lv_at hl 1 rfl) ?_
  obtain ⟨g1, hf⟩ := gd hf
  refine cr_iald X hP (rfl : kc 9 = 9) rfl (fun _ => rfl) g1 dX5_execute_49 ?_
  refine lv_aload_n hx hb dX5_execute_50 rfl (lv_at hl 0 rfl) ?_
  refine cr_get (k := 3) X hP (rfl : kc 8 = 8) rfl cv8_3 rfl cinX5 (by decide) rfl tw397 dX5_execute_51 ?_
  refine lv_iload_n hx hb dX5_execute_54 rfl (lv_at hl 1 rfl) ?_
  obtain ⟨g2, hf⟩ := gd hf
  refine cr_iald X hP (rfl : kc 10 = 9) rfl (fun _ => rfl) g2 dX5_execute_55 ?_
  refine lv_aload_n hx hb dX5_execute_56 rfl (lv_at hl 0 rfl) ?_
  refine cr_get (k := 4) X hP (rfl : kc 8 = 8) rfl cv8_4 rfl cinX5 (by decide) rfl tw398 dX5_execute_57 ?_
  refine lv_iload_n hx hb dX5_execute_60 rfl (lv_at hl 1 rfl) ?_
  obtain ⟨g3, hf⟩ := gd hf
  refine cr_iald X hP (rfl : kc 11 = 9) rfl (fun _ => rfl) g3 dX5_execute_61 ?_
  obtain ⟨q, hc, hf⟩ := bd hf
  refine gCallVI X cOK rfl (vX2_apply (rfl : kc 13 = 11) hc) gRX5_X2_apply hdX2_apply rfl ⟨by decide, by decide⟩ hP hS (cr_rec hP (rfl : kc 13 = 11) rfl cw11 rfl) hl.1 (Nat.le_of_ble_eq_true rfl) ⟨Nat.zero_le _, Nat.zero_le _⟩ dX5_execute_62 (As := [.int (M.1 9 x1.toNatClampNeg), .int (M.1 10 x1.toNatClampNeg), .int (M.1 11 x1.toNatClampNeg)]) (rest := []) rfl (fun H locs hP hS => ?_)
  exact kX5_execute_65 X hret hK2 hf hP hS (lv_sub hl [0, 1] rfl)
set_option maxRecDepth 10000 in
theorem kX5_execute_38 {r : Int32} {S1 : CS} {M : CS} {x1 : Int32} {H : Heap} {locs : List Loc} {ls : Array Slot} (X : gX p s m args c cX5_execute 2 RX5 (kR kTab kA)) (hret : gRetI p l e (rmL 7 0 0) s m args below meth c cX5_execute (cΩ ca) (cP dC dI cg kA ca) Q r S1) (hf : fX5_execute_38 M x1 = some (r, S1)) (hP : (cP dC dI cg kA ca) M s H) (hS : va_S (Fr (cΩ ca) s.heap.size) s.heap H locs) (hl : lv_has ls 2 [(0, .ref (ca 8)), (1, .int x1)]) : W p l e (rmL 7 0 0) s m args below meth c H locs 0 0 Q (F0 m 38 ls []) := by
  have hx := X.hx
  have hb := X.hb
  have hown := X.hown
  have hts := X.hts
  rw [fX5_execute_38] at hf
  refine lv_iload_n hx hb dX5_execute_38 rfl (lv_at hl 1 rfl) ?_
  cases hf
  exact hret _ _ _ _ dX5_execute_39 hP hS
set_option maxRecDepth 10000 in
theorem kX5_execute_35 {r : Int32} {S1 : CS} {K2 : CS → Int32 → Option (Int32 × CS)} {M : CS} {x1 : Int32} {s0 : Int32} {H : Heap} {locs : List Loc} {ls : Array Slot} (X : gX p s m args c cX5_execute 2 RX5 (kR kTab kA)) (hret : gRetI p l e (rmL 7 0 0) s m args below meth c cX5_execute (cΩ ca) (cP dC dI cg kA ca) Q r S1) (hK2 : ∀ (M : CS) (x1 : Int32) (H : Heap) (locs : List Loc) (ls : Array Slot), K2 M x1 = some (r, S1) → (cP dC dI cg kA ca) M s H → va_S (Fr (cΩ ca) s.heap.size) s.heap H locs → lv_has ls 2 [(0, .ref (ca 8)), (1, .int x1)] → W p l e (rmL 7 0 0) s m args below meth c H locs 0 0 Q (F0 m 2 ls [])) (hf : fX5_execute_35 K2 M x1 s0 = some (r, S1)) (hP : (cP dC dI cg kA ca) M s H) (hS : va_S (Fr (cΩ ca) s.heap.size) s.heap H locs) (hl : lv_has ls 2 [(0, .ref (ca 8)), (1, .int x1)]) : W p l e (rmL 7 0 0) s m args below meth c H locs 0 0 Q (F0 m 35 ls [.int s0]) := by
  have hx := X.hx
  have hb := X.hb
  have hown := X.hown
  have hts := X.hts
  rw [fX5_execute_35] at hf
  refine lv_if_ne (tgt := 40) hx hb dX5_execute_35 (by decide) (fun c1 => ?_) (fun c1 => ?_)
  · exact kX5_execute_40 X hret hK2 (ifn c1 hf) hP hS (lv_sub hl [0, 1] rfl)
  · exact kX5_execute_38 X hret (ifp c1 hf) hP hS (lv_sub hl [0, 1] rfl)
set_option maxRecDepth 10000 in
theorem kX5_execute_10 {r : Int32} {S1 : CS} {K2 : CS → Int32 → Option (Int32 × CS)} {M : CS} {x1 : Int32} {H : Heap} {locs : List Loc} {ls : Array Slot} (X : gX p s m args c cX5_execute 2 RX5 (kR kTab kA)) (hret : gRetI p l e (rmL 7 0 0) s m args below meth c cX5_execute (cΩ ca) (cP dC dI cg kA ca) Q r S1) (hK2 : ∀ (M : CS) (x1 : Int32) (H : Heap) (locs : List Loc) (ls : Array Slot), K2 M x1 = some (r, S1) → (cP dC dI cg kA ca) M s H → va_S (Fr (cΩ ca) s.heap.size) s.heap H locs → lv_has ls 2 [(0, .ref (ca 8)), (1, .int x1)] → W p l e (rmL 7 0 0) s m args below meth c H locs 0 0 Q (F0 m 2 ls [])) (hf : fX5_execute_10 K2 M x1 = some (r, S1)) (hP : (cP dC dI cg kA ca) M s H) (hS : va_S (Fr (cΩ ca) s.heap.size) s.heap H locs) (hl : lv_has ls 2 [(0, .ref (ca 8)), (1, .int x1)]) : W p l e (rmL 7 0 0) s m args below meth c H locs 0 0 Q (F0 m 10 ls []) := by
  have hx := X.hx
  have hb := X.hb
  have hown := X.hown
  have hts := X.hts
  rw [fX5_execute_10] at hf
  refine lv_aload_n hx hb dX5_execute_10 rfl (lv_at hl 0 rfl) ?_
  refine cr_get (k := 1) X hP (rfl : kc 8 = 8) rfl cv8_1 rfl cinX5 (by decide) rfl tw395 dX5_execute_11 ?_
  refine lv_aload_n hx hb dX5_execute_14 rfl (lv_at hl 0 rfl) ?_
  refine cr_get (k := 2) X hP (rfl : kc 8 = 8) rfl cv8_2 rfl cinX5 (by decide) rfl tw396 dX5_execute_15 ?_
  refine lv_iload_n hx hb dX5_execute_18 rfl (lv_at hl 1 rfl) ?_
  obtain ⟨g1, hf⟩ := gd hf
  refine cr_iald X hP (rfl : kc 9 = 9) rfl (fun _ => rfl) g1 dX5_execute_19 ?_
  refine lv_aload_n hx hb dX5_execute_20 rfl (lv_at hl 0 rfl) ?_
  refine cr_get (k := 3) X hP (rfl : kc 8 = 8) rfl cv8_3 rfl cinX5 (by decide) rfl tw397 dX5_execute_21 ?_
  refine lv_iload_n hx hb dX5_execute_24 rfl (lv_at hl 1 rfl) ?_
  obtain ⟨g2, hf⟩ := gd hf
  refine cr_iald X hP (rfl : kc 10 = 9) rfl (fun _ => rfl) g2 dX5_execute_25 ?_
  refine lv_aload_n hx hb dX5_execute_26 rfl (lv_at hl 0 rfl) ?_
  refine cr_get (k := 4) X hP (rfl : kc 8 = 8) rfl cv8_4 rfl cinX5 (by decide) rfl tw398 dX5_execute_27 ?_
  refine lv_iload_n hx hb dX5_execute_30 rfl (lv_at hl 1 rfl) ?_
  obtain ⟨g3, hf⟩ := gd hf
  refine cr_iald X hP (rfl : kc 11 = 9) rfl (fun _ => rfl) g3 dX5_execute_31 ?_
  obtain ⟨q, hc, hf⟩ := bd hf
  refine gCallVR X rfl (vX2_allows (rfl : kc 13 = 11) hc) gRX5_X2_allows hdX2_allows rfl ⟨by decide, by decide⟩ (gB_blind cOK) (gB_at cOK X hP) (cr_rec hP (rfl : kc 13 = 11) rfl cw11 rfl) hl.1 (Nat.le_of_ble_eq_true rfl) ⟨Nat.zero_le _, Nat.zero_le _⟩ dX5_execute_32 (As := [.int (M.1 9 x1.toNatClampNeg), .int (M.1 10 x1.toNatClampNeg), .int (M.1 11 x1.toNatClampNeg)]) (rest := []) rfl ?_
  exact kX5_execute_35 X hret hK2 hf hP hS (lv_sub hl [0, 1] rfl)
set_option maxRecDepth 10000 in
theorem kX5_execute_2 {r : Int32} {S1 : CS} (X : gX p s m args c cX5_execute 2 RX5 (kR kTab kA)) (hret : gRetI p l e (rmL 7 0 0) s m args below meth c cX5_execute (cΩ ca) (cP dC dI cg kA ca) Q r S1) : ∀ (n : Nat) (M : CS) (x1 : Int32) (H : Heap) (locs : List Loc) (ls : Array Slot), fX5_execute_2 n M x1 = some (r, S1) → (cP dC dI cg kA ca) M s H → va_S (Fr (cΩ ca) s.heap.size) s.heap H locs → lv_has ls 2 [(0, .ref (ca 8)), (1, .int x1)] → W p l e (rmL 7 0 0) s m args below meth c H locs 0 0 Q (F0 m 2 ls []) := by
  intro n
  induction n with
  | zero => intro M x1 H locs ls hf; cases hf
  | succ k ih =>
    intro M x1 H locs ls hf hP hS hl
    have hx := X.hx
    have hb := X.hb
    have hown := X.hown
    have hts := X.hts
    rw [fX5_execute_2] at hf
    try dsimp only at hf
    refine lv_iload_n hx hb dX5_execute_2 rfl (lv_at hl 1 rfl) ?_
    refine lv_aload_n hx hb dX5_execute_3 rfl (lv_at hl 0 rfl) ?_
    refine cr_get (k := 5) X hP (rfl : kc 8 = 8) rfl cv8_5 rfl cinX5 (by decide) rfl tw399 dX5_execute_4 ?_
    refine lv_icmp_ge (tgt := 72) hx hb dX5_execute_7 (by decide) (fun c1 => ?_) (fun c1 => ?_)
    · exact kX5_execute_72 X hret (ifp c1 hf) hP hS (lv_sub hl [0] rfl)
    · exact kX5_execute_10 X hret ih (ifn c1 hf) hP hS (lv_sub hl [0, 1] rfl)
set_option maxRecDepth 10000 in
theorem kX5_execute_0 {r : Int32} {S1 : CS} {M : CS} {H : Heap} {locs : List Loc} {ls : Array Slot} (X : gX p s m args c cX5_execute 2 RX5 (kR kTab kA)) (hret : gRetI p l e (rmL 7 0 0) s m args below meth c cX5_execute (cΩ ca) (cP dC dI cg kA ca) Q r S1) (hf : fX5_execute_0 M = some (r, S1)) (hP : (cP dC dI cg kA ca) M s H) (hS : va_S (Fr (cΩ ca) s.heap.size) s.heap H locs) (hl : lv_has ls 2 [(0, .ref (ca 8))]) : W p l e (rmL 7 0 0) s m args below meth c H locs 0 0 Q (F0 m 0 ls []) := by
  have hx := X.hx
  have hb := X.hb
  have hown := X.hown
  have hts := X.hts
  rw [fX5_execute_0] at hf
  refine lv_iconst (v := 0) hx hb dX5_execute_0 (by decide) ?_
  refine lv_istore_n (lv' := [(1, .int 0), (0, .ref (ca 8))]) hx hb dX5_execute_1 rfl hl (by decide) rfl (fun ls hl => ?_)
  exact kX5_execute_2 X hret FU _ _ _ _ _ hf hP hS (lv_sub hl [1, 0] rfl)
theorem vX5_execute {l : Launch} {dC : Nat → ClassId} {dI : Nat → Nat → Nat} {cg : Nat → ClassId} {kA : String → Nat → Nat} {ca : Nat → Nat} {M S1 : CS} {r : Int32} (hf : fX5_execute M  = some (r, S1)) : gMetI l yX5_execute cX5_execute 2 (some .int) 7 (cΩ ca) (cP dC dI cg kA ca) (kR kTab kA) [.ref (ca 8)] M r S1 := gEntryI (ty := .int) (by decide) rfl rfl cOK (Nat.le_of_ble_eq_true rfl) (fun p e s m args below meth c Q ls X hP hS hret hl => 
  kX5_execute_0 X hret hf hP hS (lv_sub hl [0] rfl))
set_option maxRecDepth 10000 in
theorem kX6_readShift_138 {r : Int32} {S1 : CS} {M : CS} {s0 : Int32} {H : Heap} {locs : List Loc} {ls : Array Slot} (X : gX p s m args c cX6_readShift 2 RX6 (kR kTab kA)) (hret : gRetI p l e (rmL 7 0 0) s m args below meth c cX6_readShift (cΩ ca) (cP dC dI cg kA ca) Q r S1) (hf : fX6_readShift_138 M s0 = some (r, S1)) (hP : (cP dC dI cg kA ca) M s H) (hS : va_S (Fr (cΩ ca) s.heap.size) s.heap H locs) (hl : lv_has ls 2 [(0, .ref (ca 7))]) : W p l e (rmL 7 0 0) s m args below meth c H locs 0 0 Q (F0 m 138 ls [.int s0]) := by
  have hx := X.hx
  have hb := X.hb
  have hown := X.hown
  have hts := X.hts
  rw [fX6_readShift_138] at hf
  cases hf
  exact hret _ _ _ _ dX6_readShift_138 hP hS
set_option maxRecDepth 10000 in
theorem kX6_readShift_131 {r : Int32} {S1 : CS} {M : CS} {H : Heap} {locs : List Loc} {ls : Array Slot} (X : gX p s m args c cX6_readShift 2 RX6 (kR kTab kA)) (hret : gRetI p l e (rmL 7 0 0) s m args below meth c cX6_readShift (cΩ ca) (cP dC dI cg kA ca) Q r S1) (hf : fX6_readShift_131 M = some (r, S1)) (hP : (cP dC dI cg kA ca) M s H) (hS : va_S (Fr (cΩ ca) s.heap.size) s.heap H locs) (hl : lv_has ls 2 [(0, .ref (ca 7))]) : W p l e (rmL 7 0 0) s m args below meth c H locs 0 0 Q (F0 m 131 ls []) := by
  have hx := X.hx
  have hb := X.hb
  have hown := X.hown
  have hts := X.hts
  rw [fX6_readShift_131] at hf
  refine lv_aload_n hx hb dX6_readShift_131 rfl (lv_at hl 0 rfl) ?_
  refine cr_get (k := 0) X hP (rfl : kc 7 = 7) rfl cv7_0 rfl cinX6 (by decide) rfl tw381 dX6_readShift_132 ?_
  obtain ⟨q, hc, hf⟩ := bd hf
  refine gCallVI X cOK rfl (vX8_takeSemicolon hc) gRX6_X8_takeSemicolon hdX8_takeSemicolon rfl ⟨by decide, by decide⟩ hP hS (cr_rec hP (rfl : kc 1 = 1) rfl cw1 rfl) hl.1 (Nat.le_of_ble_eq_true rfl) ⟨Nat.zero_le _, Nat.zero_le _⟩ dX6_readShift_135 (As := []) (rest := []) rfl (fun H locs hP hS => ?_)
  exact kX6_readShift_138 X hret hf hP hS (lv_sub hl [0] rfl)
set_option maxRecDepth 10000 in
theorem kX6_readShift_118 {r : Int32} {S1 : CS} {M : CS} {H : Heap} {locs : List Loc} {ls : Array Slot} (X : gX p s m args c cX6_readShift 2 RX6 (kR kTab kA)) (hret : gRetI p l e (rmL 7 0 0) s m args below meth c cX6_readShift (cΩ ca) (cP dC dI cg kA ca) Q r S1) (hf : fX6_readShift_118 M = some (r, S1)) (hP : (cP dC dI cg kA ca) M s H) (hS : va_S (Fr (cΩ ca) s.heap.size) s.heap H locs) (hl : lv_has ls 2 [(0, .ref (ca 7))]) : W p l e (rmL 7 0 0) s m args below meth c H locs 0 0 Q (F0 m 118 ls []) := by
  have hx := X.hx
  have hb := X.hb
  have hown := X.hown
  have hts := X.hts
  rw [fX6_readShift_118] at hf
  refine lv_aload_n hx hb dX6_readShift_118 rfl (lv_at hl 0 rfl) ?_
  refine cr_get (k := 1) X hP (rfl : kc 7 = 7) rfl cv7_1 rfl cinX6 (by decide) rfl tw382 dX6_readShift_119 ?_
  refine lv_dup hx hb dX6_readShift_122 rfl ?_
  refine cr_get (k := 7) X hP (rfl : kc 48 = 11) rfl cv11_7 rfl cinX2 (by decide) rfl tw333 dX6_readShift_123 ?_
  refine lv_iconst (v := 1) hx hb dX6_readShift_126 (by decide) ?_
  refine lv_iadd hx hb dX6_readShift_127 ?_
  refine cr_put (k := 7) X hP hS (rfl : kc 48 = 11) rfl cs11_7 rfl cinX2 tyX2_ok nmX2 (by decide) rfl rfl rfl rfl tw333 dX6_readShift_128 (fun H locs hP hS => ?_)
  exact kX6_readShift_131 X hret hf hP hS (lv_sub hl [0] rfl)
set_option maxRecDepth 10000 in
theorem kX6_readShift_93 {r : Int32} {S1 : CS} {M : CS} {H : Heap} {locs : List Loc} {ls : Array Slot} (X : gX p s m args c cX6_readShift 2 RX6 (kR kTab kA)) (hret : gRetI p l e (rmL 7 0 0) s m args below meth c cX6_readShift (cΩ ca) (cP dC dI cg kA ca) Q r S1) (hf : fX6_readShift_93 M = some (r, S1)) (hP : (cP dC dI cg kA ca) M s H) (hS : va_S (Fr (cΩ ca) s.heap.size) s.heap H locs) (hl : lv_has ls 2 [(0, .ref (ca 7))]) : W p l e (rmL 7 0 0) s m args below meth c H locs 0 0 Q (F0 m 93 ls []) := by
  have hx := X.hx
  have hb := X.hb
  have hown := X.hown
  have hts := X.hts
  rw [fX6_readShift_93] at hf
  refine lv_aload_n hx hb dX6_readShift_93 rfl (lv_at hl 0 rfl) ?_
  refine cr_get (k := 1) X hP (rfl : kc 7 = 7) rfl cv7_1 rfl cinX6 (by decide) rfl tw382 dX6_readShift_94 ?_
  refine cr_get (k := 2) X hP (rfl : kc 48 = 11) rfl cv11_2 rfl cinX2 (by decide) rfl tw320 dX6_readShift_97 ?_
  refine lv_aload_n hx hb dX6_readShift_100 rfl (lv_at hl 0 rfl) ?_
  refine cr_get (k := 1) X hP (rfl : kc 7 = 7) rfl cv7_1 rfl cinX6 (by decide) rfl tw382 dX6_readShift_101 ?_
  refine cr_get (k := 7) X hP (rfl : kc 48 = 11) rfl cv11_7 rfl cinX2 (by decide) rfl tw333 dX6_readShift_104 ?_
  obtain ⟨g1, hf⟩ := gd hf
  refine cr_aald (f := fun i => (48 + 3) + 20 + i) X hP (kc_shifts (rfl : kc 48 = 11)) rfl (fun _ => rfl) rfl g1 dX6_readShift_107 ?_
  refine lv_aload_n hx hb dX6_readShift_108 rfl (lv_at hl 0 rfl) ?_
  refine cr_get (k := 0) X hP (rfl : kc 7 = 7) rfl cv7_0 rfl cinX6 (by decide) rfl tw381 dX6_readShift_109 ?_
  refine cr_get (k := 6) X hP (rfl : kc 1 = 1) rfl cv1_6 rfl cinX8 (by decide) rfl tw90 dX6_readShift_112 ?_
  refine cr_put (k := 1) X hP hS (kc_shift (kc_shifts (rfl : kc 48 = 11)) g1) rfl cs20_1 rfl cinX7 tyX7_ok nmX7 (by decide) rfl rfl rfl rfl tw306 dX6_readShift_115 (fun H locs hP hS => ?_)
  exact kX6_readShift_118 X hret hf hP hS (lv_sub hl [0] rfl)
set_option maxRecDepth 10000 in
theorem kX6_readShift_74 {r : Int32} {S1 : CS} {M : CS} {x1 : Int32} {H : Heap} {locs : List Loc} {ls : Array Slot} (X : gX p s m args c cX6_readShift 2 RX6 (kR kTab kA)) (hret : gRetI p l e (rmL 7 0 0) s m args below meth c cX6_readShift (cΩ ca) (cP dC dI cg kA ca) Q r S1) (hf : fX6_readShift_74 M x1 = some (r, S1)) (hP : (cP dC dI cg kA ca) M s H) (hS : va_S (Fr (cΩ ca) s.heap.size) s.heap H locs) (hl : lv_has ls 2 [(0, .ref (ca 7)), (1, .int x1)]) : W p l e (rmL 7 0 0) s m args below meth c H locs 0 0 Q (F0 m 74 ls []) := by
  have hx := X.hx
  have hb := X.hb
  have hown := X.hown
  have hts := X.hts
  rw [fX6_readShift_74] at hf
  refine lv_aload_n hx hb dX6_readShift_74 rfl (lv_at hl 0 rfl) ?_
  refine cr_get (k := 1) X hP (rfl : kc 7 = 7) rfl cv7_1 rfl cinX6 (by decide) rfl tw382 dX6_readShift_75 ?_
  refine cr_get (k := 2) X hP (rfl : kc 48 = 11) rfl cv11_2 rfl cinX2 (by decide) rfl tw320 dX6_readShift_78 ?_
  refine lv_aload_n hx hb dX6_readShift_81 rfl (lv_at hl 0 rfl) ?_
  refine cr_get (k := 1) X hP (rfl : kc 7 = 7) rfl cv7_1 rfl cinX6 (by decide) rfl tw382 dX6_readShift_82 ?_
  refine cr_get (k := 7) X hP (rfl : kc 48 = 11) rfl cv11_7 rfl cinX2 (by decide) rfl tw333 dX6_readShift_85 ?_
  obtain ⟨g1, hf⟩ := gd hf
  refine cr_aald (f := fun i => (48 + 3) + 20 + i) X hP (kc_shifts (rfl : kc 48 = 11)) rfl (fun _ => rfl) rfl g1 dX6_readShift_88 ?_
  refine lv_iload_n hx hb dX6_readShift_89 rfl (lv_at hl 1 rfl) ?_
  refine cr_put (k := 0) X hP hS (kc_shift (kc_shifts (rfl : kc 48 = 11)) g1) rfl cs20_0 rfl cinX7 tyX7_ok nmX7 (by decide) rfl rfl rfl rfl tw302 dX6_readShift_90 (fun H locs hP hS => ?_)
  exact kX6_readShift_93 X hret hf hP hS (lv_sub hl [0] rfl)
set_option maxRecDepth 10000 in
theorem kX6_readShift_72 {r : Int32} {S1 : CS} {M : CS} {H : Heap} {locs : List Loc} {ls : Array Slot} (X : gX p s m args c cX6_readShift 2 RX6 (kR kTab kA)) (hret : gRetI p l e (rmL 7 0 0) s m args below meth c cX6_readShift (cΩ ca) (cP dC dI cg kA ca) Q r S1) (hf : fX6_readShift_72 M = some (r, S1)) (hP : (cP dC dI cg kA ca) M s H) (hS : va_S (Fr (cΩ ca) s.heap.size) s.heap H locs) (hl : lv_has ls 2 [(0, .ref (ca 7))]) : W p l e (rmL 7 0 0) s m args below meth c H locs 0 0 Q (F0 m 72 ls []) := by
  have hx := X.hx
  have hb := X.hb
  have hown := X.hown
  have hts := X.hts
  rw [fX6_readShift_72] at hf
  refine lv_iconst (v := 0) hx hb dX6_readShift_72 (by decide) ?_
  cases hf
  exact hret _ _ _ _ dX6_readShift_73 hP hS
set_option maxRecDepth 10000 in
theorem kX6_readShift_69 {r : Int32} {S1 : CS} {M : CS} {x1 : Int32} {s0 : Int32} {H : Heap} {locs : List Loc} {ls : Array Slot} (X : gX p s m args c cX6_readShift 2 RX6 (kR kTab kA)) (hret : gRetI p l e (rmL 7 0 0) s m args below meth c cX6_readShift (cΩ ca) (cP dC dI cg kA ca) Q r S1) (hf : fX6_readShift_69 M x1 s0 = some (r, S1)) (hP : (cP dC dI cg kA ca) M s H) (hS : va_S (Fr (cΩ ca) s.heap.size) s.heap H locs) (hl : lv_has ls 2 [(0, .ref (ca 7)), (1, .int x1)]) : W p l e (rmL 7 0 0) s m args below meth c H locs 0 0 Q (F0 m 69 ls [.int s0]) := by
  have hx := X.hx
  have hb := X.hb
  have hown := X.hown
  have hts := X.hts
  rw [fX6_readShift_69] at hf
  refine lv_if_ne (tgt := 74) hx hb dX6_readShift_69 (by decide) (fun c1 => ?_) (fun c1 => ?_)
  · exact kX6_readShift_74 X hret (ifn c1 hf) hP hS (lv_sub hl [0, 1] rfl)
  · exact kX6_readShift_72 X hret (ifp c1 hf) hP hS (lv_sub hl [0] rfl)
set_option maxRecDepth 10000 in
theorem kX6_readShift_59 {r : Int32} {S1 : CS} {M : CS} {x1 : Int32} {H : Heap} {locs : List Loc} {ls : Array Slot} (X : gX p s m args c cX6_readShift 2 RX6 (kR kTab kA)) (hret : gRetI p l e (rmL 7 0 0) s m args below meth c cX6_readShift (cΩ ca) (cP dC dI cg kA ca) Q r S1) (hf : fX6_readShift_59 M x1 = some (r, S1)) (hP : (cP dC dI cg kA ca) M s H) (hS : va_S (Fr (cΩ ca) s.heap.size) s.heap H locs) (hl : lv_has ls 2 [(0, .ref (ca 7)), (1, .int x1)]) : W p l e (rmL 7 0 0) s m args below meth c H locs 0 0 Q (F0 m 59 ls []) := by
  have hx := X.hx
  have hb := X.hb
  have hown := X.hown
  have hts := X.hts
  rw [fX6_readShift_59] at hf
  refine lv_aload_n hx hb dX6_readShift_59 rfl (lv_at hl 0 rfl) ?_
  refine cr_get (k := 0) X hP (rfl : kc 7 = 7) rfl cv7_0 rfl cinX6 (by decide) rfl tw381 dX6_readShift_60 ?_
  refine lv_iconst (v := 1) hx hb dX6_readShift_63 (by decide) ?_
  refine lv_bipush (v := 24) hx hb dX6_readShift_64 (by decide) ?_
  obtain ⟨q, hc, hf⟩ := bd hf
  refine gCallVI X cOK rfl (vX8_takeNumber hc) gRX6_X8_takeNumber hdX8_takeNumber rfl ⟨by decide, by decide⟩ hP hS (cr_rec hP (rfl : kc 1 = 1) rfl cw1 rfl) hl.1 (Nat.le_of_ble_eq_true rfl) ⟨Nat.zero_le _, Nat.zero_le _⟩ dX6_readShift_66 (As := [.int 1, .int 24]) (rest := []) rfl (fun H locs hP hS => ?_)
  exact kX6_readShift_69 X hret hf hP hS (lv_sub hl [0, 1] rfl)
set_option maxRecDepth 10000 in
theorem kX6_readShift_58 {r : Int32} {S1 : CS} {M : CS} {s0 : Int32} {H : Heap} {locs : List Loc} {ls : Array Slot} (X : gX p s m args c cX6_readShift 2 RX6 (kR kTab kA)) (hret : gRetI p l e (rmL 7 0 0) s m args below meth c cX6_readShift (cΩ ca) (cP dC dI cg kA ca) Q r S1) (hf : fX6_readShift_58 M s0 = some (r, S1)) (hP : (cP dC dI cg kA ca) M s H) (hS : va_S (Fr (cΩ ca) s.heap.size) s.heap H locs) (hl : lv_has ls 2 [(0, .ref (ca 7))]) : W p l e (rmL 7 0 0) s m args below meth c H locs 0 0 Q (F0 m 58 ls [.int s0]) := by
  have hx := X.hx
  have hb := X.hb
  have hown := X.hown
  have hts := X.hts
  rw [fX6_readShift_58] at hf
  cases hf
  exact hret _ _ _ _ dX6_readShift_58 hP hS
set_option maxRecDepth 10000 in
theorem kX6_readShift_50 {r : Int32} {S1 : CS} {M : CS} {H : Heap} {locs : List Loc} {ls : Array Slot} (X : gX p s m args c cX6_readShift 2 RX6 (kR kTab kA)) (hret : gRetI p l e (rmL 7 0 0) s m args below meth c cX6_readShift (cΩ ca) (cP dC dI cg kA ca) Q r S1) (hf : fX6_readShift_50 M = some (r, S1)) (hP : (cP dC dI cg kA ca) M s H) (hS : va_S (Fr (cΩ ca) s.heap.size) s.heap H locs) (hl : lv_has ls 2 [(0, .ref (ca 7))]) : W p l e (rmL 7 0 0) s m args below meth c H locs 0 0 Q (F0 m 50 ls []) := by
  have hx := X.hx
  have hb := X.hb
  have hown := X.hown
  have hts := X.hts
  rw [fX6_readShift_50] at hf
  refine lv_aload_n hx hb dX6_readShift_50 rfl (lv_at hl 0 rfl) ?_
  refine cr_get (k := 0) X hP (rfl : kc 7 = 7) rfl cv7_0 rfl cinX6 (by decide) rfl tw381 dX6_readShift_51 ?_
  refine lv_iconst (v := 4) hx hb dX6_readShift_54 (by decide) ?_
  obtain ⟨q, hc, hf⟩ := bd hf
  refine gCallVI X cOK rfl (vX8_fail hc) gRX6_X8_fail hdX8_fail rfl ⟨by decide, by decide⟩ hP hS (cr_rec hP (rfl : kc 1 = 1) rfl cw1 rfl) hl.1 (Nat.le_of_ble_eq_true rfl) ⟨Nat.zero_le _, Nat.zero_le _⟩ dX6_readShift_55 (As := [.int 4]) (rest := []) rfl (fun H locs hP hS => ?_)
  exact kX6_readShift_58 X hret hf hP hS (lv_sub hl [0] rfl)
set_option maxRecDepth 10000 in
theorem kX6_readShift_44 {r : Int32} {S1 : CS} {M : CS} {s0 : Int32} {H : Heap} {locs : List Loc} {ls : Array Slot} (X : gX p s m args c cX6_readShift 2 RX6 (kR kTab kA)) (hret : gRetI p l e (rmL 7 0 0) s m args below meth c cX6_readShift (cΩ ca) (cP dC dI cg kA ca) Q r S1) (hf : fX6_readShift_44 M s0 = some (r, S1)) (hP : (cP dC dI cg kA ca) M s H) (hS : va_S (Fr (cΩ ca) s.heap.size) s.heap H locs) (hl : lv_has ls 2 [(0, .ref (ca 7))]) : W p l e (rmL 7 0 0) s m args below meth c H locs 0 0 Q (F0 m 44 ls [.int s0]) := by
  have hx := X.hx
  have hb := X.hb
  have hown := X.hown
  have hts := X.hts
  rw [fX6_readShift_44] at hf
  refine lv_istore_n (lv' := [(1, .int s0), (0, .ref (ca 7))]) hx hb dX6_readShift_44 rfl hl (by decide) rfl (fun ls hl => ?_)
  refine lv_iload_n hx hb dX6_readShift_45 rfl (lv_at hl 0 rfl) ?_
  refine lv_iconst (v := (-1)) hx hb dX6_readShift_46 (by decide) ?_
  refine lv_icmp_ne (tgt := 59) hx hb dX6_readShift_47 (by decide) (fun c1 => ?_) (fun c1 => ?_)
  · exact kX6_readShift_59 X hret (ifn c1 hf) hP hS (lv_sub hl [1, 0] rfl)
  · exact kX6_readShift_50 X hret (ifp c1 hf) hP hS (lv_sub hl [1] rfl)
set_option maxRecDepth 10000 in
theorem kX6_readShift_33 {r : Int32} {S1 : CS} {M : CS} {H : Heap} {locs : List Loc} {ls : Array Slot} (X : gX p s m args c cX6_readShift 2 RX6 (kR kTab kA)) (hret : gRetI p l e (rmL 7 0 0) s m args below meth c cX6_readShift (cΩ ca) (cP dC dI cg kA ca) Q r S1) (hf : fX6_readShift_33 M = some (r, S1)) (hP : (cP dC dI cg kA ca) M s H) (hS : va_S (Fr (cΩ ca) s.heap.size) s.heap H locs) (hl : lv_has ls 2 [(0, .ref (ca 7))]) : W p l e (rmL 7 0 0) s m args below meth c H locs 0 0 Q (F0 m 33 ls []) := by
  have hx := X.hx
  have hb := X.hb
  have hown := X.hown
  have hts := X.hts
  rw [fX6_readShift_33] at hf
  refine lv_aload_n hx hb dX6_readShift_33 rfl (lv_at hl 0 rfl) ?_
  refine cr_get (k := 1) X hP (rfl : kc 7 = 7) rfl cv7_1 rfl cinX6 (by decide) rfl tw382 dX6_readShift_34 ?_
  refine lv_aload_n hx hb dX6_readShift_37 rfl (lv_at hl 0 rfl) ?_
  refine cr_get (k := 0) X hP (rfl : kc 7 = 7) rfl cv7_0 rfl cinX6 (by decide) rfl tw381 dX6_readShift_38 ?_
  obtain ⟨q, hc, hf⟩ := bd hf
  refine gCallVR X rfl (vX2_catNamed (rfl : kc 48 = 11) hc) gRX6_X2_catNamed hdX2_catNamed rfl ⟨by decide, by decide⟩ (gB_blind cOK) (gB_at cOK X hP) (cr_rec hP (rfl : kc 48 = 11) rfl cw11 rfl) hl.1 (Nat.le_of_ble_eq_true rfl) ⟨Nat.zero_le _, Nat.zero_le _⟩ dX6_readShift_41 (As := [.ref (ca 1)]) (rest := []) rfl ?_
  exact kX6_readShift_44 X hret hf hP hS (lv_sub hl [0] rfl)
set_option maxRecDepth 10000 in
theorem kX6_readShift_31 {r : Int32} {S1 : CS} {M : CS} {H : Heap} {locs : List Loc} {ls : Array Slot} (X : gX p s m args c cX6_readShift 2 RX6 (kR kTab kA)) (hret : gRetI p l e (rmL 7 0 0) s m args below meth c cX6_readShift (cΩ ca) (cP dC dI cg kA ca) Q r S1) (hf : fX6_readShift_31 M = some (r, S1)) (hP : (cP dC dI cg kA ca) M s H) (hS : va_S (Fr (cΩ ca) s.heap.size) s.heap H locs) (hl : lv_has ls 2 [(0, .ref (ca 7))]) : W p l e (rmL 7 0 0) s m args below meth c H locs 0 0 Q (F0 m 31 ls []) := by
  have hx := X.hx
  have hb := X.hb
  have hown := X.hown
  have hts := X.hts
  rw [fX6_readShift_31] at hf
  refine lv_iconst (v := 0) hx hb dX6_readShift_31 (by decide) ?_
  cases hf
  exact hret _ _ _ _ dX6_readShift_32 hP hS
set_option maxRecDepth 10000 in
theorem kX6_readShift_28 {r : Int32} {S1 : CS} {M : CS} {s0 : Int32} {H : Heap} {locs : List Loc} {ls : Array Slot} (X : gX p s m args c cX6_readShift 2 RX6 (kR kTab kA)) (hret : gRetI p l e (rmL 7 0 0) s m args below meth c cX6_readShift (cΩ ca) (cP dC dI cg kA ca) Q r S1) (hf : fX6_readShift_28 M s0 = some (r, S1)) (hP : (cP dC dI cg kA ca) M s H) (hS : va_S (Fr (cΩ ca) s.heap.size) s.heap H locs) (hl : lv_has ls 2 [(0, .ref (ca 7))]) : W p l e (rmL 7 0 0) s m args below meth c H locs 0 0 Q (F0 m 28 ls [.int s0]) := by
  have hx := X.hx
  have hb := X.hb
  have hown := X.hown
  have hts := X.hts
  rw [fX6_readShift_28] at hf
  refine lv_if_ne (tgt := 33) hx hb dX6_readShift_28 (by decide) (fun c1 => ?_) (fun c1 => ?_)
  · exact kX6_readShift_33 X hret (ifn c1 hf) hP hS (lv_sub hl [0] rfl)
  · exact kX6_readShift_31 X hret (ifp c1 hf) hP hS (lv_sub hl [0] rfl)
set_option maxRecDepth 10000 in
theorem kX6_readShift_21 {r : Int32} {S1 : CS} {M : CS} {H : Heap} {locs : List Loc} {ls : Array Slot} (X : gX p s m args c cX6_readShift 2 RX6 (kR kTab kA)) (hret : gRetI p l e (rmL 7 0 0) s m args below meth c cX6_readShift (cΩ ca) (cP dC dI cg kA ca) Q r S1) (hf : fX6_readShift_21 M = some (r, S1)) (hP : (cP dC dI cg kA ca) M s H) (hS : va_S (Fr (cΩ ca) s.heap.size) s.heap H locs) (hl : lv_has ls 2 [(0, .ref (ca 7))]) : W p l e (rmL 7 0 0) s m args below meth c H locs 0 0 Q (F0 m 21 ls []) := by
  have hx := X.hx
  have hb := X.hb
  have hown := X.hown
  have hts := X.hts
  rw [fX6_readShift_21] at hf
  refine lv_aload_n hx hb dX6_readShift_21 rfl (lv_at hl 0 rfl) ?_
  refine cr_get (k := 0) X hP (rfl : kc 7 = 7) rfl cv7_0 rfl cinX6 (by decide) rfl tw381 dX6_readShift_22 ?_
  obtain ⟨q, hc, hf⟩ := bd hf
  refine gCallVI X cOK rfl (vX8_takeName hc) gRX6_X8_takeName hdX8_takeName rfl ⟨by decide, by decide⟩ hP hS (cr_rec hP (rfl : kc 1 = 1) rfl cw1 rfl) hl.1 (Nat.le_of_ble_eq_true rfl) ⟨Nat.zero_le _, Nat.zero_le _⟩ dX6_readShift_25 (As := []) (rest := []) rfl (fun H locs hP hS => ?_)
  exact kX6_readShift_28 X hret hf hP hS (lv_sub hl [0] rfl)
set_option maxRecDepth 10000 in
theorem kX6_readShift_20 {r : Int32} {S1 : CS} {M : CS} {s0 : Int32} {H : Heap} {locs : List Loc} {ls : Array Slot} (X : gX p s m args c cX6_readShift 2 RX6 (kR kTab kA)) (hret : gRetI p l e (rmL 7 0 0) s m args below meth c cX6_readShift (cΩ ca) (cP dC dI cg kA ca) Q r S1) (hf : fX6_readShift_20 M s0 = some (r, S1)) (hP : (cP dC dI cg kA ca) M s H) (hS : va_S (Fr (cΩ ca) s.heap.size) s.heap H locs) (hl : lv_has ls 2 [(0, .ref (ca 7))]) : W p l e (rmL 7 0 0) s m args below meth c H locs 0 0 Q (F0 m 20 ls [.int s0]) := by
  have hx := X.hx
  have hb := X.hb
  have hown := X.hown
  have hts := X.hts
  rw [fX6_readShift_20] at hf
  cases hf
  exact hret _ _ _ _ dX6_readShift_20 hP hS
set_option maxRecDepth 10000 in
theorem kX6_readShift_12 {r : Int32} {S1 : CS} {M : CS} {H : Heap} {locs : List Loc} {ls : Array Slot} (X : gX p s m args c cX6_readShift 2 RX6 (kR kTab kA)) (hret : gRetI p l e (rmL 7 0 0) s m args below meth c cX6_readShift (cΩ ca) (cP dC dI cg kA ca) Q r S1) (hf : fX6_readShift_12 M = some (r, S1)) (hP : (cP dC dI cg kA ca) M s H) (hS : va_S (Fr (cΩ ca) s.heap.size) s.heap H locs) (hl : lv_has ls 2 [(0, .ref (ca 7))]) : W p l e (rmL 7 0 0) s m args below meth c H locs 0 0 Q (F0 m 12 ls []) := by
  have hx := X.hx
  have hb := X.hb
  have hown := X.hown
  have hts := X.hts
  rw [fX6_readShift_12] at hf
  refine lv_aload_n hx hb dX6_readShift_12 rfl (lv_at hl 0 rfl) ?_
  refine cr_get (k := 0) X hP (rfl : kc 7 = 7) rfl cv7_0 rfl cinX6 (by decide) rfl tw381 dX6_readShift_13 ?_
  refine lv_iconst (v := 5) hx hb dX6_readShift_16 (by decide) ?_
  obtain ⟨q, hc, hf⟩ := bd hf
  refine gCallVI X cOK rfl (vX8_fail hc) gRX6_X8_fail hdX8_fail rfl ⟨by decide, by decide⟩ hP hS (cr_rec hP (rfl : kc 1 = 1) rfl cw1 rfl) hl.1 (Nat.le_of_ble_eq_true rfl) ⟨Nat.zero_le _, Nat.zero_le _⟩ dX6_readShift_17 (As := [.int 5]) (rest := []) rfl (fun H locs hP hS => ?_)
  exact kX6_readShift_20 X hret hf hP hS (lv_sub hl [0] rfl)
set_option maxRecDepth 10000 in
theorem kX6_readShift_0 {r : Int32} {S1 : CS} {M : CS} {H : Heap} {locs : List Loc} {ls : Array Slot} (X : gX p s m args c cX6_readShift 2 RX6 (kR kTab kA)) (hret : gRetI p l e (rmL 7 0 0) s m args below meth c cX6_readShift (cΩ ca) (cP dC dI cg kA ca) Q r S1) (hf : fX6_readShift_0 M = some (r, S1)) (hP : (cP dC dI cg kA ca) M s H) (hS : va_S (Fr (cΩ ca) s.heap.size) s.heap H locs) (hl : lv_has ls 2 [(0, .ref (ca 7))]) : W p l e (rmL 7 0 0) s m args below meth c H locs 0 0 Q (F0 m 0 ls []) := by
  have hx := X.hx
  have hb := X.hb
  have hown := X.hown
  have hts := X.hts
  rw [fX6_readShift_0] at hf
  refine lv_aload_n hx hb dX6_readShift_0 rfl (lv_at hl 0 rfl) ?_
  refine cr_get (k := 1) X hP (rfl : kc 7 = 7) rfl cv7_1 rfl cinX6 (by decide) rfl tw382 dX6_readShift_1 ?_
  refine cr_get (k := 7) X hP (rfl : kc 48 = 11) rfl cv11_7 rfl cinX2 (by decide) rfl tw333 dX6_readShift_4 ?_
  refine lv_bipush (v := 12) hx hb dX6_readShift_7 (by decide) ?_
  refine lv_icmp_lt (tgt := 21) hx hb dX6_readShift_9 (by decide) (fun c1 => ?_) (fun c1 => ?_)
  · exact kX6_readShift_21 X hret (ifp c1 hf) hP hS (lv_sub hl [0] rfl)
  · exact kX6_readShift_12 X hret (ifn c1 hf) hP hS (lv_sub hl [0] rfl)
theorem vX6_readShift {l : Launch} {dC : Nat → ClassId} {dI : Nat → Nat → Nat} {cg : Nat → ClassId} {kA : String → Nat → Nat} {ca : Nat → Nat} {M S1 : CS} {r : Int32} (hf : fX6_readShift M  = some (r, S1)) : gMetI l yX6_readShift cX6_readShift 2 (some .boolean) 7 (cΩ ca) (cP dC dI cg kA ca) (kR kTab kA) [.ref (ca 7)] M r S1 := gEntryI (ty := .boolean) (by decide) rfl (bz_n hf) cOK (Nat.le_of_ble_eq_true rfl) (fun p e s m args below meth c Q ls X hP hS hret hl => 
  kX6_readShift_0 X hret (bz_f hf) hP hS (lv_sub hl [0] rfl))
