variable {l : Launch} {p : Program} {e : Env} {s : State} {m : MethodId} {args : Array Value} {below : List Frame} {meth : Method} {c : Code} {A : Nat → Prop} {Q : State → Prop}
variable {dC : Nat → ClassId} {dI : Nat → Nat → Nat} {cg : Nat → ClassId} {kA : String → Nat → Nat} {ca : Nat → Nat}
def fX2_greetDawn_98 (t : Nat) (M : CS) : Option (CS) := some M
def fX2_greetDawn_85 (t : Nat) (M : CS) : Option (CS) := (fX1_add M (t + 4) 4 (-1) (M.1 t 12)).bind fun q => fX2_greetDawn_98 t q
def fX2_greetDawn_82 (t : Nat) (M : CS) : Option (CS) := fX2_greetDawn_98 t M
def fX2_greetDawn_69 (t : Nat) (M : CS) (x1 : Int32) : Option (CS) := (fX1_add M (t + 4) 4 x1 (M.1 t 12)).bind fun q => fX2_greetDawn_82 t q
def fX2_greetDawn_64 (t : Nat) (M : CS) (x1 : Int32) : Option (CS) := (fX2_swearIn M t x1).bind fun q => fX2_greetDawn_69 t q x1
def fX2_greetDawn_50 (t : Nat) (M : CS) (x1 : Int32) : Option (CS) := if gIn x1 8 then if 12 ≤ (M.1 ((t + 1) + 8 + x1.toNatClampNeg) 3) then fX2_greetDawn_85 t M else fX2_greetDawn_64 t M x1 else none
def fX2_greetDawn_29 (t : Nat) (M : CS) : Option (CS) := if gIn (M.1 t 9) 12 then if (M.1 t 8) = (-1) then fX2_greetDawn_50 t M (M.1 ((t + 3) + 20 + (M.1 t 9).toNatClampNeg) 0) else fX2_greetDawn_85 t M else none
def fX2_greetDawn_23 (t : Nat) (K2 : CS → Int32 → Option (CS)) (M : CS) (x1 : Int32) : Option (CS) := K2 M (x1 + 1)
def fX2_greetDawn_10 (t : Nat) (K2 : CS → Int32 → Option (CS)) (M : CS) (x1 : Int32) : Option (CS) := if gIn x1 8 then (fX0_recover M ((t + 1) + 8 + x1.toNatClampNeg) (M.1 t 11)).bind fun q => fX2_greetDawn_23 t K2 q x1 else none
def fX2_greetDawn_2 (t : Nat) : Nat → CS → Int32 → Option (CS)
  | 0 => fun _ _ => none
  | k + 1 => fun M x1 => if (M.1 t 5) ≤ x1 then fX2_greetDawn_29 t M else fX2_greetDawn_10 t (fX2_greetDawn_2 t k) M x1
def fX2_greetDawn_0 (t : Nat) (M : CS) : Option (CS) := fX2_greetDawn_2 t FU M 0
def fX2_greetDawn (M : CS) (t : Nat) : Option (CS) := fX2_greetDawn_0 t  M
def fX8_takeName_35 (M : CS) (s0 : Int32) : Option (Int32 × CS) := some (s0, M)
def fX8_takeName_34 (M : CS) : Option (Int32 × CS) := fX8_takeName_35 M 0
def fX8_takeName_30 (M : CS) : Option (Int32 × CS) := fX8_takeName_35 M 1
def fX8_takeName_27 (M : CS) (s0 : Int32) : Option (Int32 × CS) := if s0 = 0 then fX8_takeName_34 M else fX8_takeName_30 M
def fX8_takeName_22 (M : CS) : Option (Int32 × CS) := (fX8_fail M 1).bind fun q => fX8_takeName_27 q.2 q.1
def fX8_takeName_17 (M : CS) (s0 : Int32) : Option (Int32 × CS) := if s0 ≤ 6 then fX8_takeName_30 M else fX8_takeName_22 M
def fX8_takeName_13 (M : CS) : Option (Int32 × CS) := (fX8_tokenLength M ).bind fun q => fX8_takeName_17 M q
def fX8_takeName_4 (M : CS) (s0 : Int32) : Option (Int32 × CS) := if (M.1 1 4) = 1 then fX8_takeName_13 M else fX8_takeName_22 M
def fX8_takeName_0 (M : CS) : Option (Int32 × CS) := (fX8_advance M ).bind fun q => fX8_takeName_4 q.2 q.1
def fX8_takeName (M : CS) : Option (Int32 × CS) := bz (fX8_takeName_0  M)
def fX8_takeSemicolon_26 (M : CS) (s0 : Int32) : Option (Int32 × CS) := some (s0, M)
def fX8_takeSemicolon_21 (M : CS) : Option (Int32 × CS) := fX8_takeSemicolon_26 M 1
def fX8_takeSemicolon_25 (M : CS) : Option (Int32 × CS) := fX8_takeSemicolon_26 M 0
def fX8_takeSemicolon_18 (M : CS) (s0 : Int32) : Option (Int32 × CS) := if s0 = 0 then fX8_takeSemicolon_25 M else fX8_takeSemicolon_21 M
def fX8_takeSemicolon_13 (M : CS) : Option (Int32 × CS) := (fX8_fail M 1).bind fun q => fX8_takeSemicolon_18 q.2 q.1
def fX8_takeSemicolon_4 (M : CS) (s0 : Int32) : Option (Int32 × CS) := if (M.1 1 4) = 3 then fX8_takeSemicolon_21 M else fX8_takeSemicolon_13 M
def fX8_takeSemicolon_0 (M : CS) : Option (Int32 × CS) := (fX8_advance M ).bind fun q => fX8_takeSemicolon_4 q.2 q.1
def fX8_takeSemicolon (M : CS) : Option (Int32 × CS) := bz (fX8_takeSemicolon_0  M)
def fX8_takeNumber_93 (M : CS) (s0 : Int32) : Option (Int32 × CS) := some (s0, M)
def fX8_takeNumber_92 (M : CS) : Option (Int32 × CS) := fX8_takeNumber_93 M 0
def fX8_takeNumber_88 (M : CS) : Option (Int32 × CS) := fX8_takeNumber_93 M 1
def fX8_takeNumber_85 (M : CS) (s0 : Int32) : Option (Int32 × CS) := if s0 = 0 then fX8_takeNumber_92 M else fX8_takeNumber_88 M
def fX8_takeNumber_80 (M : CS) : Option (Int32 × CS) := (fX8_fail M 2).bind fun q => fX8_takeNumber_85 q.2 q.1
def fX8_takeNumber_72 (M : CS) (x2 : Int32) : Option (Int32 × CS) := if (M.1 1 6) ≤ x2 then fX8_takeNumber_88 M else fX8_takeNumber_80 M
def fX8_takeNumber_64 (M : CS) (x1 : Int32) (x2 : Int32) : Option (Int32 × CS) := if (M.1 1 6) < x1 then fX8_takeNumber_80 M else fX8_takeNumber_72 M x2
def fX8_takeNumber_58 (K29 : CS → Int32 → Int32 → Int32 → Option (Int32 × CS)) (M : CS) (x1 : Int32) (x2 : Int32) (x3 : Int32) : Option (Int32 × CS) := K29 M x1 x2 (x3 + 1)
def fX8_takeNumber_37 (K29 : CS → Int32 → Int32 → Int32 → Option (Int32 × CS)) (M : CS) (x1 : Int32) (x2 : Int32) (x3 : Int32) : Option (Int32 × CS) := if gIn x3 600 then fX8_takeNumber_58 K29 (va_up M.1 1 (upd (M.1 1) 6 ((((M.1 1 6) * 10) + (M.1 2 x3.toNatClampNeg)) - 48)), M.2) x1 x2 x3 else none
def fX8_takeNumber_29 : Nat → CS → Int32 → Int32 → Int32 → Option (Int32 × CS)
  | 0 => fun _ _ _ _ => none
  | k + 1 => fun M x1 x2 x3 => if (M.1 1 3) ≤ x3 then fX8_takeNumber_64 M x1 x2 else fX8_takeNumber_37 (fX8_takeNumber_29 k) M x1 x2 x3
def fX8_takeNumber_24 (M : CS) (x1 : Int32) (x2 : Int32) : Option (Int32 × CS) := fX8_takeNumber_29 FU M x1 x2 (M.1 1 5)
def fX8_takeNumber_19 (M : CS) (x1 : Int32) (x2 : Int32) : Option (Int32 × CS) := fX8_takeNumber_24 (va_up M.1 1 (upd (M.1 1) 6 0), M.2) x1 x2
def fX8_takeNumber_18 (M : CS) (s0 : Int32) : Option (Int32 × CS) := some (s0, M)
def fX8_takeNumber_13 (M : CS) : Option (Int32 × CS) := (fX8_fail M 1).bind fun q => fX8_takeNumber_18 q.2 q.1
def fX8_takeNumber_4 (M : CS) (x1 : Int32) (x2 : Int32) (s0 : Int32) : Option (Int32 × CS) := if (M.1 1 4) = 2 then fX8_takeNumber_19 M x1 x2 else fX8_takeNumber_13 M
def fX8_takeNumber_0 (M : CS) (a1 : Int32) (a2 : Int32) : Option (Int32 × CS) := (fX8_advance M ).bind fun q => fX8_takeNumber_4 q.2 a1 a2 q.1
def fX8_takeNumber (M : CS) (a1 : Int32) (a2 : Int32) : Option (Int32 × CS) := bz (fX8_takeNumber_0  M a1 a2)
def fX10_appendInput_60 (M : CS) : Option (Int32 × CS) := some ((M.1 1 2), M)
def fX10_appendInput_51 (M : CS) (x5 : Int32) : Option (Int32 × CS) := (fX8_appendFour M x5).bind fun q => fX10_appendInput_60 q
def fX10_appendInput_42 (M : CS) (x4 : Int32) (x5 : Int32) : Option (Int32 × CS) := (fX8_appendFour M x4).bind fun q => fX10_appendInput_51 q x5
def fX10_appendInput_34 (M : CS) (x3 : Int32) (x4 : Int32) (x5 : Int32) : Option (Int32 × CS) := (fX8_appendFour M x3).bind fun q => fX10_appendInput_42 q x4 x5
def fX10_appendInput_26 (M : CS) (x2 : Int32) (x3 : Int32) (x4 : Int32) (x5 : Int32) : Option (Int32 × CS) := (fX8_appendFour M x2).bind fun q => fX10_appendInput_34 q x3 x4 x5
def fX10_appendInput_18 (M : CS) (x1 : Int32) (x2 : Int32) (x3 : Int32) (x4 : Int32) (x5 : Int32) : Option (Int32 × CS) := (fX8_appendFour M x1).bind fun q => fX10_appendInput_26 q x2 x3 x4 x5
def fX10_appendInput_16 (M : CS) : Option (Int32 × CS) := some ((-1), M)
def fX10_appendInput_0 (M : CS) (a1 : Int32) (a2 : Int32) (a3 : Int32) (a4 : Int32) (a5 : Int32) : Option (Int32 × CS) := if ((M.1 1 2) + 20) ≤ 600 then fX10_appendInput_18 M a1 a2 a3 a4 a5 else fX10_appendInput_16 M
def fX10_appendInput (M : CS) (a1 : Int32) (a2 : Int32) (a3 : Int32) (a4 : Int32) (a5 : Int32) : Option (Int32 × CS) := fX10_appendInput_0  M a1 a2 a3 a4 a5
def fX10_strengthOf_8 (M : CS) (s0 : Int32) : Option (Int32) := some s0
def fX10_strengthOf_5 (M : CS) (z0 : Nat) : Option (Int32) := (fX0_strength M z0).bind fun q => fX10_strengthOf_8 M q
def fX10_strengthOf_0 (M : CS) (a1 : Int32) : Option (Int32) := (fX10_catAt M a1).bind fun q => fX10_strengthOf_5 M q
def fX10_strengthOf (M : CS) (a1 : Int32) : Option (Int32) := fX10_strengthOf_0  M a1
def fX10_eventKind_40 (M : CS) (s0 : Int32) : Option (Int32) := some s0
def fX10_eventKind_39 (M : CS) : Option (Int32) := fX10_eventKind_40 M (-1)
def fX10_eventKind_35 (M : CS) (s0 : Int32) : Option (Int32) := if gIn s0 16 then fX10_eventKind_40 M (M.1 ((13 + 4) + 1) s0.toNatClampNeg) else none
def fX10_eventKind_14 (M : CS) (x1 : Int32) : Option (Int32) := (fX1_slot M (13 + 4) x1).bind fun q => fX10_eventKind_35 M q
def fX10_eventKind_11 (M : CS) (x1 : Int32) (s0 : Int32) : Option (Int32) := if s0 = 0 then fX10_eventKind_39 M else fX10_eventKind_14 M x1
def fX10_eventKind_0 (M : CS) (a1 : Int32) : Option (Int32) := (fX1_holds M (13 + 4) a1).bind fun q => fX10_eventKind_11 M a1 q
def fX10_eventKind (M : CS) (a1 : Int32) : Option (Int32) := fX10_eventKind_0  M a1
def fX10_eventCat_40 (M : CS) (s0 : Int32) : Option (Int32) := some s0
def fX10_eventCat_39 (M : CS) : Option (Int32) := fX10_eventCat_40 M (-1)
def fX10_eventCat_35 (M : CS) (s0 : Int32) : Option (Int32) := if gIn s0 16 then fX10_eventCat_40 M (M.1 ((13 + 4) + 2) s0.toNatClampNeg) else none
def fX10_eventCat_14 (M : CS) (x1 : Int32) : Option (Int32) := (fX1_slot M (13 + 4) x1).bind fun q => fX10_eventCat_35 M q
def fX10_eventCat_11 (M : CS) (x1 : Int32) (s0 : Int32) : Option (Int32) := if s0 = 0 then fX10_eventCat_39 M else fX10_eventCat_14 M x1
def fX10_eventCat_0 (M : CS) (a1 : Int32) : Option (Int32) := (fX1_holds M (13 + 4) a1).bind fun q => fX10_eventCat_11 M a1 q
def fX10_eventCat (M : CS) (a1 : Int32) : Option (Int32) := fX10_eventCat_0  M a1
def fX10_eventNumber_40 (M : CS) (s0 : Int32) : Option (Int32) := some s0
def fX10_eventNumber_39 (M : CS) : Option (Int32) := fX10_eventNumber_40 M (-1)
def fX10_eventNumber_35 (M : CS) (s0 : Int32) : Option (Int32) := if gIn s0 16 then fX10_eventNumber_40 M (M.1 ((13 + 4) + 3) s0.toNatClampNeg) else none
def fX10_eventNumber_14 (M : CS) (x1 : Int32) : Option (Int32) := (fX1_slot M (13 + 4) x1).bind fun q => fX10_eventNumber_35 M q
def fX10_eventNumber_11 (M : CS) (x1 : Int32) (s0 : Int32) : Option (Int32) := if s0 = 0 then fX10_eventNumber_39 M else fX10_eventNumber_14 M x1
def fX10_eventNumber_0 (M : CS) (a1 : Int32) : Option (Int32) := (fX1_holds M (13 + 4) a1).bind fun q => fX10_eventNumber_11 M a1 q
def fX10_eventNumber (M : CS) (a1 : Int32) : Option (Int32) := fX10_eventNumber_0  M a1
def fX10_isConsistent_35 (M : CS) (s0 : Int32) : Option (Int32) := some s0
def fX10_isConsistent_34 (M : CS) : Option (Int32) := fX10_isConsistent_35 M 0
def fX10_isConsistent_30 (M : CS) : Option (Int32) := fX10_isConsistent_35 M 1
def fX10_isConsistent_27 (M : CS) (s0 : Int32) : Option (Int32) := if s0 = 0 then fX10_isConsistent_34 M else fX10_isConsistent_30 M
def fX10_isConsistent_20 (M : CS) : Option (Int32) := (fX2_catsAddUp M 13).bind fun q => fX10_isConsistent_27 M q
def fX10_isConsistent_17 (M : CS) (s0 : Int32) : Option (Int32) := if s0 = 0 then fX10_isConsistent_34 M else fX10_isConsistent_20 M
def fX10_isConsistent_10 (M : CS) : Option (Int32) := (fX2_grainAddsUp M 13).bind fun q => fX10_isConsistent_17 M q
def fX10_isConsistent_7 (M : CS) (s0 : Int32) : Option (Int32) := if s0 = 0 then fX10_isConsistent_34 M else fX10_isConsistent_10 M
def fX10_isConsistent_0 (M : CS) : Option (Int32) := (fX2_miceAddUp M 13).bind fun q => fX10_isConsistent_7 M q
def fX10_isConsistent (M : CS) : Option (Int32) := bq (fX10_isConsistent_0  M)
def fX2_passHour_92 (t : Nat) (M : CS) : Option (CS) := some M
def fX2_passHour_88 (t : Nat) (M : CS) : Option (CS) := (fX2_greetDawn M t).bind fun q => fX2_passHour_92 t q
def fX2_passHour_76 (t : Nat) (M : CS) : Option (CS) := if ((M.1 t 12) - (M.1 t 12) / 24 * 24) = 6 then fX2_passHour_88 t M else fX2_passHour_92 t M
def fX2_passHour_72 (t : Nat) (M : CS) : Option (CS) := (fX2_changeShift M t).bind fun q => fX2_passHour_76 t q
def fX2_passHour_65 (t : Nat) (M : CS) : Option (CS) := if 0 < (M.1 t 10) then fX2_passHour_76 t M else fX2_passHour_72 t M
def fX2_passHour_55 (t : Nat) (M : CS) : Option (CS) := fX2_passHour_65 t (va_up M.1 t (upd (M.1 t) 10 ((M.1 t 10) - 1)), M.2)
def fX2_passHour_49 (t : Nat) (M : CS) (s0 : Int32) : Option (CS) := (fX2_restAllBut M t s0).bind fun q => fX2_passHour_55 t q
def fX2_passHour_45 (t : Nat) (M : CS) : Option (CS) := (fX2_hunt M t).bind fun q => fX2_passHour_49 t q.2 q.1
def fX2_passHour_41 (t : Nat) (M : CS) : Option (CS) := (fX2_growMice M t).bind fun q => fX2_passHour_45 t q
def fX2_passHour_31 (t : Nat) (M : CS) : Option (CS) := if ((M.1 t 12) - (M.1 t 12) / 24 * 24) = 0 then fX2_passHour_41 t M else fX2_passHour_45 t M
def fX2_passHour_25 (t : Nat) (K12 : CS → Int32 → Option (CS)) (M : CS) (x1 : Int32) : Option (CS) := K12 M (x1 + 1)
def fX2_passHour_20 (t : Nat) (K12 : CS → Int32 → Option (CS)) (M : CS) (x1 : Int32) : Option (CS) := (fX2_feedMice M t x1).bind fun q => fX2_passHour_25 t K12 q x1
def fX2_passHour_12 (t : Nat) : Nat → CS → Int32 → Option (CS)
  | 0 => fun _ _ => none
  | k + 1 => fun M x1 => if (M.1 t 6) ≤ x1 then fX2_passHour_31 t M else fX2_passHour_20 t (fX2_passHour_12 t k) M x1
def fX2_passHour_10 (t : Nat) (M : CS) : Option (CS) := fX2_passHour_12 t FU M 0
def fX2_passHour_0 (t : Nat) (M : CS) : Option (CS) := fX2_passHour_10 t (va_up M.1 t (upd (M.1 t) 12 ((M.1 t 12) + 1)), M.2)
def fX2_passHour (M : CS) (t : Nat) : Option (CS) := fX2_passHour_0 t  M
def fX5_readNumber_15 (M : CS) : Option (Int32 × CS) := some (1, M)
def fX5_readNumber_62 (M : CS) : Option (Int32 × CS) := some (1, M)
def fX5_readNumber_46 (M : CS) : Option (Int32 × CS) := if gIn (M.1 8 5) 30 then fX5_readNumber_62 (va_up M.1 11 (upd (M.1 11) (M.1 8 5).toNatClampNeg (M.1 1 6)), M.2) else none
def fX5_readNumber_44 (M : CS) : Option (Int32 × CS) := some (0, M)
def fX5_readNumber_41 (M : CS) (s0 : Int32) : Option (Int32 × CS) := if s0 = 0 then fX5_readNumber_44 M else fX5_readNumber_46 M
def fX5_readNumber_38 (M : CS) (s0 : Int32) (s1 : Int32) : Option (Int32 × CS) := (fX8_takeNumber M s1 s0).bind fun q => fX5_readNumber_41 q.2 q.1
def fX5_readNumber_28 (M : CS) (x1 : Int32) (s0 : Int32) : Option (Int32 × CS) := (fX5_mostOf M x1).bind fun q => fX5_readNumber_38 M q s0
def fX5_readNumber_27 (M : CS) (x1 : Int32) : Option (Int32 × CS) := fX5_readNumber_28 M x1 1
def fX5_readNumber_23 (M : CS) (x1 : Int32) : Option (Int32 × CS) := fX5_readNumber_28 M x1 0
def fX5_readNumber_17 (M : CS) (x1 : Int32) : Option (Int32 × CS) := if x1 = 6 then fX5_readNumber_23 M x1 else fX5_readNumber_27 M x1
def fX5_readNumber_10 (M : CS) (x1 : Int32) : Option (Int32 × CS) := if x1 = 5 then fX5_readNumber_15 M else fX5_readNumber_17 M x1
def fX5_readNumber_5 (M : CS) (x1 : Int32) : Option (Int32 × CS) := if x1 = 2 then fX5_readNumber_15 M else fX5_readNumber_10 M x1
def fX5_readNumber_0 (M : CS) (a1 : Int32) : Option (Int32 × CS) := if a1 = 1 then fX5_readNumber_15 M else fX5_readNumber_5 M a1
def fX5_readNumber (M : CS) (a1 : Int32) : Option (Int32 × CS) := bz (fX5_readNumber_0  M a1)
def fX6_readMilk_36 (M : CS) (s0 : Int32) : Option (Int32 × CS) := some (s0, M)
def fX6_readMilk_29 (M : CS) : Option (Int32 × CS) := (fX8_takeSemicolon M ).bind fun q => fX6_readMilk_36 q.2 q.1
def fX6_readMilk_15 (M : CS) : Option (Int32 × CS) := fX6_readMilk_29 (va_up M.1 48 (upd (M.1 48) 11 (M.1 1 6)), M.2)
def fX6_readMilk_13 (M : CS) : Option (Int32 × CS) := some (0, M)
def fX6_readMilk_10 (M : CS) (s0 : Int32) : Option (Int32 × CS) := if s0 = 0 then fX6_readMilk_13 M else fX6_readMilk_15 M
def fX6_readMilk_0 (M : CS) : Option (Int32 × CS) := (fX8_takeNumber M 0 9).bind fun q => fX6_readMilk_10 q.2 q.1
def fX6_readMilk (M : CS) : Option (Int32 × CS) := bz (fX6_readMilk_0  M)
def fX6_readHour_36 (M : CS) (s0 : Int32) : Option (Int32 × CS) := some (s0, M)
def fX6_readHour_29 (M : CS) : Option (Int32 × CS) := (fX8_takeSemicolon M ).bind fun q => fX6_readHour_36 q.2 q.1
def fX6_readHour_15 (M : CS) : Option (Int32 × CS) := fX6_readHour_29 (va_up M.1 48 (upd (M.1 48) 12 (M.1 1 6)), M.2)
def fX6_readHour_13 (M : CS) : Option (Int32 × CS) := some (0, M)
def fX6_readHour_10 (M : CS) (s0 : Int32) : Option (Int32 × CS) := if s0 = 0 then fX6_readHour_13 M else fX6_readHour_15 M
def fX6_readHour_0 (M : CS) : Option (Int32 × CS) := (fX8_takeNumber M 0 23).bind fun q => fX6_readHour_10 q.2 q.1
def fX6_readHour (M : CS) : Option (Int32 × CS) := bz (fX6_readHour_0  M)
def fX10_undo_59 (M : CS) : Option (Int32 × CS) := some ((M.1 0 11), M)
def fX10_undo_49 (M : CS) : Option (Int32 × CS) := fX10_undo_59 (va_up M.1 0 (upd (M.1 0) 11 ((M.1 0 11) - 1)), M.2)
def fX10_undo_33 (M : CS) : Option (Int32 × CS) := if gIn (M.1 0 10) 8 then (fX2_copyFrom M 13 (153 + 35 * (M.1 0 10).toNatClampNeg)).bind fun q => fX10_undo_49 q else none
def fX10_undo_30 (M : CS) (s0 : Int32) : Option (Int32 × CS) := fX10_undo_33 (va_up M.1 0 (upd (M.1 0) 10 s0), M.2)
def fX10_undo_18 (M : CS) : Option (Int32 × CS) := (fJ9_floorMod_7cf53 M ((M.1 0 10) - 1) 8).bind fun q => fX10_undo_30 M q
def fX10_undo_7 (M : CS) : Option (Int32 × CS) := none
def fX10_undo_0 (M : CS) : Option (Int32 × CS) := if (M.1 0 11) = 0 then fX10_undo_7 M else fX10_undo_18 M
def fX10_undo (M : CS) : Option (Int32 × CS) := fX10_undo_0  M
def fX10_saveState_16 (M : CS) : Option (Int32 × CS) := some ((M.1 13 12), M)
def fX10_saveState_11 (M : CS) : Option (Int32 × CS) := fX10_saveState_16 (va_up M.1 0 (upd (M.1 0) 9 1), M.2)
def fX10_saveState_0 (M : CS) : Option (Int32 × CS) := (fX2_copyFrom M 118 13).bind fun q => fX10_saveState_11 q
def fX10_saveState (M : CS) : Option (Int32 × CS) := fX10_saveState_0  M
def fX10_restoreState_34 (M : CS) : Option (Int32 × CS) := some ((M.1 13 12), M)
def fX10_restoreState_29 (M : CS) : Option (Int32 × CS) := fX10_restoreState_34 (va_up M.1 0 (upd (M.1 0) 11 0), M.2)
def fX10_restoreState_18 (M : CS) : Option (Int32 × CS) := (fX2_copyFrom M 13 118).bind fun q => fX10_restoreState_29 q
def fX10_restoreState_7 (M : CS) : Option (Int32 × CS) := none
def fX10_restoreState_0 (M : CS) : Option (Int32 × CS) := if (M.1 0 9) = 0 then fX10_restoreState_7 M else fX10_restoreState_18 M
def fX10_restoreState (M : CS) : Option (Int32 × CS) := fX10_restoreState_0  M
def fX10_remember_44 (M : CS) : Option (CS) := some M
def fX10_remember_29 (M : CS) : Option (CS) := fX10_remember_44 (va_up M.1 0 (upd (M.1 0) 11 (if 8 < ((M.1 0 11) + 1) then 8 else ((M.1 0 11) + 1))), M.2)
def fX10_remember_16 (M : CS) : Option (CS) := fX10_remember_29 (va_up M.1 0 (upd (M.1 0) 10 (((M.1 0 10) + 1) - ((M.1 0 10) + 1) / 8 * 8)), M.2)
def fX10_remember_0 (M : CS) : Option (CS) := if gIn (M.1 0 10) 8 then (fX2_copyFrom M (153 + 35 * (M.1 0 10).toNatClampNeg) 13).bind fun q => fX10_remember_16 q else none
def fX10_remember (M : CS) : Option (CS) := fX10_remember_0  M
def fX2_passHours_25 (t : Nat) (M : CS) (x2 : Int32) : Option (Int32 × CS) := some (((M.1 (t + 8) 0) - x2), M)
def fX2_passHours_19 (t : Nat) (K10 : CS → Int32 → Int32 → Int32 → Option (Int32 × CS)) (M : CS) (x1 : Int32) (x2 : Int32) (x3 : Int32) : Option (Int32 × CS) := K10 M x1 x2 (x3 + 1)
def fX2_passHours_15 (t : Nat) (K10 : CS → Int32 → Int32 → Int32 → Option (Int32 × CS)) (M : CS) (x1 : Int32) (x2 : Int32) (x3 : Int32) : Option (Int32 × CS) := (fX2_passHour M t).bind fun q => fX2_passHours_19 t K10 q x1 x2 x3
def fX2_passHours_10 (t : Nat) : Nat → CS → Int32 → Int32 → Int32 → Option (Int32 × CS)
  | 0 => fun _ _ _ _ => none
  | k + 1 => fun M x1 x2 x3 => if x1 ≤ x3 then fX2_passHours_25 t M x2 else fX2_passHours_15 t (fX2_passHours_10 t k) M x1 x2 x3
def fX2_passHours_0 (t : Nat) (M : CS) (a1 : Int32) : Option (Int32 × CS) := fX2_passHours_10 t FU M a1 (M.1 (t + 8) 0) 0
def fX2_passHours (M : CS) (t : Nat) (a1 : Int32) : Option (Int32 × CS) := fX2_passHours_0 t  M a1
def fX3_putSack_72 (b1 : Nat) (M : CS) : Option (CS) := some M
def fX3_putSack_66 (b1 : Nat) (M : CS) : Option (CS) := (fX3_put M 39).bind fun q => fX3_putSack_72 b1 q
def fX3_putSack_59 (b1 : Nat) (M : CS) : Option (CS) := if (M.1 b1 3) = 0 then fX3_putSack_72 b1 M else fX3_putSack_66 b1 M
def fX3_putSack_51 (b1 : Nat) (M : CS) : Option (CS) := (fX3_putNumber M (M.1 b1 2)).bind fun q => fX3_putSack_59 b1 q
def fX3_putSack_45 (b1 : Nat) (M : CS) : Option (CS) := (fX3_put M 47).bind fun q => fX3_putSack_51 b1 q
def fX3_putSack_37 (b1 : Nat) (M : CS) : Option (CS) := (fX3_putNumber M (M.1 b1 1)).bind fun q => fX3_putSack_45 b1 q
def fX3_putSack_31 (b1 : Nat) (M : CS) : Option (CS) := (fX3_put M 58).bind fun q => fX3_putSack_37 b1 q
def fX3_putSack_25 (b1 : Nat) (K2 : CS → Int32 → Option (CS)) (M : CS) (x2 : Int32) : Option (CS) := K2 M (x2 + 1)
def fX3_putSack_13 (b1 : Nat) (K2 : CS → Int32 → Option (CS)) (M : CS) (x2 : Int32) : Option (CS) := if gIn x2 (M.2 b1).length then (fX3_put M ((M.2 b1).getD x2.toNatClampNeg 0)).bind fun q => fX3_putSack_25 b1 K2 q x2 else none
def fX3_putSack_2 (b1 : Nat) : Nat → CS → Int32 → Option (CS)
  | 0 => fun _ _ => none
  | k + 1 => fun M x2 => if (Int32.ofNat (M.2 b1).length) ≤ x2 then fX3_putSack_31 b1 M else fX3_putSack_13 b1 (fX3_putSack_2 b1 k) M x2
def fX3_putSack_0 (b1 : Nat) (M : CS) : Option (CS) := fX3_putSack_2 b1 FU M 0
def fX3_putSack (M : CS) (b1 : Nat) : Option (CS) := fX3_putSack_0 b1  M
set_option maxRecDepth 10000 in
theorem kX2_greetDawn_98 {S1 : CS} {t : Nat} {M : CS} {H : Heap} {locs : List Loc} {ls : Array Slot} (X : gX p s m args c cX2_greetDawn 2 RX2 (kR kTab kA)) (hret : gRetV p l e (rmL 3 0 0) s m args below meth c cX2_greetDawn (cΩ ca) (cP dC dI cg kA ca) Q S1) (hkt : kc t = 11) (hf : fX2_greetDawn_98 t M = some S1) (hP : (cP dC dI cg kA ca) M s H) (hS : va_S (Fr (cΩ ca) s.heap.size) s.heap H locs) (hl : lv_has ls 2 [(0, .ref (ca t))]) : W p l e (rmL 3 0 0) s m args below meth c H locs 0 0 Q (F0 m 98 ls []) := by
  have hx := X.hx
  have hb := X.hb
  have hown := X.hown
  have hts := X.hts
  rw [fX2_greetDawn_98] at hf
  cases hf
  exact hret _ _ _ _ dX2_greetDawn_98 hP hS
set_option maxRecDepth 10000 in
theorem kX2_greetDawn_85 {S1 : CS} {t : Nat} {M : CS} {H : Heap} {locs : List Loc} {ls : Array Slot} (X : gX p s m args c cX2_greetDawn 2 RX2 (kR kTab kA)) (hret : gRetV p l e (rmL 3 0 0) s m args below meth c cX2_greetDawn (cΩ ca) (cP dC dI cg kA ca) Q S1) (hkt : kc t = 11) (hf : fX2_greetDawn_85 t M = some S1) (hP : (cP dC dI cg kA ca) M s H) (hS : va_S (Fr (cΩ ca) s.heap.size) s.heap H locs) (hl : lv_has ls 2 [(0, .ref (ca t))]) : W p l e (rmL 3 0 0) s m args below meth c H locs 0 0 Q (F0 m 85 ls []) := by
  have hx := X.hx
  have hb := X.hb
  have hown := X.hown
  have hts := X.hts
  rw [fX2_greetDawn_85] at hf
  refine lv_aload_n hx hb dX2_greetDawn_85 rfl (lv_at hl 0 rfl) ?_
  refine cr_get (k := 3) X hP hkt rfl cv11_3 rfl cinX2 (by decide) rfl tw322 dX2_greetDawn_86 ?_
  refine lv_iconst (v := 4) hx hb dX2_greetDawn_89 (by decide) ?_
  refine lv_iconst (v := (-1)) hx hb dX2_greetDawn_90 (by decide) ?_
  refine lv_aload_n hx hb dX2_greetDawn_91 rfl (lv_at hl 0 rfl) ?_
  refine cr_get (k := 12) X hP hkt rfl cv11_12 rfl cinX2 (by decide) rfl tw344 dX2_greetDawn_92 ?_
  obtain ⟨q, hc, hf⟩ := bd hf
  refine gCallVV X cOK rfl (vX1_add (kc_events hkt) hc) gRX2_X1_add hdX1_add rfl ⟨by decide, by decide⟩ hP hS (cr_rec hP (kc_events hkt) rfl cw15 rfl) hl.1 (Nat.le_of_ble_eq_true rfl) ⟨Nat.zero_le _, Nat.zero_le _⟩ dX2_greetDawn_95 (As := [.int 4, .int (-1), .int (M.1 t 12)]) (rest := []) rfl (fun H locs hP hS => ?_)
  exact kX2_greetDawn_98 X hret hkt hf hP hS (lv_sub hl [0] rfl)
set_option maxRecDepth 10000 in
theorem kX2_greetDawn_82 {S1 : CS} {t : Nat} {M : CS} {H : Heap} {locs : List Loc} {ls : Array Slot} (X : gX p s m args c cX2_greetDawn 2 RX2 (kR kTab kA)) (hret : gRetV p l e (rmL 3 0 0) s m args below meth c cX2_greetDawn (cΩ ca) (cP dC dI cg kA ca) Q S1) (hkt : kc t = 11) (hf : fX2_greetDawn_82 t M = some S1) (hP : (cP dC dI cg kA ca) M s H) (hS : va_S (Fr (cΩ ca) s.heap.size) s.heap H locs) (hl : lv_has ls 2 [(0, .ref (ca t))]) : W p l e (rmL 3 0 0) s m args below meth c H locs 0 0 Q (F0 m 82 ls []) := by
  have hx := X.hx
  have hb := X.hb
  have hown := X.hown
  have hts := X.hts
  rw [fX2_greetDawn_82] at hf
  refine lv_goto (tgt := 98) hx hb dX2_greetDawn_82 (by decide) ?_
  exact kX2_greetDawn_98 X hret hkt hf hP hS (lv_sub hl [0] rfl)
set_option maxRecDepth 10000 in
theorem kX2_greetDawn_69 {S1 : CS} {t : Nat} {M : CS} {x1 : Int32} {H : Heap} {locs : List Loc} {ls : Array Slot} (X : gX p s m args c cX2_greetDawn 2 RX2 (kR kTab kA)) (hret : gRetV p l e (rmL 3 0 0) s m args below meth c cX2_greetDawn (cΩ ca) (cP dC dI cg kA ca) Q S1) (hkt : kc t = 11) (hf : fX2_greetDawn_69 t M x1 = some S1) (hP : (cP dC dI cg kA ca) M s H) (hS : va_S (Fr (cΩ ca) s.heap.size) s.heap H locs) (hl : lv_has ls 2 [(0, .ref (ca t)), (1, .int x1)]) : W p l e (rmL 3 0 0) s m args below meth c H locs 0 0 Q (F0 m 69 ls []) := by
  have hx := X.hx
  have hb := X.hb
  have hown := X.hown
  have hts := X.hts
  rw [fX2_greetDawn_69] at hf
  refine lv_aload_n hx hb dX2_greetDawn_69 rfl (lv_at hl 0 rfl) ?_
  refine cr_get (k := 3) X hP hkt rfl cv11_3 rfl cinX2 (by decide) rfl tw322 dX2_greetDawn_70 ?_
  refine lv_iconst (v := 4) hx hb dX2_greetDawn_73 (by decide) ?_
  refine lv_iload_n hx hb dX2_greetDawn_74 rfl (lv_at hl 1 rfl) ?_
  refine lv_aload_n hx hb dX2_greetDawn_75 rfl (lv_at hl 0 rfl) ?_
  refine cr_get (k := 12) X hP hkt rfl cv11_12 rfl cinX2 (by decide) rfl tw344 dX2_greetDawn_76 ?_
  obtain ⟨q, hc, hf⟩ := bd hf
  refine gCallVV X cOK rfl (vX1_add (kc_events hkt) hc) gRX2_X1_add hdX1_add rfl ⟨by decide, by decide⟩ hP hS (cr_rec hP (kc_events hkt) rfl cw15 rfl) hl.1 (Nat.le_of_ble_eq_true rfl) ⟨Nat.zero_le _, Nat.zero_le _⟩ dX2_greetDawn_79 (As := [.int 4, .int x1, .int (M.1 t 12)]) (rest := []) rfl (fun H locs hP hS => ?_)
  exact kX2_greetDawn_82 X hret hkt hf hP hS (lv_sub hl [0] rfl)
set_option maxRecDepth 10000 in
theorem kX2_greetDawn_64 {S1 : CS} {t : Nat} {M : CS} {x1 : Int32} {H : Heap} {locs : List Loc} {ls : Array Slot} (X : gX p s m args c cX2_greetDawn 2 RX2 (kR kTab kA)) (hret : gRetV p l e (rmL 3 0 0) s m args below meth c cX2_greetDawn (cΩ ca) (cP dC dI cg kA ca) Q S1) (hkt : kc t = 11) (hf : fX2_greetDawn_64 t M x1 = some S1) (hP : (cP dC dI cg kA ca) M s H) (hS : va_S (Fr (cΩ ca) s.heap.size) s.heap H locs) (hl : lv_has ls 2 [(0, .ref (ca t)), (1, .int x1)]) : W p l e (rmL 3 0 0) s m args below meth c H locs 0 0 Q (F0 m 64 ls []) := by
  have hx := X.hx
  have hb := X.hb
  have hown := X.hown
  have hts := X.hts
  rw [fX2_greetDawn_64] at hf
  refine lv_aload_n hx hb dX2_greetDawn_64 rfl (lv_at hl 0 rfl) ?_
  refine lv_iload_n hx hb dX2_greetDawn_65 rfl (lv_at hl 1 rfl) ?_
  obtain ⟨q, hc, hf⟩ := bd hf
  refine gCallVV X cOK rfl (vX2_swearIn hkt hc) gRX2_X2_swearIn hdX2_swearIn rfl ⟨by decide, by decide⟩ hP hS (cr_rec hP hkt rfl cw11 rfl) hl.1 (Nat.le_of_ble_eq_true rfl) ⟨Nat.zero_le _, Nat.zero_le _⟩ dX2_greetDawn_66 (As := [.int x1]) (rest := []) rfl (fun H locs hP hS => ?_)
  exact kX2_greetDawn_69 X hret hkt hf hP hS (lv_sub hl [0, 1] rfl)
set_option maxRecDepth 10000 in
theorem kX2_greetDawn_50 {S1 : CS} {t : Nat} {M : CS} {x1 : Int32} {H : Heap} {locs : List Loc} {ls : Array Slot} (X : gX p s m args c cX2_greetDawn 2 RX2 (kR kTab kA)) (hret : gRetV p l e (rmL 3 0 0) s m args below meth c cX2_greetDawn (cΩ ca) (cP dC dI cg kA ca) Q S1) (hkt : kc t = 11) (hf : fX2_greetDawn_50 t M x1 = some S1) (hP : (cP dC dI cg kA ca) M s H) (hS : va_S (Fr (cΩ ca) s.heap.size) s.heap H locs) (hl : lv_has ls 2 [(0, .ref (ca t)), (1, .int x1)]) : W p l e (rmL 3 0 0) s m args below meth c H locs 0 0 Q (F0 m 50 ls []) := by
  have hx := X.hx
  have hb := X.hb
  have hown := X.hown
  have hts := X.hts
  rw [fX2_greetDawn_50] at hf
  refine lv_aload_n hx hb dX2_greetDawn_50 rfl (lv_at hl 0 rfl) ?_
  refine cr_get (k := 0) X hP hkt rfl cv11_0 rfl cinX2 (by decide) rfl tw313 dX2_greetDawn_51 ?_
  refine lv_iload_n hx hb dX2_greetDawn_54 rfl (lv_at hl 1 rfl) ?_
  obtain ⟨g1, hf⟩ := gd hf
  refine cr_aald (f := fun i => (t + 1) + 8 + i) X hP (kc_cats hkt) rfl (fun _ => rfl) rfl g1 dX2_greetDawn_55 ?_
  refine cr_get (k := 3) X hP (kc_cat (kc_cats hkt) g1) rfl cv18_3 rfl cinX0 (by decide) rfl tw234 dX2_greetDawn_56 ?_
  refine lv_bipush (v := 12) hx hb dX2_greetDawn_59 (by decide) ?_
  refine lv_icmp_ge (tgt := 85) hx hb dX2_greetDawn_61 (by decide) (fun c1 => ?_) (fun c1 => ?_)
  · exact kX2_greetDawn_85 X hret hkt (ifp c1 hf) hP hS (lv_sub hl [0] rfl)
  · exact kX2_greetDawn_64 X hret hkt (ifn c1 hf) hP hS (lv_sub hl [0, 1] rfl)
set_option maxRecDepth 10000 in
theorem kX2_greetDawn_29 {S1 : CS} {t : Nat} {M : CS} {H : Heap} {locs : List Loc} {ls : Array Slot} (X : gX p s m args c cX2_greetDawn 2 RX2 (kR kTab kA)) (hret : gRetV p l e (rmL 3 0 0) s m args below meth c cX2_greetDawn (cΩ ca) (cP dC dI cg kA ca) Q S1) (hkt : kc t = 11) (hf : fX2_greetDawn_29 t M = some S1) (hP : (cP dC dI cg kA ca) M s H) (hS : va_S (Fr (cΩ ca) s.heap.size) s.heap H locs) (hl : lv_has ls 2 [(0, .ref (ca t))]) : W p l e (rmL 3 0 0) s m args below meth c H locs 0 0 Q (F0 m 29 ls []) := by
  have hx := X.hx
  have hb := X.hb
  have hown := X.hown
  have hts := X.hts
  rw [fX2_greetDawn_29] at hf
  refine lv_aload_n hx hb dX2_greetDawn_29 rfl (lv_at hl 0 rfl) ?_
  refine cr_get (k := 2) X hP hkt rfl cv11_2 rfl cinX2 (by decide) rfl tw319 dX2_greetDawn_30 ?_
  refine lv_aload_n hx hb dX2_greetDawn_33 rfl (lv_at hl 0 rfl) ?_
  refine cr_get (k := 9) X hP hkt rfl cv11_9 rfl cinX2 (by decide) rfl tw337 dX2_greetDawn_34 ?_
  obtain ⟨g1, hf⟩ := gd hf
  refine cr_aald (f := fun i => (t + 3) + 20 + i) X hP (kc_shifts hkt) rfl (fun _ => rfl) rfl g1 dX2_greetDawn_37 ?_
  refine cr_get (k := 0) X hP (kc_shift (kc_shifts hkt) g1) rfl cv20_0 rfl cinX7 (by decide) rfl tw301 dX2_greetDawn_38 ?_
  refine lv_istore_n (lv' := [(1, .int (M.1 ((t + 3) + 20 + (M.1 t 9).toNatClampNeg) 0)), (0, .ref (ca t))]) hx hb dX2_greetDawn_41 rfl hl (by decide) rfl (fun ls hl => ?_)
  refine lv_aload_n hx hb dX2_greetDawn_42 rfl (lv_at hl 1 rfl) ?_
  refine cr_get (k := 8) X hP hkt rfl cv11_8 rfl cinX2 (by decide) rfl tw335 dX2_greetDawn_43 ?_
  refine lv_iconst (v := (-1)) hx hb dX2_greetDawn_46 (by decide) ?_
  refine lv_icmp_ne (tgt := 85) hx hb dX2_greetDawn_47 (by decide) (fun c1 => ?_) (fun c1 => ?_)
  · exact kX2_greetDawn_85 X hret hkt (ifn c1 hf) hP hS (lv_sub hl [1] rfl)
  · exact kX2_greetDawn_50 X hret hkt (ifp c1 hf) hP hS (lv_sub hl [1, 0] rfl)
set_option maxRecDepth 10000 in
theorem kX2_greetDawn_23 {S1 : CS} {t : Nat} {K2 : CS → Int32 → Option (CS)} {M : CS} {x1 : Int32} {H : Heap} {locs : List Loc} {ls : Array Slot} (X : gX p s m args c cX2_greetDawn 2 RX2 (kR kTab kA)) (hret : gRetV p l e (rmL 3 0 0) s m args below meth c cX2_greetDawn (cΩ ca) (cP dC dI cg kA ca) Q S1) (hkt : kc t = 11) (hK2 : ∀ (M : CS) (x1 : Int32) (H : Heap) (locs : List Loc) (ls : Array Slot), K2 M x1 = some S1 → (cP dC dI cg kA ca) M s H → va_S (Fr (cΩ ca) s.heap.size) s.heap H locs → lv_has ls 2 [(0, .ref (ca t)), (1, .int x1)] → W p l e (rmL 3 0 0) s m args below meth c H locs 0 0 Q (F0 m 2 ls [])) (hf : fX2_greetDawn_23 t K2 M x1 = some S1) (hP : (cP dC dI cg kA ca) M s H) (hS : va_S (Fr (cΩ ca) s.heap.size) s.heap H locs) (hl : lv_has ls 2 [(0, .ref (ca t)), (1, .int x1)]) : W p l e (rmL 3 0 0) s m args below meth c H locs 0 0 Q (F0 m 23 ls []) := by
  have hx := X.hx
  have hb := X.hb
  have hown := X.hown
  have hts := X.hts
  rw [fX2_greetDawn_23] at hf
  refine lv_iinc (v := (x1 + 1)) (lv' := [(1, .int (x1 + 1)), (0, .ref (ca t))]) hx hb dX2_greetDawn_23 hl (k := 1) rfl (by rfl) (by decide) rfl (fun ls hl => ?_)
  refine lv_goto (tgt := 2) hx hb dX2_greetDawn_26 (by decide) ?_
  exact hK2 _ _ _ _ _ hf hP hS (lv_sub hl [1, 0] rfl)
set_option maxRecDepth 10000 in
theorem kX2_greetDawn_10 {S1 : CS} {t : Nat} {K2 : CS → Int32 → Option (CS)} {M : CS} {x1 : Int32} {H : Heap} {locs : List Loc} {ls : Array Slot} (X : gX p s m args c cX2_greetDawn 2 RX2 (kR kTab kA)) (hret : gRetV p l e (rmL 3 0 0) s m args below meth c cX2_greetDawn (cΩ ca) (cP dC dI cg kA ca) Q S1) (hkt : kc t = 11) (hK2 : ∀ (M : CS) (x1 : Int32) (H : Heap) (locs : List Loc) (ls : Array Slot), K2 M x1 = some S1 → (cP dC dI cg kA ca) M s H → va_S (Fr (cΩ ca) s.heap.size) s.heap H locs → lv_has ls 2 [(0, .ref (ca t)), (1, .int x1)] → W p l e (rmL 3 0 0) s m args below meth c H locs 0 0 Q (F0 m 2 ls [])) (hf : fX2_greetDawn_10 t K2 M x1 = some S1) (hP : (cP dC dI cg kA ca) M s H) (hS : va_S (Fr (cΩ ca) s.heap.size) s.heap H locs) (hl : lv_has ls 2 [(0, .ref (ca t)), (1, .int x1)]) : W p l e (rmL 3 0 0) s m args below meth c H locs 0 0 Q (F0 m 10 ls []) := by
  have hx := X.hx
  have hb := X.hb
  have hown := X.hown
  have hts := X.hts
  rw [fX2_greetDawn_10] at hf
  refine lv_aload_n hx hb dX2_greetDawn_10 rfl (lv_at hl 0 rfl) ?_
  refine cr_get (k := 0) X hP hkt rfl cv11_0 rfl cinX2 (by decide) rfl tw313 dX2_greetDawn_11 ?_
  refine lv_iload_n hx hb dX2_greetDawn_14 rfl (lv_at hl 1 rfl) ?_
  obtain ⟨g1, hf⟩ := gd hf
  refine cr_aald (f := fun i => (t + 1) + 8 + i) X hP (kc_cats hkt) rfl (fun _ => rfl) rfl g1 dX2_greetDawn_15 ?_
  refine lv_aload_n hx hb dX2_greetDawn_16 rfl (lv_at hl 0 rfl) ?_
  refine cr_get (k := 11) X hP hkt rfl cv11_11 rfl cinX2 (by decide) rfl tw341 dX2_greetDawn_17 ?_
  obtain ⟨q, hc, hf⟩ := bd hf
  refine gCallVV X cOK rfl (vX0_recover (kc_cat (kc_cats hkt) g1) hc) gRX2_X0_recover hdX0_recover rfl ⟨by decide, by decide⟩ hP hS (cr_rec hP (kc_cat (kc_cats hkt) g1) rfl cw18 rfl) hl.1 (Nat.le_of_ble_eq_true rfl) ⟨Nat.zero_le _, Nat.zero_le _⟩ dX2_greetDawn_20 (As := [.int (M.1 t 11)]) (rest := []) rfl (fun H locs hP hS => ?_)
  exact kX2_greetDawn_23 X hret hkt hK2 hf hP hS (lv_sub hl [0, 1] rfl)
set_option maxRecDepth 10000 in
theorem kX2_greetDawn_2 {S1 : CS} {t : Nat} (X : gX p s m args c cX2_greetDawn 2 RX2 (kR kTab kA)) (hret : gRetV p l e (rmL 3 0 0) s m args below meth c cX2_greetDawn (cΩ ca) (cP dC dI cg kA ca) Q S1) (hkt : kc t = 11) : ∀ (n : Nat) (M : CS) (x1 : Int32) (H : Heap) (locs : List Loc) (ls : Array Slot), fX2_greetDawn_2 t n M x1 = some S1 → (cP dC dI cg kA ca) M s H → va_S (Fr (cΩ ca) s.heap.size) s.heap H locs → lv_has ls 2 [(0, .ref (ca t)), (1, .int x1)] → W p l e (rmL 3 0 0) s m args below meth c H locs 0 0 Q (F0 m 2 ls []) := by
  intro n
  induction n with
  | zero => intro M x1 H locs ls hf; cases hf
  | succ k ih =>
    intro M x1 H locs ls hf hP hS hl
    have hx := X.hx
    have hb := X.hb
    have hown := X.hown
    have hts := X.hts
    rw [fX2_greetDawn_2] at hf
    try dsimp only at hf
    refine lv_iload_n hx hb dX2_greetDawn_2 rfl (lv_at hl 1 rfl) ?_
    refine lv_aload_n hx hb dX2_greetDawn_3 rfl (lv_at hl 0 rfl) ?_
    refine cr_get (k := 5) X hP hkt rfl cv11_5 rfl cinX2 (by decide) rfl tw326 dX2_greetDawn_4 ?_
    refine lv_icmp_ge (tgt := 29) hx hb dX2_greetDawn_7 (by decide) (fun c1 => ?_) (fun c1 => ?_)
    · exact kX2_greetDawn_29 X hret hkt (ifp c1 hf) hP hS (lv_sub hl [0] rfl)
    · exact kX2_greetDawn_10 X hret hkt ih (ifn c1 hf) hP hS (lv_sub hl [0, 1] rfl)
set_option maxRecDepth 10000 in
theorem kX2_greetDawn_0 {S1 : CS} {t : Nat} {M : CS} {H : Heap} {locs : List Loc} {ls : Array Slot} (X : gX p s m args c cX2_greetDawn 2 RX2 (kR kTab kA)) (hret : gRetV p l e (rmL 3 0 0) s m args below meth c cX2_greetDawn (cΩ ca) (cP dC dI cg kA ca) Q S1) (hkt : kc t = 11) (hf : fX2_greetDawn_0 t M = some S1) (hP : (cP dC dI cg kA ca) M s H) (hS : va_S (Fr (cΩ ca) s.heap.size) s.heap H locs) (hl : lv_has ls 2 [(0, .ref (ca t))]) : W p l e (rmL 3 0 0) s m args below meth c H locs 0 0 Q (F0 m 0 ls []) := by
  have hx := X.hx
  have hb := X.hb
  have hown := X.hown
  have hts := X.hts
  rw [fX2_greetDawn_0] at hf
  refine lv_iconst (v := 0) hx hb dX2_greetDawn_0 (by decide) ?_
  refine lv_istore_n (lv' := [(1, .int 0), (0, .ref (ca t))]) hx hb dX2_greetDawn_1 rfl hl (by decide) rfl (fun ls hl => ?_)
  exact kX2_greetDawn_2 X hret hkt FU _ _ _ _ _ hf hP hS (lv_sub hl [1, 0] rfl)
theorem vX2_greetDawn {l : Launch} {dC : Nat → ClassId} {dI : Nat → Nat → Nat} {cg : Nat → ClassId} {kA : String → Nat → Nat} {ca : Nat → Nat} {M S1 : CS} {t : Nat} (hkt : kc t = 11) (hf : fX2_greetDawn M t  = some S1) : gMetV l yX2_greetDawn cX2_greetDawn 2 3 (cΩ ca) (cP dC dI cg kA ca) (kR kTab kA) [.ref (ca t)] M S1 := gEntryV (by decide) cOK (Nat.le_of_ble_eq_true rfl) (fun p e s m args below meth c Q ls X hP hS hret hl => 
  kX2_greetDawn_0 X hret hkt hf hP hS (lv_sub hl [0] rfl))
set_option maxRecDepth 10000 in
theorem kX8_takeName_35 {r : Int32} {S1 : CS} {M : CS} {s0 : Int32} {H : Heap} {locs : List Loc} {ls : Array Slot} (X : gX p s m args c cX8_takeName 1 RX8 (kR kTab kA)) (hret : gRetI p l e (rmL 3 0 0) s m args below meth c cX8_takeName (cΩ ca) (cP dC dI cg kA ca) Q r S1) (hf : fX8_takeName_35 M s0 = some (r, S1)) (hP : (cP dC dI cg kA ca) M s H) (hS : va_S (Fr (cΩ ca) s.heap.size) s.heap H locs) (hl : lv_has ls 1 [(0, .ref (ca 1))]) : W p l e (rmL 3 0 0) s m args below meth c H locs 0 0 Q (F0 m 35 ls [.int s0]) := by
  have hx := X.hx
  have hb := X.hb
  have hown := X.hown
  have hts := X.hts
  rw [fX8_takeName_35] at hf
  cases hf
  exact hret _ _ _ _ dX8_takeName_35 hP hS
set_option maxRecDepth 10000 in
theorem kX8_takeName_34 {r : Int32} {S1 : CS} {M : CS} {H : Heap} {locs : List Loc} {ls : Array Slot} (X : gX p s m args c cX8_takeName 1 RX8 (kR kTab kA)) (hret : gRetI p l e (rmL 3 0 0) s m args below meth c cX8_takeName (cΩ ca) (cP dC dI cg kA ca) Q r S1) (hf : fX8_takeName_34 M = some (r, S1)) (hP : (cP dC dI cg kA ca) M s H) (hS : va_S (Fr (cΩ ca) s.heap.size) s.heap H locs) (hl : lv_has ls 1 [(0, .ref (ca 1))]) : W p l e (rmL 3 0 0) s m args below meth c H locs 0 0 Q (F0 m 34 ls []) := by
  have hx := X.hx
  have hb := X.hb
  have hown := X.hown
  have hts := X.hts
  rw [fX8_takeName_34] at hf
  refine lv_iconst (v := 0) hx hb dX8_takeName_34 (by decide) ?_
  exact kX8_takeName_35 X hret hf hP hS (lv_sub hl [0] rfl)
set_option maxRecDepth 10000 in
theorem kX8_takeName_30 {r : Int32} {S1 : CS} {M : CS} {H : Heap} {locs : List Loc} {ls : Array Slot} (X : gX p s m args c cX8_takeName 1 RX8 (kR kTab kA)) (hret : gRetI p l e (rmL 3 0 0) s m args below meth c cX8_takeName (cΩ ca) (cP dC dI cg kA ca) Q r S1) (hf : fX8_takeName_30 M = some (r, S1)) (hP : (cP dC dI cg kA ca) M s H) (hS : va_S (Fr (cΩ ca) s.heap.size) s.heap H locs) (hl : lv_has ls 1 [(0, .ref (ca 1))]) : W p l e (rmL 3 0 0) s m args below meth c H locs 0 0 Q (F0 m 30 ls []) := by
  have hx := X.hx
  have hb := X.hb
  have hown := X.hown
  have hts := X.hts
  rw [fX8_takeName_30] at hf
  refine lv_iconst (v := 1) hx hb dX8_takeName_30 (by decide) ?_
  refine lv_goto (tgt := 35) hx hb dX8_takeName_31 (by decide) ?_
  exact kX8_takeName_35 X hret hf hP hS (lv_sub hl [0] rfl)
set_option maxRecDepth 10000 in
theorem kX8_takeName_27 {r : Int32} {S1 : CS} {M : CS} {s0 : Int32} {H : Heap} {locs : List Loc} {ls : Array Slot} (X : gX p s m args c cX8_takeName 1 RX8 (kR kTab kA)) (hret : gRetI p l e (rmL 3 0 0) s m args below meth c cX8_takeName (cΩ ca) (cP dC dI cg kA ca) Q r S1) (hf : fX8_takeName_27 M s0 = some (r, S1)) (hP : (cP dC dI cg kA ca) M s H) (hS : va_S (Fr (cΩ ca) s.heap.size) s.heap H locs) (hl : lv_has ls 1 [(0, .ref (ca 1))]) : W p l e (rmL 3 0 0) s m args below meth c H locs 0 0 Q (F0 m 27 ls [.int s0]) := by
  have hx := X.hx
  have hb := X.hb
  have hown := X.hown
  have hts := X.hts
  rw [fX8_takeName_27] at hf
  refine lv_if_eq (tgt := 34) hx hb dX8_takeName_27 (by decide) (fun c1 => ?_) (fun c1 => ?_)
  · exact kX8_takeName_34 X hret (ifp c1 hf) hP hS (lv_sub hl [0] rfl)
  · exact kX8_takeName_30 X hret (ifn c1 hf) hP hS (lv_sub hl [0] rfl)
set_option maxRecDepth 10000 in
theorem kX8_takeName_22 {r : Int32} {S1 : CS} {M : CS} {H : Heap} {locs : List Loc} {ls : Array Slot} (X : gX p s m args c cX8_takeName 1 RX8 (kR kTab kA)) (hret : gRetI p l e (rmL 3 0 0) s m args below meth c cX8_takeName (cΩ ca) (cP dC dI cg kA ca) Q r S1) (hf : fX8_takeName_22 M = some (r, S1)) (hP : (cP dC dI cg kA ca) M s H) (hS : va_S (Fr (cΩ ca) s.heap.size) s.heap H locs) (hl : lv_has ls 1 [(0, .ref (ca 1))]) : W p l e (rmL 3 0 0) s m args below meth c H locs 0 0 Q (F0 m 22 ls []) := by
  have hx := X.hx
  have hb := X.hb
  have hown := X.hown
  have hts := X.hts
  rw [fX8_takeName_22] at hf
  refine lv_aload_n hx hb dX8_takeName_22 rfl (lv_at hl 0 rfl) ?_
  refine lv_iconst (v := 1) hx hb dX8_takeName_23 (by decide) ?_
  obtain ⟨q, hc, hf⟩ := bd hf
  refine gCallVI X cOK rfl (vX8_fail hc) gRX8_X8_fail hdX8_fail rfl ⟨by decide, by decide⟩ hP hS (cr_rec hP (rfl : kc 1 = 1) rfl cw1 rfl) hl.1 (Nat.le_of_ble_eq_true rfl) ⟨Nat.zero_le _, Nat.zero_le _⟩ dX8_takeName_24 (As := [.int 1]) (rest := []) rfl (fun H locs hP hS => ?_)
  exact kX8_takeName_27 X hret hf hP hS (lv_sub hl [0] rfl)
set_option maxRecDepth 10000 in
theorem kX8_takeName_17 {r : Int32} {S1 : CS} {M : CS} {s0 : Int32} {H : Heap} {locs : List Loc} {ls : Array Slot} (X : gX p s m args c cX8_takeName 1 RX8 (kR kTab kA)) (hret : gRetI p l e (rmL 3 0 0) s m args below meth c cX8_takeName (cΩ ca) (cP dC dI cg kA ca) Q r S1) (hf : fX8_takeName_17 M s0 = some (r, S1)) (hP : (cP dC dI cg kA ca) M s H) (hS : va_S (Fr (cΩ ca) s.heap.size) s.heap H locs) (hl : lv_has ls 1 [(0, .ref (ca 1))]) : W p l e (rmL 3 0 0) s m args below meth c H locs 0 0 Q (F0 m 17 ls [.int s0]) := by
  have hx := X.hx
  have hb := X.hb
  have hown := X.hown
  have hts := X.hts
  rw [fX8_takeName_17] at hf
  refine lv_bipush (v := 6) hx hb dX8_takeName_17 (by decide) ?_
  refine lv_icmp_le (tgt := 30) hx hb dX8_takeName_19 (by decide) (fun c1 => ?_) (fun c1 => ?_)
  · exact kX8_takeName_30 X hret (ifp c1 hf) hP hS (lv_sub hl [0] rfl)
  · exact kX8_takeName_22 X hret (ifn c1 hf) hP hS (lv_sub hl [0] rfl)
set_option maxRecDepth 10000 in
theorem kX8_takeName_13 {r : Int32} {S1 : CS} {M : CS} {H : Heap} {locs : List Loc} {ls : Array Slot} (X : gX p s m args c cX8_takeName 1 RX8 (kR kTab kA)) (hret : gRetI p l e (rmL 3 0 0) s m args below meth c cX8_takeName (cΩ ca) (cP dC dI cg kA ca) Q r S1) (hf : fX8_takeName_13 M = some (r, S1)) (hP : (cP dC dI cg kA ca) M s H) (hS : va_S (Fr (cΩ ca) s.heap.size) s.heap H locs) (hl : lv_has ls 1 [(0, .ref (ca 1))]) : W p l e (rmL 3 0 0) s m args below meth c H locs 0 0 Q (F0 m 13 ls []) := by
  have hx := X.hx
  have hb := X.hb
  have hown := X.hown
  have hts := X.hts
  rw [fX8_takeName_13] at hf
  refine lv_aload_n hx hb dX8_takeName_13 rfl (lv_at hl 0 rfl) ?_
  obtain ⟨q, hc, hf⟩ := bd hf
  refine gCallVR X rfl (vX8_tokenLength hc) gRX8_X8_tokenLength hdX8_tokenLength rfl ⟨by decide, by decide⟩ (gB_blind cOK) (gB_at cOK X hP) (cr_rec hP (rfl : kc 1 = 1) rfl cw1 rfl) hl.1 (Nat.le_of_ble_eq_true rfl) ⟨Nat.zero_le _, Nat.zero_le _⟩ dX8_takeName_14 (As := []) (rest := []) rfl ?_
  exact kX8_takeName_17 X hret hf hP hS (lv_sub hl [0] rfl)
set_option maxRecDepth 10000 in
theorem kX8_takeName_4 {r : Int32} {S1 : CS} {M : CS} {s0 : Int32} {H : Heap} {locs : List Loc} {ls : Array Slot} (X : gX p s m args c cX8_takeName 1 RX8 (kR kTab kA)) (hret : gRetI p l e (rmL 3 0 0) s m args below meth c cX8_takeName (cΩ ca) (cP dC dI cg kA ca) Q r S1) (hf : fX8_takeName_4 M s0 = some (r, S1)) (hP : (cP dC dI cg kA ca) M s H) (hS : va_S (Fr (cΩ ca) s.heap.size) s.heap H locs) (hl : lv_has ls 1 [(0, .ref (ca 1))]) : W p l e (rmL 3 0 0) s m args below meth c H locs 0 0 Q (F0 m 4 ls [.int s0]) := by
  have hx := X.hx
  have hb := X.hb
  have hown := X.hown
  have hts := X.hts
  rw [fX8_takeName_4] at hf
  refine lv_pop hx hb dX8_takeName_4 rfl ?_
  refine lv_aload_n hx hb dX8_takeName_5 rfl (lv_at hl 0 rfl) ?_
  refine cr_get (k := 4) X hP (rfl : kc 1 = 1) rfl cv1_4 rfl cinX8 (by decide) rfl tw88 dX8_takeName_6 ?_
  refine lv_iconst (v := 1) hx hb dX8_takeName_9 (by decide) ?_
  refine lv_icmp_ne (tgt := 22) hx hb dX8_takeName_10 (by decide) (fun c1 => ?_) (fun c1 => ?_)
  · exact kX8_takeName_22 X hret (ifn c1 hf) hP hS (lv_sub hl [0] rfl)
  · exact kX8_takeName_13 X hret (ifp c1 hf) hP hS (lv_sub hl [0] rfl)
set_option maxRecDepth 10000 in
theorem kX8_takeName_0 {r : Int32} {S1 : CS} {M : CS} {H : Heap} {locs : List Loc} {ls : Array Slot} (X : gX p s m args c cX8_takeName 1 RX8 (kR kTab kA)) (hret : gRetI p l e (rmL 3 0 0) s m args below meth c cX8_takeName (cΩ ca) (cP dC dI cg kA ca) Q r S1) (hf : fX8_takeName_0 M = some (r, S1)) (hP : (cP dC dI cg kA ca) M s H) (hS : va_S (Fr (cΩ ca) s.heap.size) s.heap H locs) (hl : lv_has ls 1 [(0, .ref (ca 1))]) : W p l e (rmL 3 0 0) s m args below meth c H locs 0 0 Q (F0 m 0 ls []) := by
  have hx := X.hx
  have hb := X.hb
  have hown := X.hown
  have hts := X.hts
  rw [fX8_takeName_0] at hf
  refine lv_aload_n hx hb dX8_takeName_0 rfl (lv_at hl 0 rfl) ?_
  obtain ⟨q, hc, hf⟩ := bd hf
  refine gCallVI X cOK rfl (vX8_advance hc) gRX8_X8_advance hdX8_advance rfl ⟨by decide, by decide⟩ hP hS (cr_rec hP (rfl : kc 1 = 1) rfl cw1 rfl) hl.1 (Nat.le_of_ble_eq_true rfl) ⟨Nat.zero_le _, Nat.zero_le _⟩ dX8_takeName_1 (As := []) (rest := []) rfl (fun H locs hP hS => ?_)
  exact kX8_takeName_4 X hret hf hP hS (lv_sub hl [0] rfl)
theorem vX8_takeName {l : Launch} {dC : Nat → ClassId} {dI : Nat → Nat → Nat} {cg : Nat → ClassId} {kA : String → Nat → Nat} {ca : Nat → Nat} {M S1 : CS} {r : Int32} (hf : fX8_takeName M  = some (r, S1)) : gMetI l yX8_takeName cX8_takeName 1 (some .boolean) 3 (cΩ ca) (cP dC dI cg kA ca) (kR kTab kA) [.ref (ca 1)] M r S1 := gEntryI (ty := .boolean) (by decide) rfl (bz_n hf) cOK (Nat.le_of_ble_eq_true rfl) (fun p e s m args below meth c Q ls X hP hS hret hl => 
  kX8_takeName_0 X hret (bz_f hf) hP hS (lv_sub hl [0] rfl))
set_option maxRecDepth 10000 in
theorem kX8_takeSemicolon_26 {r : Int32} {S1 : CS} {M : CS} {s0 : Int32} {H : Heap} {locs : List Loc} {ls : Array Slot} (X : gX p s m args c cX8_takeSemicolon 1 RX8 (kR kTab kA)) (hret : gRetI p l e (rmL 3 0 0) s m args below meth c cX8_takeSemicolon (cΩ ca) (cP dC dI cg kA ca) Q r S1) (hf : fX8_takeSemicolon_26 M s0 = some (r, S1)) (hP : (cP dC dI cg kA ca) M s H) (hS : va_S (Fr (cΩ ca) s.heap.size) s.heap H locs) (hl : lv_has ls 1 [(0, .ref (ca 1))]) : W p l e (rmL 3 0 0) s m args below meth c H locs 0 0 Q (F0 m 26 ls [.int s0]) := by
  have hx := X.hx
  have hb := X.hb
  have hown := X.hown
  have hts := X.hts
  rw [fX8_takeSemicolon_26] at hf
  cases hf
  exact hret _ _ _ _ dX8_takeSemicolon_26 hP hS
set_option maxRecDepth 10000 in
theorem kX8_takeSemicolon_21 {r : Int32} {S1 : CS} {M : CS} {H : Heap} {locs : List Loc} {ls : Array Slot} (X : gX p s m args c cX8_takeSemicolon 1 RX8 (kR kTab kA)) (hret : gRetI p l e (rmL 3 0 0) s m args below meth c cX8_takeSemicolon (cΩ ca) (cP dC dI cg kA ca) Q r S1) (hf : fX8_takeSemicolon_21 M = some (r, S1)) (hP : (cP dC dI cg kA ca) M s H) (hS : va_S (Fr (cΩ ca) s.heap.size) s.heap H locs) (hl : lv_has ls 1 [(0, .ref (ca 1))]) : W p l e (rmL 3 0 0) s m args below meth c H locs 0 0 Q (F0 m 21 ls []) := by
  have hx := X.hx
  have hb := X.hb
  have hown := X.hown
  have hts := X.hts
  rw [fX8_takeSemicolon_21] at hf
  refine lv_iconst (v := 1) hx hb dX8_takeSemicolon_21 (by decide) ?_
  refine lv_goto (tgt := 26) hx hb dX8_takeSemicolon_22 (by decide) ?_
  exact kX8_takeSemicolon_26 X hret hf hP hS (lv_sub hl [0] rfl)
set_option maxRecDepth 10000 in
theorem kX8_takeSemicolon_25 {r : Int32} {S1 : CS} {M : CS} {H : Heap} {locs : List Loc} {ls : Array Slot} (X : gX p s m args c cX8_takeSemicolon 1 RX8 (kR kTab kA)) (hret : gRetI p l e (rmL 3 0 0) s m args below meth c cX8_takeSemicolon (cΩ ca) (cP dC dI cg kA ca) Q r S1) (hf : fX8_takeSemicolon_25 M = some (r, S1)) (hP : (cP dC dI cg kA ca) M s H) (hS : va_S (Fr (cΩ ca) s.heap.size) s.heap H locs) (hl : lv_has ls 1 [(0, .ref (ca 1))]) : W p l e (rmL 3 0 0) s m args below meth c H locs 0 0 Q (F0 m 25 ls []) := by
  have hx := X.hx
  have hb := X.hb
  have hown := X.hown
  have hts := X.hts
  rw [fX8_takeSemicolon_25] at hf
  refine lv_iconst (v := 0) hx hb dX8_takeSemicolon_25 (by decide) ?_
  exact kX8_takeSemicolon_26 X hret hf hP hS (lv_sub hl [0] rfl)
set_option maxRecDepth 10000 in
theorem kX8_takeSemicolon_18 {r : Int32} {S1 : CS} {M : CS} {s0 : Int32} {H : Heap} {locs : List Loc} {ls : Array Slot} (X : gX p s m args c cX8_takeSemicolon 1 RX8 (kR kTab kA)) (hret : gRetI p l e (rmL 3 0 0) s m args below meth c cX8_takeSemicolon (cΩ ca) (cP dC dI cg kA ca) Q r S1) (hf : fX8_takeSemicolon_18 M s0 = some (r, S1)) (hP : (cP dC dI cg kA ca) M s H) (hS : va_S (Fr (cΩ ca) s.heap.size) s.heap H locs) (hl : lv_has ls 1 [(0, .ref (ca 1))]) : W p l e (rmL 3 0 0) s m args below meth c H locs 0 0 Q (F0 m 18 ls [.int s0]) := by
  have hx := X.hx
  have hb := X.hb
  have hown := X.hown
  have hts := X.hts
  rw [fX8_takeSemicolon_18] at hf
  refine lv_if_eq (tgt := 25) hx hb dX8_takeSemicolon_18 (by decide) (fun c1 => ?_) (fun c1 => ?_)
  · exact kX8_takeSemicolon_25 X hret (ifp c1 hf) hP hS (lv_sub hl [0] rfl)
  · exact kX8_takeSemicolon_21 X hret (ifn c1 hf) hP hS (lv_sub hl [0] rfl)
set_option maxRecDepth 10000 in
theorem kX8_takeSemicolon_13 {r : Int32} {S1 : CS} {M : CS} {H : Heap} {locs : List Loc} {ls : Array Slot} (X : gX p s m args c cX8_takeSemicolon 1 RX8 (kR kTab kA)) (hret : gRetI p l e (rmL 3 0 0) s m args below meth c cX8_takeSemicolon (cΩ ca) (cP dC dI cg kA ca) Q r S1) (hf : fX8_takeSemicolon_13 M = some (r, S1)) (hP : (cP dC dI cg kA ca) M s H) (hS : va_S (Fr (cΩ ca) s.heap.size) s.heap H locs) (hl : lv_has ls 1 [(0, .ref (ca 1))]) : W p l e (rmL 3 0 0) s m args below meth c H locs 0 0 Q (F0 m 13 ls []) := by
  have hx := X.hx
  have hb := X.hb
  have hown := X.hown
  have hts := X.hts
  rw [fX8_takeSemicolon_13] at hf
  refine lv_aload_n hx hb dX8_takeSemicolon_13 rfl (lv_at hl 0 rfl) ?_
  refine lv_iconst (v := 1) hx hb dX8_takeSemicolon_14 (by decide) ?_
  obtain ⟨q, hc, hf⟩ := bd hf
  refine gCallVI X cOK rfl (vX8_fail hc) gRX8_X8_fail hdX8_fail rfl ⟨by decide, by decide⟩ hP hS (cr_rec hP (rfl : kc 1 = 1) rfl cw1 rfl) hl.1 (Nat.le_of_ble_eq_true rfl) ⟨Nat.zero_le _, Nat.zero_le _⟩ dX8_takeSemicolon_15 (As := [.int 1]) (rest := []) rfl (fun H locs hP hS => ?_)
  exact kX8_takeSemicolon_18 X hret hf hP hS (lv_sub hl [0] rfl)
set_option maxRecDepth 10000 in
theorem kX8_takeSemicolon_4 {r : Int32} {S1 : CS} {M : CS} {s0 : Int32} {H : Heap} {locs : List Loc} {ls : Array Slot} (X : gX p s m args c cX8_takeSemicolon 1 RX8 (kR kTab kA)) (hret : gRetI p l e (rmL 3 0 0) s m args below meth c cX8_takeSemicolon (cΩ ca) (cP dC dI cg kA ca) Q r S1) (hf : fX8_takeSemicolon_4 M s0 = some (r, S1)) (hP : (cP dC dI cg kA ca) M s H) (hS : va_S (Fr (cΩ ca) s.heap.size) s.heap H locs) (hl : lv_has ls 1 [(0, .ref (ca 1))]) : W p l e (rmL 3 0 0) s m args below meth c H locs 0 0 Q (F0 m 4 ls [.int s0]) := by
  have hx := X.hx
  have hb := X.hb
  have hown := X.hown
  have hts := X.hts
  rw [fX8_takeSemicolon_4] at hf
  refine lv_pop hx hb dX8_takeSemicolon_4 rfl ?_
  refine lv_aload_n hx hb dX8_takeSemicolon_5 rfl (lv_at hl 0 rfl) ?_
  refine cr_get (k := 4) X hP (rfl : kc 1 = 1) rfl cv1_4 rfl cinX8 (by decide) rfl tw88 dX8_takeSemicolon_6 ?_
  refine lv_iconst (v := 3) hx hb dX8_takeSemicolon_9 (by decide) ?_
  refine lv_icmp_eq (tgt := 21) hx hb dX8_takeSemicolon_10 (by decide) (fun c1 => ?_) (fun c1 => ?_)
  · exact kX8_takeSemicolon_21 X hret (ifp c1 hf) hP hS (lv_sub hl [0] rfl)
  · exact kX8_takeSemicolon_13 X hret (ifn c1 hf) hP hS (lv_sub hl [0] rfl)
set_option maxRecDepth 10000 in
theorem kX8_takeSemicolon_0 {r : Int32} {S1 : CS} {M : CS} {H : Heap} {locs : List Loc} {ls : Array Slot} (X : gX p s m args c cX8_takeSemicolon 1 RX8 (kR kTab kA)) (hret : gRetI p l e (rmL 3 0 0) s m args below meth c cX8_takeSemicolon (cΩ ca) (cP dC dI cg kA ca) Q r S1) (hf : fX8_takeSemicolon_0 M = some (r, S1)) (hP : (cP dC dI cg kA ca) M s H) (hS : va_S (Fr (cΩ ca) s.heap.size) s.heap H locs) (hl : lv_has ls 1 [(0, .ref (ca 1))]) : W p l e (rmL 3 0 0) s m args below meth c H locs 0 0 Q (F0 m 0 ls []) := by
  have hx := X.hx
  have hb := X.hb
  have hown := X.hown
  have hts := X.hts
  rw [fX8_takeSemicolon_0] at hf
  refine lv_aload_n hx hb dX8_takeSemicolon_0 rfl (lv_at hl 0 rfl) ?_
  obtain ⟨q, hc, hf⟩ := bd hf
  refine gCallVI X cOK rfl (vX8_advance hc) gRX8_X8_advance hdX8_advance rfl ⟨by decide, by decide⟩ hP hS (cr_rec hP (rfl : kc 1 = 1) rfl cw1 rfl) hl.1 (Nat.le_of_ble_eq_true rfl) ⟨Nat.zero_le _, Nat.zero_le _⟩ dX8_takeSemicolon_1 (As := []) (rest := []) rfl (fun H locs hP hS => ?_)
  exact kX8_takeSemicolon_4 X hret hf hP hS (lv_sub hl [0] rfl)
theorem vX8_takeSemicolon {l : Launch} {dC : Nat → ClassId} {dI : Nat → Nat → Nat} {cg : Nat → ClassId} {kA : String → Nat → Nat} {ca : Nat → Nat} {M S1 : CS} {r : Int32} (hf : fX8_takeSemicolon M  = some (r, S1)) : gMetI l yX8_takeSemicolon cX8_takeSemicolon 1 (some .boolean) 3 (cΩ ca) (cP dC dI cg kA ca) (kR kTab kA) [.ref (ca 1)] M r S1 := gEntryI (ty := .boolean) (by decide) rfl (bz_n hf) cOK (Nat.le_of_ble_eq_true rfl) (fun p e s m args below meth c Q ls X hP hS hret hl => 
  kX8_takeSemicolon_0 X hret (bz_f hf) hP hS (lv_sub hl [0] rfl))
set_option maxRecDepth 10000 in
theorem kX8_takeNumber_93 {r : Int32} {S1 : CS} {M : CS} {s0 : Int32} {H : Heap} {locs : List Loc} {ls : Array Slot} (X : gX p s m args c cX8_takeNumber 4 RX8 (kR kTab kA)) (hret : gRetI p l e (rmL 3 0 0) s m args below meth c cX8_takeNumber (cΩ ca) (cP dC dI cg kA ca) Q r S1) (hf : fX8_takeNumber_93 M s0 = some (r, S1)) (hP : (cP dC dI cg kA ca) M s H) (hS : va_S (Fr (cΩ ca) s.heap.size) s.heap H locs) (hl : lv_has ls 4 [(0, .ref (ca 1))]) : W p l e (rmL 3 0 0) s m args below meth c H locs 0 0 Q (F0 m 93 ls [.int s0]) := by
  have hx := X.hx
  have hb := X.hb
  have hown := X.hown
  have hts := X.hts
  rw [fX8_takeNumber_93] at hf
  cases hf
  exact hret _ _ _ _ dX8_takeNumber_93 hP hS
set_option maxRecDepth 10000 in
theorem kX8_takeNumber_92 {r : Int32} {S1 : CS} {M : CS} {H : Heap} {locs : List Loc} {ls : Array Slot} (X : gX p s m args c cX8_takeNumber 4 RX8 (kR kTab kA)) (hret : gRetI p l e (rmL 3 0 0) s m args below meth c cX8_takeNumber (cΩ ca) (cP dC dI cg kA ca) Q r S1) (hf : fX8_takeNumber_92 M = some (r, S1)) (hP : (cP dC dI cg kA ca) M s H) (hS : va_S (Fr (cΩ ca) s.heap.size) s.heap H locs) (hl : lv_has ls 4 [(0, .ref (ca 1))]) : W p l e (rmL 3 0 0) s m args below meth c H locs 0 0 Q (F0 m 92 ls []) := by
  have hx := X.hx
  have hb := X.hb
  have hown := X.hown
  have hts := X.hts
  rw [fX8_takeNumber_92] at hf
  refine lv_iconst (v := 0) hx hb dX8_takeNumber_92 (by decide) ?_
  exact kX8_takeNumber_93 X hret hf hP hS (lv_sub hl [0] rfl)
set_option maxRecDepth 10000 in
theorem kX8_takeNumber_88 {r : Int32} {S1 : CS} {M : CS} {H : Heap} {locs : List Loc} {ls : Array Slot} (X : gX p s m args c cX8_takeNumber 4 RX8 (kR kTab kA)) (hret : gRetI p l e (rmL 3 0 0) s m args below meth c cX8_takeNumber (cΩ ca) (cP dC dI cg kA ca) Q r S1) (hf : fX8_takeNumber_88 M = some (r, S1)) (hP : (cP dC dI cg kA ca) M s H) (hS : va_S (Fr (cΩ ca) s.heap.size) s.heap H locs) (hl : lv_has ls 4 [(0, .ref (ca 1))]) : W p l e (rmL 3 0 0) s m args below meth c H locs 0 0 Q (F0 m 88 ls []) := by
  have hx := X.hx
  have hb := X.hb
  have hown := X.hown
  have hts := X.hts
  rw [fX8_takeNumber_88] at hf
  refine lv_iconst (v := 1) hx hb dX8_takeNumber_88 (by decide) ?_
  refine lv_goto (tgt := 93) hx hb dX8_takeNumber_89 (by decide) ?_
  exact kX8_takeNumber_93 X hret hf hP hS (lv_sub hl [0] rfl)
set_option maxRecDepth 10000 in
theorem kX8_takeNumber_85 {r : Int32} {S1 : CS} {M : CS} {s0 : Int32} {H : Heap} {locs : List Loc} {ls : Array Slot} (X : gX p s m args c cX8_takeNumber 4 RX8 (kR kTab kA)) (hret : gRetI p l e (rmL 3 0 0) s m args below meth c cX8_takeNumber (cΩ ca) (cP dC dI cg kA ca) Q r S1) (hf : fX8_takeNumber_85 M s0 = some (r, S1)) (hP : (cP dC dI cg kA ca) M s H) (hS : va_S (Fr (cΩ ca) s.heap.size) s.heap H locs) (hl : lv_has ls 4 [(0, .ref (ca 1))]) : W p l e (rmL 3 0 0) s m args below meth c H locs 0 0 Q (F0 m 85 ls [.int s0]) := by
  have hx := X.hx
  have hb := X.hb
  have hown := X.hown
  have hts := X.hts
  rw [fX8_takeNumber_85] at hf
  refine lv_if_eq (tgt := 92) hx hb dX8_takeNumber_85 (by decide) (fun c1 => ?_) (fun c1 => ?_)
  · exact kX8_takeNumber_92 X hret (ifp c1 hf) hP hS (lv_sub hl [0] rfl)
  · exact kX8_takeNumber_88 X hret (ifn c1 hf) hP hS (lv_sub hl [0] rfl)
set_option maxRecDepth 10000 in
theorem kX8_takeNumber_80 {r : Int32} {S1 : CS} {M : CS} {H : Heap} {locs : List Loc} {ls : Array Slot} (X : gX p s m args c cX8_takeNumber 4 RX8 (kR kTab kA)) (hret : gRetI p l e (rmL 3 0 0) s m args below meth c cX8_takeNumber (cΩ ca) (cP dC dI cg kA ca) Q r S1) (hf : fX8_takeNumber_80 M = some (r, S1)) (hP : (cP dC dI cg kA ca) M s H) (hS : va_S (Fr (cΩ ca) s.heap.size) s.heap H locs) (hl : lv_has ls 4 [(0, .ref (ca 1))]) : W p l e (rmL 3 0 0) s m args below meth c H locs 0 0 Q (F0 m 80 ls []) := by
  have hx := X.hx
  have hb := X.hb
  have hown := X.hown
  have hts := X.hts
  rw [fX8_takeNumber_80] at hf
  refine lv_aload_n hx hb dX8_takeNumber_80 rfl (lv_at hl 0 rfl) ?_
  refine lv_iconst (v := 2) hx hb dX8_takeNumber_81 (by decide) ?_
  obtain ⟨q, hc, hf⟩ := bd hf
  refine gCallVI X cOK rfl (vX8_fail hc) gRX8_X8_fail hdX8_fail rfl ⟨by decide, by decide⟩ hP hS (cr_rec hP (rfl : kc 1 = 1) rfl cw1 rfl) hl.1 (Nat.le_of_ble_eq_true rfl) ⟨Nat.zero_le _, Nat.zero_le _⟩ dX8_takeNumber_82 (As := [.int 2]) (rest := []) rfl (fun H locs hP hS => ?_)
  exact kX8_takeNumber_85 X hret hf hP hS (lv_sub hl [0] rfl)
set_option maxRecDepth 10000 in
theorem kX8_takeNumber_72 {r : Int32} {S1 : CS} {M : CS} {x2 : Int32} {H : Heap} {locs : List Loc} {ls : Array Slot} (X : gX p s m args c cX8_takeNumber 4 RX8 (kR kTab kA)) (hret : gRetI p l e (rmL 3 0 0) s m args below meth c cX8_takeNumber (cΩ ca) (cP dC dI cg kA ca) Q r S1) (hf : fX8_takeNumber_72 M x2 = some (r, S1)) (hP : (cP dC dI cg kA ca) M s H) (hS : va_S (Fr (cΩ ca) s.heap.size) s.heap H locs) (hl : lv_has ls 4 [(0, .ref (ca 1)), (2, .int x2)]) : W p l e (rmL 3 0 0) s m args below meth c H locs 0 0 Q (F0 m 72 ls []) := by
  have hx := X.hx
  have hb := X.hb
  have hown := X.hown
  have hts := X.hts
  rw [fX8_takeNumber_72] at hf
  refine lv_aload_n hx hb dX8_takeNumber_72 rfl (lv_at hl 0 rfl) ?_
  refine cr_get (k := 6) X hP (rfl : kc 1 = 1) rfl cv1_6 rfl cinX8 (by decide) rfl tw92 dX8_takeNumber_73 ?_
  refine lv_iload_n hx hb dX8_takeNumber_76 rfl (lv_at hl 1 rfl) ?_
  refine lv_icmp_le (tgt := 88) hx hb dX8_takeNumber_77 (by decide) (fun c1 => ?_) (fun c1 => ?_)
  · exact kX8_takeNumber_88 X hret (ifp c1 hf) hP hS (lv_sub hl [0] rfl)
  · exact kX8_takeNumber_80 X hret (ifn c1 hf) hP hS (lv_sub hl [0] rfl)
set_option maxRecDepth 10000 in
theorem kX8_takeNumber_64 {r : Int32} {S1 : CS} {M : CS} {x1 : Int32} {x2 : Int32} {H : Heap} {locs : List Loc} {ls : Array Slot} (X : gX p s m args c cX8_takeNumber 4 RX8 (kR kTab kA)) (hret : gRetI p l e (rmL 3 0 0) s m args below meth c cX8_takeNumber (cΩ ca) (cP dC dI cg kA ca) Q r S1) (hf : fX8_takeNumber_64 M x1 x2 = some (r, S1)) (hP : (cP dC dI cg kA ca) M s H) (hS : va_S (Fr (cΩ ca) s.heap.size) s.heap H locs) (hl : lv_has ls 4 [(0, .ref (ca 1)), (1, .int x1), (2, .int x2)]) : W p l e (rmL 3 0 0) s m args below meth c H locs 0 0 Q (F0 m 64 ls []) := by
  have hx := X.hx
  have hb := X.hb
  have hown := X.hown
  have hts := X.hts
  rw [fX8_takeNumber_64] at hf
  refine lv_aload_n hx hb dX8_takeNumber_64 rfl (lv_at hl 0 rfl) ?_
  refine cr_get (k := 6) X hP (rfl : kc 1 = 1) rfl cv1_6 rfl cinX8 (by decide) rfl tw92 dX8_takeNumber_65 ?_
  refine lv_iload_n hx hb dX8_takeNumber_68 rfl (lv_at hl 1 rfl) ?_
  refine lv_icmp_lt (tgt := 80) hx hb dX8_takeNumber_69 (by decide) (fun c1 => ?_) (fun c1 => ?_)
  · exact kX8_takeNumber_80 X hret (ifp c1 hf) hP hS (lv_sub hl [0] rfl)
  · exact kX8_takeNumber_72 X hret (ifn c1 hf) hP hS (lv_sub hl [0, 2] rfl)
set_option maxRecDepth 10000 in
theorem kX8_takeNumber_58 {r : Int32} {S1 : CS} {K29 : CS → Int32 → Int32 → Int32 → Option (Int32 × CS)} {M : CS} {x1 : Int32} {x2 : Int32} {x3 : Int32} {H : Heap} {locs : List Loc} {ls : Array Slot} (X : gX p s m args c cX8_takeNumber 4 RX8 (kR kTab kA)) (hret : gRetI p l e (rmL 3 0 0) s m args below meth c cX8_takeNumber (cΩ ca) (cP dC dI cg kA ca) Q r S1) (hK29 : ∀ (M : CS) (x1 : Int32) (x2 : Int32) (x3 : Int32) (H : Heap) (locs : List Loc) (ls : Array Slot), K29 M x1 x2 x3 = some (r, S1) → (cP dC dI cg kA ca) M s H → va_S (Fr (cΩ ca) s.heap.size) s.heap H locs → lv_has ls 4 [(0, .ref (ca 1)), (1, .int x1), (2, .int x2), (3, .int x3)] → W p l e (rmL 3 0 0) s m args below meth c H locs 0 0 Q (F0 m 29 ls [])) (hf : fX8_takeNumber_58 K29 M x1 x2 x3 = some (r, S1)) (hP : (cP dC dI cg kA ca) M s H) (hS : va_S (Fr (cΩ ca) s.heap.size) s.heap H locs) (hl : lv_has ls 4 [(0, .ref (ca 1)), (1, .int x1), (2, .int x2), (3, .int x3)]) : W p l e (rmL 3 0 0) s m args below meth c H locs 0 0 Q (F0 m 58 ls []) := by
  have hx := X.hx
  have hb := X.hb
  have hown := X.hown
  have hts := X.hts
  rw [fX8_takeNumber_58] at hf
  refine lv_iinc (v := (x3 + 1)) (lv' := [(3, .int (x3 + 1)), (0, .ref (ca 1)), (1, .int x1), (2, .int x2)]) hx hb dX8_takeNumber_58 hl (k := 3) rfl (by rfl) (by decide) rfl (fun ls hl => ?_)
  refine lv_goto (tgt := 29) hx hb dX8_takeNumber_61 (by decide) ?_
  exact hK29 _ _ _ _ _ _ _ hf hP hS (lv_sub hl [1, 2, 3, 0] rfl)
set_option maxRecDepth 10000 in
theorem kX8_takeNumber_37 {r : Int32} {S1 : CS} {K29 : CS → Int32 → Int32 → Int32 → Option (Int32 × CS)} {M : CS} {x1 : Int32} {x2 : Int32} {x3 : Int32} {H : Heap} {locs : List Loc} {ls : Array Slot} (X : gX p s m args c cX8_takeNumber 4 RX8 (kR kTab kA)) (hret : gRetI p l e (rmL 3 0 0) s m args below meth c cX8_takeNumber (cΩ ca) (cP dC dI cg kA ca) Q r S1) (hK29 : ∀ (M : CS) (x1 : Int32) (x2 : Int32) (x3 : Int32) (H : Heap) (locs : List Loc) (ls : Array Slot), K29 M x1 x2 x3 = some (r, S1) → (cP dC dI cg kA ca) M s H → va_S (Fr (cΩ ca) s.heap.size) s.heap H locs → lv_has ls 4 [(0, .ref (ca 1)), (1, .int x1), (2, .int x2), (3, .int x3)] → W p l e (rmL 3 0 0) s m args below meth c H locs 0 0 Q (F0 m 29 ls [])) (hf : fX8_takeNumber_37 K29 M x1 x2 x3 = some (r, S1)) (hP : (cP dC dI cg kA ca) M s H) (hS : va_S (Fr (cΩ ca) s.heap.size) s.heap H locs) (hl : lv_has ls 4 [(0, .ref (ca 1)), (1, .int x1), (2, .int x2), (3, .int x3)]) : W p l e (rmL 3 0 0) s m args below meth c H locs 0 0 Q (F0 m 37 ls []) := by
  have hx := X.hx
  have hb := X.hb
  have hown := X.hown
  have hts := X.hts
  rw [fX8_takeNumber_37] at hf
  refine lv_aload_n hx hb dX8_takeNumber_37 rfl (lv_at hl 0 rfl) ?_
  refine lv_aload_n hx hb dX8_takeNumber_38 rfl (lv_at hl 0 rfl) ?_
  refine cr_get (k := 6) X hP (rfl : kc 1 = 1) rfl cv1_6 rfl cinX8 (by decide) rfl tw92 dX8_takeNumber_39 ?_
  refine lv_bipush (v := 10) hx hb dX8_takeNumber_42 (by decide) ?_
  refine lv_imul hx hb dX8_takeNumber_44 ?_
  refine lv_aload_n hx hb dX8_takeNumber_45 rfl (lv_at hl 0 rfl) ?_
  refine cr_get (k := 0) X hP (rfl : kc 1 = 1) rfl cv1_0 rfl cinX8 (by decide) rfl tw81 dX8_takeNumber_46 ?_
  refine lv_iload_n hx hb dX8_takeNumber_49 rfl (lv_at hl 3 rfl) ?_
  obtain ⟨g1, hf⟩ := gd hf
  refine cr_bald X hP (rfl : kc 2 = 2) rfl (fun _ => rfl) g1 dX8_takeNumber_50 ?_
  refine lv_iadd hx hb dX8_takeNumber_51 ?_
  refine lv_bipush (v := 48) hx hb dX8_takeNumber_52 (by decide) ?_
  refine lv_isub hx hb dX8_takeNumber_54 ?_
  refine cr_put (k := 6) X hP hS (rfl : kc 1 = 1) rfl cs1_6 rfl cinX8 tyX8_ok nmX8 (by decide) rfl rfl rfl rfl tw92 dX8_takeNumber_55 (fun H locs hP hS => ?_)
  exact kX8_takeNumber_58 X hret hK29 hf hP hS (lv_sub hl [0, 1, 2, 3] rfl)
set_option maxRecDepth 10000 in
theorem kX8_takeNumber_29 {r : Int32} {S1 : CS} (X : gX p s m args c cX8_takeNumber 4 RX8 (kR kTab kA)) (hret : gRetI p l e (rmL 3 0 0) s m args below meth c cX8_takeNumber (cΩ ca) (cP dC dI cg kA ca) Q r S1) : ∀ (n : Nat) (M : CS) (x1 : Int32) (x2 : Int32) (x3 : Int32) (H : Heap) (locs : List Loc) (ls : Array Slot), fX8_takeNumber_29 n M x1 x2 x3 = some (r, S1) → (cP dC dI cg kA ca) M s H → va_S (Fr (cΩ ca) s.heap.size) s.heap H locs → lv_has ls 4 [(0, .ref (ca 1)), (1, .int x1), (2, .int x2), (3, .int x3)] → W p l e (rmL 3 0 0) s m args below meth c H locs 0 0 Q (F0 m 29 ls []) := by
  intro n
  induction n with
  | zero => intro M x1 x2 x3 H locs ls hf; cases hf
  | succ k ih =>
    intro M x1 x2 x3 H locs ls hf hP hS hl
    have hx := X.hx
    have hb := X.hb
    have hown := X.hown
    have hts := X.hts
    rw [fX8_takeNumber_29] at hf
    try dsimp only at hf
    refine lv_iload_n hx hb dX8_takeNumber_29 rfl (lv_at hl 3 rfl) ?_
    refine lv_aload_n hx hb dX8_takeNumber_30 rfl (lv_at hl 0 rfl) ?_
    refine cr_get (k := 3) X hP (rfl : kc 1 = 1) rfl cv1_3 rfl cinX8 (by decide) rfl tw87 dX8_takeNumber_31 ?_
    refine lv_icmp_ge (tgt := 64) hx hb dX8_takeNumber_34 (by decide) (fun c1 => ?_) (fun c1 => ?_)
    · exact kX8_takeNumber_64 X hret (ifp c1 hf) hP hS (lv_sub hl [0, 1, 2] rfl)
    · exact kX8_takeNumber_37 X hret ih (ifn c1 hf) hP hS (lv_sub hl [0, 1, 2, 3] rfl)
set_option maxRecDepth 10000 in
theorem kX8_takeNumber_24 {r : Int32} {S1 : CS} {M : CS} {x1 : Int32} {x2 : Int32} {H : Heap} {locs : List Loc} {ls : Array Slot} (X : gX p s m args c cX8_takeNumber 4 RX8 (kR kTab kA)) (hret : gRetI p l e (rmL 3 0 0) s m args below meth c cX8_takeNumber (cΩ ca) (cP dC dI cg kA ca) Q r S1) (hf : fX8_takeNumber_24 M x1 x2 = some (r, S1)) (hP : (cP dC dI cg kA ca) M s H) (hS : va_S (Fr (cΩ ca) s.heap.size) s.heap H locs) (hl : lv_has ls 4 [(0, .ref (ca 1)), (1, .int x1), (2, .int x2)]) : W p l e (rmL 3 0 0) s m args below meth c H locs 0 0 Q (F0 m 24 ls []) := by
  have hx := X.hx
  have hb := X.hb
  have hown := X.hown
  have hts := X.hts
  rw [fX8_takeNumber_24] at hf
  refine lv_aload_n hx hb dX8_takeNumber_24 rfl (lv_at hl 0 rfl) ?_
  refine cr_get (k := 5) X hP (rfl : kc 1 = 1) rfl cv1_5 rfl cinX8 (by decide) rfl tw89 dX8_takeNumber_25 ?_
  refine lv_istore_n (lv' := [(3, .int (M.1 1 5)), (0, .ref (ca 1)), (1, .int x1), (2, .int x2)]) hx hb dX8_takeNumber_28 rfl hl (by decide) rfl (fun ls hl => ?_)
  exact kX8_takeNumber_29 X hret FU _ _ _ _ _ _ _ hf hP hS (lv_sub hl [1, 2, 3, 0] rfl)
set_option maxRecDepth 10000 in
theorem kX8_takeNumber_19 {r : Int32} {S1 : CS} {M : CS} {x1 : Int32} {x2 : Int32} {H : Heap} {locs : List Loc} {ls : Array Slot} (X : gX p s m args c cX8_takeNumber 4 RX8 (kR kTab kA)) (hret : gRetI p l e (rmL 3 0 0) s m args below meth c cX8_takeNumber (cΩ ca) (cP dC dI cg kA ca) Q r S1) (hf : fX8_takeNumber_19 M x1 x2 = some (r, S1)) (hP : (cP dC dI cg kA ca) M s H) (hS : va_S (Fr (cΩ ca) s.heap.size) s.heap H locs) (hl : lv_has ls 4 [(0, .ref (ca 1)), (1, .int x1), (2, .int x2)]) : W p l e (rmL 3 0 0) s m args below meth c H locs 0 0 Q (F0 m 19 ls []) := by
  have hx := X.hx
  have hb := X.hb
  have hown := X.hown
  have hts := X.hts
  rw [fX8_takeNumber_19] at hf
  refine lv_aload_n hx hb dX8_takeNumber_19 rfl (lv_at hl 0 rfl) ?_
  refine lv_iconst (v := 0) hx hb dX8_takeNumber_20 (by decide) ?_
  refine cr_put (k := 6) X hP hS (rfl : kc 1 = 1) rfl cs1_6 rfl cinX8 tyX8_ok nmX8 (by decide) rfl rfl rfl rfl tw92 dX8_takeNumber_21 (fun H locs hP hS => ?_)
  exact kX8_takeNumber_24 X hret hf hP hS (lv_sub hl [0, 1, 2] rfl)
set_option maxRecDepth 10000 in
theorem kX8_takeNumber_18 {r : Int32} {S1 : CS} {M : CS} {s0 : Int32} {H : Heap} {locs : List Loc} {ls : Array Slot} (X : gX p s m args c cX8_takeNumber 4 RX8 (kR kTab kA)) (hret : gRetI p l e (rmL 3 0 0) s m args below meth c cX8_takeNumber (cΩ ca) (cP dC dI cg kA ca) Q r S1) (hf : fX8_takeNumber_18 M s0 = some (r, S1)) (hP : (cP dC dI cg kA ca) M s H) (hS : va_S (Fr (cΩ ca) s.heap.size) s.heap H locs) (hl : lv_has ls 4 [(0, .ref (ca 1))]) : W p l e (rmL 3 0 0) s m args below meth c H locs 0 0 Q (F0 m 18 ls [.int s0]) := by
  have hx := X.hx
  have hb := X.hb
  have hown := X.hown
  have hts := X.hts
  rw [fX8_takeNumber_18] at hf
  cases hf
  exact hret _ _ _ _ dX8_takeNumber_18 hP hS
set_option maxRecDepth 10000 in
theorem kX8_takeNumber_13 {r : Int32} {S1 : CS} {M : CS} {H : Heap} {locs : List Loc} {ls : Array Slot} (X : gX p s m args c cX8_takeNumber 4 RX8 (kR kTab kA)) (hret : gRetI p l e (rmL 3 0 0) s m args below meth c cX8_takeNumber (cΩ ca) (cP dC dI cg kA ca) Q r S1) (hf : fX8_takeNumber_13 M = some (r, S1)) (hP : (cP dC dI cg kA ca) M s H) (hS : va_S (Fr (cΩ ca) s.heap.size) s.heap H locs) (hl : lv_has ls 4 [(0, .ref (ca 1))]) : W p l e (rmL 3 0 0) s m args below meth c H locs 0 0 Q (F0 m 13 ls []) := by
  have hx := X.hx
  have hb := X.hb
  have hown := X.hown
  have hts := X.hts
  rw [fX8_takeNumber_13] at hf
  refine lv_aload_n hx hb dX8_takeNumber_13 rfl (lv_at hl 0 rfl) ?_
  refine lv_iconst (v := 1) hx hb dX8_takeNumber_14 (by decide) ?_
  obtain ⟨q, hc, hf⟩ := bd hf
  refine gCallVI X cOK rfl (vX8_fail hc) gRX8_X8_fail hdX8_fail rfl ⟨by decide, by decide⟩ hP hS (cr_rec hP (rfl : kc 1 = 1) rfl cw1 rfl) hl.1 (Nat.le_of_ble_eq_true rfl) ⟨Nat.zero_le _, Nat.zero_le _⟩ dX8_takeNumber_15 (As := [.int 1]) (rest := []) rfl (fun H locs hP hS => ?_)
  exact kX8_takeNumber_18 X hret hf hP hS (lv_sub hl [0] rfl)
set_option maxRecDepth 10000 in
theorem kX8_takeNumber_4 {r : Int32} {S1 : CS} {M : CS} {x1 : Int32} {x2 : Int32} {s0 : Int32} {H : Heap} {locs : List Loc} {ls : Array Slot} (X : gX p s m args c cX8_takeNumber 4 RX8 (kR kTab kA)) (hret : gRetI p l e (rmL 3 0 0) s m args below meth c cX8_takeNumber (cΩ ca) (cP dC dI cg kA ca) Q r S1) (hf : fX8_takeNumber_4 M x1 x2 s0 = some (r, S1)) (hP : (cP dC dI cg kA ca) M s H) (hS : va_S (Fr (cΩ ca) s.heap.size) s.heap H locs) (hl : lv_has ls 4 [(0, .ref (ca 1)), (1, .int x1), (2, .int x2)]) : W p l e (rmL 3 0 0) s m args below meth c H locs 0 0 Q (F0 m 4 ls [.int s0]) := by
  have hx := X.hx
  have hb := X.hb
  have hown := X.hown
  have hts := X.hts
  rw [fX8_takeNumber_4] at hf
  refine lv_pop hx hb dX8_takeNumber_4 rfl ?_
  refine lv_aload_n hx hb dX8_takeNumber_5 rfl (lv_at hl 0 rfl) ?_
  refine cr_get (k := 4) X hP (rfl : kc 1 = 1) rfl cv1_4 rfl cinX8 (by decide) rfl tw88 dX8_takeNumber_6 ?_
  refine lv_iconst (v := 2) hx hb dX8_takeNumber_9 (by decide) ?_
  refine lv_icmp_eq (tgt := 19) hx hb dX8_takeNumber_10 (by decide) (fun c1 => ?_) (fun c1 => ?_)
  · exact kX8_takeNumber_19 X hret (ifp c1 hf) hP hS (lv_sub hl [0, 1, 2] rfl)
  · exact kX8_takeNumber_13 X hret (ifn c1 hf) hP hS (lv_sub hl [0] rfl)
set_option maxRecDepth 10000 in
theorem kX8_takeNumber_0 {r : Int32} {S1 : CS} {M : CS} {a1 : Int32} {a2 : Int32} {H : Heap} {locs : List Loc} {ls : Array Slot} (X : gX p s m args c cX8_takeNumber 4 RX8 (kR kTab kA)) (hret : gRetI p l e (rmL 3 0 0) s m args below meth c cX8_takeNumber (cΩ ca) (cP dC dI cg kA ca) Q r S1) (hf : fX8_takeNumber_0 M a1 a2 = some (r, S1)) (hP : (cP dC dI cg kA ca) M s H) (hS : va_S (Fr (cΩ ca) s.heap.size) s.heap H locs) (hl : lv_has ls 4 [(0, .ref (ca 1)), (1, .int a1), (2, .int a2)]) : W p l e (rmL 3 0 0) s m args below meth c H locs 0 0 Q (F0 m 0 ls []) := by
  have hx := X.hx
  have hb := X.hb
  have hown := X.hown
  have hts := X.hts
  rw [fX8_takeNumber_0] at hf
  refine lv_aload_n hx hb dX8_takeNumber_0 rfl (lv_at hl 0 rfl) ?_
  obtain ⟨q, hc, hf⟩ := bd hf
  refine gCallVI X cOK rfl (vX8_advance hc) gRX8_X8_advance hdX8_advance rfl ⟨by decide, by decide⟩ hP hS (cr_rec hP (rfl : kc 1 = 1) rfl cw1 rfl) hl.1 (Nat.le_of_ble_eq_true rfl) ⟨Nat.zero_le _, Nat.zero_le _⟩ dX8_takeNumber_1 (As := []) (rest := []) rfl (fun H locs hP hS => ?_)
  exact kX8_takeNumber_4 X hret hf hP hS (lv_sub hl [0, 1, 2] rfl)
theorem vX8_takeNumber {l : Launch} {dC : Nat → ClassId} {dI : Nat → Nat → Nat} {cg : Nat → ClassId} {kA : String → Nat → Nat} {ca : Nat → Nat} {M S1 : CS} {r : Int32} {a1 : Int32} {a2 : Int32} (hf : fX8_takeNumber M a1 a2 = some (r, S1)) : gMetI l yX8_takeNumber cX8_takeNumber 4 (some .boolean) 3 (cΩ ca) (cP dC dI cg kA ca) (kR kTab kA) [.ref (ca 1), .int a1, .int a2] M r S1 := gEntryI (ty := .boolean) (by decide) rfl (bz_n hf) cOK (Nat.le_of_ble_eq_true rfl) (fun p e s m args below meth c Q ls X hP hS hret hl => 
  kX8_takeNumber_0 X hret (bz_f hf) hP hS (lv_sub hl [0, 1, 2] rfl))
set_option maxRecDepth 10000 in
theorem kX10_appendInput_60 {r : Int32} {S1 : CS} {M : CS} {H : Heap} {locs : List Loc} {ls : Array Slot} (X : gX p s m args c cX10_appendInput 6 RX10 (kR kTab kA)) (hret : gRetI p l e (rmL 3 0 0) s m args below meth c cX10_appendInput (cΩ ca) (cP dC dI cg kA ca) Q r S1) (hf : fX10_appendInput_60 M = some (r, S1)) (hP : (cP dC dI cg kA ca) M s H) (hS : va_S (Fr (cΩ ca) s.heap.size) s.heap H locs) (hl : lv_has ls 6 [(0, .ref (ca 0))]) : W p l e (rmL 3 0 0) s m args below meth c H locs 0 0 Q (F0 m 60 ls []) := by
  have hx := X.hx
  have hb := X.hb
  have hown := X.hown
  have hts := X.hts
  rw [fX10_appendInput_60] at hf
  refine lv_aload_n hx hb dX10_appendInput_60 rfl (lv_at hl 0 rfl) ?_
  refine cr_get (k := 0) X hP (rfl : kc 0 = 0) rfl cv0_0 rfl cinX10 (by decide) rfl tw955 dX10_appendInput_61 ?_
  refine cr_get (k := 2) X hP (rfl : kc 1 = 1) rfl cv1_2 rfl cinX8 (by decide) rfl tw83 dX10_appendInput_64 ?_
  cases hf
  exact hret _ _ _ _ dX10_appendInput_67 hP hS
set_option maxRecDepth 10000 in
theorem kX10_appendInput_51 {r : Int32} {S1 : CS} {M : CS} {x5 : Int32} {H : Heap} {locs : List Loc} {ls : Array Slot} (X : gX p s m args c cX10_appendInput 6 RX10 (kR kTab kA)) (hret : gRetI p l e (rmL 3 0 0) s m args below meth c cX10_appendInput (cΩ ca) (cP dC dI cg kA ca) Q r S1) (hf : fX10_appendInput_51 M x5 = some (r, S1)) (hP : (cP dC dI cg kA ca) M s H) (hS : va_S (Fr (cΩ ca) s.heap.size) s.heap H locs) (hl : lv_has ls 6 [(0, .ref (ca 0)), (5, .int x5)]) : W p l e (rmL 3 0 0) s m args below meth c H locs 0 0 Q (F0 m 51 ls []) := by
  have hx := X.hx
  have hb := X.hb
  have hown := X.hown
  have hts := X.hts
  rw [fX10_appendInput_51] at hf
  refine lv_aload_n hx hb dX10_appendInput_51 rfl (lv_at hl 0 rfl) ?_
  refine cr_get (k := 0) X hP (rfl : kc 0 = 0) rfl cv0_0 rfl cinX10 (by decide) rfl tw955 dX10_appendInput_52 ?_
  refine lv_iload hx hb dX10_appendInput_55 (lv_at hl 1 rfl) ?_
  obtain ⟨q, hc, hf⟩ := bd hf
  refine gCallVV X cOK rfl (vX8_appendFour hc) gRX10_X8_appendFour hdX8_appendFour rfl ⟨by decide, by decide⟩ hP hS (cr_rec hP (rfl : kc 1 = 1) rfl cw1 rfl) hl.1 (Nat.le_of_ble_eq_true rfl) ⟨Nat.zero_le _, Nat.zero_le _⟩ dX10_appendInput_57 (As := [.int x5]) (rest := []) rfl (fun H locs hP hS => ?_)
  exact kX10_appendInput_60 X hret hf hP hS (lv_sub hl [0] rfl)
set_option maxRecDepth 10000 in
theorem kX10_appendInput_42 {r : Int32} {S1 : CS} {M : CS} {x4 : Int32} {x5 : Int32} {H : Heap} {locs : List Loc} {ls : Array Slot} (X : gX p s m args c cX10_appendInput 6 RX10 (kR kTab kA)) (hret : gRetI p l e (rmL 3 0 0) s m args below meth c cX10_appendInput (cΩ ca) (cP dC dI cg kA ca) Q r S1) (hf : fX10_appendInput_42 M x4 x5 = some (r, S1)) (hP : (cP dC dI cg kA ca) M s H) (hS : va_S (Fr (cΩ ca) s.heap.size) s.heap H locs) (hl : lv_has ls 6 [(0, .ref (ca 0)), (4, .int x4), (5, .int x5)]) : W p l e (rmL 3 0 0) s m args below meth c H locs 0 0 Q (F0 m 42 ls []) := by
  have hx := X.hx
  have hb := X.hb
  have hown := X.hown
  have hts := X.hts
  rw [fX10_appendInput_42] at hf
  refine lv_aload_n hx hb dX10_appendInput_42 rfl (lv_at hl 0 rfl) ?_
  refine cr_get (k := 0) X hP (rfl : kc 0 = 0) rfl cv0_0 rfl cinX10 (by decide) rfl tw955 dX10_appendInput_43 ?_
  refine lv_iload hx hb dX10_appendInput_46 (lv_at hl 1 rfl) ?_
  obtain ⟨q, hc, hf⟩ := bd hf
  refine gCallVV X cOK rfl (vX8_appendFour hc) gRX10_X8_appendFour hdX8_appendFour rfl ⟨by decide, by decide⟩ hP hS (cr_rec hP (rfl : kc 1 = 1) rfl cw1 rfl) hl.1 (Nat.le_of_ble_eq_true rfl) ⟨Nat.zero_le _, Nat.zero_le _⟩ dX10_appendInput_48 (As := [.int x4]) (rest := []) rfl (fun H locs hP hS => ?_)
  exact kX10_appendInput_51 X hret hf hP hS (lv_sub hl [0, 2] rfl)
set_option maxRecDepth 10000 in
theorem kX10_appendInput_34 {r : Int32} {S1 : CS} {M : CS} {x3 : Int32} {x4 : Int32} {x5 : Int32} {H : Heap} {locs : List Loc} {ls : Array Slot} (X : gX p s m args c cX10_appendInput 6 RX10 (kR kTab kA)) (hret : gRetI p l e (rmL 3 0 0) s m args below meth c cX10_appendInput (cΩ ca) (cP dC dI cg kA ca) Q r S1) (hf : fX10_appendInput_34 M x3 x4 x5 = some (r, S1)) (hP : (cP dC dI cg kA ca) M s H) (hS : va_S (Fr (cΩ ca) s.heap.size) s.heap H locs) (hl : lv_has ls 6 [(0, .ref (ca 0)), (3, .int x3), (4, .int x4), (5, .int x5)]) : W p l e (rmL 3 0 0) s m args below meth c H locs 0 0 Q (F0 m 34 ls []) := by
  have hx := X.hx
  have hb := X.hb
  have hown := X.hown
  have hts := X.hts
  rw [fX10_appendInput_34] at hf
  refine lv_aload_n hx hb dX10_appendInput_34 rfl (lv_at hl 0 rfl) ?_
  refine cr_get (k := 0) X hP (rfl : kc 0 = 0) rfl cv0_0 rfl cinX10 (by decide) rfl tw955 dX10_appendInput_35 ?_
  refine lv_iload_n hx hb dX10_appendInput_38 rfl (lv_at hl 1 rfl) ?_
  obtain ⟨q, hc, hf⟩ := bd hf
  refine gCallVV X cOK rfl (vX8_appendFour hc) gRX10_X8_appendFour hdX8_appendFour rfl ⟨by decide, by decide⟩ hP hS (cr_rec hP (rfl : kc 1 = 1) rfl cw1 rfl) hl.1 (Nat.le_of_ble_eq_true rfl) ⟨Nat.zero_le _, Nat.zero_le _⟩ dX10_appendInput_39 (As := [.int x3]) (rest := []) rfl (fun H locs hP hS => ?_)
  exact kX10_appendInput_42 X hret hf hP hS (lv_sub hl [0, 2, 3] rfl)
set_option maxRecDepth 10000 in
theorem kX10_appendInput_26 {r : Int32} {S1 : CS} {M : CS} {x2 : Int32} {x3 : Int32} {x4 : Int32} {x5 : Int32} {H : Heap} {locs : List Loc} {ls : Array Slot} (X : gX p s m args c cX10_appendInput 6 RX10 (kR kTab kA)) (hret : gRetI p l e (rmL 3 0 0) s m args below meth c cX10_appendInput (cΩ ca) (cP dC dI cg kA ca) Q r S1) (hf : fX10_appendInput_26 M x2 x3 x4 x5 = some (r, S1)) (hP : (cP dC dI cg kA ca) M s H) (hS : va_S (Fr (cΩ ca) s.heap.size) s.heap H locs) (hl : lv_has ls 6 [(0, .ref (ca 0)), (2, .int x2), (3, .int x3), (4, .int x4), (5, .int x5)]) : W p l e (rmL 3 0 0) s m args below meth c H locs 0 0 Q (F0 m 26 ls []) := by
  have hx := X.hx
  have hb := X.hb
  have hown := X.hown
  have hts := X.hts
  rw [fX10_appendInput_26] at hf
  refine lv_aload_n hx hb dX10_appendInput_26 rfl (lv_at hl 0 rfl) ?_
  refine cr_get (k := 0) X hP (rfl : kc 0 = 0) rfl cv0_0 rfl cinX10 (by decide) rfl tw955 dX10_appendInput_27 ?_
  refine lv_iload_n hx hb dX10_appendInput_30 rfl (lv_at hl 1 rfl) ?_
  obtain ⟨q, hc, hf⟩ := bd hf
  refine gCallVV X cOK rfl (vX8_appendFour hc) gRX10_X8_appendFour hdX8_appendFour rfl ⟨by decide, by decide⟩ hP hS (cr_rec hP (rfl : kc 1 = 1) rfl cw1 rfl) hl.1 (Nat.le_of_ble_eq_true rfl) ⟨Nat.zero_le _, Nat.zero_le _⟩ dX10_appendInput_31 (As := [.int x2]) (rest := []) rfl (fun H locs hP hS => ?_)
  exact kX10_appendInput_34 X hret hf hP hS (lv_sub hl [0, 2, 3, 4] rfl)
set_option maxRecDepth 10000 in
theorem kX10_appendInput_18 {r : Int32} {S1 : CS} {M : CS} {x1 : Int32} {x2 : Int32} {x3 : Int32} {x4 : Int32} {x5 : Int32} {H : Heap} {locs : List Loc} {ls : Array Slot} (X : gX p s m args c cX10_appendInput 6 RX10 (kR kTab kA)) (hret : gRetI p l e (rmL 3 0 0) s m args below meth c cX10_appendInput (cΩ ca) (cP dC dI cg kA ca) Q r S1) (hf : fX10_appendInput_18 M x1 x2 x3 x4 x5 = some (r, S1)) (hP : (cP dC dI cg kA ca) M s H) (hS : va_S (Fr (cΩ ca) s.heap.size) s.heap H locs) (hl : lv_has ls 6 [(0, .ref (ca 0)), (1, .int x1), (2, .int x2), (3, .int x3), (4, .int x4), (5, .int x5)]) : W p l e (rmL 3 0 0) s m args below meth c H locs 0 0 Q (F0 m 18 ls []) := by
  have hx := X.hx
  have hb := X.hb
  have hown := X.hown
  have hts := X.hts
  rw [fX10_appendInput_18] at hf
  refine lv_aload_n hx hb dX10_appendInput_18 rfl (lv_at hl 0 rfl) ?_
  refine cr_get (k := 0) X hP (rfl : kc 0 = 0) rfl cv0_0 rfl cinX10 (by decide) rfl tw955 dX10_appendInput_19 ?_
  refine lv_iload_n hx hb dX10_appendInput_22 rfl (lv_at hl 1 rfl) ?_
  obtain ⟨q, hc, hf⟩ := bd hf
  refine gCallVV X cOK rfl (vX8_appendFour hc) gRX10_X8_appendFour hdX8_appendFour rfl ⟨by decide, by decide⟩ hP hS (cr_rec hP (rfl : kc 1 = 1) rfl cw1 rfl) hl.1 (Nat.le_of_ble_eq_true rfl) ⟨Nat.zero_le _, Nat.zero_le _⟩ dX10_appendInput_23 (As := [.int x1]) (rest := []) rfl (fun H locs hP hS => ?_)
  exact kX10_appendInput_26 X hret hf hP hS (lv_sub hl [0, 2, 3, 4, 5] rfl)
set_option maxRecDepth 10000 in
theorem kX10_appendInput_16 {r : Int32} {S1 : CS} {M : CS} {H : Heap} {locs : List Loc} {ls : Array Slot} (X : gX p s m args c cX10_appendInput 6 RX10 (kR kTab kA)) (hret : gRetI p l e (rmL 3 0 0) s m args below meth c cX10_appendInput (cΩ ca) (cP dC dI cg kA ca) Q r S1) (hf : fX10_appendInput_16 M = some (r, S1)) (hP : (cP dC dI cg kA ca) M s H) (hS : va_S (Fr (cΩ ca) s.heap.size) s.heap H locs) (hl : lv_has ls 6 [(0, .ref (ca 0))]) : W p l e (rmL 3 0 0) s m args below meth c H locs 0 0 Q (F0 m 16 ls []) := by
  have hx := X.hx
  have hb := X.hb
  have hown := X.hown
  have hts := X.hts
  rw [fX10_appendInput_16] at hf
  refine lv_iconst (v := (-1)) hx hb dX10_appendInput_16 (by decide) ?_
  cases hf
  exact hret _ _ _ _ dX10_appendInput_17 hP hS
set_option maxRecDepth 10000 in
theorem kX10_appendInput_0 {r : Int32} {S1 : CS} {M : CS} {a1 : Int32} {a2 : Int32} {a3 : Int32} {a4 : Int32} {a5 : Int32} {H : Heap} {locs : List Loc} {ls : Array Slot} (X : gX p s m args c cX10_appendInput 6 RX10 (kR kTab kA)) (hret : gRetI p l e (rmL 3 0 0) s m args below meth c cX10_appendInput (cΩ ca) (cP dC dI cg kA ca) Q r S1) (hf : fX10_appendInput_0 M a1 a2 a3 a4 a5 = some (r, S1)) (hP : (cP dC dI cg kA ca) M s H) (hS : va_S (Fr (cΩ ca) s.heap.size) s.heap H locs) (hl : lv_has ls 6 [(0, .ref (ca 0)), (1, .int a1), (2, .int a2), (3, .int a3), (4, .int a4), (5, .int a5)]) : W p l e (rmL 3 0 0) s m args below meth c H locs 0 0 Q (F0 m 0 ls []) := by
  have hx := X.hx
  have hb := X.hb
  have hown := X.hown
  have hts := X.hts
  rw [fX10_appendInput_0] at hf
  refine lv_aload_n hx hb dX10_appendInput_0 rfl (lv_at hl 0 rfl) ?_
  refine cr_get (k := 0) X hP (rfl : kc 0 = 0) rfl cv0_0 rfl cinX10 (by decide) rfl tw955 dX10_appendInput_1 ?_
  refine cr_get (k := 2) X hP (rfl : kc 1 = 1) rfl cv1_2 rfl cinX8 (by decide) rfl tw83 dX10_appendInput_4 ?_
  refine lv_bipush (v := 20) hx hb dX10_appendInput_7 (by decide) ?_
  refine lv_iadd hx hb dX10_appendInput_9 ?_
  refine lv_sipush (v := 600) hx hb dX10_appendInput_10 (by decide) ?_
  refine lv_icmp_le (tgt := 18) hx hb dX10_appendInput_13 (by decide) (fun c1 => ?_) (fun c1 => ?_)
  · exact kX10_appendInput_18 X hret (ifp c1 hf) hP hS (lv_sub hl [0, 1, 2, 3, 4, 5] rfl)
  · exact kX10_appendInput_16 X hret (ifn c1 hf) hP hS (lv_sub hl [0] rfl)
theorem vX10_appendInput {l : Launch} {dC : Nat → ClassId} {dI : Nat → Nat → Nat} {cg : Nat → ClassId} {kA : String → Nat → Nat} {ca : Nat → Nat} {M S1 : CS} {r : Int32} {a1 : Int32} {a2 : Int32} {a3 : Int32} {a4 : Int32} {a5 : Int32} (hf : fX10_appendInput M a1 a2 a3 a4 a5 = some (r, S1)) : gMetI l yX10_appendInput cX10_appendInput 6 (some .int) 3 (cΩ ca) (cP dC dI cg kA ca) (kR kTab kA) [.ref (ca 0), .int a1, .int a2, .int a3, .int a4, .int a5] M r S1 := gEntryI (ty := .int) (by decide) rfl rfl cOK (Nat.le_of_ble_eq_true rfl) (fun p e s m args below meth c Q ls X hP hS hret hl => 
  kX10_appendInput_0 X hret hf hP hS (lv_sub hl [0, 1, 2, 3, 4, 5] rfl))
set_option maxRecDepth 10000 in
theorem kX10_strengthOf_8 {r : Int32} {M : CS} {s0 : Int32} (X : gX p s m args c cX10_strengthOf 2 RX10 (kR kTab kA)) (hret : gRetR p l e (rmL 3 0 0) s m args below meth c cX10_strengthOf Q r) (hf : fX10_strengthOf_8 M s0 = some r) {ls : Array Slot} (hP : (cP dC dI cg kA ca) M s s.heap) (hl : lv_has ls 2 [(0, .ref (ca 0))]) : W p l e (rmL 3 0 0) s m args below meth c s.heap [] 0 0 Q (F0 m 8 ls [.int s0]) := by
  have hx := X.hx
  have hb := X.hb
  have hown := X.hown
  have hts := X.hts
  rw [fX10_strengthOf_8] at hf
  cases hf
  exact hret _ _ dX10_strengthOf_8
set_option maxRecDepth 10000 in
theorem kX10_strengthOf_5 {r : Int32} {M : CS} {z0 : Nat} (X : gX p s m args c cX10_strengthOf 2 RX10 (kR kTab kA)) (hret : gRetR p l e (rmL 3 0 0) s m args below meth c cX10_strengthOf Q r) (hkz0 : kc z0 = 18) (hf : fX10_strengthOf_5 M z0 = some r) {ls : Array Slot} (hP : (cP dC dI cg kA ca) M s s.heap) (hl : lv_has ls 2 [(0, .ref (ca 0))]) : W p l e (rmL 3 0 0) s m args below meth c s.heap [] 0 0 Q (F0 m 5 ls [.ref (ca z0)]) := by
  have hx := X.hx
  have hb := X.hb
  have hown := X.hown
  have hts := X.hts
  rw [fX10_strengthOf_5] at hf
  obtain ⟨q, hc, hf⟩ := bd hf
  refine gCallVR X rfl (vX0_strength hkz0 hc) gRX10_X0_strength hdX0_strength rfl ⟨by decide, by decide⟩ (gB_blind cOK) (gB_at cOK X hP) (cr_rec hP hkz0 rfl cw18 rfl) hl.1 (Nat.le_of_ble_eq_true rfl) ⟨Nat.zero_le _, Nat.zero_le _⟩ dX10_strengthOf_5 (As := []) (rest := []) rfl ?_
  exact kX10_strengthOf_8 X hret hf hP (lv_sub hl [0] rfl)
set_option maxRecDepth 10000 in
theorem kX10_strengthOf_0 {r : Int32} {M : CS} {a1 : Int32} (X : gX p s m args c cX10_strengthOf 2 RX10 (kR kTab kA)) (hret : gRetR p l e (rmL 3 0 0) s m args below meth c cX10_strengthOf Q r) (hf : fX10_strengthOf_0 M a1 = some r) {ls : Array Slot} (hP : (cP dC dI cg kA ca) M s s.heap) (hl : lv_has ls 2 [(0, .ref (ca 0)), (1, .int a1)]) : W p l e (rmL 3 0 0) s m args below meth c s.heap [] 0 0 Q (F0 m 0 ls []) := by
  have hx := X.hx
  have hb := X.hb
  have hown := X.hown
  have hts := X.hts
  rw [fX10_strengthOf_0] at hf
  refine lv_aload_n hx hb dX10_strengthOf_0 rfl (lv_at hl 0 rfl) ?_
  refine lv_iload_n hx hb dX10_strengthOf_1 rfl (lv_at hl 1 rfl) ?_
  obtain ⟨q, hc, hf⟩ := bd hf
  refine gCallVP X rfl (vX10_catAt hc) gRX10_X10_catAt hdX10_catAt rfl ⟨by decide, by decide⟩ (gB_blind cOK) (gB_at cOK X hP) (cr_rec hP (rfl : kc 0 = 0) rfl cw0 rfl) hl.1 (Nat.le_of_ble_eq_true rfl) ⟨Nat.zero_le _, Nat.zero_le _⟩ dX10_strengthOf_2 (As := [.int a1]) (rest := []) rfl ?_
  exact kX10_strengthOf_5 X hret (kkX10_catAt hc) hf hP (lv_sub hl [0] rfl)
theorem vX10_strengthOf {l : Launch} {dC : Nat → ClassId} {dI : Nat → Nat → Nat} {cg : Nat → ClassId} {kA : String → Nat → Nat} {ca : Nat → Nat} {M : CS} {r : Int32} {a1 : Int32} (hf : fX10_strengthOf M a1 = some r) : gMetR l yX10_strengthOf cX10_strengthOf 2 (some .int) 3 (gB (cP dC dI cg kA ca) (kR kTab kA) M) [.ref (ca 0), .int a1] r := gEntryR (ty := .int) (by decide) rfl rfl (Nat.le_of_ble_eq_true rfl) (fun _ h => h.2) (fun p e s m args below meth c Q ls X hB hret hl => 
  kX10_strengthOf_0 X hret hf hB.1 (lv_sub hl [0, 1] rfl))
set_option maxRecDepth 10000 in
theorem kX10_eventKind_40 {r : Int32} {M : CS} {s0 : Int32} (X : gX p s m args c cX10_eventKind 2 RX10 (kR kTab kA)) (hret : gRetR p l e (rmL 3 0 0) s m args below meth c cX10_eventKind Q r) (hf : fX10_eventKind_40 M s0 = some r) {ls : Array Slot} (hP : (cP dC dI cg kA ca) M s s.heap) (hl : lv_has ls 2 [(0, .ref (ca 0))]) : W p l e (rmL 3 0 0) s m args below meth c s.heap [] 0 0 Q (F0 m 40 ls [.int s0]) := by
  have hx := X.hx
  have hb := X.hb
  have hown := X.hown
  have hts := X.hts
  rw [fX10_eventKind_40] at hf
  cases hf
  exact hret _ _ dX10_eventKind_40
set_option maxRecDepth 10000 in
theorem kX10_eventKind_39 {r : Int32} {M : CS} (X : gX p s m args c cX10_eventKind 2 RX10 (kR kTab kA)) (hret : gRetR p l e (rmL 3 0 0) s m args below meth c cX10_eventKind Q r) (hf : fX10_eventKind_39 M = some r) {ls : Array Slot} (hP : (cP dC dI cg kA ca) M s s.heap) (hl : lv_has ls 2 [(0, .ref (ca 0))]) : W p l e (rmL 3 0 0) s m args below meth c s.heap [] 0 0 Q (F0 m 39 ls []) := by
  have hx := X.hx
  have hb := X.hb
  have hown := X.hown
  have hts := X.hts
  rw [fX10_eventKind_39] at hf
  refine lv_iconst (v := (-1)) hx hb dX10_eventKind_39 (by decide) ?_
  exact kX10_eventKind_40 X hret hf hP (lv_sub hl [0] rfl)
set_option maxRecDepth 10000 in
theorem kX10_eventKind_35 {r : Int32} {M : CS} {s0 : Int32} (X : gX p s m args c cX10_eventKind 2 RX10 (kR kTab kA)) (hret : gRetR p l e (rmL 3 0 0) s m args below meth c cX10_eventKind Q r) (hf : fX10_eventKind_35 M s0 = some r) {ls : Array Slot} (hP : (cP dC dI cg kA ca) M s s.heap) (hl : lv_has ls 2 [(0, .ref (ca 0))]) : W p l e (rmL 3 0 0) s m args below meth c s.heap [] 0 0 Q (F0 m 35 ls [.int s0, .ref (ca ((13 + 4) + 1))]) := by
  have hx := X.hx
  have hb := X.hb
  have hown := X.hown
  have hts := X.hts
  rw [fX10_eventKind_35] at hf
  obtain ⟨g1, hf⟩ := gd hf
  refine cr_iald X hP (kc_ev0 (kc_events (rfl : kc 13 = 11))) rfl (fun _ => rfl) g1 dX10_eventKind_35 ?_
  refine lv_goto (tgt := 40) hx hb dX10_eventKind_36 (by decide) ?_
  exact kX10_eventKind_40 X hret hf hP (lv_sub hl [0] rfl)
set_option maxRecDepth 10000 in
theorem kX10_eventKind_14 {r : Int32} {M : CS} {x1 : Int32} (X : gX p s m args c cX10_eventKind 2 RX10 (kR kTab kA)) (hret : gRetR p l e (rmL 3 0 0) s m args below meth c cX10_eventKind Q r) (hf : fX10_eventKind_14 M x1 = some r) {ls : Array Slot} (hP : (cP dC dI cg kA ca) M s s.heap) (hl : lv_has ls 2 [(0, .ref (ca 0)), (1, .int x1)]) : W p l e (rmL 3 0 0) s m args below meth c s.heap [] 0 0 Q (F0 m 14 ls []) := by
  have hx := X.hx
  have hb := X.hb
  have hown := X.hown
  have hts := X.hts
  rw [fX10_eventKind_14] at hf
  refine lv_aload_n hx hb dX10_eventKind_14 rfl (lv_at hl 0 rfl) ?_
  refine cr_get (k := 2) X hP (rfl : kc 0 = 0) rfl cv0_2 rfl cinX10 (by decide) rfl tw957 dX10_eventKind_15 ?_
  refine cr_get (k := 3) X hP (rfl : kc 13 = 11) rfl cv11_3 rfl cinX2 (by decide) rfl tw323 dX10_eventKind_18 ?_
  refine cr_get (k := 0) X hP (kc_events (rfl : kc 13 = 11)) rfl cv15_0 rfl cinX1 (by decide) rfl tw150 dX10_eventKind_21 ?_
  refine lv_aload_n hx hb dX10_eventKind_24 rfl (lv_at hl 0 rfl) ?_
  refine cr_get (k := 2) X hP (rfl : kc 0 = 0) rfl cv0_2 rfl cinX10 (by decide) rfl tw957 dX10_eventKind_25 ?_
  refine cr_get (k := 3) X hP (rfl : kc 13 = 11) rfl cv11_3 rfl cinX2 (by decide) rfl tw323 dX10_eventKind_28 ?_
  refine lv_iload_n hx hb dX10_eventKind_31 rfl (lv_at hl 1 rfl) ?_
  obtain ⟨q, hc, hf⟩ := bd hf
  refine gCallVR X rfl (vX1_slot (kc_events (rfl : kc 13 = 11)) hc) gRX10_X1_slot hdX1_slot rfl ⟨by decide, by decide⟩ (gB_blind cOK) (gB_at cOK X hP) (cr_rec hP (kc_events (rfl : kc 13 = 11)) rfl cw15 rfl) hl.1 (Nat.le_of_ble_eq_true rfl) ⟨Nat.zero_le _, Nat.zero_le _⟩ dX10_eventKind_32 (As := [.int x1]) (rest := [.ref (ca ((13 + 4) + 1))]) rfl ?_
  exact kX10_eventKind_35 X hret hf hP (lv_sub hl [0] rfl)
set_option maxRecDepth 10000 in
theorem kX10_eventKind_11 {r : Int32} {M : CS} {x1 : Int32} {s0 : Int32} (X : gX p s m args c cX10_eventKind 2 RX10 (kR kTab kA)) (hret : gRetR p l e (rmL 3 0 0) s m args below meth c cX10_eventKind Q r) (hf : fX10_eventKind_11 M x1 s0 = some r) {ls : Array Slot} (hP : (cP dC dI cg kA ca) M s s.heap) (hl : lv_has ls 2 [(0, .ref (ca 0)), (1, .int x1)]) : W p l e (rmL 3 0 0) s m args below meth c s.heap [] 0 0 Q (F0 m 11 ls [.int s0]) := by
  have hx := X.hx
  have hb := X.hb
  have hown := X.hown
  have hts := X.hts
  rw [fX10_eventKind_11] at hf
  refine lv_if_eq (tgt := 39) hx hb dX10_eventKind_11 (by decide) (fun c1 => ?_) (fun c1 => ?_)
  · exact kX10_eventKind_39 X hret (ifp c1 hf) hP (lv_sub hl [0] rfl)
  · exact kX10_eventKind_14 X hret (ifn c1 hf) hP (lv_sub hl [0, 1] rfl)
set_option maxRecDepth 10000 in
theorem kX10_eventKind_0 {r : Int32} {M : CS} {a1 : Int32} (X : gX p s m args c cX10_eventKind 2 RX10 (kR kTab kA)) (hret : gRetR p l e (rmL 3 0 0) s m args below meth c cX10_eventKind Q r) (hf : fX10_eventKind_0 M a1 = some r) {ls : Array Slot} (hP : (cP dC dI cg kA ca) M s s.heap) (hl : lv_has ls 2 [(0, .ref (ca 0)), (1, .int a1)]) : W p l e (rmL 3 0 0) s m args below meth c s.heap [] 0 0 Q (F0 m 0 ls []) := by
  have hx := X.hx
  have hb := X.hb
  have hown := X.hown
  have hts := X.hts
  rw [fX10_eventKind_0] at hf
  refine lv_aload_n hx hb dX10_eventKind_0 rfl (lv_at hl 0 rfl) ?_
  refine cr_get (k := 2) X hP (rfl : kc 0 = 0) rfl cv0_2 rfl cinX10 (by decide) rfl tw957 dX10_eventKind_1 ?_
  refine cr_get (k := 3) X hP (rfl : kc 13 = 11) rfl cv11_3 rfl cinX2 (by decide) rfl tw323 dX10_eventKind_4 ?_
  refine lv_iload_n hx hb dX10_eventKind_7 rfl (lv_at hl 1 rfl) ?_
  obtain ⟨q, hc, hf⟩ := bd hf
  refine gCallVR X rfl (vX1_holds (kc_events (rfl : kc 13 = 11)) hc) gRX10_X1_holds hdX1_holds rfl ⟨by decide, by decide⟩ (gB_blind cOK) (gB_at cOK X hP) (cr_rec hP (kc_events (rfl : kc 13 = 11)) rfl cw15 rfl) hl.1 (Nat.le_of_ble_eq_true rfl) ⟨Nat.zero_le _, Nat.zero_le _⟩ dX10_eventKind_8 (As := [.int a1]) (rest := []) rfl ?_
  exact kX10_eventKind_11 X hret hf hP (lv_sub hl [0, 1] rfl)
theorem vX10_eventKind {l : Launch} {dC : Nat → ClassId} {dI : Nat → Nat → Nat} {cg : Nat → ClassId} {kA : String → Nat → Nat} {ca : Nat → Nat} {M : CS} {r : Int32} {a1 : Int32} (hf : fX10_eventKind M a1 = some r) : gMetR l yX10_eventKind cX10_eventKind 2 (some .int) 3 (gB (cP dC dI cg kA ca) (kR kTab kA) M) [.ref (ca 0), .int a1] r := gEntryR (ty := .int) (by decide) rfl rfl (Nat.le_of_ble_eq_true rfl) (fun _ h => h.2) (fun p e s m args below meth c Q ls X hB hret hl => 
  kX10_eventKind_0 X hret hf hB.1 (lv_sub hl [0, 1] rfl))
set_option maxRecDepth 10000 in
theorem kX10_eventCat_40 {r : Int32} {M : CS} {s0 : Int32} (X : gX p s m args c cX10_eventCat 2 RX10 (kR kTab kA)) (hret : gRetR p l e (rmL 3 0 0) s m args below meth c cX10_eventCat Q r) (hf : fX10_eventCat_40 M s0 = some r) {ls : Array Slot} (hP : (cP dC dI cg kA ca) M s s.heap) (hl : lv_has ls 2 [(0, .ref (ca 0))]) : W p l e (rmL 3 0 0) s m args below meth c s.heap [] 0 0 Q (F0 m 40 ls [.int s0]) := by
  have hx := X.hx
  have hb := X.hb
  have hown := X.hown
  have hts := X.hts
  rw [fX10_eventCat_40] at hf
  cases hf
  exact hret _ _ dX10_eventCat_40
set_option maxRecDepth 10000 in
theorem kX10_eventCat_39 {r : Int32} {M : CS} (X : gX p s m args c cX10_eventCat 2 RX10 (kR kTab kA)) (hret : gRetR p l e (rmL 3 0 0) s m args below meth c cX10_eventCat Q r) (hf : fX10_eventCat_39 M = some r) {ls : Array Slot} (hP : (cP dC dI cg kA ca) M s s.heap) (hl : lv_has ls 2 [(0, .ref (ca 0))]) : W p l e (rmL 3 0 0) s m args below meth c s.heap [] 0 0 Q (F0 m 39 ls []) := by
  have hx := X.hx
  have hb := X.hb
  have hown := X.hown
  have hts := X.hts
  rw [fX10_eventCat_39] at hf
  refine lv_iconst (v := (-1)) hx hb dX10_eventCat_39 (by decide) ?_
  exact kX10_eventCat_40 X hret hf hP (lv_sub hl [0] rfl)
set_option maxRecDepth 10000 in
theorem kX10_eventCat_35 {r : Int32} {M : CS} {s0 : Int32} (X : gX p s m args c cX10_eventCat 2 RX10 (kR kTab kA)) (hret : gRetR p l e (rmL 3 0 0) s m args below meth c cX10_eventCat Q r) (hf : fX10_eventCat_35 M s0 = some r) {ls : Array Slot} (hP : (cP dC dI cg kA ca) M s s.heap) (hl : lv_has ls 2 [(0, .ref (ca 0))]) : W p l e (rmL 3 0 0) s m args below meth c s.heap [] 0 0 Q (F0 m 35 ls [.int s0, .ref (ca ((13 + 4) + 2))]) := by
  have hx := X.hx
  have hb := X.hb
  have hown := X.hown
  have hts := X.hts
  rw [fX10_eventCat_35] at hf
  obtain ⟨g1, hf⟩ := gd hf
  refine cr_iald X hP (kc_ev1 (kc_events (rfl : kc 13 = 11))) rfl (fun _ => rfl) g1 dX10_eventCat_35 ?_
  refine lv_goto (tgt := 40) hx hb dX10_eventCat_36 (by decide) ?_
  exact kX10_eventCat_40 X hret hf hP (lv_sub hl [0] rfl)
set_option maxRecDepth 10000 in
theorem kX10_eventCat_14 {r : Int32} {M : CS} {x1 : Int32} (X : gX p s m args c cX10_eventCat 2 RX10 (kR kTab kA)) (hret : gRetR p l e (rmL 3 0 0) s m args below meth c cX10_eventCat Q r) (hf : fX10_eventCat_14 M x1 = some r) {ls : Array Slot} (hP : (cP dC dI cg kA ca) M s s.heap) (hl : lv_has ls 2 [(0, .ref (ca 0)), (1, .int x1)]) : W p l e (rmL 3 0 0) s m args below meth c s.heap [] 0 0 Q (F0 m 14 ls []) := by
  have hx := X.hx
  have hb := X.hb
  have hown := X.hown
  have hts := X.hts
  rw [fX10_eventCat_14] at hf
  refine lv_aload_n hx hb dX10_eventCat_14 rfl (lv_at hl 0 rfl) ?_
  refine cr_get (k := 2) X hP (rfl : kc 0 = 0) rfl cv0_2 rfl cinX10 (by decide) rfl tw957 dX10_eventCat_15 ?_
  refine cr_get (k := 3) X hP (rfl : kc 13 = 11) rfl cv11_3 rfl cinX2 (by decide) rfl tw323 dX10_eventCat_18 ?_
  refine cr_get (k := 1) X hP (kc_events (rfl : kc 13 = 11)) rfl cv15_1 rfl cinX1 (by decide) rfl tw152 dX10_eventCat_21 ?_
  refine lv_aload_n hx hb dX10_eventCat_24 rfl (lv_at hl 0 rfl) ?_
  refine cr_get (k := 2) X hP (rfl : kc 0 = 0) rfl cv0_2 rfl cinX10 (by decide) rfl tw957 dX10_eventCat_25 ?_
  refine cr_get (k := 3) X hP (rfl : kc 13 = 11) rfl cv11_3 rfl cinX2 (by decide) rfl tw323 dX10_eventCat_28 ?_
  refine lv_iload_n hx hb dX10_eventCat_31 rfl (lv_at hl 1 rfl) ?_
  obtain ⟨q, hc, hf⟩ := bd hf
  refine gCallVR X rfl (vX1_slot (kc_events (rfl : kc 13 = 11)) hc) gRX10_X1_slot hdX1_slot rfl ⟨by decide, by decide⟩ (gB_blind cOK) (gB_at cOK X hP) (cr_rec hP (kc_events (rfl : kc 13 = 11)) rfl cw15 rfl) hl.1 (Nat.le_of_ble_eq_true rfl) ⟨Nat.zero_le _, Nat.zero_le _⟩ dX10_eventCat_32 (As := [.int x1]) (rest := [.ref (ca ((13 + 4) + 2))]) rfl ?_
  exact kX10_eventCat_35 X hret hf hP (lv_sub hl [0] rfl)
set_option maxRecDepth 10000 in
theorem kX10_eventCat_11 {r : Int32} {M : CS} {x1 : Int32} {s0 : Int32} (X : gX p s m args c cX10_eventCat 2 RX10 (kR kTab kA)) (hret : gRetR p l e (rmL 3 0 0) s m args below meth c cX10_eventCat Q r) (hf : fX10_eventCat_11 M x1 s0 = some r) {ls : Array Slot} (hP : (cP dC dI cg kA ca) M s s.heap) (hl : lv_has ls 2 [(0, .ref (ca 0)), (1, .int x1)]) : W p l e (rmL 3 0 0) s m args below meth c s.heap [] 0 0 Q (F0 m 11 ls [.int s0]) := by
  have hx := X.hx
  have hb := X.hb
  have hown := X.hown
  have hts := X.hts
  rw [fX10_eventCat_11] at hf
  refine lv_if_eq (tgt := 39) hx hb dX10_eventCat_11 (by decide) (fun c1 => ?_) (fun c1 => ?_)
  · exact kX10_eventCat_39 X hret (ifp c1 hf) hP (lv_sub hl [0] rfl)
  · exact kX10_eventCat_14 X hret (ifn c1 hf) hP (lv_sub hl [0, 1] rfl)
set_option maxRecDepth 10000 in
theorem kX10_eventCat_0 {r : Int32} {M : CS} {a1 : Int32} (X : gX p s m args c cX10_eventCat 2 RX10 (kR kTab kA)) (hret : gRetR p l e (rmL 3 0 0) s m args below meth c cX10_eventCat Q r) (hf : fX10_eventCat_0 M a1 = some r) {ls : Array Slot} (hP : (cP dC dI cg kA ca) M s s.heap) (hl : lv_has ls 2 [(0, .ref (ca 0)), (1, .int a1)]) : W p l e (rmL 3 0 0) s m args below meth c s.heap [] 0 0 Q (F0 m 0 ls []) := by
  have hx := X.hx
  have hb := X.hb
  have hown := X.hown
  have hts := X.hts
  rw [fX10_eventCat_0] at hf
  refine lv_aload_n hx hb dX10_eventCat_0 rfl (lv_at hl 0 rfl) ?_
  refine cr_get (k := 2) X hP (rfl : kc 0 = 0) rfl cv0_2 rfl cinX10 (by decide) rfl tw957 dX10_eventCat_1 ?_
  refine cr_get (k := 3) X hP (rfl : kc 13 = 11) rfl cv11_3 rfl cinX2 (by decide) rfl tw323 dX10_eventCat_4 ?_
  refine lv_iload_n hx hb dX10_eventCat_7 rfl (lv_at hl 1 rfl) ?_
  obtain ⟨q, hc, hf⟩ := bd hf
  refine gCallVR X rfl (vX1_holds (kc_events (rfl : kc 13 = 11)) hc) gRX10_X1_holds hdX1_holds rfl ⟨by decide, by decide⟩ (gB_blind cOK) (gB_at cOK X hP) (cr_rec hP (kc_events (rfl : kc 13 = 11)) rfl cw15 rfl) hl.1 (Nat.le_of_ble_eq_true rfl) ⟨Nat.zero_le _, Nat.zero_le _⟩ dX10_eventCat_8 (As := [.int a1]) (rest := []) rfl ?_
  exact kX10_eventCat_11 X hret hf hP (lv_sub hl [0, 1] rfl)
theorem vX10_eventCat {l : Launch} {dC : Nat → ClassId} {dI : Nat → Nat → Nat} {cg : Nat → ClassId} {kA : String → Nat → Nat} {ca : Nat → Nat} {M : CS} {r : Int32} {a1 : Int32} (hf : fX10_eventCat M a1 = some r) : gMetR l yX10_eventCat cX10_eventCat 2 (some .int) 3 (gB (cP dC dI cg kA ca) (kR kTab kA) M) [.ref (ca 0), .int a1] r := gEntryR (ty := .int) (by decide) rfl rfl (Nat.le_of_ble_eq_true rfl) (fun _ h => h.2) (fun p e s m args below meth c Q ls X hB hret hl => 
  kX10_eventCat_0 X hret hf hB.1 (lv_sub hl [0, 1] rfl))
set_option maxRecDepth 10000 in
theorem kX10_eventNumber_40 {r : Int32} {M : CS} {s0 : Int32} (X : gX p s m args c cX10_eventNumber 2 RX10 (kR kTab kA)) (hret : gRetR p l e (rmL 3 0 0) s m args below meth c cX10_eventNumber Q r) (hf : fX10_eventNumber_40 M s0 = some r) {ls : Array Slot} (hP : (cP dC dI cg kA ca) M s s.heap) (hl : lv_has ls 2 [(0, .ref (ca 0))]) : W p l e (rmL 3 0 0) s m args below meth c s.heap [] 0 0 Q (F0 m 40 ls [.int s0]) := by
  have hx := X.hx
  have hb := X.hb
  have hown := X.hown
  have hts := X.hts
  rw [fX10_eventNumber_40] at hf
  cases hf
  exact hret _ _ dX10_eventNumber_40
set_option maxRecDepth 10000 in
theorem kX10_eventNumber_39 {r : Int32} {M : CS} (X : gX p s m args c cX10_eventNumber 2 RX10 (kR kTab kA)) (hret : gRetR p l e (rmL 3 0 0) s m args below meth c cX10_eventNumber Q r) (hf : fX10_eventNumber_39 M = some r) {ls : Array Slot} (hP : (cP dC dI cg kA ca) M s s.heap) (hl : lv_has ls 2 [(0, .ref (ca 0))]) : W p l e (rmL 3 0 0) s m args below meth c s.heap [] 0 0 Q (F0 m 39 ls []) := by
  have hx := X.hx
  have hb := X.hb
  have hown := X.hown
  have hts := X.hts
  rw [fX10_eventNumber_39] at hf
  refine lv_iconst (v := (-1)) hx hb dX10_eventNumber_39 (by decide) ?_
  exact kX10_eventNumber_40 X hret hf hP (lv_sub hl [0] rfl)
set_option maxRecDepth 10000 in
theorem kX10_eventNumber_35 {r : Int32} {M : CS} {s0 : Int32} (X : gX p s m args c cX10_eventNumber 2 RX10 (kR kTab kA)) (hret : gRetR p l e (rmL 3 0 0) s m args below meth c cX10_eventNumber Q r) (hf : fX10_eventNumber_35 M s0 = some r) {ls : Array Slot} (hP : (cP dC dI cg kA ca) M s s.heap) (hl : lv_has ls 2 [(0, .ref (ca 0))]) : W p l e (rmL 3 0 0) s m args below meth c s.heap [] 0 0 Q (F0 m 35 ls [.int s0, .ref (ca ((13 + 4) + 3))]) := by
  have hx := X.hx
  have hb := X.hb
  have hown := X.hown
  have hts := X.hts
  rw [fX10_eventNumber_35] at hf
  obtain ⟨g1, hf⟩ := gd hf
  refine cr_iald X hP (kc_ev2 (kc_events (rfl : kc 13 = 11))) rfl (fun _ => rfl) g1 dX10_eventNumber_35 ?_
  refine lv_goto (tgt := 40) hx hb dX10_eventNumber_36 (by decide) ?_
  exact kX10_eventNumber_40 X hret hf hP (lv_sub hl [0] rfl)
set_option maxRecDepth 10000 in
theorem kX10_eventNumber_14 {r : Int32} {M : CS} {x1 : Int32} (X : gX p s m args c cX10_eventNumber 2 RX10 (kR kTab kA)) (hret : gRetR p l e (rmL 3 0 0) s m args below meth c cX10_eventNumber Q r) (hf : fX10_eventNumber_14 M x1 = some r) {ls : Array Slot} (hP : (cP dC dI cg kA ca) M s s.heap) (hl : lv_has ls 2 [(0, .ref (ca 0)), (1, .int x1)]) : W p l e (rmL 3 0 0) s m args below meth c s.heap [] 0 0 Q (F0 m 14 ls []) := by
  have hx := X.hx
  have hb := X.hb
  have hown := X.hown
  have hts := X.hts
  rw [fX10_eventNumber_14] at hf
  refine lv_aload_n hx hb dX10_eventNumber_14 rfl (lv_at hl 0 rfl) ?_
  refine cr_get (k := 2) X hP (rfl : kc 0 = 0) rfl cv0_2 rfl cinX10 (by decide) rfl tw957 dX10_eventNumber_15 ?_
  refine cr_get (k := 3) X hP (rfl : kc 13 = 11) rfl cv11_3 rfl cinX2 (by decide) rfl tw323 dX10_eventNumber_18 ?_
  refine cr_get (k := 2) X hP (kc_events (rfl : kc 13 = 11)) rfl cv15_2 rfl cinX1 (by decide) rfl tw154 dX10_eventNumber_21 ?_
  refine lv_aload_n hx hb dX10_eventNumber_24 rfl (lv_at hl 0 rfl) ?_
  refine cr_get (k := 2) X hP (rfl : kc 0 = 0) rfl cv0_2 rfl cinX10 (by decide) rfl tw957 dX10_eventNumber_25 ?_
  refine cr_get (k := 3) X hP (rfl : kc 13 = 11) rfl cv11_3 rfl cinX2 (by decide) rfl tw323 dX10_eventNumber_28 ?_
  refine lv_iload_n hx hb dX10_eventNumber_31 rfl (lv_at hl 1 rfl) ?_
  obtain ⟨q, hc, hf⟩ := bd hf
  refine gCallVR X rfl (vX1_slot (kc_events (rfl : kc 13 = 11)) hc) gRX10_X1_slot hdX1_slot rfl ⟨by decide, by decide⟩ (gB_blind cOK) (gB_at cOK X hP) (cr_rec hP (kc_events (rfl : kc 13 = 11)) rfl cw15 rfl) hl.1 (Nat.le_of_ble_eq_true rfl) ⟨Nat.zero_le _, Nat.zero_le _⟩ dX10_eventNumber_32 (As := [.int x1]) (rest := [.ref (ca ((13 + 4) + 3))]) rfl ?_
  exact kX10_eventNumber_35 X hret hf hP (lv_sub hl [0] rfl)
set_option maxRecDepth 10000 in
theorem kX10_eventNumber_11 {r : Int32} {M : CS} {x1 : Int32} {s0 : Int32} (X : gX p s m args c cX10_eventNumber 2 RX10 (kR kTab kA)) (hret : gRetR p l e (rmL 3 0 0) s m args below meth c cX10_eventNumber Q r) (hf : fX10_eventNumber_11 M x1 s0 = some r) {ls : Array Slot} (hP : (cP dC dI cg kA ca) M s s.heap) (hl : lv_has ls 2 [(0, .ref (ca 0)), (1, .int x1)]) : W p l e (rmL 3 0 0) s m args below meth c s.heap [] 0 0 Q (F0 m 11 ls [.int s0]) := by
  have hx := X.hx
  have hb := X.hb
  have hown := X.hown
  have hts := X.hts
  rw [fX10_eventNumber_11] at hf
  refine lv_if_eq (tgt := 39) hx hb dX10_eventNumber_11 (by decide) (fun c1 => ?_) (fun c1 => ?_)
  · exact kX10_eventNumber_39 X hret (ifp c1 hf) hP (lv_sub hl [0] rfl)
  · exact kX10_eventNumber_14 X hret (ifn c1 hf) hP (lv_sub hl [0, 1] rfl)
set_option maxRecDepth 10000 in
theorem kX10_eventNumber_0 {r : Int32} {M : CS} {a1 : Int32} (X : gX p s m args c cX10_eventNumber 2 RX10 (kR kTab kA)) (hret : gRetR p l e (rmL 3 0 0) s m args below meth c cX10_eventNumber Q r) (hf : fX10_eventNumber_0 M a1 = some r) {ls : Array Slot} (hP : (cP dC dI cg kA ca) M s s.heap) (hl : lv_has ls 2 [(0, .ref (ca 0)), (1, .int a1)]) : W p l e (rmL 3 0 0) s m args below meth c s.heap [] 0 0 Q (F0 m 0 ls []) := by
  have hx := X.hx
  have hb := X.hb
  have hown := X.hown
  have hts := X.hts
  rw [fX10_eventNumber_0] at hf
  refine lv_aload_n hx hb dX10_eventNumber_0 rfl (lv_at hl 0 rfl) ?_
  refine cr_get (k := 2) X hP (rfl : kc 0 = 0) rfl cv0_2 rfl cinX10 (by decide) rfl tw957 dX10_eventNumber_1 ?_
  refine cr_get (k := 3) X hP (rfl : kc 13 = 11) rfl cv11_3 rfl cinX2 (by decide) rfl tw323 dX10_eventNumber_4 ?_
  refine lv_iload_n hx hb dX10_eventNumber_7 rfl (lv_at hl 1 rfl) ?_
  obtain ⟨q, hc, hf⟩ := bd hf
  refine gCallVR X rfl (vX1_holds (kc_events (rfl : kc 13 = 11)) hc) gRX10_X1_holds hdX1_holds rfl ⟨by decide, by decide⟩ (gB_blind cOK) (gB_at cOK X hP) (cr_rec hP (kc_events (rfl : kc 13 = 11)) rfl cw15 rfl) hl.1 (Nat.le_of_ble_eq_true rfl) ⟨Nat.zero_le _, Nat.zero_le _⟩ dX10_eventNumber_8 (As := [.int a1]) (rest := []) rfl ?_
  exact kX10_eventNumber_11 X hret hf hP (lv_sub hl [0, 1] rfl)
theorem vX10_eventNumber {l : Launch} {dC : Nat → ClassId} {dI : Nat → Nat → Nat} {cg : Nat → ClassId} {kA : String → Nat → Nat} {ca : Nat → Nat} {M : CS} {r : Int32} {a1 : Int32} (hf : fX10_eventNumber M a1 = some r) : gMetR l yX10_eventNumber cX10_eventNumber 2 (some .int) 3 (gB (cP dC dI cg kA ca) (kR kTab kA) M) [.ref (ca 0), .int a1] r := gEntryR (ty := .int) (by decide) rfl rfl (Nat.le_of_ble_eq_true rfl) (fun _ h => h.2) (fun p e s m args below meth c Q ls X hB hret hl => 
  kX10_eventNumber_0 X hret hf hB.1 (lv_sub hl [0, 1] rfl))
set_option maxRecDepth 10000 in
theorem kX10_isConsistent_35 {r : Int32} {M : CS} {s0 : Int32} (X : gX p s m args c cX10_isConsistent 1 RX10 (kR kTab kA)) (hret : gRetR p l e (rmL 3 0 0) s m args below meth c cX10_isConsistent Q r) (hf : fX10_isConsistent_35 M s0 = some r) {ls : Array Slot} (hP : (cP dC dI cg kA ca) M s s.heap) (hl : lv_has ls 1 [(0, .ref (ca 0))]) : W p l e (rmL 3 0 0) s m args below meth c s.heap [] 0 0 Q (F0 m 35 ls [.int s0]) := by
  have hx := X.hx
  have hb := X.hb
  have hown := X.hown
  have hts := X.hts
  rw [fX10_isConsistent_35] at hf
  cases hf
  exact hret _ _ dX10_isConsistent_35
set_option maxRecDepth 10000 in
theorem kX10_isConsistent_34 {r : Int32} {M : CS} (X : gX p s m args c cX10_isConsistent 1 RX10 (kR kTab kA)) (hret : gRetR p l e (rmL 3 0 0) s m args below meth c cX10_isConsistent Q r) (hf : fX10_isConsistent_34 M = some r) {ls : Array Slot} (hP : (cP dC dI cg kA ca) M s s.heap) (hl : lv_has ls 1 [(0, .ref (ca 0))]) : W p l e (rmL 3 0 0) s m args below meth c s.heap [] 0 0 Q (F0 m 34 ls []) := by
  have hx := X.hx
  have hb := X.hb
  have hown := X.hown
  have hts := X.hts
  rw [fX10_isConsistent_34] at hf
  refine lv_iconst (v := 0) hx hb dX10_isConsistent_34 (by decide) ?_
  exact kX10_isConsistent_35 X hret hf hP (lv_sub hl [0] rfl)
set_option maxRecDepth 10000 in
theorem kX10_isConsistent_30 {r : Int32} {M : CS} (X : gX p s m args c cX10_isConsistent 1 RX10 (kR kTab kA)) (hret : gRetR p l e (rmL 3 0 0) s m args below meth c cX10_isConsistent Q r) (hf : fX10_isConsistent_30 M = some r) {ls : Array Slot} (hP : (cP dC dI cg kA ca) M s s.heap) (hl : lv_has ls 1 [(0, .ref (ca 0))]) : W p l e (rmL 3 0 0) s m args below meth c s.heap [] 0 0 Q (F0 m 30 ls []) := by
  have hx := X.hx
  have hb := X.hb
  have hown := X.hown
  have hts := X.hts
  rw [fX10_isConsistent_30] at hf
  refine lv_iconst (v := 1) hx hb dX10_isConsistent_30 (by decide) ?_
  refine lv_goto (tgt := 35) hx hb dX10_isConsistent_31 (by decide) ?_
  exact kX10_isConsistent_35 X hret hf hP (lv_sub hl [0] rfl)
set_option maxRecDepth 10000 in
theorem kX10_isConsistent_27 {r : Int32} {M : CS} {s0 : Int32} (X : gX p s m args c cX10_isConsistent 1 RX10 (kR kTab kA)) (hret : gRetR p l e (rmL 3 0 0) s m args below meth c cX10_isConsistent Q r) (hf : fX10_isConsistent_27 M s0 = some r) {ls : Array Slot} (hP : (cP dC dI cg kA ca) M s s.heap) (hl : lv_has ls 1 [(0, .ref (ca 0))]) : W p l e (rmL 3 0 0) s m args below meth c s.heap [] 0 0 Q (F0 m 27 ls [.int s0]) := by
  have hx := X.hx
  have hb := X.hb
  have hown := X.hown
  have hts := X.hts
  rw [fX10_isConsistent_27] at hf
  refine lv_if_eq (tgt := 34) hx hb dX10_isConsistent_27 (by decide) (fun c1 => ?_) (fun c1 => ?_)
  · exact kX10_isConsistent_34 X hret (ifp c1 hf) hP (lv_sub hl [0] rfl)
  · exact kX10_isConsistent_30 X hret (ifn c1 hf) hP (lv_sub hl [0] rfl)
set_option maxRecDepth 10000 in
theorem kX10_isConsistent_20 {r : Int32} {M : CS} (X : gX p s m args c cX10_isConsistent 1 RX10 (kR kTab kA)) (hret : gRetR p l e (rmL 3 0 0) s m args below meth c cX10_isConsistent Q r) (hf : fX10_isConsistent_20 M = some r) {ls : Array Slot} (hP : (cP dC dI cg kA ca) M s s.heap) (hl : lv_has ls 1 [(0, .ref (ca 0))]) : W p l e (rmL 3 0 0) s m args below meth c s.heap [] 0 0 Q (F0 m 20 ls []) := by
  have hx := X.hx
  have hb := X.hb
  have hown := X.hown
  have hts := X.hts
  rw [fX10_isConsistent_20] at hf
  refine lv_aload_n hx hb dX10_isConsistent_20 rfl (lv_at hl 0 rfl) ?_
  refine cr_get (k := 2) X hP (rfl : kc 0 = 0) rfl cv0_2 rfl cinX10 (by decide) rfl tw957 dX10_isConsistent_21 ?_
  obtain ⟨q, hc, hf⟩ := bd hf
  refine gCallVR X rfl (vX2_catsAddUp (rfl : kc 13 = 11) hc) gRX10_X2_catsAddUp hdX2_catsAddUp rfl ⟨by decide, by decide⟩ (gB_blind cOK) (gB_at cOK X hP) (cr_rec hP (rfl : kc 13 = 11) rfl cw11 rfl) hl.1 (Nat.le_of_ble_eq_true rfl) ⟨Nat.zero_le _, Nat.zero_le _⟩ dX10_isConsistent_24 (As := []) (rest := []) rfl ?_
  exact kX10_isConsistent_27 X hret hf hP (lv_sub hl [0] rfl)
set_option maxRecDepth 10000 in
theorem kX10_isConsistent_17 {r : Int32} {M : CS} {s0 : Int32} (X : gX p s m args c cX10_isConsistent 1 RX10 (kR kTab kA)) (hret : gRetR p l e (rmL 3 0 0) s m args below meth c cX10_isConsistent Q r) (hf : fX10_isConsistent_17 M s0 = some r) {ls : Array Slot} (hP : (cP dC dI cg kA ca) M s s.heap) (hl : lv_has ls 1 [(0, .ref (ca 0))]) : W p l e (rmL 3 0 0) s m args below meth c s.heap [] 0 0 Q (F0 m 17 ls [.int s0]) := by
  have hx := X.hx
  have hb := X.hb
  have hown := X.hown
  have hts := X.hts
  rw [fX10_isConsistent_17] at hf
  refine lv_if_eq (tgt := 34) hx hb dX10_isConsistent_17 (by decide) (fun c1 => ?_) (fun c1 => ?_)
  · exact kX10_isConsistent_34 X hret (ifp c1 hf) hP (lv_sub hl [0] rfl)
  · exact kX10_isConsistent_20 X hret (ifn c1 hf) hP (lv_sub hl [0] rfl)
set_option maxRecDepth 10000 in
theorem kX10_isConsistent_10 {r : Int32} {M : CS} (X : gX p s m args c cX10_isConsistent 1 RX10 (kR kTab kA)) (hret : gRetR p l e (rmL 3 0 0) s m args below meth c cX10_isConsistent Q r) (hf : fX10_isConsistent_10 M = some r) {ls : Array Slot} (hP : (cP dC dI cg kA ca) M s s.heap) (hl : lv_has ls 1 [(0, .ref (ca 0))]) : W p l e (rmL 3 0 0) s m args below meth c s.heap [] 0 0 Q (F0 m 10 ls []) := by
  have hx := X.hx
  have hb := X.hb
  have hown := X.hown
  have hts := X.hts
  rw [fX10_isConsistent_10] at hf
  refine lv_aload_n hx hb dX10_isConsistent_10 rfl (lv_at hl 0 rfl) ?_
  refine cr_get (k := 2) X hP (rfl : kc 0 = 0) rfl cv0_2 rfl cinX10 (by decide) rfl tw957 dX10_isConsistent_11 ?_
  obtain ⟨q, hc, hf⟩ := bd hf
  refine gCallVR X rfl (vX2_grainAddsUp (rfl : kc 13 = 11) hc) gRX10_X2_grainAddsUp hdX2_grainAddsUp rfl ⟨by decide, by decide⟩ (gB_blind cOK) (gB_at cOK X hP) (cr_rec hP (rfl : kc 13 = 11) rfl cw11 rfl) hl.1 (Nat.le_of_ble_eq_true rfl) ⟨Nat.zero_le _, Nat.zero_le _⟩ dX10_isConsistent_14 (As := []) (rest := []) rfl ?_
  exact kX10_isConsistent_17 X hret hf hP (lv_sub hl [0] rfl)
set_option maxRecDepth 10000 in
theorem kX10_isConsistent_7 {r : Int32} {M : CS} {s0 : Int32} (X : gX p s m args c cX10_isConsistent 1 RX10 (kR kTab kA)) (hret : gRetR p l e (rmL 3 0 0) s m args below meth c cX10_isConsistent Q r) (hf : fX10_isConsistent_7 M s0 = some r) {ls : Array Slot} (hP : (cP dC dI cg kA ca) M s s.heap) (hl : lv_has ls 1 [(0, .ref (ca 0))]) : W p l e (rmL 3 0 0) s m args below meth c s.heap [] 0 0 Q (F0 m 7 ls [.int s0]) := by
  have hx := X.hx
  have hb := X.hb
  have hown := X.hown
  have hts := X.hts
  rw [fX10_isConsistent_7] at hf
  refine lv_if_eq (tgt := 34) hx hb dX10_isConsistent_7 (by decide) (fun c1 => ?_) (fun c1 => ?_)
  · exact kX10_isConsistent_34 X hret (ifp c1 hf) hP (lv_sub hl [0] rfl)
  · exact kX10_isConsistent_10 X hret (ifn c1 hf) hP (lv_sub hl [0] rfl)
set_option maxRecDepth 10000 in
theorem kX10_isConsistent_0 {r : Int32} {M : CS} (X : gX p s m args c cX10_isConsistent 1 RX10 (kR kTab kA)) (hret : gRetR p l e (rmL 3 0 0) s m args below meth c cX10_isConsistent Q r) (hf : fX10_isConsistent_0 M = some r) {ls : Array Slot} (hP : (cP dC dI cg kA ca) M s s.heap) (hl : lv_has ls 1 [(0, .ref (ca 0))]) : W p l e (rmL 3 0 0) s m args below meth c s.heap [] 0 0 Q (F0 m 0 ls []) := by
  have hx := X.hx
  have hb := X.hb
  have hown := X.hown
  have hts := X.hts
  rw [fX10_isConsistent_0] at hf
  refine lv_aload_n hx hb dX10_isConsistent_0 rfl (lv_at hl 0 rfl) ?_
  refine cr_get (k := 2) X hP (rfl : kc 0 = 0) rfl cv0_2 rfl cinX10 (by decide) rfl tw957 dX10_isConsistent_1 ?_
  obtain ⟨q, hc, hf⟩ := bd hf
  refine gCallVR X rfl (vX2_miceAddUp (rfl : kc 13 = 11) hc) gRX10_X2_miceAddUp hdX2_miceAddUp rfl ⟨by decide, by decide⟩ (gB_blind cOK) (gB_at cOK X hP) (cr_rec hP (rfl : kc 13 = 11) rfl cw11 rfl) hl.1 (Nat.le_of_ble_eq_true rfl) ⟨Nat.zero_le _, Nat.zero_le _⟩ dX10_isConsistent_4 (As := []) (rest := []) rfl ?_
  exact kX10_isConsistent_7 X hret hf hP (lv_sub hl [0] rfl)
theorem vX10_isConsistent {l : Launch} {dC : Nat → ClassId} {dI : Nat → Nat → Nat} {cg : Nat → ClassId} {kA : String → Nat → Nat} {ca : Nat → Nat} {M : CS} {r : Int32} (hf : fX10_isConsistent M  = some r) : gMetR l yX10_isConsistent cX10_isConsistent 1 (some .boolean) 3 (gB (cP dC dI cg kA ca) (kR kTab kA) M) [.ref (ca 0)] r := gEntryR (ty := .boolean) (by decide) rfl (bq_n hf) (Nat.le_of_ble_eq_true rfl) (fun _ h => h.2) (fun p e s m args below meth c Q ls X hB hret hl => 
  kX10_isConsistent_0 X hret (bq_f hf) hB.1 (lv_sub hl [0] rfl))
set_option maxRecDepth 10000 in
theorem kX2_passHour_92 {S1 : CS} {t : Nat} {M : CS} {H : Heap} {locs : List Loc} {ls : Array Slot} (X : gX p s m args c cX2_passHour 2 RX2 (kR kTab kA)) (hret : gRetV p l e (rmL 4 0 0) s m args below meth c cX2_passHour (cΩ ca) (cP dC dI cg kA ca) Q S1) (hkt : kc t = 11) (hf : fX2_passHour_92 t M = some S1) (hP : (cP dC dI cg kA ca) M s H) (hS : va_S (Fr (cΩ ca) s.heap.size) s.heap H locs) (hl : lv_has ls 2 [(0, .ref (ca t))]) : W p l e (rmL 4 0 0) s m args below meth c H locs 0 0 Q (F0 m 92 ls []) := by
  have hx := X.hx
  have hb := X.hb
  have hown := X.hown
  have hts := X.hts
  rw [fX2_passHour_92] at hf
  cases hf
  exact hret _ _ _ _ dX2_passHour_92 hP hS
set_option maxRecDepth 10000 in
theorem kX2_passHour_88 {S1 : CS} {t : Nat} {M : CS} {H : Heap} {locs : List Loc} {ls : Array Slot} (X : gX p s m args c cX2_passHour 2 RX2 (kR kTab kA)) (hret : gRetV p l e (rmL 4 0 0) s m args below meth c cX2_passHour (cΩ ca) (cP dC dI cg kA ca) Q S1) (hkt : kc t = 11) (hf : fX2_passHour_88 t M = some S1) (hP : (cP dC dI cg kA ca) M s H) (hS : va_S (Fr (cΩ ca) s.heap.size) s.heap H locs) (hl : lv_has ls 2 [(0, .ref (ca t))]) : W p l e (rmL 4 0 0) s m args below meth c H locs 0 0 Q (F0 m 88 ls []) := by
  have hx := X.hx
  have hb := X.hb
  have hown := X.hown
  have hts := X.hts
  rw [fX2_passHour_88] at hf
  refine lv_aload_n hx hb dX2_passHour_88 rfl (lv_at hl 0 rfl) ?_
  obtain ⟨q, hc, hf⟩ := bd hf
  refine gCallVV X cOK rfl (vX2_greetDawn hkt hc) gRX2_X2_greetDawn hdX2_greetDawn rfl ⟨by decide, by decide⟩ hP hS (cr_rec hP hkt rfl cw11 rfl) hl.1 (Nat.le_of_ble_eq_true rfl) ⟨Nat.zero_le _, Nat.zero_le _⟩ dX2_passHour_89 (As := []) (rest := []) rfl (fun H locs hP hS => ?_)
  exact kX2_passHour_92 X hret hkt hf hP hS (lv_sub hl [0] rfl)
set_option maxRecDepth 10000 in
theorem kX2_passHour_76 {S1 : CS} {t : Nat} {M : CS} {H : Heap} {locs : List Loc} {ls : Array Slot} (X : gX p s m args c cX2_passHour 2 RX2 (kR kTab kA)) (hret : gRetV p l e (rmL 4 0 0) s m args below meth c cX2_passHour (cΩ ca) (cP dC dI cg kA ca) Q S1) (hkt : kc t = 11) (hf : fX2_passHour_76 t M = some S1) (hP : (cP dC dI cg kA ca) M s H) (hS : va_S (Fr (cΩ ca) s.heap.size) s.heap H locs) (hl : lv_has ls 2 [(0, .ref (ca t))]) : W p l e (rmL 4 0 0) s m args below meth c H locs 0 0 Q (F0 m 76 ls []) := by
  have hx := X.hx
  have hb := X.hb
  have hown := X.hown
  have hts := X.hts
  rw [fX2_passHour_76] at hf
  refine lv_aload_n hx hb dX2_passHour_76 rfl (lv_at hl 0 rfl) ?_
  refine cr_get (k := 12) X hP hkt rfl cv11_12 rfl cinX2 (by decide) rfl tw344 dX2_passHour_77 ?_
  refine lv_bipush (v := 24) hx hb dX2_passHour_80 (by decide) ?_
  refine lv_irem hx hb dX2_passHour_82 (by decide) ?_
  refine lv_bipush (v := 6) hx hb dX2_passHour_83 (by decide) ?_
  refine lv_icmp_ne (tgt := 92) hx hb dX2_passHour_85 (by decide) (fun c1 => ?_) (fun c1 => ?_)
  · exact kX2_passHour_92 X hret hkt (ifn c1 hf) hP hS (lv_sub hl [0] rfl)
  · exact kX2_passHour_88 X hret hkt (ifp c1 hf) hP hS (lv_sub hl [0] rfl)
set_option maxRecDepth 10000 in
theorem kX2_passHour_72 {S1 : CS} {t : Nat} {M : CS} {H : Heap} {locs : List Loc} {ls : Array Slot} (X : gX p s m args c cX2_passHour 2 RX2 (kR kTab kA)) (hret : gRetV p l e (rmL 4 0 0) s m args below meth c cX2_passHour (cΩ ca) (cP dC dI cg kA ca) Q S1) (hkt : kc t = 11) (hf : fX2_passHour_72 t M = some S1) (hP : (cP dC dI cg kA ca) M s H) (hS : va_S (Fr (cΩ ca) s.heap.size) s.heap H locs) (hl : lv_has ls 2 [(0, .ref (ca t))]) : W p l e (rmL 4 0 0) s m args below meth c H locs 0 0 Q (F0 m 72 ls []) := by
  have hx := X.hx
  have hb := X.hb
  have hown := X.hown
  have hts := X.hts
  rw [fX2_passHour_72] at hf
  refine lv_aload_n hx hb dX2_passHour_72 rfl (lv_at hl 0 rfl) ?_
  obtain ⟨q, hc, hf⟩ := bd hf
  refine gCallVV X cOK rfl (vX2_changeShift hkt hc) gRX2_X2_changeShift hdX2_changeShift rfl ⟨by decide, by decide⟩ hP hS (cr_rec hP hkt rfl cw11 rfl) hl.1 (Nat.le_of_ble_eq_true rfl) ⟨Nat.zero_le _, Nat.zero_le _⟩ dX2_passHour_73 (As := []) (rest := []) rfl (fun H locs hP hS => ?_)
  exact kX2_passHour_76 X hret hkt hf hP hS (lv_sub hl [0] rfl)
set_option maxRecDepth 10000 in
theorem kX2_passHour_65 {S1 : CS} {t : Nat} {M : CS} {H : Heap} {locs : List Loc} {ls : Array Slot} (X : gX p s m args c cX2_passHour 2 RX2 (kR kTab kA)) (hret : gRetV p l e (rmL 4 0 0) s m args below meth c cX2_passHour (cΩ ca) (cP dC dI cg kA ca) Q S1) (hkt : kc t = 11) (hf : fX2_passHour_65 t M = some S1) (hP : (cP dC dI cg kA ca) M s H) (hS : va_S (Fr (cΩ ca) s.heap.size) s.heap H locs) (hl : lv_has ls 2 [(0, .ref (ca t))]) : W p l e (rmL 4 0 0) s m args below meth c H locs 0 0 Q (F0 m 65 ls []) := by
  have hx := X.hx
  have hb := X.hb
  have hown := X.hown
  have hts := X.hts
  rw [fX2_passHour_65] at hf
  refine lv_aload_n hx hb dX2_passHour_65 rfl (lv_at hl 0 rfl) ?_
  refine cr_get (k := 10) X hP hkt rfl cv11_10 rfl cinX2 (by decide) rfl tw339 dX2_passHour_66 ?_
  refine lv_if_gt (tgt := 76) hx hb dX2_passHour_69 (by decide) (fun c1 => ?_) (fun c1 => ?_)
  · exact kX2_passHour_76 X hret hkt (ifp c1 hf) hP hS (lv_sub hl [0] rfl)
  · exact kX2_passHour_72 X hret hkt (ifn c1 hf) hP hS (lv_sub hl [0] rfl)
set_option maxRecDepth 10000 in
theorem kX2_passHour_55 {S1 : CS} {t : Nat} {M : CS} {H : Heap} {locs : List Loc} {ls : Array Slot} (X : gX p s m args c cX2_passHour 2 RX2 (kR kTab kA)) (hret : gRetV p l e (rmL 4 0 0) s m args below meth c cX2_passHour (cΩ ca) (cP dC dI cg kA ca) Q S1) (hkt : kc t = 11) (hf : fX2_passHour_55 t M = some S1) (hP : (cP dC dI cg kA ca) M s H) (hS : va_S (Fr (cΩ ca) s.heap.size) s.heap H locs) (hl : lv_has ls 2 [(0, .ref (ca t))]) : W p l e (rmL 4 0 0) s m args below meth c H locs 0 0 Q (F0 m 55 ls []) := by
  have hx := X.hx
  have hb := X.hb
  have hown := X.hown
  have hts := X.hts
  rw [fX2_passHour_55] at hf
  refine lv_aload_n hx hb dX2_passHour_55 rfl (lv_at hl 0 rfl) ?_
  refine lv_dup hx hb dX2_passHour_56 rfl ?_
  refine cr_get (k := 10) X hP hkt rfl cv11_10 rfl cinX2 (by decide) rfl tw339 dX2_passHour_57 ?_
  refine lv_iconst (v := 1) hx hb dX2_passHour_60 (by decide) ?_
  refine lv_isub hx hb dX2_passHour_61 ?_
  refine cr_put (k := 10) X hP hS hkt rfl cs11_10 rfl cinX2 tyX2_ok nmX2 (by decide) rfl rfl rfl rfl tw339 dX2_passHour_62 (fun H locs hP hS => ?_)
  exact kX2_passHour_65 X hret hkt hf hP hS (lv_sub hl [0] rfl)
set_option maxRecDepth 10000 in
theorem kX2_passHour_49 {S1 : CS} {t : Nat} {M : CS} {s0 : Int32} {H : Heap} {locs : List Loc} {ls : Array Slot} (X : gX p s m args c cX2_passHour 2 RX2 (kR kTab kA)) (hret : gRetV p l e (rmL 4 0 0) s m args below meth c cX2_passHour (cΩ ca) (cP dC dI cg kA ca) Q S1) (hkt : kc t = 11) (hf : fX2_passHour_49 t M s0 = some S1) (hP : (cP dC dI cg kA ca) M s H) (hS : va_S (Fr (cΩ ca) s.heap.size) s.heap H locs) (hl : lv_has ls 2 [(0, .ref (ca t))]) : W p l e (rmL 4 0 0) s m args below meth c H locs 0 0 Q (F0 m 49 ls [.int s0]) := by
  have hx := X.hx
  have hb := X.hb
  have hown := X.hown
  have hts := X.hts
  rw [fX2_passHour_49] at hf
  refine lv_istore_n (lv' := [(1, .int s0), (0, .ref (ca t))]) hx hb dX2_passHour_49 rfl hl (by decide) rfl (fun ls hl => ?_)
  refine lv_aload_n hx hb dX2_passHour_50 rfl (lv_at hl 1 rfl) ?_
  refine lv_iload_n hx hb dX2_passHour_51 rfl (lv_at hl 0 rfl) ?_
  obtain ⟨q, hc, hf⟩ := bd hf
  refine gCallVV X cOK rfl (vX2_restAllBut hkt hc) gRX2_X2_restAllBut hdX2_restAllBut rfl ⟨by decide, by decide⟩ hP hS (cr_rec hP hkt rfl cw11 rfl) hl.1 (Nat.le_of_ble_eq_true rfl) ⟨Nat.zero_le _, Nat.zero_le _⟩ dX2_passHour_52 (As := [.int s0]) (rest := []) rfl (fun H locs hP hS => ?_)
  exact kX2_passHour_55 X hret hkt hf hP hS (lv_sub hl [1] rfl)
set_option maxRecDepth 10000 in
theorem kX2_passHour_45 {S1 : CS} {t : Nat} {M : CS} {H : Heap} {locs : List Loc} {ls : Array Slot} (X : gX p s m args c cX2_passHour 2 RX2 (kR kTab kA)) (hret : gRetV p l e (rmL 4 0 0) s m args below meth c cX2_passHour (cΩ ca) (cP dC dI cg kA ca) Q S1) (hkt : kc t = 11) (hf : fX2_passHour_45 t M = some S1) (hP : (cP dC dI cg kA ca) M s H) (hS : va_S (Fr (cΩ ca) s.heap.size) s.heap H locs) (hl : lv_has ls 2 [(0, .ref (ca t))]) : W p l e (rmL 4 0 0) s m args below meth c H locs 0 0 Q (F0 m 45 ls []) := by
  have hx := X.hx
  have hb := X.hb
  have hown := X.hown
  have hts := X.hts
  rw [fX2_passHour_45] at hf
  refine lv_aload_n hx hb dX2_passHour_45 rfl (lv_at hl 0 rfl) ?_
  obtain ⟨q, hc, hf⟩ := bd hf
  refine gCallVI X cOK rfl (vX2_hunt hkt hc) gRX2_X2_hunt hdX2_hunt rfl ⟨by decide, by decide⟩ hP hS (cr_rec hP hkt rfl cw11 rfl) hl.1 (Nat.le_of_ble_eq_true rfl) ⟨Nat.zero_le _, Nat.zero_le _⟩ dX2_passHour_46 (As := []) (rest := []) rfl (fun H locs hP hS => ?_)
  exact kX2_passHour_49 X hret hkt hf hP hS (lv_sub hl [0] rfl)
set_option maxRecDepth 10000 in
theorem kX2_passHour_41 {S1 : CS} {t : Nat} {M : CS} {H : Heap} {locs : List Loc} {ls : Array Slot} (X : gX p s m args c cX2_passHour 2 RX2 (kR kTab kA)) (hret : gRetV p l e (rmL 4 0 0) s m args below meth c cX2_passHour (cΩ ca) (cP dC dI cg kA ca) Q S1) (hkt : kc t = 11) (hf : fX2_passHour_41 t M = some S1) (hP : (cP dC dI cg kA ca) M s H) (hS : va_S (Fr (cΩ ca) s.heap.size) s.heap H locs) (hl : lv_has ls 2 [(0, .ref (ca t))]) : W p l e (rmL 4 0 0) s m args below meth c H locs 0 0 Q (F0 m 41 ls []) := by
  have hx := X.hx
  have hb := X.hb
  have hown := X.hown
  have hts := X.hts
  rw [fX2_passHour_41] at hf
  refine lv_aload_n hx hb dX2_passHour_41 rfl (lv_at hl 0 rfl) ?_
  obtain ⟨q, hc, hf⟩ := bd hf
  refine gCallVV X cOK rfl (vX2_growMice hkt hc) gRX2_X2_growMice hdX2_growMice rfl ⟨by decide, by decide⟩ hP hS (cr_rec hP hkt rfl cw11 rfl) hl.1 (Nat.le_of_ble_eq_true rfl) ⟨Nat.zero_le _, Nat.zero_le _⟩ dX2_passHour_42 (As := []) (rest := []) rfl (fun H locs hP hS => ?_)
  exact kX2_passHour_45 X hret hkt hf hP hS (lv_sub hl [0] rfl)
set_option maxRecDepth 10000 in
theorem kX2_passHour_31 {S1 : CS} {t : Nat} {M : CS} {H : Heap} {locs : List Loc} {ls : Array Slot} (X : gX p s m args c cX2_passHour 2 RX2 (kR kTab kA)) (hret : gRetV p l e (rmL 4 0 0) s m args below meth c cX2_passHour (cΩ ca) (cP dC dI cg kA ca) Q S1) (hkt : kc t = 11) (hf : fX2_passHour_31 t M = some S1) (hP : (cP dC dI cg kA ca) M s H) (hS : va_S (Fr (cΩ ca) s.heap.size) s.heap H locs) (hl : lv_has ls 2 [(0, .ref (ca t))]) : W p l e (rmL 4 0 0) s m args below meth c H locs 0 0 Q (F0 m 31 ls []) := by
  have hx := X.hx
  have hb := X.hb
  have hown := X.hown
  have hts := X.hts
  rw [fX2_passHour_31] at hf
  refine lv_aload_n hx hb dX2_passHour_31 rfl (lv_at hl 0 rfl) ?_
  refine cr_get (k := 12) X hP hkt rfl cv11_12 rfl cinX2 (by decide) rfl tw344 dX2_passHour_32 ?_
  refine lv_bipush (v := 24) hx hb dX2_passHour_35 (by decide) ?_
  refine lv_irem hx hb dX2_passHour_37 (by decide) ?_
  refine lv_if_ne (tgt := 45) hx hb dX2_passHour_38 (by decide) (fun c1 => ?_) (fun c1 => ?_)
  · exact kX2_passHour_45 X hret hkt (ifn c1 hf) hP hS (lv_sub hl [0] rfl)
  · exact kX2_passHour_41 X hret hkt (ifp c1 hf) hP hS (lv_sub hl [0] rfl)
set_option maxRecDepth 10000 in
theorem kX2_passHour_25 {S1 : CS} {t : Nat} {K12 : CS → Int32 → Option (CS)} {M : CS} {x1 : Int32} {H : Heap} {locs : List Loc} {ls : Array Slot} (X : gX p s m args c cX2_passHour 2 RX2 (kR kTab kA)) (hret : gRetV p l e (rmL 4 0 0) s m args below meth c cX2_passHour (cΩ ca) (cP dC dI cg kA ca) Q S1) (hkt : kc t = 11) (hK12 : ∀ (M : CS) (x1 : Int32) (H : Heap) (locs : List Loc) (ls : Array Slot), K12 M x1 = some S1 → (cP dC dI cg kA ca) M s H → va_S (Fr (cΩ ca) s.heap.size) s.heap H locs → lv_has ls 2 [(0, .ref (ca t)), (1, .int x1)] → W p l e (rmL 4 0 0) s m args below meth c H locs 0 0 Q (F0 m 12 ls [])) (hf : fX2_passHour_25 t K12 M x1 = some S1) (hP : (cP dC dI cg kA ca) M s H) (hS : va_S (Fr (cΩ ca) s.heap.size) s.heap H locs) (hl : lv_has ls 2 [(0, .ref (ca t)), (1, .int x1)]) : W p l e (rmL 4 0 0) s m args below meth c H locs 0 0 Q (F0 m 25 ls []) := by
  have hx := X.hx
  have hb := X.hb
  have hown := X.hown
  have hts := X.hts
  rw [fX2_passHour_25] at hf
  refine lv_iinc (v := (x1 + 1)) (lv' := [(1, .int (x1 + 1)), (0, .ref (ca t))]) hx hb dX2_passHour_25 hl (k := 1) rfl (by rfl) (by decide) rfl (fun ls hl => ?_)
  refine lv_goto (tgt := 12) hx hb dX2_passHour_28 (by decide) ?_
  exact hK12 _ _ _ _ _ hf hP hS (lv_sub hl [1, 0] rfl)
set_option maxRecDepth 10000 in
theorem kX2_passHour_20 {S1 : CS} {t : Nat} {K12 : CS → Int32 → Option (CS)} {M : CS} {x1 : Int32} {H : Heap} {locs : List Loc} {ls : Array Slot} (X : gX p s m args c cX2_passHour 2 RX2 (kR kTab kA)) (hret : gRetV p l e (rmL 4 0 0) s m args below meth c cX2_passHour (cΩ ca) (cP dC dI cg kA ca) Q S1) (hkt : kc t = 11) (hK12 : ∀ (M : CS) (x1 : Int32) (H : Heap) (locs : List Loc) (ls : Array Slot), K12 M x1 = some S1 → (cP dC dI cg kA ca) M s H → va_S (Fr (cΩ ca) s.heap.size) s.heap H locs → lv_has ls 2 [(0, .ref (ca t)), (1, .int x1)] → W p l e (rmL 4 0 0) s m args below meth c H locs 0 0 Q (F0 m 12 ls [])) (hf : fX2_passHour_20 t K12 M x1 = some S1) (hP : (cP dC dI cg kA ca) M s H) (hS : va_S (Fr (cΩ ca) s.heap.size) s.heap H locs) (hl : lv_has ls 2 [(0, .ref (ca t)), (1, .int x1)]) : W p l e (rmL 4 0 0) s m args below meth c H locs 0 0 Q (F0 m 20 ls []) := by
  have hx := X.hx
  have hb := X.hb
  have hown := X.hown
  have hts := X.hts
  rw [fX2_passHour_20] at hf
  refine lv_aload_n hx hb dX2_passHour_20 rfl (lv_at hl 0 rfl) ?_
  refine lv_iload_n hx hb dX2_passHour_21 rfl (lv_at hl 1 rfl) ?_
  obtain ⟨q, hc, hf⟩ := bd hf
  refine gCallVV X cOK rfl (vX2_feedMice hkt hc) gRX2_X2_feedMice hdX2_feedMice rfl ⟨by decide, by decide⟩ hP hS (cr_rec hP hkt rfl cw11 rfl) hl.1 (Nat.le_of_ble_eq_true rfl) ⟨Nat.zero_le _, Nat.zero_le _⟩ dX2_passHour_22 (As := [.int x1]) (rest := []) rfl (fun H locs hP hS => ?_)
  exact kX2_passHour_25 X hret hkt hK12 hf hP hS (lv_sub hl [0, 1] rfl)
set_option maxRecDepth 10000 in
theorem kX2_passHour_12 {S1 : CS} {t : Nat} (X : gX p s m args c cX2_passHour 2 RX2 (kR kTab kA)) (hret : gRetV p l e (rmL 4 0 0) s m args below meth c cX2_passHour (cΩ ca) (cP dC dI cg kA ca) Q S1) (hkt : kc t = 11) : ∀ (n : Nat) (M : CS) (x1 : Int32) (H : Heap) (locs : List Loc) (ls : Array Slot), fX2_passHour_12 t n M x1 = some S1 → (cP dC dI cg kA ca) M s H → va_S (Fr (cΩ ca) s.heap.size) s.heap H locs → lv_has ls 2 [(0, .ref (ca t)), (1, .int x1)] → W p l e (rmL 4 0 0) s m args below meth c H locs 0 0 Q (F0 m 12 ls []) := by
  intro n
  induction n with
  | zero => intro M x1 H locs ls hf; cases hf
  | succ k ih =>
    intro M x1 H locs ls hf hP hS hl
    have hx := X.hx
    have hb := X.hb
    have hown := X.hown
    have hts := X.hts
    rw [fX2_passHour_12] at hf
    try dsimp only at hf
    refine lv_iload_n hx hb dX2_passHour_12 rfl (lv_at hl 1 rfl) ?_
    refine lv_aload_n hx hb dX2_passHour_13 rfl (lv_at hl 0 rfl) ?_
    refine cr_get (k := 6) X hP hkt rfl cv11_6 rfl cinX2 (by decide) rfl tw329 dX2_passHour_14 ?_
    refine lv_icmp_ge (tgt := 31) hx hb dX2_passHour_17 (by decide) (fun c1 => ?_) (fun c1 => ?_)
    · exact kX2_passHour_31 X hret hkt (ifp c1 hf) hP hS (lv_sub hl [0] rfl)
    · exact kX2_passHour_20 X hret hkt ih (ifn c1 hf) hP hS (lv_sub hl [0, 1] rfl)
set_option maxRecDepth 10000 in
theorem kX2_passHour_10 {S1 : CS} {t : Nat} {M : CS} {H : Heap} {locs : List Loc} {ls : Array Slot} (X : gX p s m args c cX2_passHour 2 RX2 (kR kTab kA)) (hret : gRetV p l e (rmL 4 0 0) s m args below meth c cX2_passHour (cΩ ca) (cP dC dI cg kA ca) Q S1) (hkt : kc t = 11) (hf : fX2_passHour_10 t M = some S1) (hP : (cP dC dI cg kA ca) M s H) (hS : va_S (Fr (cΩ ca) s.heap.size) s.heap H locs) (hl : lv_has ls 2 [(0, .ref (ca t))]) : W p l e (rmL 4 0 0) s m args below meth c H locs 0 0 Q (F0 m 10 ls []) := by
  have hx := X.hx
  have hb := X.hb
  have hown := X.hown
  have hts := X.hts
  rw [fX2_passHour_10] at hf
  refine lv_iconst (v := 0) hx hb dX2_passHour_10 (by decide) ?_
  refine lv_istore_n (lv' := [(1, .int 0), (0, .ref (ca t))]) hx hb dX2_passHour_11 rfl hl (by decide) rfl (fun ls hl => ?_)
  exact kX2_passHour_12 X hret hkt FU _ _ _ _ _ hf hP hS (lv_sub hl [1, 0] rfl)
set_option maxRecDepth 10000 in
theorem kX2_passHour_0 {S1 : CS} {t : Nat} {M : CS} {H : Heap} {locs : List Loc} {ls : Array Slot} (X : gX p s m args c cX2_passHour 2 RX2 (kR kTab kA)) (hret : gRetV p l e (rmL 4 0 0) s m args below meth c cX2_passHour (cΩ ca) (cP dC dI cg kA ca) Q S1) (hkt : kc t = 11) (hf : fX2_passHour_0 t M = some S1) (hP : (cP dC dI cg kA ca) M s H) (hS : va_S (Fr (cΩ ca) s.heap.size) s.heap H locs) (hl : lv_has ls 2 [(0, .ref (ca t))]) : W p l e (rmL 4 0 0) s m args below meth c H locs 0 0 Q (F0 m 0 ls []) := by
  have hx := X.hx
  have hb := X.hb
  have hown := X.hown
  have hts := X.hts
  rw [fX2_passHour_0] at hf
  refine lv_aload_n hx hb dX2_passHour_0 rfl (lv_at hl 0 rfl) ?_
  refine lv_dup hx hb dX2_passHour_1 rfl ?_
  refine cr_get (k := 12) X hP hkt rfl cv11_12 rfl cinX2 (by decide) rfl tw344 dX2_passHour_2 ?_
  refine lv_iconst (v := 1) hx hb dX2_passHour_5 (by decide) ?_
  refine lv_iadd hx hb dX2_passHour_6 ?_
  refine cr_put (k := 12) X hP hS hkt rfl cs11_12 rfl cinX2 tyX2_ok nmX2 (by decide) rfl rfl rfl rfl tw344 dX2_passHour_7 (fun H locs hP hS => ?_)
  exact kX2_passHour_10 X hret hkt hf hP hS (lv_sub hl [0] rfl)
theorem vX2_passHour {l : Launch} {dC : Nat → ClassId} {dI : Nat → Nat → Nat} {cg : Nat → ClassId} {kA : String → Nat → Nat} {ca : Nat → Nat} {M S1 : CS} {t : Nat} (hkt : kc t = 11) (hf : fX2_passHour M t  = some S1) : gMetV l yX2_passHour cX2_passHour 2 4 (cΩ ca) (cP dC dI cg kA ca) (kR kTab kA) [.ref (ca t)] M S1 := gEntryV (by decide) cOK (Nat.le_of_ble_eq_true rfl) (fun p e s m args below meth c Q ls X hP hS hret hl => 
  kX2_passHour_0 X hret hkt hf hP hS (lv_sub hl [0] rfl))
set_option maxRecDepth 10000 in
theorem kX5_readNumber_15 {r : Int32} {S1 : CS} {M : CS} {H : Heap} {locs : List Loc} {ls : Array Slot} (X : gX p s m args c cX5_readNumber 3 RX5 (kR kTab kA)) (hret : gRetI p l e (rmL 4 0 0) s m args below meth c cX5_readNumber (cΩ ca) (cP dC dI cg kA ca) Q r S1) (hf : fX5_readNumber_15 M = some (r, S1)) (hP : (cP dC dI cg kA ca) M s H) (hS : va_S (Fr (cΩ ca) s.heap.size) s.heap H locs) (hl : lv_has ls 3 [(0, .ref (ca 8))]) : W p l e (rmL 4 0 0) s m args below meth c H locs 0 0 Q (F0 m 15 ls []) := by
  have hx := X.hx
  have hb := X.hb
  have hown := X.hown
  have hts := X.hts
  rw [fX5_readNumber_15] at hf
  refine lv_iconst (v := 1) hx hb dX5_readNumber_15 (by decide) ?_
  cases hf
  exact hret _ _ _ _ dX5_readNumber_16 hP hS
set_option maxRecDepth 10000 in
theorem kX5_readNumber_62 {r : Int32} {S1 : CS} {M : CS} {H : Heap} {locs : List Loc} {ls : Array Slot} (X : gX p s m args c cX5_readNumber 3 RX5 (kR kTab kA)) (hret : gRetI p l e (rmL 4 0 0) s m args below meth c cX5_readNumber (cΩ ca) (cP dC dI cg kA ca) Q r S1) (hf : fX5_readNumber_62 M = some (r, S1)) (hP : (cP dC dI cg kA ca) M s H) (hS : va_S (Fr (cΩ ca) s.heap.size) s.heap H locs) (hl : lv_has ls 3 [(0, .ref (ca 8))]) : W p l e (rmL 4 0 0) s m args below meth c H locs 0 0 Q (F0 m 62 ls []) := by
  have hx := X.hx
  have hb := X.hb
  have hown := X.hown
  have hts := X.hts
  rw [fX5_readNumber_62] at hf
  refine lv_iconst (v := 1) hx hb dX5_readNumber_62 (by decide) ?_
  cases hf
  exact hret _ _ _ _ dX5_readNumber_63 hP hS
set_option maxRecDepth 10000 in
theorem kX5_readNumber_46 {r : Int32} {S1 : CS} {M : CS} {H : Heap} {locs : List Loc} {ls : Array Slot} (X : gX p s m args c cX5_readNumber 3 RX5 (kR kTab kA)) (hret : gRetI p l e (rmL 4 0 0) s m args below meth c cX5_readNumber (cΩ ca) (cP dC dI cg kA ca) Q r S1) (hf : fX5_readNumber_46 M = some (r, S1)) (hP : (cP dC dI cg kA ca) M s H) (hS : va_S (Fr (cΩ ca) s.heap.size) s.heap H locs) (hl : lv_has ls 3 [(0, .ref (ca 8))]) : W p l e (rmL 4 0 0) s m args below meth c H locs 0 0 Q (F0 m 46 ls []) := by
  have hx := X.hx
  have hb := X.hb
  have hown := X.hown
  have hts := X.hts
  rw [fX5_readNumber_46] at hf
  refine lv_aload_n hx hb dX5_readNumber_46 rfl (lv_at hl 0 rfl) ?_
  refine cr_get (k := 4) X hP (rfl : kc 8 = 8) rfl cv8_4 rfl cinX5 (by decide) rfl tw398 dX5_readNumber_47 ?_
  refine lv_aload_n hx hb dX5_readNumber_50 rfl (lv_at hl 0 rfl) ?_
  refine cr_get (k := 5) X hP (rfl : kc 8 = 8) rfl cv8_5 rfl cinX5 (by decide) rfl tw399 dX5_readNumber_51 ?_
  refine lv_aload_n hx hb dX5_readNumber_54 rfl (lv_at hl 0 rfl) ?_
  refine cr_get (k := 0) X hP (rfl : kc 8 = 8) rfl cv8_0 rfl cinX5 (by decide) rfl tw394 dX5_readNumber_55 ?_
  refine cr_get (k := 6) X hP (rfl : kc 1 = 1) rfl cv1_6 rfl cinX8 (by decide) rfl tw91 dX5_readNumber_58 ?_
  obtain ⟨g1, hf⟩ := gd hf
  refine cr_iast X hP hS (rfl : kc 11 = 9) rfl (fun _ _ => rfl) g1 dX5_readNumber_61 (fun H locs hP hS => ?_)
  exact kX5_readNumber_62 X hret hf hP hS (lv_sub hl [0] rfl)
set_option maxRecDepth 10000 in
theorem kX5_readNumber_44 {r : Int32} {S1 : CS} {M : CS} {H : Heap} {locs : List Loc} {ls : Array Slot} (X : gX p s m args c cX5_readNumber 3 RX5 (kR kTab kA)) (hret : gRetI p l e (rmL 4 0 0) s m args below meth c cX5_readNumber (cΩ ca) (cP dC dI cg kA ca) Q r S1) (hf : fX5_readNumber_44 M = some (r, S1)) (hP : (cP dC dI cg kA ca) M s H) (hS : va_S (Fr (cΩ ca) s.heap.size) s.heap H locs) (hl : lv_has ls 3 [(0, .ref (ca 8))]) : W p l e (rmL 4 0 0) s m args below meth c H locs 0 0 Q (F0 m 44 ls []) := by
  have hx := X.hx
  have hb := X.hb
  have hown := X.hown
  have hts := X.hts
  rw [fX5_readNumber_44] at hf
  refine lv_iconst (v := 0) hx hb dX5_readNumber_44 (by decide) ?_
  cases hf
  exact hret _ _ _ _ dX5_readNumber_45 hP hS
set_option maxRecDepth 10000 in
theorem kX5_readNumber_41 {r : Int32} {S1 : CS} {M : CS} {s0 : Int32} {H : Heap} {locs : List Loc} {ls : Array Slot} (X : gX p s m args c cX5_readNumber 3 RX5 (kR kTab kA)) (hret : gRetI p l e (rmL 4 0 0) s m args below meth c cX5_readNumber (cΩ ca) (cP dC dI cg kA ca) Q r S1) (hf : fX5_readNumber_41 M s0 = some (r, S1)) (hP : (cP dC dI cg kA ca) M s H) (hS : va_S (Fr (cΩ ca) s.heap.size) s.heap H locs) (hl : lv_has ls 3 [(0, .ref (ca 8))]) : W p l e (rmL 4 0 0) s m args below meth c H locs 0 0 Q (F0 m 41 ls [.int s0]) := by
  have hx := X.hx
  have hb := X.hb
  have hown := X.hown
  have hts := X.hts
  rw [fX5_readNumber_41] at hf
  refine lv_if_ne (tgt := 46) hx hb dX5_readNumber_41 (by decide) (fun c1 => ?_) (fun c1 => ?_)
  · exact kX5_readNumber_46 X hret (ifn c1 hf) hP hS (lv_sub hl [0] rfl)
  · exact kX5_readNumber_44 X hret (ifp c1 hf) hP hS (lv_sub hl [0] rfl)
set_option maxRecDepth 10000 in
theorem kX5_readNumber_38 {r : Int32} {S1 : CS} {M : CS} {s0 : Int32} {s1 : Int32} {H : Heap} {locs : List Loc} {ls : Array Slot} (X : gX p s m args c cX5_readNumber 3 RX5 (kR kTab kA)) (hret : gRetI p l e (rmL 4 0 0) s m args below meth c cX5_readNumber (cΩ ca) (cP dC dI cg kA ca) Q r S1) (hf : fX5_readNumber_38 M s0 s1 = some (r, S1)) (hP : (cP dC dI cg kA ca) M s H) (hS : va_S (Fr (cΩ ca) s.heap.size) s.heap H locs) (hl : lv_has ls 3 [(0, .ref (ca 8))]) : W p l e (rmL 4 0 0) s m args below meth c H locs 0 0 Q (F0 m 38 ls [.int s0, .int s1, .ref (ca 1)]) := by
  have hx := X.hx
  have hb := X.hb
  have hown := X.hown
  have hts := X.hts
  rw [fX5_readNumber_38] at hf
  obtain ⟨q, hc, hf⟩ := bd hf
  refine gCallVI X cOK rfl (vX8_takeNumber hc) gRX5_X8_takeNumber hdX8_takeNumber rfl ⟨by decide, by decide⟩ hP hS (cr_rec hP (rfl : kc 1 = 1) rfl cw1 rfl) hl.1 (Nat.le_of_ble_eq_true rfl) ⟨Nat.zero_le _, Nat.zero_le _⟩ dX5_readNumber_38 (As := [.int s1, .int s0]) (rest := []) rfl (fun H locs hP hS => ?_)
  exact kX5_readNumber_41 X hret hf hP hS (lv_sub hl [0] rfl)
set_option maxRecDepth 10000 in
theorem kX5_readNumber_28 {r : Int32} {S1 : CS} {M : CS} {x1 : Int32} {s0 : Int32} {H : Heap} {locs : List Loc} {ls : Array Slot} (X : gX p s m args c cX5_readNumber 3 RX5 (kR kTab kA)) (hret : gRetI p l e (rmL 4 0 0) s m args below meth c cX5_readNumber (cΩ ca) (cP dC dI cg kA ca) Q r S1) (hf : fX5_readNumber_28 M x1 s0 = some (r, S1)) (hP : (cP dC dI cg kA ca) M s H) (hS : va_S (Fr (cΩ ca) s.heap.size) s.heap H locs) (hl : lv_has ls 3 [(0, .ref (ca 8)), (1, .int x1)]) : W p l e (rmL 4 0 0) s m args below meth c H locs 0 0 Q (F0 m 28 ls [.int s0]) := by
  have hx := X.hx
  have hb := X.hb
  have hown := X.hown
  have hts := X.hts
  rw [fX5_readNumber_28] at hf
  refine lv_istore_n (lv' := [(2, .int s0), (0, .ref (ca 8)), (1, .int x1)]) hx hb dX5_readNumber_28 rfl hl (by decide) rfl (fun ls hl => ?_)
  refine lv_aload_n hx hb dX5_readNumber_29 rfl (lv_at hl 1 rfl) ?_
  refine cr_get (k := 0) X hP (rfl : kc 8 = 8) rfl cv8_0 rfl cinX5 (by decide) rfl tw394 dX5_readNumber_30 ?_
  refine lv_iload_n hx hb dX5_readNumber_33 rfl (lv_at hl 0 rfl) ?_
  refine lv_iload_n hx hb dX5_readNumber_34 rfl (lv_at hl 2 rfl) ?_
  obtain ⟨q, hc, hf⟩ := bd hf
  refine gCallSR X rfl (vX5_mostOf hc) gRX5_X5_mostOf hdX5_mostOf rfl ⟨by decide, by decide⟩ (gB_blind cOK) (gB_at cOK X hP) hl.1 (Nat.le_of_ble_eq_true rfl) ⟨Nat.zero_le _, Nat.zero_le _⟩ dX5_readNumber_35 (As := [.int x1]) (rest := [.int s0, .ref (ca 1)]) rfl ?_
  exact kX5_readNumber_38 X hret hf hP hS (lv_sub hl [1] rfl)
set_option maxRecDepth 10000 in
theorem kX5_readNumber_27 {r : Int32} {S1 : CS} {M : CS} {x1 : Int32} {H : Heap} {locs : List Loc} {ls : Array Slot} (X : gX p s m args c cX5_readNumber 3 RX5 (kR kTab kA)) (hret : gRetI p l e (rmL 4 0 0) s m args below meth c cX5_readNumber (cΩ ca) (cP dC dI cg kA ca) Q r S1) (hf : fX5_readNumber_27 M x1 = some (r, S1)) (hP : (cP dC dI cg kA ca) M s H) (hS : va_S (Fr (cΩ ca) s.heap.size) s.heap H locs) (hl : lv_has ls 3 [(0, .ref (ca 8)), (1, .int x1)]) : W p l e (rmL 4 0 0) s m args below meth c H locs 0 0 Q (F0 m 27 ls []) := by
  have hx := X.hx
  have hb := X.hb
  have hown := X.hown
  have hts := X.hts
  rw [fX5_readNumber_27] at hf
  refine lv_iconst (v := 1) hx hb dX5_readNumber_27 (by decide) ?_
  exact kX5_readNumber_28 X hret hf hP hS (lv_sub hl [0, 1] rfl)
set_option maxRecDepth 10000 in
theorem kX5_readNumber_23 {r : Int32} {S1 : CS} {M : CS} {x1 : Int32} {H : Heap} {locs : List Loc} {ls : Array Slot} (X : gX p s m args c cX5_readNumber 3 RX5 (kR kTab kA)) (hret : gRetI p l e (rmL 4 0 0) s m args below meth c cX5_readNumber (cΩ ca) (cP dC dI cg kA ca) Q r S1) (hf : fX5_readNumber_23 M x1 = some (r, S1)) (hP : (cP dC dI cg kA ca) M s H) (hS : va_S (Fr (cΩ ca) s.heap.size) s.heap H locs) (hl : lv_has ls 3 [(0, .ref (ca 8)), (1, .int x1)]) : W p l e (rmL 4 0 0) s m args below meth c H locs 0 0 Q (F0 m 23 ls []) := by
  have hx := X.hx
  have hb := X.hb
  have hown := X.hown
  have hts := X.hts
  rw [fX5_readNumber_23] at hf
  refine lv_iconst (v := 0) hx hb dX5_readNumber_23 (by decide) ?_
  refine lv_goto (tgt := 28) hx hb dX5_readNumber_24 (by decide) ?_
  exact kX5_readNumber_28 X hret hf hP hS (lv_sub hl [0, 1] rfl)
set_option maxRecDepth 10000 in
theorem kX5_readNumber_17 {r : Int32} {S1 : CS} {M : CS} {x1 : Int32} {H : Heap} {locs : List Loc} {ls : Array Slot} (X : gX p s m args c cX5_readNumber 3 RX5 (kR kTab kA)) (hret : gRetI p l e (rmL 4 0 0) s m args below meth c cX5_readNumber (cΩ ca) (cP dC dI cg kA ca) Q r S1) (hf : fX5_readNumber_17 M x1 = some (r, S1)) (hP : (cP dC dI cg kA ca) M s H) (hS : va_S (Fr (cΩ ca) s.heap.size) s.heap H locs) (hl : lv_has ls 3 [(0, .ref (ca 8)), (1, .int x1)]) : W p l e (rmL 4 0 0) s m args below meth c H locs 0 0 Q (F0 m 17 ls []) := by
  have hx := X.hx
  have hb := X.hb
  have hown := X.hown
  have hts := X.hts
  rw [fX5_readNumber_17] at hf
  refine lv_iload_n hx hb dX5_readNumber_17 rfl (lv_at hl 1 rfl) ?_
  refine lv_bipush (v := 6) hx hb dX5_readNumber_18 (by decide) ?_
  refine lv_icmp_ne (tgt := 27) hx hb dX5_readNumber_20 (by decide) (fun c1 => ?_) (fun c1 => ?_)
  · exact kX5_readNumber_27 X hret (ifn c1 hf) hP hS (lv_sub hl [0, 1] rfl)
  · exact kX5_readNumber_23 X hret (ifp c1 hf) hP hS (lv_sub hl [0, 1] rfl)
set_option maxRecDepth 10000 in
theorem kX5_readNumber_10 {r : Int32} {S1 : CS} {M : CS} {x1 : Int32} {H : Heap} {locs : List Loc} {ls : Array Slot} (X : gX p s m args c cX5_readNumber 3 RX5 (kR kTab kA)) (hret : gRetI p l e (rmL 4 0 0) s m args below meth c cX5_readNumber (cΩ ca) (cP dC dI cg kA ca) Q r S1) (hf : fX5_readNumber_10 M x1 = some (r, S1)) (hP : (cP dC dI cg kA ca) M s H) (hS : va_S (Fr (cΩ ca) s.heap.size) s.heap H locs) (hl : lv_has ls 3 [(0, .ref (ca 8)), (1, .int x1)]) : W p l e (rmL 4 0 0) s m args below meth c H locs 0 0 Q (F0 m 10 ls []) := by
  have hx := X.hx
  have hb := X.hb
  have hown := X.hown
  have hts := X.hts
  rw [fX5_readNumber_10] at hf
  refine lv_iload_n hx hb dX5_readNumber_10 rfl (lv_at hl 1 rfl) ?_
  refine lv_iconst (v := 5) hx hb dX5_readNumber_11 (by decide) ?_
  refine lv_icmp_ne (tgt := 17) hx hb dX5_readNumber_12 (by decide) (fun c1 => ?_) (fun c1 => ?_)
  · exact kX5_readNumber_17 X hret (ifn c1 hf) hP hS (lv_sub hl [0, 1] rfl)
  · exact kX5_readNumber_15 X hret (ifp c1 hf) hP hS (lv_sub hl [0] rfl)
set_option maxRecDepth 10000 in
theorem kX5_readNumber_5 {r : Int32} {S1 : CS} {M : CS} {x1 : Int32} {H : Heap} {locs : List Loc} {ls : Array Slot} (X : gX p s m args c cX5_readNumber 3 RX5 (kR kTab kA)) (hret : gRetI p l e (rmL 4 0 0) s m args below meth c cX5_readNumber (cΩ ca) (cP dC dI cg kA ca) Q r S1) (hf : fX5_readNumber_5 M x1 = some (r, S1)) (hP : (cP dC dI cg kA ca) M s H) (hS : va_S (Fr (cΩ ca) s.heap.size) s.heap H locs) (hl : lv_has ls 3 [(0, .ref (ca 8)), (1, .int x1)]) : W p l e (rmL 4 0 0) s m args below meth c H locs 0 0 Q (F0 m 5 ls []) := by
  have hx := X.hx
  have hb := X.hb
  have hown := X.hown
  have hts := X.hts
  rw [fX5_readNumber_5] at hf
  refine lv_iload_n hx hb dX5_readNumber_5 rfl (lv_at hl 1 rfl) ?_
  refine lv_iconst (v := 2) hx hb dX5_readNumber_6 (by decide) ?_
  refine lv_icmp_eq (tgt := 15) hx hb dX5_readNumber_7 (by decide) (fun c1 => ?_) (fun c1 => ?_)
  · exact kX5_readNumber_15 X hret (ifp c1 hf) hP hS (lv_sub hl [0] rfl)
  · exact kX5_readNumber_10 X hret (ifn c1 hf) hP hS (lv_sub hl [0, 1] rfl)
set_option maxRecDepth 10000 in
theorem kX5_readNumber_0 {r : Int32} {S1 : CS} {M : CS} {a1 : Int32} {H : Heap} {locs : List Loc} {ls : Array Slot} (X : gX p s m args c cX5_readNumber 3 RX5 (kR kTab kA)) (hret : gRetI p l e (rmL 4 0 0) s m args below meth c cX5_readNumber (cΩ ca) (cP dC dI cg kA ca) Q r S1) (hf : fX5_readNumber_0 M a1 = some (r, S1)) (hP : (cP dC dI cg kA ca) M s H) (hS : va_S (Fr (cΩ ca) s.heap.size) s.heap H locs) (hl : lv_has ls 3 [(0, .ref (ca 8)), (1, .int a1)]) : W p l e (rmL 4 0 0) s m args below meth c H locs 0 0 Q (F0 m 0 ls []) := by
  have hx := X.hx
  have hb := X.hb
  have hown := X.hown
  have hts := X.hts
  rw [fX5_readNumber_0] at hf
  refine lv_iload_n hx hb dX5_readNumber_0 rfl (lv_at hl 1 rfl) ?_
  refine lv_iconst (v := 1) hx hb dX5_readNumber_1 (by decide) ?_
  refine lv_icmp_eq (tgt := 15) hx hb dX5_readNumber_2 (by decide) (fun c1 => ?_) (fun c1 => ?_)
  · exact kX5_readNumber_15 X hret (ifp c1 hf) hP hS (lv_sub hl [0] rfl)
  · exact kX5_readNumber_5 X hret (ifn c1 hf) hP hS (lv_sub hl [0, 1] rfl)
theorem vX5_readNumber {l : Launch} {dC : Nat → ClassId} {dI : Nat → Nat → Nat} {cg : Nat → ClassId} {kA : String → Nat → Nat} {ca : Nat → Nat} {M S1 : CS} {r : Int32} {a1 : Int32} (hf : fX5_readNumber M a1 = some (r, S1)) : gMetI l yX5_readNumber cX5_readNumber 3 (some .boolean) 4 (cΩ ca) (cP dC dI cg kA ca) (kR kTab kA) [.ref (ca 8), .int a1] M r S1 := gEntryI (ty := .boolean) (by decide) rfl (bz_n hf) cOK (Nat.le_of_ble_eq_true rfl) (fun p e s m args below meth c Q ls X hP hS hret hl => 
  kX5_readNumber_0 X hret (bz_f hf) hP hS (lv_sub hl [0, 1] rfl))
set_option maxRecDepth 10000 in
theorem kX6_readMilk_36 {r : Int32} {S1 : CS} {M : CS} {s0 : Int32} {H : Heap} {locs : List Loc} {ls : Array Slot} (X : gX p s m args c cX6_readMilk 1 RX6 (kR kTab kA)) (hret : gRetI p l e (rmL 4 0 0) s m args below meth c cX6_readMilk (cΩ ca) (cP dC dI cg kA ca) Q r S1) (hf : fX6_readMilk_36 M s0 = some (r, S1)) (hP : (cP dC dI cg kA ca) M s H) (hS : va_S (Fr (cΩ ca) s.heap.size) s.heap H locs) (hl : lv_has ls 1 [(0, .ref (ca 7))]) : W p l e (rmL 4 0 0) s m args below meth c H locs 0 0 Q (F0 m 36 ls [.int s0]) := by
  have hx := X.hx
  have hb := X.hb
  have hown := X.hown
  have hts := X.hts
  rw [fX6_readMilk_36] at hf
  cases hf
  exact hret _ _ _ _ dX6_readMilk_36 hP hS
set_option maxRecDepth 10000 in
theorem kX6_readMilk_29 {r : Int32} {S1 : CS} {M : CS} {H : Heap} {locs : List Loc} {ls : Array Slot} (X : gX p s m args c cX6_readMilk 1 RX6 (kR kTab kA)) (hret : gRetI p l e (rmL 4 0 0) s m args below meth c cX6_readMilk (cΩ ca) (cP dC dI cg kA ca) Q r S1) (hf : fX6_readMilk_29 M = some (r, S1)) (hP : (cP dC dI cg kA ca) M s H) (hS : va_S (Fr (cΩ ca) s.heap.size) s.heap H locs) (hl : lv_has ls 1 [(0, .ref (ca 7))]) : W p l e (rmL 4 0 0) s m args below meth c H locs 0 0 Q (F0 m 29 ls []) := by
  have hx := X.hx
  have hb := X.hb
  have hown := X.hown
  have hts := X.hts
  rw [fX6_readMilk_29] at hf
  refine lv_aload_n hx hb dX6_readMilk_29 rfl (lv_at hl 0 rfl) ?_
  refine cr_get (k := 0) X hP (rfl : kc 7 = 7) rfl cv7_0 rfl cinX6 (by decide) rfl tw381 dX6_readMilk_30 ?_
  obtain ⟨q, hc, hf⟩ := bd hf
  refine gCallVI X cOK rfl (vX8_takeSemicolon hc) gRX6_X8_takeSemicolon hdX8_takeSemicolon rfl ⟨by decide, by decide⟩ hP hS (cr_rec hP (rfl : kc 1 = 1) rfl cw1 rfl) hl.1 (Nat.le_of_ble_eq_true rfl) ⟨Nat.zero_le _, Nat.zero_le _⟩ dX6_readMilk_33 (As := []) (rest := []) rfl (fun H locs hP hS => ?_)
  exact kX6_readMilk_36 X hret hf hP hS (lv_sub hl [0] rfl)
set_option maxRecDepth 10000 in
theorem kX6_readMilk_15 {r : Int32} {S1 : CS} {M : CS} {H : Heap} {locs : List Loc} {ls : Array Slot} (X : gX p s m args c cX6_readMilk 1 RX6 (kR kTab kA)) (hret : gRetI p l e (rmL 4 0 0) s m args below meth c cX6_readMilk (cΩ ca) (cP dC dI cg kA ca) Q r S1) (hf : fX6_readMilk_15 M = some (r, S1)) (hP : (cP dC dI cg kA ca) M s H) (hS : va_S (Fr (cΩ ca) s.heap.size) s.heap H locs) (hl : lv_has ls 1 [(0, .ref (ca 7))]) : W p l e (rmL 4 0 0) s m args below meth c H locs 0 0 Q (F0 m 15 ls []) := by
  have hx := X.hx
  have hb := X.hb
  have hown := X.hown
  have hts := X.hts
  rw [fX6_readMilk_15] at hf
  refine lv_aload_n hx hb dX6_readMilk_15 rfl (lv_at hl 0 rfl) ?_
  refine cr_get (k := 1) X hP (rfl : kc 7 = 7) rfl cv7_1 rfl cinX6 (by decide) rfl tw382 dX6_readMilk_16 ?_
  refine lv_aload_n hx hb dX6_readMilk_19 rfl (lv_at hl 0 rfl) ?_
  refine cr_get (k := 0) X hP (rfl : kc 7 = 7) rfl cv7_0 rfl cinX6 (by decide) rfl tw381 dX6_readMilk_20 ?_
  refine cr_get (k := 6) X hP (rfl : kc 1 = 1) rfl cv1_6 rfl cinX8 (by decide) rfl tw90 dX6_readMilk_23 ?_
  refine cr_put (k := 11) X hP hS (rfl : kc 48 = 11) rfl cs11_11 rfl cinX2 tyX2_ok nmX2 (by decide) rfl rfl rfl rfl tw342 dX6_readMilk_26 (fun H locs hP hS => ?_)
  exact kX6_readMilk_29 X hret hf hP hS (lv_sub hl [0] rfl)
set_option maxRecDepth 10000 in
theorem kX6_readMilk_13 {r : Int32} {S1 : CS} {M : CS} {H : Heap} {locs : List Loc} {ls : Array Slot} (X : gX p s m args c cX6_readMilk 1 RX6 (kR kTab kA)) (hret : gRetI p l e (rmL 4 0 0) s m args below meth c cX6_readMilk (cΩ ca) (cP dC dI cg kA ca) Q r S1) (hf : fX6_readMilk_13 M = some (r, S1)) (hP : (cP dC dI cg kA ca) M s H) (hS : va_S (Fr (cΩ ca) s.heap.size) s.heap H locs) (hl : lv_has ls 1 [(0, .ref (ca 7))]) : W p l e (rmL 4 0 0) s m args below meth c H locs 0 0 Q (F0 m 13 ls []) := by
  have hx := X.hx
  have hb := X.hb
  have hown := X.hown
  have hts := X.hts
  rw [fX6_readMilk_13] at hf
  refine lv_iconst (v := 0) hx hb dX6_readMilk_13 (by decide) ?_
  cases hf
  exact hret _ _ _ _ dX6_readMilk_14 hP hS
set_option maxRecDepth 10000 in
theorem kX6_readMilk_10 {r : Int32} {S1 : CS} {M : CS} {s0 : Int32} {H : Heap} {locs : List Loc} {ls : Array Slot} (X : gX p s m args c cX6_readMilk 1 RX6 (kR kTab kA)) (hret : gRetI p l e (rmL 4 0 0) s m args below meth c cX6_readMilk (cΩ ca) (cP dC dI cg kA ca) Q r S1) (hf : fX6_readMilk_10 M s0 = some (r, S1)) (hP : (cP dC dI cg kA ca) M s H) (hS : va_S (Fr (cΩ ca) s.heap.size) s.heap H locs) (hl : lv_has ls 1 [(0, .ref (ca 7))]) : W p l e (rmL 4 0 0) s m args below meth c H locs 0 0 Q (F0 m 10 ls [.int s0]) := by
  have hx := X.hx
  have hb := X.hb
  have hown := X.hown
  have hts := X.hts
  rw [fX6_readMilk_10] at hf
  refine lv_if_ne (tgt := 15) hx hb dX6_readMilk_10 (by decide) (fun c1 => ?_) (fun c1 => ?_)
  · exact kX6_readMilk_15 X hret (ifn c1 hf) hP hS (lv_sub hl [0] rfl)
  · exact kX6_readMilk_13 X hret (ifp c1 hf) hP hS (lv_sub hl [0] rfl)
set_option maxRecDepth 10000 in
theorem kX6_readMilk_0 {r : Int32} {S1 : CS} {M : CS} {H : Heap} {locs : List Loc} {ls : Array Slot} (X : gX p s m args c cX6_readMilk 1 RX6 (kR kTab kA)) (hret : gRetI p l e (rmL 4 0 0) s m args below meth c cX6_readMilk (cΩ ca) (cP dC dI cg kA ca) Q r S1) (hf : fX6_readMilk_0 M = some (r, S1)) (hP : (cP dC dI cg kA ca) M s H) (hS : va_S (Fr (cΩ ca) s.heap.size) s.heap H locs) (hl : lv_has ls 1 [(0, .ref (ca 7))]) : W p l e (rmL 4 0 0) s m args below meth c H locs 0 0 Q (F0 m 0 ls []) := by
  have hx := X.hx
  have hb := X.hb
  have hown := X.hown
  have hts := X.hts
  rw [fX6_readMilk_0] at hf
  refine lv_aload_n hx hb dX6_readMilk_0 rfl (lv_at hl 0 rfl) ?_
  refine cr_get (k := 0) X hP (rfl : kc 7 = 7) rfl cv7_0 rfl cinX6 (by decide) rfl tw381 dX6_readMilk_1 ?_
  refine lv_iconst (v := 0) hx hb dX6_readMilk_4 (by decide) ?_
  refine lv_bipush (v := 9) hx hb dX6_readMilk_5 (by decide) ?_
  obtain ⟨q, hc, hf⟩ := bd hf
  refine gCallVI X cOK rfl (vX8_takeNumber hc) gRX6_X8_takeNumber hdX8_takeNumber rfl ⟨by decide, by decide⟩ hP hS (cr_rec hP (rfl : kc 1 = 1) rfl cw1 rfl) hl.1 (Nat.le_of_ble_eq_true rfl) ⟨Nat.zero_le _, Nat.zero_le _⟩ dX6_readMilk_7 (As := [.int 0, .int 9]) (rest := []) rfl (fun H locs hP hS => ?_)
  exact kX6_readMilk_10 X hret hf hP hS (lv_sub hl [0] rfl)
theorem vX6_readMilk {l : Launch} {dC : Nat → ClassId} {dI : Nat → Nat → Nat} {cg : Nat → ClassId} {kA : String → Nat → Nat} {ca : Nat → Nat} {M S1 : CS} {r : Int32} (hf : fX6_readMilk M  = some (r, S1)) : gMetI l yX6_readMilk cX6_readMilk 1 (some .boolean) 4 (cΩ ca) (cP dC dI cg kA ca) (kR kTab kA) [.ref (ca 7)] M r S1 := gEntryI (ty := .boolean) (by decide) rfl (bz_n hf) cOK (Nat.le_of_ble_eq_true rfl) (fun p e s m args below meth c Q ls X hP hS hret hl => 
  kX6_readMilk_0 X hret (bz_f hf) hP hS (lv_sub hl [0] rfl))
set_option maxRecDepth 10000 in
theorem kX6_readHour_36 {r : Int32} {S1 : CS} {M : CS} {s0 : Int32} {H : Heap} {locs : List Loc} {ls : Array Slot} (X : gX p s m args c cX6_readHour 1 RX6 (kR kTab kA)) (hret : gRetI p l e (rmL 4 0 0) s m args below meth c cX6_readHour (cΩ ca) (cP dC dI cg kA ca) Q r S1) (hf : fX6_readHour_36 M s0 = some (r, S1)) (hP : (cP dC dI cg kA ca) M s H) (hS : va_S (Fr (cΩ ca) s.heap.size) s.heap H locs) (hl : lv_has ls 1 [(0, .ref (ca 7))]) : W p l e (rmL 4 0 0) s m args below meth c H locs 0 0 Q (F0 m 36 ls [.int s0]) := by
  have hx := X.hx
  have hb := X.hb
  have hown := X.hown
  have hts := X.hts
  rw [fX6_readHour_36] at hf
  cases hf
  exact hret _ _ _ _ dX6_readHour_36 hP hS
set_option maxRecDepth 10000 in
theorem kX6_readHour_29 {r : Int32} {S1 : CS} {M : CS} {H : Heap} {locs : List Loc} {ls : Array Slot} (X : gX p s m args c cX6_readHour 1 RX6 (kR kTab kA)) (hret : gRetI p l e (rmL 4 0 0) s m args below meth c cX6_readHour (cΩ ca) (cP dC dI cg kA ca) Q r S1) (hf : fX6_readHour_29 M = some (r, S1)) (hP : (cP dC dI cg kA ca) M s H) (hS : va_S (Fr (cΩ ca) s.heap.size) s.heap H locs) (hl : lv_has ls 1 [(0, .ref (ca 7))]) : W p l e (rmL 4 0 0) s m args below meth c H locs 0 0 Q (F0 m 29 ls []) := by
  have hx := X.hx
  have hb := X.hb
  have hown := X.hown
  have hts := X.hts
  rw [fX6_readHour_29] at hf
  refine lv_aload_n hx hb dX6_readHour_29 rfl (lv_at hl 0 rfl) ?_
  refine cr_get (k := 0) X hP (rfl : kc 7 = 7) rfl cv7_0 rfl cinX6 (by decide) rfl tw381 dX6_readHour_30 ?_
  obtain ⟨q, hc, hf⟩ := bd hf
  refine gCallVI X cOK rfl (vX8_takeSemicolon hc) gRX6_X8_takeSemicolon hdX8_takeSemicolon rfl ⟨by decide, by decide⟩ hP hS (cr_rec hP (rfl : kc 1 = 1) rfl cw1 rfl) hl.1 (Nat.le_of_ble_eq_true rfl) ⟨Nat.zero_le _, Nat.zero_le _⟩ dX6_readHour_33 (As := []) (rest := []) rfl (fun H locs hP hS => ?_)
  exact kX6_readHour_36 X hret hf hP hS (lv_sub hl [0] rfl)
set_option maxRecDepth 10000 in
theorem kX6_readHour_15 {r : Int32} {S1 : CS} {M : CS} {H : Heap} {locs : List Loc} {ls : Array Slot} (X : gX p s m args c cX6_readHour 1 RX6 (kR kTab kA)) (hret : gRetI p l e (rmL 4 0 0) s m args below meth c cX6_readHour (cΩ ca) (cP dC dI cg kA ca) Q r S1) (hf : fX6_readHour_15 M = some (r, S1)) (hP : (cP dC dI cg kA ca) M s H) (hS : va_S (Fr (cΩ ca) s.heap.size) s.heap H locs) (hl : lv_has ls 1 [(0, .ref (ca 7))]) : W p l e (rmL 4 0 0) s m args below meth c H locs 0 0 Q (F0 m 15 ls []) := by
  have hx := X.hx
  have hb := X.hb
  have hown := X.hown
  have hts := X.hts
  rw [fX6_readHour_15] at hf
  refine lv_aload_n hx hb dX6_readHour_15 rfl (lv_at hl 0 rfl) ?_
  refine cr_get (k := 1) X hP (rfl : kc 7 = 7) rfl cv7_1 rfl cinX6 (by decide) rfl tw382 dX6_readHour_16 ?_
  refine lv_aload_n hx hb dX6_readHour_19 rfl (lv_at hl 0 rfl) ?_
  refine cr_get (k := 0) X hP (rfl : kc 7 = 7) rfl cv7_0 rfl cinX6 (by decide) rfl tw381 dX6_readHour_20 ?_
  refine cr_get (k := 6) X hP (rfl : kc 1 = 1) rfl cv1_6 rfl cinX8 (by decide) rfl tw90 dX6_readHour_23 ?_
  refine cr_put (k := 12) X hP hS (rfl : kc 48 = 11) rfl cs11_12 rfl cinX2 tyX2_ok nmX2 (by decide) rfl rfl rfl rfl tw346 dX6_readHour_26 (fun H locs hP hS => ?_)
  exact kX6_readHour_29 X hret hf hP hS (lv_sub hl [0] rfl)
set_option maxRecDepth 10000 in
theorem kX6_readHour_13 {r : Int32} {S1 : CS} {M : CS} {H : Heap} {locs : List Loc} {ls : Array Slot} (X : gX p s m args c cX6_readHour 1 RX6 (kR kTab kA)) (hret : gRetI p l e (rmL 4 0 0) s m args below meth c cX6_readHour (cΩ ca) (cP dC dI cg kA ca) Q r S1) (hf : fX6_readHour_13 M = some (r, S1)) (hP : (cP dC dI cg kA ca) M s H) (hS : va_S (Fr (cΩ ca) s.heap.size) s.heap H locs) (hl : lv_has ls 1 [(0, .ref (ca 7))]) : W p l e (rmL 4 0 0) s m args below meth c H locs 0 0 Q (F0 m 13 ls []) := by
  have hx := X.hx
  have hb := X.hb
  have hown := X.hown
  have hts := X.hts
  rw [fX6_readHour_13] at hf
  refine lv_iconst (v := 0) hx hb dX6_readHour_13 (by decide) ?_
  cases hf
  exact hret _ _ _ _ dX6_readHour_14 hP hS
set_option maxRecDepth 10000 in
theorem kX6_readHour_10 {r : Int32} {S1 : CS} {M : CS} {s0 : Int32} {H : Heap} {locs : List Loc} {ls : Array Slot} (X : gX p s m args c cX6_readHour 1 RX6 (kR kTab kA)) (hret : gRetI p l e (rmL 4 0 0) s m args below meth c cX6_readHour (cΩ ca) (cP dC dI cg kA ca) Q r S1) (hf : fX6_readHour_10 M s0 = some (r, S1)) (hP : (cP dC dI cg kA ca) M s H) (hS : va_S (Fr (cΩ ca) s.heap.size) s.heap H locs) (hl : lv_has ls 1 [(0, .ref (ca 7))]) : W p l e (rmL 4 0 0) s m args below meth c H locs 0 0 Q (F0 m 10 ls [.int s0]) := by
  have hx := X.hx
  have hb := X.hb
  have hown := X.hown
  have hts := X.hts
  rw [fX6_readHour_10] at hf
  refine lv_if_ne (tgt := 15) hx hb dX6_readHour_10 (by decide) (fun c1 => ?_) (fun c1 => ?_)
  · exact kX6_readHour_15 X hret (ifn c1 hf) hP hS (lv_sub hl [0] rfl)
  · exact kX6_readHour_13 X hret (ifp c1 hf) hP hS (lv_sub hl [0] rfl)
set_option maxRecDepth 10000 in
theorem kX6_readHour_0 {r : Int32} {S1 : CS} {M : CS} {H : Heap} {locs : List Loc} {ls : Array Slot} (X : gX p s m args c cX6_readHour 1 RX6 (kR kTab kA)) (hret : gRetI p l e (rmL 4 0 0) s m args below meth c cX6_readHour (cΩ ca) (cP dC dI cg kA ca) Q r S1) (hf : fX6_readHour_0 M = some (r, S1)) (hP : (cP dC dI cg kA ca) M s H) (hS : va_S (Fr (cΩ ca) s.heap.size) s.heap H locs) (hl : lv_has ls 1 [(0, .ref (ca 7))]) : W p l e (rmL 4 0 0) s m args below meth c H locs 0 0 Q (F0 m 0 ls []) := by
  have hx := X.hx
  have hb := X.hb
  have hown := X.hown
  have hts := X.hts
  rw [fX6_readHour_0] at hf
  refine lv_aload_n hx hb dX6_readHour_0 rfl (lv_at hl 0 rfl) ?_
  refine cr_get (k := 0) X hP (rfl : kc 7 = 7) rfl cv7_0 rfl cinX6 (by decide) rfl tw381 dX6_readHour_1 ?_
  refine lv_iconst (v := 0) hx hb dX6_readHour_4 (by decide) ?_
  refine lv_bipush (v := 23) hx hb dX6_readHour_5 (by decide) ?_
  obtain ⟨q, hc, hf⟩ := bd hf
  refine gCallVI X cOK rfl (vX8_takeNumber hc) gRX6_X8_takeNumber hdX8_takeNumber rfl ⟨by decide, by decide⟩ hP hS (cr_rec hP (rfl : kc 1 = 1) rfl cw1 rfl) hl.1 (Nat.le_of_ble_eq_true rfl) ⟨Nat.zero_le _, Nat.zero_le _⟩ dX6_readHour_7 (As := [.int 0, .int 23]) (rest := []) rfl (fun H locs hP hS => ?_)
  exact kX6_readHour_10 X hret hf hP hS (lv_sub hl [0] rfl)
theorem vX6_readHour {l : Launch} {dC : Nat → ClassId} {dI : Nat → Nat → Nat} {cg : Nat → ClassId} {kA : String → Nat → Nat} {ca : Nat → Nat} {M S1 : CS} {r : Int32} (hf : fX6_readHour M  = some (r, S1)) : gMetI l yX6_readHour cX6_readHour 1 (some .boolean) 4 (cΩ ca) (cP dC dI cg kA ca) (kR kTab kA) [.ref (ca 7)] M r S1 := gEntryI (ty := .boolean) (by decide) rfl (bz_n hf) cOK (Nat.le_of_ble_eq_true rfl) (fun p e s m args below meth c Q ls X hP hS hret hl => 
  kX6_readHour_0 X hret (bz_f hf) hP hS (lv_sub hl [0] rfl))
set_option maxRecDepth 10000 in
theorem kX10_undo_59 {r : Int32} {S1 : CS} {M : CS} {H : Heap} {locs : List Loc} {ls : Array Slot} (X : gX p s m args c cX10_undo 1 RX10 (kR kTab kA)) (hret : gRetI p l e (rmL 4 0 0) s m args below meth c cX10_undo (cΩ ca) (cP dC dI cg kA ca) Q r S1) (hf : fX10_undo_59 M = some (r, S1)) (hP : (cP dC dI cg kA ca) M s H) (hS : va_S (Fr (cΩ ca) s.heap.size) s.heap H locs) (hl : lv_has ls 1 [(0, .ref (ca 0))]) : W p l e (rmL 4 0 0) s m args below meth c H locs 0 0 Q (F0 m 59 ls []) := by
  have hx := X.hx
  have hb := X.hb
  have hown := X.hown
  have hts := X.hts
  rw [fX10_undo_59] at hf
  refine lv_aload_n hx hb dX10_undo_59 rfl (lv_at hl 0 rfl) ?_
  refine cr_get (k := 11) X hP (rfl : kc 0 = 0) rfl cv0_11 rfl cinX10 (by decide) rfl tw966 dX10_undo_60 ?_
  cases hf
  exact hret _ _ _ _ dX10_undo_63 hP hS
set_option maxRecDepth 10000 in
theorem kX10_undo_49 {r : Int32} {S1 : CS} {M : CS} {H : Heap} {locs : List Loc} {ls : Array Slot} (X : gX p s m args c cX10_undo 1 RX10 (kR kTab kA)) (hret : gRetI p l e (rmL 4 0 0) s m args below meth c cX10_undo (cΩ ca) (cP dC dI cg kA ca) Q r S1) (hf : fX10_undo_49 M = some (r, S1)) (hP : (cP dC dI cg kA ca) M s H) (hS : va_S (Fr (cΩ ca) s.heap.size) s.heap H locs) (hl : lv_has ls 1 [(0, .ref (ca 0))]) : W p l e (rmL 4 0 0) s m args below meth c H locs 0 0 Q (F0 m 49 ls []) := by
  have hx := X.hx
  have hb := X.hb
  have hown := X.hown
  have hts := X.hts
  rw [fX10_undo_49] at hf
  refine lv_aload_n hx hb dX10_undo_49 rfl (lv_at hl 0 rfl) ?_
  refine lv_dup hx hb dX10_undo_50 rfl ?_
  refine cr_get (k := 11) X hP (rfl : kc 0 = 0) rfl cv0_11 rfl cinX10 (by decide) rfl tw966 dX10_undo_51 ?_
  refine lv_iconst (v := 1) hx hb dX10_undo_54 (by decide) ?_
  refine lv_isub hx hb dX10_undo_55 ?_
  refine cr_put (k := 11) X hP hS (rfl : kc 0 = 0) rfl cs0_11 rfl cinX10 tyX10_ok nmX10 (by decide) rfl rfl rfl rfl tw966 dX10_undo_56 (fun H locs hP hS => ?_)
  exact kX10_undo_59 X hret hf hP hS (lv_sub hl [0] rfl)
set_option maxRecDepth 10000 in
theorem kX10_undo_33 {r : Int32} {S1 : CS} {M : CS} {H : Heap} {locs : List Loc} {ls : Array Slot} (X : gX p s m args c cX10_undo 1 RX10 (kR kTab kA)) (hret : gRetI p l e (rmL 4 0 0) s m args below meth c cX10_undo (cΩ ca) (cP dC dI cg kA ca) Q r S1) (hf : fX10_undo_33 M = some (r, S1)) (hP : (cP dC dI cg kA ca) M s H) (hS : va_S (Fr (cΩ ca) s.heap.size) s.heap H locs) (hl : lv_has ls 1 [(0, .ref (ca 0))]) : W p l e (rmL 4 0 0) s m args below meth c H locs 0 0 Q (F0 m 33 ls []) := by
  have hx := X.hx
  have hb := X.hb
  have hown := X.hown
  have hts := X.hts
  rw [fX10_undo_33] at hf
  refine lv_aload_n hx hb dX10_undo_33 rfl (lv_at hl 0 rfl) ?_
  refine cr_get (k := 2) X hP (rfl : kc 0 = 0) rfl cv0_2 rfl cinX10 (by decide) rfl tw957 dX10_undo_34 ?_
  refine lv_aload_n hx hb dX10_undo_37 rfl (lv_at hl 0 rfl) ?_
  refine cr_get (k := 6) X hP (rfl : kc 0 = 0) rfl cv0_6 rfl cinX10 (by decide) rfl tw961 dX10_undo_38 ?_
  refine lv_aload_n hx hb dX10_undo_41 rfl (lv_at hl 0 rfl) ?_
  refine cr_get (k := 10) X hP (rfl : kc 0 = 0) rfl cv0_10 rfl cinX10 (by decide) rfl tw965 dX10_undo_42 ?_
  obtain ⟨g1, hf⟩ := gd hf
  refine cr_aald (f := fun i => 153 + 35 * i) X hP (rfl : kc 12 = 10) rfl (fun _ => rfl) rfl g1 dX10_undo_45 ?_
  obtain ⟨q, hc, hf⟩ := bd hf
  refine gCallVV X cOK rfl (vX2_copyFrom (rfl : kc 13 = 11) (kc_past g1) hc) gRX10_X2_copyFrom hdX2_copyFrom rfl ⟨by decide, by decide⟩ hP hS (cr_rec hP (rfl : kc 13 = 11) rfl cw11 rfl) hl.1 (Nat.le_of_ble_eq_true rfl) ⟨Nat.zero_le _, Nat.zero_le _⟩ dX10_undo_46 (As := [.ref (ca (153 + 35 * (M.1 0 10).toNatClampNeg))]) (rest := []) rfl (fun H locs hP hS => ?_)
  exact kX10_undo_49 X hret hf hP hS (lv_sub hl [0] rfl)
set_option maxRecDepth 10000 in
theorem kX10_undo_30 {r : Int32} {S1 : CS} {M : CS} {s0 : Int32} {H : Heap} {locs : List Loc} {ls : Array Slot} (X : gX p s m args c cX10_undo 1 RX10 (kR kTab kA)) (hret : gRetI p l e (rmL 4 0 0) s m args below meth c cX10_undo (cΩ ca) (cP dC dI cg kA ca) Q r S1) (hf : fX10_undo_30 M s0 = some (r, S1)) (hP : (cP dC dI cg kA ca) M s H) (hS : va_S (Fr (cΩ ca) s.heap.size) s.heap H locs) (hl : lv_has ls 1 [(0, .ref (ca 0))]) : W p l e (rmL 4 0 0) s m args below meth c H locs 0 0 Q (F0 m 30 ls [.int s0, .ref (ca 0)]) := by
  have hx := X.hx
  have hb := X.hb
  have hown := X.hown
  have hts := X.hts
  rw [fX10_undo_30] at hf
  refine cr_put (k := 10) X hP hS (rfl : kc 0 = 0) rfl cs0_10 rfl cinX10 tyX10_ok nmX10 (by decide) rfl rfl rfl rfl tw965 dX10_undo_30 (fun H locs hP hS => ?_)
  exact kX10_undo_33 X hret hf hP hS (lv_sub hl [0] rfl)
set_option maxRecDepth 10000 in
theorem kX10_undo_18 {r : Int32} {S1 : CS} {M : CS} {H : Heap} {locs : List Loc} {ls : Array Slot} (X : gX p s m args c cX10_undo 1 RX10 (kR kTab kA)) (hret : gRetI p l e (rmL 4 0 0) s m args below meth c cX10_undo (cΩ ca) (cP dC dI cg kA ca) Q r S1) (hf : fX10_undo_18 M = some (r, S1)) (hP : (cP dC dI cg kA ca) M s H) (hS : va_S (Fr (cΩ ca) s.heap.size) s.heap H locs) (hl : lv_has ls 1 [(0, .ref (ca 0))]) : W p l e (rmL 4 0 0) s m args below meth c H locs 0 0 Q (F0 m 18 ls []) := by
  have hx := X.hx
  have hb := X.hb
  have hown := X.hown
  have hts := X.hts
  rw [fX10_undo_18] at hf
  refine lv_aload_n hx hb dX10_undo_18 rfl (lv_at hl 0 rfl) ?_
  refine lv_aload_n hx hb dX10_undo_19 rfl (lv_at hl 0 rfl) ?_
  refine cr_get (k := 10) X hP (rfl : kc 0 = 0) rfl cv0_10 rfl cinX10 (by decide) rfl tw965 dX10_undo_20 ?_
  refine lv_iconst (v := 1) hx hb dX10_undo_23 (by decide) ?_
  refine lv_isub hx hb dX10_undo_24 ?_
  refine lv_bipush (v := 8) hx hb dX10_undo_25 (by decide) ?_
  obtain ⟨q, hc, hf⟩ := bd hf
  refine gCallSR X rfl (vJ9_floorMod_7cf53 hc) gRX10_J9_floorMod_7cf53 hdJ9_floorMod_7cf53 rfl ⟨by decide, by decide⟩ (gB_blind cOK) (gB_at cOK X hP) hl.1 (Nat.le_of_ble_eq_true rfl) ⟨Nat.zero_le _, Nat.zero_le _⟩ dX10_undo_27 (As := [.int ((M.1 0 10) - 1), .int 8]) (rest := [.ref (ca 0)]) rfl ?_
  exact kX10_undo_30 X hret hf hP hS (lv_sub hl [0] rfl)
set_option maxRecDepth 10000 in
theorem kX10_undo_7 {r : Int32} {S1 : CS} {M : CS} {H : Heap} {locs : List Loc} {ls : Array Slot} (X : gX p s m args c cX10_undo 1 RX10 (kR kTab kA)) (hret : gRetI p l e (rmL 4 0 0) s m args below meth c cX10_undo (cΩ ca) (cP dC dI cg kA ca) Q r S1) (hf : fX10_undo_7 M = some (r, S1)) (hP : (cP dC dI cg kA ca) M s H) (hS : va_S (Fr (cΩ ca) s.heap.size) s.heap H locs) (hl : lv_has ls 1 [(0, .ref (ca 0))]) : W p l e (rmL 4 0 0) s m args below meth c H locs 0 0 Q (F0 m 7 ls []) := by
  have hx := X.hx
  have hb := X.hb
  have hown := X.hown
  have hts := X.hts
  rw [fX10_undo_7] at hf
  cases hf
set_option maxRecDepth 10000 in
theorem kX10_undo_0 {r : Int32} {S1 : CS} {M : CS} {H : Heap} {locs : List Loc} {ls : Array Slot} (X : gX p s m args c cX10_undo 1 RX10 (kR kTab kA)) (hret : gRetI p l e (rmL 4 0 0) s m args below meth c cX10_undo (cΩ ca) (cP dC dI cg kA ca) Q r S1) (hf : fX10_undo_0 M = some (r, S1)) (hP : (cP dC dI cg kA ca) M s H) (hS : va_S (Fr (cΩ ca) s.heap.size) s.heap H locs) (hl : lv_has ls 1 [(0, .ref (ca 0))]) : W p l e (rmL 4 0 0) s m args below meth c H locs 0 0 Q (F0 m 0 ls []) := by
  have hx := X.hx
  have hb := X.hb
  have hown := X.hown
  have hts := X.hts
  rw [fX10_undo_0] at hf
  refine lv_aload_n hx hb dX10_undo_0 rfl (lv_at hl 0 rfl) ?_
  refine cr_get (k := 11) X hP (rfl : kc 0 = 0) rfl cv0_11 rfl cinX10 (by decide) rfl tw966 dX10_undo_1 ?_
  refine lv_if_ne (tgt := 18) hx hb dX10_undo_4 (by decide) (fun c1 => ?_) (fun c1 => ?_)
  · exact kX10_undo_18 X hret (ifn c1 hf) hP hS (lv_sub hl [0] rfl)
  · exact kX10_undo_7 X hret (ifp c1 hf) hP hS (lv_sub hl [0] rfl)
theorem vX10_undo {l : Launch} {dC : Nat → ClassId} {dI : Nat → Nat → Nat} {cg : Nat → ClassId} {kA : String → Nat → Nat} {ca : Nat → Nat} {M S1 : CS} {r : Int32} (hf : fX10_undo M  = some (r, S1)) : gMetI l yX10_undo cX10_undo 1 (some .int) 4 (cΩ ca) (cP dC dI cg kA ca) (kR kTab kA) [.ref (ca 0)] M r S1 := gEntryI (ty := .int) (by decide) rfl rfl cOK (Nat.le_of_ble_eq_true rfl) (fun p e s m args below meth c Q ls X hP hS hret hl => 
  kX10_undo_0 X hret hf hP hS (lv_sub hl [0] rfl))
set_option maxRecDepth 10000 in
theorem kX10_saveState_16 {r : Int32} {S1 : CS} {M : CS} {H : Heap} {locs : List Loc} {ls : Array Slot} (X : gX p s m args c cX10_saveState 1 RX10 (kR kTab kA)) (hret : gRetI p l e (rmL 4 0 0) s m args below meth c cX10_saveState (cΩ ca) (cP dC dI cg kA ca) Q r S1) (hf : fX10_saveState_16 M = some (r, S1)) (hP : (cP dC dI cg kA ca) M s H) (hS : va_S (Fr (cΩ ca) s.heap.size) s.heap H locs) (hl : lv_has ls 1 [(0, .ref (ca 0))]) : W p l e (rmL 4 0 0) s m args below meth c H locs 0 0 Q (F0 m 16 ls []) := by
  have hx := X.hx
  have hb := X.hb
  have hown := X.hown
  have hts := X.hts
  rw [fX10_saveState_16] at hf
  refine lv_aload_n hx hb dX10_saveState_16 rfl (lv_at hl 0 rfl) ?_
  refine cr_get (k := 2) X hP (rfl : kc 0 = 0) rfl cv0_2 rfl cinX10 (by decide) rfl tw957 dX10_saveState_17 ?_
  refine cr_get (k := 12) X hP (rfl : kc 13 = 11) rfl cv11_12 rfl cinX2 (by decide) rfl tw345 dX10_saveState_20 ?_
  cases hf
  exact hret _ _ _ _ dX10_saveState_23 hP hS
set_option maxRecDepth 10000 in
theorem kX10_saveState_11 {r : Int32} {S1 : CS} {M : CS} {H : Heap} {locs : List Loc} {ls : Array Slot} (X : gX p s m args c cX10_saveState 1 RX10 (kR kTab kA)) (hret : gRetI p l e (rmL 4 0 0) s m args below meth c cX10_saveState (cΩ ca) (cP dC dI cg kA ca) Q r S1) (hf : fX10_saveState_11 M = some (r, S1)) (hP : (cP dC dI cg kA ca) M s H) (hS : va_S (Fr (cΩ ca) s.heap.size) s.heap H locs) (hl : lv_has ls 1 [(0, .ref (ca 0))]) : W p l e (rmL 4 0 0) s m args below meth c H locs 0 0 Q (F0 m 11 ls []) := by
  have hx := X.hx
  have hb := X.hb
  have hown := X.hown
  have hts := X.hts
  rw [fX10_saveState_11] at hf
  refine lv_aload_n hx hb dX10_saveState_11 rfl (lv_at hl 0 rfl) ?_
  refine lv_iconst (v := 1) hx hb dX10_saveState_12 (by decide) ?_
  refine cr_put (k := 9) X hP hS (rfl : kc 0 = 0) rfl cs0_9 rfl cinX10 tyX10_ok nmX10 (by decide) rfl rfl (by decide +kernel) (by decide +kernel) tw964 dX10_saveState_13 (fun H locs hP hS => ?_)
  exact kX10_saveState_16 X hret hf hP hS (lv_sub hl [0] rfl)
set_option maxRecDepth 10000 in
theorem kX10_saveState_0 {r : Int32} {S1 : CS} {M : CS} {H : Heap} {locs : List Loc} {ls : Array Slot} (X : gX p s m args c cX10_saveState 1 RX10 (kR kTab kA)) (hret : gRetI p l e (rmL 4 0 0) s m args below meth c cX10_saveState (cΩ ca) (cP dC dI cg kA ca) Q r S1) (hf : fX10_saveState_0 M = some (r, S1)) (hP : (cP dC dI cg kA ca) M s H) (hS : va_S (Fr (cΩ ca) s.heap.size) s.heap H locs) (hl : lv_has ls 1 [(0, .ref (ca 0))]) : W p l e (rmL 4 0 0) s m args below meth c H locs 0 0 Q (F0 m 0 ls []) := by
  have hx := X.hx
  have hb := X.hb
  have hown := X.hown
  have hts := X.hts
  rw [fX10_saveState_0] at hf
  refine lv_aload_n hx hb dX10_saveState_0 rfl (lv_at hl 0 rfl) ?_
  refine cr_get (k := 5) X hP (rfl : kc 0 = 0) rfl cv0_5 rfl cinX10 (by decide) rfl tw960 dX10_saveState_1 ?_
  refine lv_aload_n hx hb dX10_saveState_4 rfl (lv_at hl 0 rfl) ?_
  refine cr_get (k := 2) X hP (rfl : kc 0 = 0) rfl cv0_2 rfl cinX10 (by decide) rfl tw957 dX10_saveState_5 ?_
  obtain ⟨q, hc, hf⟩ := bd hf
  refine gCallVV X cOK rfl (vX2_copyFrom (rfl : kc 118 = 11) (rfl : kc 13 = 11) hc) gRX10_X2_copyFrom hdX2_copyFrom rfl ⟨by decide, by decide⟩ hP hS (cr_rec hP (rfl : kc 118 = 11) rfl cw11 rfl) hl.1 (Nat.le_of_ble_eq_true rfl) ⟨Nat.zero_le _, Nat.zero_le _⟩ dX10_saveState_8 (As := [.ref (ca 13)]) (rest := []) rfl (fun H locs hP hS => ?_)
  exact kX10_saveState_11 X hret hf hP hS (lv_sub hl [0] rfl)
theorem vX10_saveState {l : Launch} {dC : Nat → ClassId} {dI : Nat → Nat → Nat} {cg : Nat → ClassId} {kA : String → Nat → Nat} {ca : Nat → Nat} {M S1 : CS} {r : Int32} (hf : fX10_saveState M  = some (r, S1)) : gMetI l yX10_saveState cX10_saveState 1 (some .int) 4 (cΩ ca) (cP dC dI cg kA ca) (kR kTab kA) [.ref (ca 0)] M r S1 := gEntryI (ty := .int) (by decide) rfl rfl cOK (Nat.le_of_ble_eq_true rfl) (fun p e s m args below meth c Q ls X hP hS hret hl => 
  kX10_saveState_0 X hret hf hP hS (lv_sub hl [0] rfl))
set_option maxRecDepth 10000 in
theorem kX10_restoreState_34 {r : Int32} {S1 : CS} {M : CS} {H : Heap} {locs : List Loc} {ls : Array Slot} (X : gX p s m args c cX10_restoreState 1 RX10 (kR kTab kA)) (hret : gRetI p l e (rmL 4 0 0) s m args below meth c cX10_restoreState (cΩ ca) (cP dC dI cg kA ca) Q r S1) (hf : fX10_restoreState_34 M = some (r, S1)) (hP : (cP dC dI cg kA ca) M s H) (hS : va_S (Fr (cΩ ca) s.heap.size) s.heap H locs) (hl : lv_has ls 1 [(0, .ref (ca 0))]) : W p l e (rmL 4 0 0) s m args below meth c H locs 0 0 Q (F0 m 34 ls []) := by
  have hx := X.hx
  have hb := X.hb
  have hown := X.hown
  have hts := X.hts
  rw [fX10_restoreState_34] at hf
  refine lv_aload_n hx hb dX10_restoreState_34 rfl (lv_at hl 0 rfl) ?_
  refine cr_get (k := 2) X hP (rfl : kc 0 = 0) rfl cv0_2 rfl cinX10 (by decide) rfl tw957 dX10_restoreState_35 ?_
  refine cr_get (k := 12) X hP (rfl : kc 13 = 11) rfl cv11_12 rfl cinX2 (by decide) rfl tw345 dX10_restoreState_38 ?_
  cases hf
  exact hret _ _ _ _ dX10_restoreState_41 hP hS
set_option maxRecDepth 10000 in
theorem kX10_restoreState_29 {r : Int32} {S1 : CS} {M : CS} {H : Heap} {locs : List Loc} {ls : Array Slot} (X : gX p s m args c cX10_restoreState 1 RX10 (kR kTab kA)) (hret : gRetI p l e (rmL 4 0 0) s m args below meth c cX10_restoreState (cΩ ca) (cP dC dI cg kA ca) Q r S1) (hf : fX10_restoreState_29 M = some (r, S1)) (hP : (cP dC dI cg kA ca) M s H) (hS : va_S (Fr (cΩ ca) s.heap.size) s.heap H locs) (hl : lv_has ls 1 [(0, .ref (ca 0))]) : W p l e (rmL 4 0 0) s m args below meth c H locs 0 0 Q (F0 m 29 ls []) := by
  have hx := X.hx
  have hb := X.hb
  have hown := X.hown
  have hts := X.hts
  rw [fX10_restoreState_29] at hf
  refine lv_aload_n hx hb dX10_restoreState_29 rfl (lv_at hl 0 rfl) ?_
  refine lv_iconst (v := 0) hx hb dX10_restoreState_30 (by decide) ?_
  refine cr_put (k := 11) X hP hS (rfl : kc 0 = 0) rfl cs0_11 rfl cinX10 tyX10_ok nmX10 (by decide) rfl rfl rfl rfl tw966 dX10_restoreState_31 (fun H locs hP hS => ?_)
  exact kX10_restoreState_34 X hret hf hP hS (lv_sub hl [0] rfl)
set_option maxRecDepth 10000 in
theorem kX10_restoreState_18 {r : Int32} {S1 : CS} {M : CS} {H : Heap} {locs : List Loc} {ls : Array Slot} (X : gX p s m args c cX10_restoreState 1 RX10 (kR kTab kA)) (hret : gRetI p l e (rmL 4 0 0) s m args below meth c cX10_restoreState (cΩ ca) (cP dC dI cg kA ca) Q r S1) (hf : fX10_restoreState_18 M = some (r, S1)) (hP : (cP dC dI cg kA ca) M s H) (hS : va_S (Fr (cΩ ca) s.heap.size) s.heap H locs) (hl : lv_has ls 1 [(0, .ref (ca 0))]) : W p l e (rmL 4 0 0) s m args below meth c H locs 0 0 Q (F0 m 18 ls []) := by
  have hx := X.hx
  have hb := X.hb
  have hown := X.hown
  have hts := X.hts
  rw [fX10_restoreState_18] at hf
  refine lv_aload_n hx hb dX10_restoreState_18 rfl (lv_at hl 0 rfl) ?_
  refine cr_get (k := 2) X hP (rfl : kc 0 = 0) rfl cv0_2 rfl cinX10 (by decide) rfl tw957 dX10_restoreState_19 ?_
  refine lv_aload_n hx hb dX10_restoreState_22 rfl (lv_at hl 0 rfl) ?_
  refine cr_get (k := 5) X hP (rfl : kc 0 = 0) rfl cv0_5 rfl cinX10 (by decide) rfl tw960 dX10_restoreState_23 ?_
  obtain ⟨q, hc, hf⟩ := bd hf
  refine gCallVV X cOK rfl (vX2_copyFrom (rfl : kc 13 = 11) (rfl : kc 118 = 11) hc) gRX10_X2_copyFrom hdX2_copyFrom rfl ⟨by decide, by decide⟩ hP hS (cr_rec hP (rfl : kc 13 = 11) rfl cw11 rfl) hl.1 (Nat.le_of_ble_eq_true rfl) ⟨Nat.zero_le _, Nat.zero_le _⟩ dX10_restoreState_26 (As := [.ref (ca 118)]) (rest := []) rfl (fun H locs hP hS => ?_)
  exact kX10_restoreState_29 X hret hf hP hS (lv_sub hl [0] rfl)
set_option maxRecDepth 10000 in
theorem kX10_restoreState_7 {r : Int32} {S1 : CS} {M : CS} {H : Heap} {locs : List Loc} {ls : Array Slot} (X : gX p s m args c cX10_restoreState 1 RX10 (kR kTab kA)) (hret : gRetI p l e (rmL 4 0 0) s m args below meth c cX10_restoreState (cΩ ca) (cP dC dI cg kA ca) Q r S1) (hf : fX10_restoreState_7 M = some (r, S1)) (hP : (cP dC dI cg kA ca) M s H) (hS : va_S (Fr (cΩ ca) s.heap.size) s.heap H locs) (hl : lv_has ls 1 [(0, .ref (ca 0))]) : W p l e (rmL 4 0 0) s m args below meth c H locs 0 0 Q (F0 m 7 ls []) := by
  have hx := X.hx
  have hb := X.hb
  have hown := X.hown
  have hts := X.hts
  rw [fX10_restoreState_7] at hf
  cases hf
set_option maxRecDepth 10000 in
theorem kX10_restoreState_0 {r : Int32} {S1 : CS} {M : CS} {H : Heap} {locs : List Loc} {ls : Array Slot} (X : gX p s m args c cX10_restoreState 1 RX10 (kR kTab kA)) (hret : gRetI p l e (rmL 4 0 0) s m args below meth c cX10_restoreState (cΩ ca) (cP dC dI cg kA ca) Q r S1) (hf : fX10_restoreState_0 M = some (r, S1)) (hP : (cP dC dI cg kA ca) M s H) (hS : va_S (Fr (cΩ ca) s.heap.size) s.heap H locs) (hl : lv_has ls 1 [(0, .ref (ca 0))]) : W p l e (rmL 4 0 0) s m args below meth c H locs 0 0 Q (F0 m 0 ls []) := by
  have hx := X.hx
  have hb := X.hb
  have hown := X.hown
  have hts := X.hts
  rw [fX10_restoreState_0] at hf
  refine lv_aload_n hx hb dX10_restoreState_0 rfl (lv_at hl 0 rfl) ?_
  refine cr_get (k := 9) X hP (rfl : kc 0 = 0) rfl cv0_9 rfl cinX10 (by decide) rfl tw964 dX10_restoreState_1 ?_
  refine lv_if_ne (tgt := 18) hx hb dX10_restoreState_4 (by decide) (fun c1 => ?_) (fun c1 => ?_)
  · exact kX10_restoreState_18 X hret (ifn c1 hf) hP hS (lv_sub hl [0] rfl)
  · exact kX10_restoreState_7 X hret (ifp c1 hf) hP hS (lv_sub hl [0] rfl)
theorem vX10_restoreState {l : Launch} {dC : Nat → ClassId} {dI : Nat → Nat → Nat} {cg : Nat → ClassId} {kA : String → Nat → Nat} {ca : Nat → Nat} {M S1 : CS} {r : Int32} (hf : fX10_restoreState M  = some (r, S1)) : gMetI l yX10_restoreState cX10_restoreState 1 (some .int) 4 (cΩ ca) (cP dC dI cg kA ca) (kR kTab kA) [.ref (ca 0)] M r S1 := gEntryI (ty := .int) (by decide) rfl rfl cOK (Nat.le_of_ble_eq_true rfl) (fun p e s m args below meth c Q ls X hP hS hret hl => 
  kX10_restoreState_0 X hret hf hP hS (lv_sub hl [0] rfl))
set_option maxRecDepth 10000 in
theorem kX10_remember_44 {S1 : CS} {M : CS} {H : Heap} {locs : List Loc} {ls : Array Slot} (X : gX p s m args c cX10_remember 1 RX10 (kR kTab kA)) (hret : gRetV p l e (rmL 4 0 0) s m args below meth c cX10_remember (cΩ ca) (cP dC dI cg kA ca) Q S1) (hf : fX10_remember_44 M = some S1) (hP : (cP dC dI cg kA ca) M s H) (hS : va_S (Fr (cΩ ca) s.heap.size) s.heap H locs) (hl : lv_has ls 1 [(0, .ref (ca 0))]) : W p l e (rmL 4 0 0) s m args below meth c H locs 0 0 Q (F0 m 44 ls []) := by
  have hx := X.hx
  have hb := X.hb
  have hown := X.hown
  have hts := X.hts
  rw [fX10_remember_44] at hf
  cases hf
  exact hret _ _ _ _ dX10_remember_44 hP hS
set_option maxRecDepth 10000 in
theorem kX10_remember_29 {S1 : CS} {M : CS} {H : Heap} {locs : List Loc} {ls : Array Slot} (X : gX p s m args c cX10_remember 1 RX10 (kR kTab kA)) (hret : gRetV p l e (rmL 4 0 0) s m args below meth c cX10_remember (cΩ ca) (cP dC dI cg kA ca) Q S1) (hf : fX10_remember_29 M = some S1) (hP : (cP dC dI cg kA ca) M s H) (hS : va_S (Fr (cΩ ca) s.heap.size) s.heap H locs) (hl : lv_has ls 1 [(0, .ref (ca 0))]) : W p l e (rmL 4 0 0) s m args below meth c H locs 0 0 Q (F0 m 29 ls []) := by
  have hx := X.hx
  have hb := X.hb
  have hown := X.hown
  have hts := X.hts
  rw [fX10_remember_29] at hf
  refine lv_aload_n hx hb dX10_remember_29 rfl (lv_at hl 0 rfl) ?_
  refine lv_aload_n hx hb dX10_remember_30 rfl (lv_at hl 0 rfl) ?_
  refine cr_get (k := 11) X hP (rfl : kc 0 = 0) rfl cv0_11 rfl cinX10 (by decide) rfl tw966 dX10_remember_31 ?_
  refine lv_iconst (v := 1) hx hb dX10_remember_34 (by decide) ?_
  refine lv_iadd hx hb dX10_remember_35 ?_
  refine lv_bipush (v := 8) hx hb dX10_remember_36 (by decide) ?_
  refine gMin X rfl tw1054 tw592 tw24 tw593 (by decide) hl.1 (Nat.le_of_ble_eq_true rfl) ⟨Nat.zero_le _, Nat.zero_le _⟩ dX10_remember_38 ?_
  refine cr_put (k := 11) X hP hS (rfl : kc 0 = 0) rfl cs0_11 rfl cinX10 tyX10_ok nmX10 (by decide) rfl rfl rfl rfl tw966 dX10_remember_41 (fun H locs hP hS => ?_)
  exact kX10_remember_44 X hret hf hP hS (lv_sub hl [0] rfl)
set_option maxRecDepth 10000 in
theorem kX10_remember_16 {S1 : CS} {M : CS} {H : Heap} {locs : List Loc} {ls : Array Slot} (X : gX p s m args c cX10_remember 1 RX10 (kR kTab kA)) (hret : gRetV p l e (rmL 4 0 0) s m args below meth c cX10_remember (cΩ ca) (cP dC dI cg kA ca) Q S1) (hf : fX10_remember_16 M = some S1) (hP : (cP dC dI cg kA ca) M s H) (hS : va_S (Fr (cΩ ca) s.heap.size) s.heap H locs) (hl : lv_has ls 1 [(0, .ref (ca 0))]) : W p l e (rmL 4 0 0) s m args below meth c H locs 0 0 Q (F0 m 16 ls []) := by
  have hx := X.hx
  have hb := X.hb
  have hown := X.hown
  have hts := X.hts
  rw [fX10_remember_16] at hf
  refine lv_aload_n hx hb dX10_remember_16 rfl (lv_at hl 0 rfl) ?_
  refine lv_aload_n hx hb dX10_remember_17 rfl (lv_at hl 0 rfl) ?_
  refine cr_get (k := 10) X hP (rfl : kc 0 = 0) rfl cv0_10 rfl cinX10 (by decide) rfl tw965 dX10_remember_18 ?_
  refine lv_iconst (v := 1) hx hb dX10_remember_21 (by decide) ?_
  refine lv_iadd hx hb dX10_remember_22 ?_
  refine lv_bipush (v := 8) hx hb dX10_remember_23 (by decide) ?_
  refine lv_irem hx hb dX10_remember_25 (by decide) ?_
  refine cr_put (k := 10) X hP hS (rfl : kc 0 = 0) rfl cs0_10 rfl cinX10 tyX10_ok nmX10 (by decide) rfl rfl rfl rfl tw965 dX10_remember_26 (fun H locs hP hS => ?_)
  exact kX10_remember_29 X hret hf hP hS (lv_sub hl [0] rfl)
set_option maxRecDepth 10000 in
theorem kX10_remember_0 {S1 : CS} {M : CS} {H : Heap} {locs : List Loc} {ls : Array Slot} (X : gX p s m args c cX10_remember 1 RX10 (kR kTab kA)) (hret : gRetV p l e (rmL 4 0 0) s m args below meth c cX10_remember (cΩ ca) (cP dC dI cg kA ca) Q S1) (hf : fX10_remember_0 M = some S1) (hP : (cP dC dI cg kA ca) M s H) (hS : va_S (Fr (cΩ ca) s.heap.size) s.heap H locs) (hl : lv_has ls 1 [(0, .ref (ca 0))]) : W p l e (rmL 4 0 0) s m args below meth c H locs 0 0 Q (F0 m 0 ls []) := by
  have hx := X.hx
  have hb := X.hb
  have hown := X.hown
  have hts := X.hts
  rw [fX10_remember_0] at hf
  refine lv_aload_n hx hb dX10_remember_0 rfl (lv_at hl 0 rfl) ?_
  refine cr_get (k := 6) X hP (rfl : kc 0 = 0) rfl cv0_6 rfl cinX10 (by decide) rfl tw961 dX10_remember_1 ?_
  refine lv_aload_n hx hb dX10_remember_4 rfl (lv_at hl 0 rfl) ?_
  refine cr_get (k := 10) X hP (rfl : kc 0 = 0) rfl cv0_10 rfl cinX10 (by decide) rfl tw965 dX10_remember_5 ?_
  obtain ⟨g1, hf⟩ := gd hf
  refine cr_aald (f := fun i => 153 + 35 * i) X hP (rfl : kc 12 = 10) rfl (fun _ => rfl) rfl g1 dX10_remember_8 ?_
  refine lv_aload_n hx hb dX10_remember_9 rfl (lv_at hl 0 rfl) ?_
  refine cr_get (k := 2) X hP (rfl : kc 0 = 0) rfl cv0_2 rfl cinX10 (by decide) rfl tw957 dX10_remember_10 ?_
  obtain ⟨q, hc, hf⟩ := bd hf
  refine gCallVV X cOK rfl (vX2_copyFrom (kc_past g1) (rfl : kc 13 = 11) hc) gRX10_X2_copyFrom hdX2_copyFrom rfl ⟨by decide, by decide⟩ hP hS (cr_rec hP (kc_past g1) rfl cw11 rfl) hl.1 (Nat.le_of_ble_eq_true rfl) ⟨Nat.zero_le _, Nat.zero_le _⟩ dX10_remember_13 (As := [.ref (ca 13)]) (rest := []) rfl (fun H locs hP hS => ?_)
  exact kX10_remember_16 X hret hf hP hS (lv_sub hl [0] rfl)
theorem vX10_remember {l : Launch} {dC : Nat → ClassId} {dI : Nat → Nat → Nat} {cg : Nat → ClassId} {kA : String → Nat → Nat} {ca : Nat → Nat} {M S1 : CS} (hf : fX10_remember M  = some S1) : gMetV l yX10_remember cX10_remember 1 4 (cΩ ca) (cP dC dI cg kA ca) (kR kTab kA) [.ref (ca 0)] M S1 := gEntryV (by decide) cOK (Nat.le_of_ble_eq_true rfl) (fun p e s m args below meth c Q ls X hP hS hret hl => 
  kX10_remember_0 X hret hf hP hS (lv_sub hl [0] rfl))
set_option maxRecDepth 10000 in
theorem kX2_passHours_25 {r : Int32} {S1 : CS} {t : Nat} {M : CS} {x2 : Int32} {H : Heap} {locs : List Loc} {ls : Array Slot} (X : gX p s m args c cX2_passHours 4 RX2 (kR kTab kA)) (hret : gRetI p l e (rmL 5 0 0) s m args below meth c cX2_passHours (cΩ ca) (cP dC dI cg kA ca) Q r S1) (hkt : kc t = 11) (hf : fX2_passHours_25 t M x2 = some (r, S1)) (hP : (cP dC dI cg kA ca) M s H) (hS : va_S (Fr (cΩ ca) s.heap.size) s.heap H locs) (hl : lv_has ls 4 [(0, .ref (ca t)), (2, .int x2)]) : W p l e (rmL 5 0 0) s m args below meth c H locs 0 0 Q (F0 m 25 ls []) := by
  have hx := X.hx
  have hb := X.hb
  have hown := X.hown
  have hts := X.hts
  rw [fX2_passHours_25] at hf
  refine lv_aload_n hx hb dX2_passHours_25 rfl (lv_at hl 0 rfl) ?_
  refine cr_get (k := 4) X hP hkt rfl cv11_4 rfl cinX2 (by decide) rfl tw324 dX2_passHours_26 ?_
  refine cr_get (k := 0) X hP (kc_totals hkt) rfl cv17_0 rfl cinX9 (by decide) rfl tw177 dX2_passHours_29 ?_
  refine lv_iload_n hx hb dX2_passHours_32 rfl (lv_at hl 1 rfl) ?_
  refine lv_isub hx hb dX2_passHours_33 ?_
  cases hf
  exact hret _ _ _ _ dX2_passHours_34 hP hS
set_option maxRecDepth 10000 in
theorem kX2_passHours_19 {r : Int32} {S1 : CS} {t : Nat} {K10 : CS → Int32 → Int32 → Int32 → Option (Int32 × CS)} {M : CS} {x1 : Int32} {x2 : Int32} {x3 : Int32} {H : Heap} {locs : List Loc} {ls : Array Slot} (X : gX p s m args c cX2_passHours 4 RX2 (kR kTab kA)) (hret : gRetI p l e (rmL 5 0 0) s m args below meth c cX2_passHours (cΩ ca) (cP dC dI cg kA ca) Q r S1) (hkt : kc t = 11) (hK10 : ∀ (M : CS) (x1 : Int32) (x2 : Int32) (x3 : Int32) (H : Heap) (locs : List Loc) (ls : Array Slot), K10 M x1 x2 x3 = some (r, S1) → (cP dC dI cg kA ca) M s H → va_S (Fr (cΩ ca) s.heap.size) s.heap H locs → lv_has ls 4 [(0, .ref (ca t)), (1, .int x1), (2, .int x2), (3, .int x3)] → W p l e (rmL 5 0 0) s m args below meth c H locs 0 0 Q (F0 m 10 ls [])) (hf : fX2_passHours_19 t K10 M x1 x2 x3 = some (r, S1)) (hP : (cP dC dI cg kA ca) M s H) (hS : va_S (Fr (cΩ ca) s.heap.size) s.heap H locs) (hl : lv_has ls 4 [(0, .ref (ca t)), (1, .int x1), (2, .int x2), (3, .int x3)]) : W p l e (rmL 5 0 0) s m args below meth c H locs 0 0 Q (F0 m 19 ls []) := by
  have hx := X.hx
  have hb := X.hb
  have hown := X.hown
  have hts := X.hts
  rw [fX2_passHours_19] at hf
  refine lv_iinc (v := (x3 + 1)) (lv' := [(3, .int (x3 + 1)), (0, .ref (ca t)), (1, .int x1), (2, .int x2)]) hx hb dX2_passHours_19 hl (k := 3) rfl (by rfl) (by decide) rfl (fun ls hl => ?_)
  refine lv_goto (tgt := 10) hx hb dX2_passHours_22 (by decide) ?_
  exact hK10 _ _ _ _ _ _ _ hf hP hS (lv_sub hl [1, 2, 3, 0] rfl)
set_option maxRecDepth 10000 in
theorem kX2_passHours_15 {r : Int32} {S1 : CS} {t : Nat} {K10 : CS → Int32 → Int32 → Int32 → Option (Int32 × CS)} {M : CS} {x1 : Int32} {x2 : Int32} {x3 : Int32} {H : Heap} {locs : List Loc} {ls : Array Slot} (X : gX p s m args c cX2_passHours 4 RX2 (kR kTab kA)) (hret : gRetI p l e (rmL 5 0 0) s m args below meth c cX2_passHours (cΩ ca) (cP dC dI cg kA ca) Q r S1) (hkt : kc t = 11) (hK10 : ∀ (M : CS) (x1 : Int32) (x2 : Int32) (x3 : Int32) (H : Heap) (locs : List Loc) (ls : Array Slot), K10 M x1 x2 x3 = some (r, S1) → (cP dC dI cg kA ca) M s H → va_S (Fr (cΩ ca) s.heap.size) s.heap H locs → lv_has ls 4 [(0, .ref (ca t)), (1, .int x1), (2, .int x2), (3, .int x3)] → W p l e (rmL 5 0 0) s m args below meth c H locs 0 0 Q (F0 m 10 ls [])) (hf : fX2_passHours_15 t K10 M x1 x2 x3 = some (r, S1)) (hP : (cP dC dI cg kA ca) M s H) (hS : va_S (Fr (cΩ ca) s.heap.size) s.heap H locs) (hl : lv_has ls 4 [(0, .ref (ca t)), (1, .int x1), (2, .int x2), (3, .int x3)]) : W p l e (rmL 5 0 0) s m args below meth c H locs 0 0 Q (F0 m 15 ls []) := by
  have hx := X.hx
  have hb := X.hb
  have hown := X.hown
  have hts := X.hts
  rw [fX2_passHours_15] at hf
  refine lv_aload_n hx hb dX2_passHours_15 rfl (lv_at hl 0 rfl) ?_
  obtain ⟨q, hc, hf⟩ := bd hf
  refine gCallVV X cOK rfl (vX2_passHour hkt hc) gRX2_X2_passHour hdX2_passHour rfl ⟨by decide, by decide⟩ hP hS (cr_rec hP hkt rfl cw11 rfl) hl.1 (Nat.le_of_ble_eq_true rfl) ⟨Nat.zero_le _, Nat.zero_le _⟩ dX2_passHours_16 (As := []) (rest := []) rfl (fun H locs hP hS => ?_)
  exact kX2_passHours_19 X hret hkt hK10 hf hP hS (lv_sub hl [0, 1, 2, 3] rfl)
set_option maxRecDepth 10000 in
theorem kX2_passHours_10 {r : Int32} {S1 : CS} {t : Nat} (X : gX p s m args c cX2_passHours 4 RX2 (kR kTab kA)) (hret : gRetI p l e (rmL 5 0 0) s m args below meth c cX2_passHours (cΩ ca) (cP dC dI cg kA ca) Q r S1) (hkt : kc t = 11) : ∀ (n : Nat) (M : CS) (x1 : Int32) (x2 : Int32) (x3 : Int32) (H : Heap) (locs : List Loc) (ls : Array Slot), fX2_passHours_10 t n M x1 x2 x3 = some (r, S1) → (cP dC dI cg kA ca) M s H → va_S (Fr (cΩ ca) s.heap.size) s.heap H locs → lv_has ls 4 [(0, .ref (ca t)), (1, .int x1), (2, .int x2), (3, .int x3)] → W p l e (rmL 5 0 0) s m args below meth c H locs 0 0 Q (F0 m 10 ls []) := by
  intro n
  induction n with
  | zero => intro M x1 x2 x3 H locs ls hf; cases hf
  | succ k ih =>
    intro M x1 x2 x3 H locs ls hf hP hS hl
    have hx := X.hx
    have hb := X.hb
    have hown := X.hown
    have hts := X.hts
    rw [fX2_passHours_10] at hf
    try dsimp only at hf
    refine lv_iload_n hx hb dX2_passHours_10 rfl (lv_at hl 3 rfl) ?_
    refine lv_iload_n hx hb dX2_passHours_11 rfl (lv_at hl 1 rfl) ?_
    refine lv_icmp_ge (tgt := 25) hx hb dX2_passHours_12 (by decide) (fun c1 => ?_) (fun c1 => ?_)
    · exact kX2_passHours_25 X hret hkt (ifp c1 hf) hP hS (lv_sub hl [0, 2] rfl)
    · exact kX2_passHours_15 X hret hkt ih (ifn c1 hf) hP hS (lv_sub hl [0, 1, 2, 3] rfl)
set_option maxRecDepth 10000 in
theorem kX2_passHours_0 {r : Int32} {S1 : CS} {t : Nat} {M : CS} {a1 : Int32} {H : Heap} {locs : List Loc} {ls : Array Slot} (X : gX p s m args c cX2_passHours 4 RX2 (kR kTab kA)) (hret : gRetI p l e (rmL 5 0 0) s m args below meth c cX2_passHours (cΩ ca) (cP dC dI cg kA ca) Q r S1) (hkt : kc t = 11) (hf : fX2_passHours_0 t M a1 = some (r, S1)) (hP : (cP dC dI cg kA ca) M s H) (hS : va_S (Fr (cΩ ca) s.heap.size) s.heap H locs) (hl : lv_has ls 4 [(0, .ref (ca t)), (1, .int a1)]) : W p l e (rmL 5 0 0) s m args below meth c H locs 0 0 Q (F0 m 0 ls []) := by
  have hx := X.hx
  have hb := X.hb
  have hown := X.hown
  have hts := X.hts
  rw [fX2_passHours_0] at hf
  refine lv_aload_n hx hb dX2_passHours_0 rfl (lv_at hl 0 rfl) ?_
  refine cr_get (k := 4) X hP hkt rfl cv11_4 rfl cinX2 (by decide) rfl tw324 dX2_passHours_1 ?_
  refine cr_get (k := 0) X hP (kc_totals hkt) rfl cv17_0 rfl cinX9 (by decide) rfl tw177 dX2_passHours_4 ?_
  refine lv_istore_n (lv' := [(2, .int (M.1 (t + 8) 0)), (0, .ref (ca t)), (1, .int a1)]) hx hb dX2_passHours_7 rfl hl (by decide) rfl (fun ls hl => ?_)
  refine lv_iconst (v := 0) hx hb dX2_passHours_8 (by decide) ?_
  refine lv_istore_n (lv' := [(3, .int 0), (2, .int (M.1 (t + 8) 0)), (0, .ref (ca t)), (1, .int a1)]) hx hb dX2_passHours_9 rfl hl (by decide) rfl (fun ls hl => ?_)
  exact kX2_passHours_10 X hret hkt FU _ _ _ _ _ _ _ hf hP hS (lv_sub hl [2, 3, 1, 0] rfl)
theorem vX2_passHours {l : Launch} {dC : Nat → ClassId} {dI : Nat → Nat → Nat} {cg : Nat → ClassId} {kA : String → Nat → Nat} {ca : Nat → Nat} {M S1 : CS} {r : Int32} {t : Nat} {a1 : Int32} (hkt : kc t = 11) (hf : fX2_passHours M t a1 = some (r, S1)) : gMetI l yX2_passHours cX2_passHours 4 (some .int) 5 (cΩ ca) (cP dC dI cg kA ca) (kR kTab kA) [.ref (ca t), .int a1] M r S1 := gEntryI (ty := .int) (by decide) rfl rfl cOK (Nat.le_of_ble_eq_true rfl) (fun p e s m args below meth c Q ls X hP hS hret hl => 
  kX2_passHours_0 X hret hkt hf hP hS (lv_sub hl [0, 1] rfl))
set_option maxRecDepth 10000 in
theorem kX3_putSack_72 {S1 : CS} {b1 : Nat} {M : CS} {H : Heap} {locs : List Loc} {ls : Array Slot} (X : gX p s m args c cX3_putSack 3 RX3 (kR kTab kA)) (hret : gRetV p l e (rmL 5 0 0) s m args below meth c cX3_putSack (cΩ ca) (cP dC dI cg kA ca) Q S1) (hkb1 : kc b1 = 19) (hf : fX3_putSack_72 b1 M = some S1) (hP : (cP dC dI cg kA ca) M s H) (hS : va_S (Fr (cΩ ca) s.heap.size) s.heap H locs) (hl : lv_has ls 3 [(0, .ref (ca 5))]) : W p l e (rmL 5 0 0) s m args below meth c H locs 0 0 Q (F0 m 72 ls []) := by
  have hx := X.hx
  have hb := X.hb
  have hown := X.hown
  have hts := X.hts
  rw [fX3_putSack_72] at hf
  cases hf
  exact hret _ _ _ _ dX3_putSack_72 hP hS
set_option maxRecDepth 10000 in
theorem kX3_putSack_66 {S1 : CS} {b1 : Nat} {M : CS} {H : Heap} {locs : List Loc} {ls : Array Slot} (X : gX p s m args c cX3_putSack 3 RX3 (kR kTab kA)) (hret : gRetV p l e (rmL 5 0 0) s m args below meth c cX3_putSack (cΩ ca) (cP dC dI cg kA ca) Q S1) (hkb1 : kc b1 = 19) (hf : fX3_putSack_66 b1 M = some S1) (hP : (cP dC dI cg kA ca) M s H) (hS : va_S (Fr (cΩ ca) s.heap.size) s.heap H locs) (hl : lv_has ls 3 [(0, .ref (ca 5))]) : W p l e (rmL 5 0 0) s m args below meth c H locs 0 0 Q (F0 m 66 ls []) := by
  have hx := X.hx
  have hb := X.hb
  have hown := X.hown
  have hts := X.hts
  rw [fX3_putSack_66] at hf
  refine lv_aload_n hx hb dX3_putSack_66 rfl (lv_at hl 0 rfl) ?_
  refine lv_bipush (v := 39) hx hb dX3_putSack_67 (by decide) ?_
  obtain ⟨q, hc, hf⟩ := bd hf
  refine gCallVV X cOK rfl (vX3_put hc) gRX3_X3_put hdX3_put rfl ⟨by decide, by decide⟩ hP hS (cr_rec hP (rfl : kc 5 = 5) rfl cw5 rfl) hl.1 (Nat.le_of_ble_eq_true rfl) ⟨Nat.zero_le _, Nat.zero_le _⟩ dX3_putSack_69 (As := [.int 39]) (rest := []) rfl (fun H locs hP hS => ?_)
  exact kX3_putSack_72 X hret hkb1 hf hP hS (lv_sub hl [0] rfl)
set_option maxRecDepth 10000 in
theorem kX3_putSack_59 {S1 : CS} {b1 : Nat} {M : CS} {H : Heap} {locs : List Loc} {ls : Array Slot} (X : gX p s m args c cX3_putSack 3 RX3 (kR kTab kA)) (hret : gRetV p l e (rmL 5 0 0) s m args below meth c cX3_putSack (cΩ ca) (cP dC dI cg kA ca) Q S1) (hkb1 : kc b1 = 19) (hf : fX3_putSack_59 b1 M = some S1) (hP : (cP dC dI cg kA ca) M s H) (hS : va_S (Fr (cΩ ca) s.heap.size) s.heap H locs) (hl : lv_has ls 3 [(0, .ref (ca 5)), (1, .ref (ca b1))]) : W p l e (rmL 5 0 0) s m args below meth c H locs 0 0 Q (F0 m 59 ls []) := by
  have hx := X.hx
  have hb := X.hb
  have hown := X.hown
  have hts := X.hts
  rw [fX3_putSack_59] at hf
  refine lv_aload_n hx hb dX3_putSack_59 rfl (lv_at hl 1 rfl) ?_
  refine cr_get (k := 3) X hP hkb1 rfl cv19_3 rfl cinX4 (by decide) rfl tw276 dX3_putSack_60 ?_
  refine lv_if_eq (tgt := 72) hx hb dX3_putSack_63 (by decide) (fun c1 => ?_) (fun c1 => ?_)
  · exact kX3_putSack_72 X hret hkb1 (ifp c1 hf) hP hS (lv_sub hl [0] rfl)
  · exact kX3_putSack_66 X hret hkb1 (ifn c1 hf) hP hS (lv_sub hl [0] rfl)
set_option maxRecDepth 10000 in
theorem kX3_putSack_51 {S1 : CS} {b1 : Nat} {M : CS} {H : Heap} {locs : List Loc} {ls : Array Slot} (X : gX p s m args c cX3_putSack 3 RX3 (kR kTab kA)) (hret : gRetV p l e (rmL 5 0 0) s m args below meth c cX3_putSack (cΩ ca) (cP dC dI cg kA ca) Q S1) (hkb1 : kc b1 = 19) (hf : fX3_putSack_51 b1 M = some S1) (hP : (cP dC dI cg kA ca) M s H) (hS : va_S (Fr (cΩ ca) s.heap.size) s.heap H locs) (hl : lv_has ls 3 [(0, .ref (ca 5)), (1, .ref (ca b1))]) : W p l e (rmL 5 0 0) s m args below meth c H locs 0 0 Q (F0 m 51 ls []) := by
  have hx := X.hx
  have hb := X.hb
  have hown := X.hown
  have hts := X.hts
  rw [fX3_putSack_51] at hf
  refine lv_aload_n hx hb dX3_putSack_51 rfl (lv_at hl 0 rfl) ?_
  refine lv_aload_n hx hb dX3_putSack_52 rfl (lv_at hl 1 rfl) ?_
  refine cr_get (k := 2) X hP hkb1 rfl cv19_2 rfl cinX4 (by decide) rfl tw271 dX3_putSack_53 ?_
  obtain ⟨q, hc, hf⟩ := bd hf
  refine gCallVV X cOK rfl (vX3_putNumber hc) gRX3_X3_putNumber hdX3_putNumber rfl ⟨by decide, by decide⟩ hP hS (cr_rec hP (rfl : kc 5 = 5) rfl cw5 rfl) hl.1 (Nat.le_of_ble_eq_true rfl) ⟨Nat.zero_le _, Nat.zero_le _⟩ dX3_putSack_56 (As := [.int (M.1 b1 2)]) (rest := []) rfl (fun H locs hP hS => ?_)
  exact kX3_putSack_59 X hret hkb1 hf hP hS (lv_sub hl [0, 1] rfl)
set_option maxRecDepth 10000 in
theorem kX3_putSack_45 {S1 : CS} {b1 : Nat} {M : CS} {H : Heap} {locs : List Loc} {ls : Array Slot} (X : gX p s m args c cX3_putSack 3 RX3 (kR kTab kA)) (hret : gRetV p l e (rmL 5 0 0) s m args below meth c cX3_putSack (cΩ ca) (cP dC dI cg kA ca) Q S1) (hkb1 : kc b1 = 19) (hf : fX3_putSack_45 b1 M = some S1) (hP : (cP dC dI cg kA ca) M s H) (hS : va_S (Fr (cΩ ca) s.heap.size) s.heap H locs) (hl : lv_has ls 3 [(0, .ref (ca 5)), (1, .ref (ca b1))]) : W p l e (rmL 5 0 0) s m args below meth c H locs 0 0 Q (F0 m 45 ls []) := by
  have hx := X.hx
  have hb := X.hb
  have hown := X.hown
  have hts := X.hts
  rw [fX3_putSack_45] at hf
  refine lv_aload_n hx hb dX3_putSack_45 rfl (lv_at hl 0 rfl) ?_
  refine lv_bipush (v := 47) hx hb dX3_putSack_46 (by decide) ?_
  obtain ⟨q, hc, hf⟩ := bd hf
  refine gCallVV X cOK rfl (vX3_put hc) gRX3_X3_put hdX3_put rfl ⟨by decide, by decide⟩ hP hS (cr_rec hP (rfl : kc 5 = 5) rfl cw5 rfl) hl.1 (Nat.le_of_ble_eq_true rfl) ⟨Nat.zero_le _, Nat.zero_le _⟩ dX3_putSack_48 (As := [.int 47]) (rest := []) rfl (fun H locs hP hS => ?_)
  exact kX3_putSack_51 X hret hkb1 hf hP hS (lv_sub hl [0, 1] rfl)
set_option maxRecDepth 10000 in
theorem kX3_putSack_37 {S1 : CS} {b1 : Nat} {M : CS} {H : Heap} {locs : List Loc} {ls : Array Slot} (X : gX p s m args c cX3_putSack 3 RX3 (kR kTab kA)) (hret : gRetV p l e (rmL 5 0 0) s m args below meth c cX3_putSack (cΩ ca) (cP dC dI cg kA ca) Q S1) (hkb1 : kc b1 = 19) (hf : fX3_putSack_37 b1 M = some S1) (hP : (cP dC dI cg kA ca) M s H) (hS : va_S (Fr (cΩ ca) s.heap.size) s.heap H locs) (hl : lv_has ls 3 [(0, .ref (ca 5)), (1, .ref (ca b1))]) : W p l e (rmL 5 0 0) s m args below meth c H locs 0 0 Q (F0 m 37 ls []) := by
  have hx := X.hx
  have hb := X.hb
  have hown := X.hown
  have hts := X.hts
  rw [fX3_putSack_37] at hf
  refine lv_aload_n hx hb dX3_putSack_37 rfl (lv_at hl 0 rfl) ?_
  refine lv_aload_n hx hb dX3_putSack_38 rfl (lv_at hl 1 rfl) ?_
  refine cr_get (k := 1) X hP hkb1 rfl cv19_1 rfl cinX4 (by decide) rfl tw266 dX3_putSack_39 ?_
  obtain ⟨q, hc, hf⟩ := bd hf
  refine gCallVV X cOK rfl (vX3_putNumber hc) gRX3_X3_putNumber hdX3_putNumber rfl ⟨by decide, by decide⟩ hP hS (cr_rec hP (rfl : kc 5 = 5) rfl cw5 rfl) hl.1 (Nat.le_of_ble_eq_true rfl) ⟨Nat.zero_le _, Nat.zero_le _⟩ dX3_putSack_42 (As := [.int (M.1 b1 1)]) (rest := []) rfl (fun H locs hP hS => ?_)
  exact kX3_putSack_45 X hret hkb1 hf hP hS (lv_sub hl [0, 1] rfl)
set_option maxRecDepth 10000 in
theorem kX3_putSack_31 {S1 : CS} {b1 : Nat} {M : CS} {H : Heap} {locs : List Loc} {ls : Array Slot} (X : gX p s m args c cX3_putSack 3 RX3 (kR kTab kA)) (hret : gRetV p l e (rmL 5 0 0) s m args below meth c cX3_putSack (cΩ ca) (cP dC dI cg kA ca) Q S1) (hkb1 : kc b1 = 19) (hf : fX3_putSack_31 b1 M = some S1) (hP : (cP dC dI cg kA ca) M s H) (hS : va_S (Fr (cΩ ca) s.heap.size) s.heap H locs) (hl : lv_has ls 3 [(0, .ref (ca 5)), (1, .ref (ca b1))]) : W p l e (rmL 5 0 0) s m args below meth c H locs 0 0 Q (F0 m 31 ls []) := by
  have hx := X.hx
  have hb := X.hb
  have hown := X.hown
  have hts := X.hts
  rw [fX3_putSack_31] at hf
  refine lv_aload_n hx hb dX3_putSack_31 rfl (lv_at hl 0 rfl) ?_
  refine lv_bipush (v := 58) hx hb dX3_putSack_32 (by decide) ?_
  obtain ⟨q, hc, hf⟩ := bd hf
  refine gCallVV X cOK rfl (vX3_put hc) gRX3_X3_put hdX3_put rfl ⟨by decide, by decide⟩ hP hS (cr_rec hP (rfl : kc 5 = 5) rfl cw5 rfl) hl.1 (Nat.le_of_ble_eq_true rfl) ⟨Nat.zero_le _, Nat.zero_le _⟩ dX3_putSack_34 (As := [.int 58]) (rest := []) rfl (fun H locs hP hS => ?_)
  exact kX3_putSack_37 X hret hkb1 hf hP hS (lv_sub hl [0, 1] rfl)
set_option maxRecDepth 10000 in
theorem kX3_putSack_25 {S1 : CS} {b1 : Nat} {K2 : CS → Int32 → Option (CS)} {M : CS} {x2 : Int32} {H : Heap} {locs : List Loc} {ls : Array Slot} (X : gX p s m args c cX3_putSack 3 RX3 (kR kTab kA)) (hret : gRetV p l e (rmL 5 0 0) s m args below meth c cX3_putSack (cΩ ca) (cP dC dI cg kA ca) Q S1) (hkb1 : kc b1 = 19) (hK2 : ∀ (M : CS) (x2 : Int32) (H : Heap) (locs : List Loc) (ls : Array Slot), K2 M x2 = some S1 → (cP dC dI cg kA ca) M s H → va_S (Fr (cΩ ca) s.heap.size) s.heap H locs → lv_has ls 3 [(0, .ref (ca 5)), (1, .ref (ca b1)), (2, .int x2)] → W p l e (rmL 5 0 0) s m args below meth c H locs 0 0 Q (F0 m 2 ls [])) (hf : fX3_putSack_25 b1 K2 M x2 = some S1) (hP : (cP dC dI cg kA ca) M s H) (hS : va_S (Fr (cΩ ca) s.heap.size) s.heap H locs) (hl : lv_has ls 3 [(0, .ref (ca 5)), (1, .ref (ca b1)), (2, .int x2)]) : W p l e (rmL 5 0 0) s m args below meth c H locs 0 0 Q (F0 m 25 ls []) := by
  have hx := X.hx
  have hb := X.hb
  have hown := X.hown
  have hts := X.hts
  rw [fX3_putSack_25] at hf
  refine lv_iinc (v := (x2 + 1)) (lv' := [(2, .int (x2 + 1)), (0, .ref (ca 5)), (1, .ref (ca b1))]) hx hb dX3_putSack_25 hl (k := 2) rfl (by rfl) (by decide) rfl (fun ls hl => ?_)
  refine lv_goto (tgt := 2) hx hb dX3_putSack_28 (by decide) ?_
  exact hK2 _ _ _ _ _ hf hP hS (lv_sub hl [1, 2, 0] rfl)
set_option maxRecDepth 10000 in
theorem kX3_putSack_13 {S1 : CS} {b1 : Nat} {K2 : CS → Int32 → Option (CS)} {M : CS} {x2 : Int32} {H : Heap} {locs : List Loc} {ls : Array Slot} (X : gX p s m args c cX3_putSack 3 RX3 (kR kTab kA)) (hret : gRetV p l e (rmL 5 0 0) s m args below meth c cX3_putSack (cΩ ca) (cP dC dI cg kA ca) Q S1) (hkb1 : kc b1 = 19) (hK2 : ∀ (M : CS) (x2 : Int32) (H : Heap) (locs : List Loc) (ls : Array Slot), K2 M x2 = some S1 → (cP dC dI cg kA ca) M s H → va_S (Fr (cΩ ca) s.heap.size) s.heap H locs → lv_has ls 3 [(0, .ref (ca 5)), (1, .ref (ca b1)), (2, .int x2)] → W p l e (rmL 5 0 0) s m args below meth c H locs 0 0 Q (F0 m 2 ls [])) (hf : fX3_putSack_13 b1 K2 M x2 = some S1) (hP : (cP dC dI cg kA ca) M s H) (hS : va_S (Fr (cΩ ca) s.heap.size) s.heap H locs) (hl : lv_has ls 3 [(0, .ref (ca 5)), (1, .ref (ca b1)), (2, .int x2)]) : W p l e (rmL 5 0 0) s m args below meth c H locs 0 0 Q (F0 m 13 ls []) := by
  have hx := X.hx
  have hb := X.hb
  have hown := X.hown
  have hts := X.hts
  rw [fX3_putSack_13] at hf
  refine lv_aload_n hx hb dX3_putSack_13 rfl (lv_at hl 0 rfl) ?_
  refine lv_aload_n hx hb dX3_putSack_14 rfl (lv_at hl 1 rfl) ?_
  refine cr_name X hP hkb1 rfl cv19_0 rfl cinX4 (by decide) rfl tw261 dX3_putSack_15 (fun n1 hn1 => ?_)
  refine lv_iload_n hx hb dX3_putSack_18 rfl (lv_at hl 2 rfl) ?_
  obtain ⟨g1, hf⟩ := gd hf
  refine gCallVR X rfl (vJ0_charAt (Ω := (cΩ ca)) g1 hn1.1 hn1.2.1) gsRX3_J0_charAt hdJ0_charAt rfl ⟨by decide, by decide⟩ sB_blind (sB_at (ccmp hP) hn1) hn1.rec hl.1 (Nat.le_of_ble_eq_true rfl) ⟨Nat.zero_le _, Nat.zero_le _⟩ dX3_putSack_19 (As := [.int x2]) (rest := [.ref (ca 5)]) rfl ?_
  obtain ⟨q, hc, hf⟩ := bd hf
  refine gCallVV X cOK rfl (vX3_put hc) gRX3_X3_put hdX3_put rfl ⟨by decide, by decide⟩ hP hS (cr_rec hP (rfl : kc 5 = 5) rfl cw5 rfl) hl.1 (Nat.le_of_ble_eq_true rfl) ⟨Nat.zero_le _, Nat.zero_le _⟩ dX3_putSack_22 (As := [.int ((M.2 b1).getD x2.toNatClampNeg 0)]) (rest := []) rfl (fun H locs hP hS => ?_)
  exact kX3_putSack_25 X hret hkb1 hK2 hf hP hS (lv_sub hl [0, 1, 2] rfl)
set_option maxRecDepth 10000 in
theorem kX3_putSack_2 {S1 : CS} {b1 : Nat} (X : gX p s m args c cX3_putSack 3 RX3 (kR kTab kA)) (hret : gRetV p l e (rmL 5 0 0) s m args below meth c cX3_putSack (cΩ ca) (cP dC dI cg kA ca) Q S1) (hkb1 : kc b1 = 19) : ∀ (n : Nat) (M : CS) (x2 : Int32) (H : Heap) (locs : List Loc) (ls : Array Slot), fX3_putSack_2 b1 n M x2 = some S1 → (cP dC dI cg kA ca) M s H → va_S (Fr (cΩ ca) s.heap.size) s.heap H locs → lv_has ls 3 [(0, .ref (ca 5)), (1, .ref (ca b1)), (2, .int x2)] → W p l e (rmL 5 0 0) s m args below meth c H locs 0 0 Q (F0 m 2 ls []) := by
  intro n
  induction n with
  | zero => intro M x2 H locs ls hf; cases hf
  | succ k ih =>
    intro M x2 H locs ls hf hP hS hl
    have hx := X.hx
    have hb := X.hb
    have hown := X.hown
    have hts := X.hts
    rw [fX3_putSack_2] at hf
    try dsimp only at hf
    refine lv_iload_n hx hb dX3_putSack_2 rfl (lv_at hl 2 rfl) ?_
    refine lv_aload_n hx hb dX3_putSack_3 rfl (lv_at hl 1 rfl) ?_
    refine cr_name X hP hkb1 rfl cv19_0 rfl cinX4 (by decide) rfl tw261 dX3_putSack_4 (fun n1 hn1 => ?_)
    refine gCallVR X rfl (vJ0_length (Ω := (cΩ ca)) (bs := (M.2 b1))) gsRX3_J0_length hdJ0_length rfl ⟨by decide, by decide⟩ sB_blind (sB_at (ccmp hP) hn1) hn1.rec hl.1 (Nat.le_of_ble_eq_true rfl) ⟨Nat.zero_le _, Nat.zero_le _⟩ dX3_putSack_7 (As := []) (rest := [.int x2]) rfl ?_
    refine lv_icmp_ge (tgt := 31) hx hb dX3_putSack_10 (by decide) (fun c1 => ?_) (fun c1 => ?_)
    · exact kX3_putSack_31 X hret hkb1 (ifp c1 hf) hP hS (lv_sub hl [0, 1] rfl)
    · exact kX3_putSack_13 X hret hkb1 ih (ifn c1 hf) hP hS (lv_sub hl [0, 1, 2] rfl)
set_option maxRecDepth 10000 in
theorem kX3_putSack_0 {S1 : CS} {b1 : Nat} {M : CS} {H : Heap} {locs : List Loc} {ls : Array Slot} (X : gX p s m args c cX3_putSack 3 RX3 (kR kTab kA)) (hret : gRetV p l e (rmL 5 0 0) s m args below meth c cX3_putSack (cΩ ca) (cP dC dI cg kA ca) Q S1) (hkb1 : kc b1 = 19) (hf : fX3_putSack_0 b1 M = some S1) (hP : (cP dC dI cg kA ca) M s H) (hS : va_S (Fr (cΩ ca) s.heap.size) s.heap H locs) (hl : lv_has ls 3 [(0, .ref (ca 5)), (1, .ref (ca b1))]) : W p l e (rmL 5 0 0) s m args below meth c H locs 0 0 Q (F0 m 0 ls []) := by
  have hx := X.hx
  have hb := X.hb
  have hown := X.hown
  have hts := X.hts
  rw [fX3_putSack_0] at hf
  refine lv_iconst (v := 0) hx hb dX3_putSack_0 (by decide) ?_
  refine lv_istore_n (lv' := [(2, .int 0), (0, .ref (ca 5)), (1, .ref (ca b1))]) hx hb dX3_putSack_1 rfl hl (by decide) rfl (fun ls hl => ?_)
  exact kX3_putSack_2 X hret hkb1 FU _ _ _ _ _ hf hP hS (lv_sub hl [1, 2, 0] rfl)
theorem vX3_putSack {l : Launch} {dC : Nat → ClassId} {dI : Nat → Nat → Nat} {cg : Nat → ClassId} {kA : String → Nat → Nat} {ca : Nat → Nat} {M S1 : CS} {b1 : Nat} (hkb1 : kc b1 = 19) (hf : fX3_putSack M b1 = some S1) : gMetV l yX3_putSack cX3_putSack 3 5 (cΩ ca) (cP dC dI cg kA ca) (kR kTab kA) [.ref (ca 5), .ref (ca b1)] M S1 := gEntryV (by decide) cOK (Nat.le_of_ble_eq_true rfl) (fun p e s m args below meth c Q ls X hP hS hret hl => 
  kX3_putSack_0 X hret hkb1 hf hP hS (lv_sub hl [0, 1] rfl))
