variable {l : Launch} {p : Program} {e : Env} {s : State} {m : MethodId} {args : Array Value} {below : List Frame} {meth : Method} {c : Code} {A : Nat → Prop} {Q : State → Prop}
variable {dC : Nat → ClassId} {dI : Nat → Nat → Nat} {cg : Nat → ClassId} {kA : String → Nat → Nat} {ca : Nat → Nat}
def fX10_tirednessOf_5 (M : CS) (z0 : Nat) : Option (Int32) := some (M.1 z0 3)
def fX10_tirednessOf_0 (M : CS) (a1 : Int32) : Option (Int32) := (fX10_catAt M a1).bind fun q => fX10_tirednessOf_5 M q
def fX10_tirednessOf (M : CS) (a1 : Int32) : Option (Int32) := fX10_tirednessOf_0  M a1
def fX10_caughtBy_5 (M : CS) (z0 : Nat) : Option (Int32) := some (M.1 z0 4)
def fX10_caughtBy_0 (M : CS) (a1 : Int32) : Option (Int32) := (fX10_catAt M a1).bind fun q => fX10_caughtBy_5 M q
def fX10_caughtBy (M : CS) (a1 : Int32) : Option (Int32) := fX10_caughtBy_0  M a1
def fX10_oathsOf_5 (M : CS) (z0 : Nat) : Option (Int32) := some (M.1 z0 5)
def fX10_oathsOf_0 (M : CS) (a1 : Int32) : Option (Int32) := (fX10_catAt M a1).bind fun q => fX10_oathsOf_5 M q
def fX10_oathsOf (M : CS) (a1 : Int32) : Option (Int32) := fX10_oathsOf_0  M a1
def fX10_grainIn_5 (M : CS) (z0 : Nat) : Option (Int32) := some (M.1 z0 1)
def fX10_grainIn_0 (M : CS) (a1 : Int32) : Option (Int32) := (fX10_sackAt M a1).bind fun q => fX10_grainIn_5 M q
def fX10_grainIn (M : CS) (a1 : Int32) : Option (Int32) := fX10_grainIn_0  M a1
def fX10_miceIn_5 (M : CS) (z0 : Nat) : Option (Int32) := some (M.1 z0 2)
def fX10_miceIn_0 (M : CS) (a1 : Int32) : Option (Int32) := (fX10_sackAt M a1).bind fun q => fX10_miceIn_5 M q
def fX10_miceIn (M : CS) (a1 : Int32) : Option (Int32) := fX10_miceIn_0  M a1
def fX10_isOpen_5 (M : CS) (z0 : Nat) : Option (Int32) := some (M.1 z0 3)
def fX10_isOpen_0 (M : CS) (a1 : Int32) : Option (Int32) := (fX10_sackAt M a1).bind fun q => fX10_isOpen_5 M q
def fX10_isOpen (M : CS) (a1 : Int32) : Option (Int32) := bq (fX10_isOpen_0  M a1)
def fX10_eatenFrom_5 (M : CS) (z0 : Nat) : Option (Int32) := some (M.1 z0 4)
def fX10_eatenFrom_0 (M : CS) (a1 : Int32) : Option (Int32) := (fX10_sackAt M a1).bind fun q => fX10_eatenFrom_5 M q
def fX10_eatenFrom (M : CS) (a1 : Int32) : Option (Int32) := fX10_eatenFrom_0  M a1
def fX2_copyFrom_179 (t : Nat) (b1 : Nat) (M : CS) : Option (CS) := some M
def fX2_copyFrom_173 (t : Nat) (b1 : Nat) (K150 : CS → Int32 → Option (CS)) (M : CS) (x2 : Int32) : Option (CS) := K150 M (x2 + 1)
def fX2_copyFrom_158 (t : Nat) (b1 : Nat) (K150 : CS → Int32 → Option (CS)) (M : CS) (x2 : Int32) : Option (CS) := if gIn x2 12 then if gIn x2 12 then (fX7_copyFrom M ((t + 3) + 20 + x2.toNatClampNeg) ((b1 + 3) + 20 + x2.toNatClampNeg)).bind fun q => fX2_copyFrom_173 t b1 K150 q x2 else none else none
def fX2_copyFrom_150 (t : Nat) (b1 : Nat) : Nat → CS → Int32 → Option (CS)
  | 0 => fun _ _ => none
  | k + 1 => fun M x2 => if (M.1 t 7) ≤ x2 then fX2_copyFrom_179 t b1 M else fX2_copyFrom_158 t b1 (fX2_copyFrom_150 t b1 k) M x2
def fX2_copyFrom_148 (t : Nat) (b1 : Nat) (M : CS) : Option (CS) := fX2_copyFrom_150 t b1 FU M 0
def fX2_copyFrom_142 (t : Nat) (b1 : Nat) (K119 : CS → Int32 → Option (CS)) (M : CS) (x2 : Int32) : Option (CS) := K119 M (x2 + 1)
def fX2_copyFrom_127 (t : Nat) (b1 : Nat) (K119 : CS → Int32 → Option (CS)) (M : CS) (x2 : Int32) : Option (CS) := if gIn x2 6 then if gIn x2 6 then (fX4_copyFrom M ((t + 2) + 15 + x2.toNatClampNeg) ((b1 + 2) + 15 + x2.toNatClampNeg)).bind fun q => fX2_copyFrom_142 t b1 K119 q x2 else none else none
def fX2_copyFrom_119 (t : Nat) (b1 : Nat) : Nat → CS → Int32 → Option (CS)
  | 0 => fun _ _ => none
  | k + 1 => fun M x2 => if (M.1 t 6) ≤ x2 then fX2_copyFrom_148 t b1 M else fX2_copyFrom_127 t b1 (fX2_copyFrom_119 t b1 k) M x2
def fX2_copyFrom_117 (t : Nat) (b1 : Nat) (M : CS) : Option (CS) := fX2_copyFrom_119 t b1 FU M 0
def fX2_copyFrom_111 (t : Nat) (b1 : Nat) (K88 : CS → Int32 → Option (CS)) (M : CS) (x2 : Int32) : Option (CS) := K88 M (x2 + 1)
def fX2_copyFrom_96 (t : Nat) (b1 : Nat) (K88 : CS → Int32 → Option (CS)) (M : CS) (x2 : Int32) : Option (CS) := if gIn x2 8 then if gIn x2 8 then (fX0_copyFrom M ((t + 1) + 8 + x2.toNatClampNeg) ((b1 + 1) + 8 + x2.toNatClampNeg)).bind fun q => fX2_copyFrom_111 t b1 K88 q x2 else none else none
def fX2_copyFrom_88 (t : Nat) (b1 : Nat) : Nat → CS → Int32 → Option (CS)
  | 0 => fun _ _ => none
  | k + 1 => fun M x2 => if (M.1 t 5) ≤ x2 then fX2_copyFrom_117 t b1 M else fX2_copyFrom_96 t b1 (fX2_copyFrom_88 t b1 k) M x2
def fX2_copyFrom_86 (t : Nat) (b1 : Nat) (M : CS) : Option (CS) := fX2_copyFrom_88 t b1 FU M 0
def fX2_copyFrom_75 (t : Nat) (b1 : Nat) (M : CS) : Option (CS) := (fX9_copyFrom M (t + 8) (b1 + 8)).bind fun q => fX2_copyFrom_86 t b1 q
def fX2_copyFrom_64 (t : Nat) (b1 : Nat) (M : CS) : Option (CS) := (fX1_copyFrom M (t + 4) (b1 + 4)).bind fun q => fX2_copyFrom_75 t b1 q
def fX2_copyFrom_56 (t : Nat) (b1 : Nat) (M : CS) : Option (CS) := fX2_copyFrom_64 t b1 (va_up M.1 t (upd (M.1 t) 12 (M.1 b1 12)), M.2)
def fX2_copyFrom_48 (t : Nat) (b1 : Nat) (M : CS) : Option (CS) := fX2_copyFrom_56 t b1 (va_up M.1 t (upd (M.1 t) 11 (M.1 b1 11)), M.2)
def fX2_copyFrom_40 (t : Nat) (b1 : Nat) (M : CS) : Option (CS) := fX2_copyFrom_48 t b1 (va_up M.1 t (upd (M.1 t) 10 (M.1 b1 10)), M.2)
def fX2_copyFrom_32 (t : Nat) (b1 : Nat) (M : CS) : Option (CS) := fX2_copyFrom_40 t b1 (va_up M.1 t (upd (M.1 t) 9 (M.1 b1 9)), M.2)
def fX2_copyFrom_24 (t : Nat) (b1 : Nat) (M : CS) : Option (CS) := fX2_copyFrom_32 t b1 (va_up M.1 t (upd (M.1 t) 8 (M.1 b1 8)), M.2)
def fX2_copyFrom_16 (t : Nat) (b1 : Nat) (M : CS) : Option (CS) := fX2_copyFrom_24 t b1 (va_up M.1 t (upd (M.1 t) 7 (M.1 b1 7)), M.2)
def fX2_copyFrom_8 (t : Nat) (b1 : Nat) (M : CS) : Option (CS) := fX2_copyFrom_16 t b1 (va_up M.1 t (upd (M.1 t) 6 (M.1 b1 6)), M.2)
def fX2_copyFrom_0 (t : Nat) (b1 : Nat) (M : CS) : Option (CS) := fX2_copyFrom_8 t b1 (va_up M.1 t (upd (M.1 t) 5 (M.1 b1 5)), M.2)
def fX2_copyFrom (M : CS) (t : Nat) (b1 : Nat) : Option (CS) := fX2_copyFrom_0 t b1  M
def fX2_hunt_18 (t : Nat) (M : CS) : Option (Int32 × CS) := some ((-1), M)
def fX2_hunt_104 (t : Nat) (M : CS) : Option (Int32 × CS) := some ((M.1 t 8), M)
def fX2_hunt_90 (t : Nat) (M : CS) (x4 : Int32) : Option (Int32 × CS) := (fX1_add M (t + 4) 1 (M.1 t 8) x4).bind fun q => fX2_hunt_104 t q
def fX2_hunt_86 (t : Nat) (M : CS) (p2 : Nat) (x4 : Int32) : Option (Int32 × CS) := (fX0_tire M p2).bind fun q => fX2_hunt_90 t q x4
def fX2_hunt_72 (t : Nat) (M : CS) (p2 : Nat) (x4 : Int32) : Option (Int32 × CS) := fX2_hunt_86 t (va_up M.1 (t + 8) (upd (M.1 (t + 8)) 0 ((M.1 (t + 8) 0) + x4)), M.2) p2 x4
def fX2_hunt_61 (t : Nat) (M : CS) (p2 : Nat) (x4 : Int32) : Option (Int32 × CS) := fX2_hunt_72 t (va_up M.1 p2 (upd (M.1 p2) 4 ((M.1 p2 4) + x4)), M.2) p2 x4
def fX2_hunt_41 (t : Nat) (M : CS) (p2 : Nat) (p3 : Nat) (s0 : Int32) : Option (Int32 × CS) := fX2_hunt_61 t (va_up M.1 p3 (upd (M.1 p3) 2 ((M.1 p3 2) - (if (M.1 p3 2) < s0 then (M.1 p3 2) else s0))), M.2) p2 (if (M.1 p3 2) < s0 then (M.1 p3 2) else s0)
def fX2_hunt_20 (t : Nat) (M : CS) (x1 : Int32) : Option (Int32 × CS) := if gIn (M.1 t 8) 8 then if gIn x1 6 then (fX0_strength M ((t + 1) + 8 + (M.1 t 8).toNatClampNeg)).bind fun q => fX2_hunt_41 t M ((t + 1) + 8 + (M.1 t 8).toNatClampNeg) ((t + 2) + 15 + x1.toNatClampNeg) q else none else none
def fX2_hunt_13 (t : Nat) (M : CS) (x1 : Int32) : Option (Int32 × CS) := if x1 = (-1) then fX2_hunt_18 t M else fX2_hunt_20 t M x1
def fX2_hunt_4 (t : Nat) (M : CS) (s0 : Int32) : Option (Int32 × CS) := if (M.1 t 8) = (-1) then fX2_hunt_18 t M else fX2_hunt_13 t M s0
def fX2_hunt_0 (t : Nat) (M : CS) : Option (Int32 × CS) := (fX2_busiestOpenSack M t).bind fun q => fX2_hunt_4 t M q
def fX2_hunt (M : CS) (t : Nat) : Option (Int32 × CS) := fX2_hunt_0 t  M
def fX2_restAllBut_31 (t : Nat) (M : CS) : Option (CS) := some M
def fX2_restAllBut_25 (t : Nat) (K2 : CS → Int32 → Int32 → Option (CS)) (M : CS) (x1 : Int32) (x2 : Int32) : Option (CS) := K2 M x1 (x2 + 1)
def fX2_restAllBut_15 (t : Nat) (K2 : CS → Int32 → Int32 → Option (CS)) (M : CS) (x1 : Int32) (x2 : Int32) : Option (CS) := if gIn x2 8 then (fX0_recover M ((t + 1) + 8 + x2.toNatClampNeg) 1).bind fun q => fX2_restAllBut_25 t K2 q x1 x2 else none
def fX2_restAllBut_10 (t : Nat) (K2 : CS → Int32 → Int32 → Option (CS)) (M : CS) (x1 : Int32) (x2 : Int32) : Option (CS) := if x2 = x1 then fX2_restAllBut_25 t K2 M x1 x2 else fX2_restAllBut_15 t K2 M x1 x2
def fX2_restAllBut_2 (t : Nat) : Nat → CS → Int32 → Int32 → Option (CS)
  | 0 => fun _ _ _ => none
  | k + 1 => fun M x1 x2 => if (M.1 t 5) ≤ x2 then fX2_restAllBut_31 t M else fX2_restAllBut_10 t (fX2_restAllBut_2 t k) M x1 x2
def fX2_restAllBut_0 (t : Nat) (M : CS) (a1 : Int32) : Option (CS) := fX2_restAllBut_2 t FU M a1 0
def fX2_restAllBut (M : CS) (t : Nat) (a1 : Int32) : Option (CS) := fX2_restAllBut_0 t  M a1
def fX2_changeShift_124 (t : Nat) (M : CS) : Option (CS) := some M
def fX2_changeShift_114 (t : Nat) (M : CS) (x1 : Int32) (x2 : Int32) : Option (CS) := (fX1_add M (t + 4) 3 x2 x1).bind fun q => fX2_changeShift_124 t q
def fX2_changeShift_101 (t : Nat) (M : CS) (x1 : Int32) (x2 : Int32) : Option (CS) := fX2_changeShift_114 t (va_up M.1 (t + 8) (upd (M.1 (t + 8)) 5 ((M.1 (t + 8) 5) + 1)), M.2) x1 x2
def fX2_changeShift_96 (t : Nat) (M : CS) (x1 : Int32) (x2 : Int32) : Option (CS) := fX2_changeShift_101 t (va_up M.1 t (upd (M.1 t) 8 (-1)), M.2) x1 x2
def fX2_changeShift_93 (t : Nat) (M : CS) : Option (CS) := fX2_changeShift_124 t M
def fX2_changeShift_83 (t : Nat) (M : CS) (x1 : Int32) (x2 : Int32) : Option (CS) := (fX1_add M (t + 4) 2 x2 x1).bind fun q => fX2_changeShift_93 t q
def fX2_changeShift_78 (t : Nat) (M : CS) (x1 : Int32) (x2 : Int32) : Option (CS) := (fX2_swearIn M t x2).bind fun q => fX2_changeShift_83 t q x1 x2
def fX2_changeShift_75 (t : Nat) (M : CS) (x1 : Int32) (x2 : Int32) (s0 : Int32) : Option (CS) := if s0 = 0 then fX2_changeShift_78 t M x1 x2 else fX2_changeShift_96 t M x1 x2
def fX2_changeShift_52 (t : Nat) (M : CS) : Option (CS) := if gIn (M.1 t 9) 12 then (fX2_reasonAgainst M t (M.1 ((t + 3) + 20 + (M.1 t 9).toNatClampNeg) 0)).bind fun q => fX2_changeShift_75 t M (M.1 t 8) (M.1 ((t + 3) + 20 + (M.1 t 9).toNatClampNeg) 0) q else none
def fX2_changeShift_51 (t : Nat) (M : CS) : Option (CS) := some M
def fX2_changeShift_43 (t : Nat) (M : CS) : Option (CS) := if (M.1 t 8) = (-1) then fX2_changeShift_51 t M else fX2_changeShift_52 t M
def fX2_changeShift_27 (t : Nat) (M : CS) : Option (CS) := if gIn (M.1 t 9) 12 then fX2_changeShift_43 t (va_up M.1 t (upd (M.1 t) 10 (M.1 ((t + 3) + 20 + (M.1 t 9).toNatClampNeg) 1)), M.2) else none
def fX2_changeShift_24 (t : Nat) (M : CS) (s0 : Int32) : Option (CS) := fX2_changeShift_27 t (va_up M.1 t (upd (M.1 t) 9 s0), M.2)
def fX2_changeShift_23 (t : Nat) (M : CS) : Option (CS) := fX2_changeShift_24 t M 0
def fX2_changeShift_14 (t : Nat) (M : CS) : Option (CS) := fX2_changeShift_24 t M ((M.1 t 9) + 1)
def fX2_changeShift_0 (t : Nat) (M : CS) : Option (CS) := if (M.1 t 7) ≤ ((M.1 t 9) + 1) then fX2_changeShift_23 t M else fX2_changeShift_14 t M
def fX2_changeShift (M : CS) (t : Nat) : Option (CS) := fX2_changeShift_0 t  M
def fX2_greetDawn_98 (t : Nat) (M : CS) : Option (CS) := some M
def fX2_greetDawn_85 (t : Nat) (M : CS) : Option (CS) := (fX1_add M (t + 4) 4 (-1) (M.1 t 12)).bind fun q => fX2_greetDawn_98 t q
def fX2_greetDawn_82 (t : Nat) (M : CS) : Option (CS) := fX2_greetDawn_98 t M
def fX2_greetDawn_69 (t : Nat) (M : CS) (x1 : Int32) : Option (CS) := (fX1_add M (t + 4) 4 x1 (M.1 t 12)).bind fun q => fX2_greetDawn_82 t q
def fX2_greetDawn_64 (t : Nat) (M : CS) (x1 : Int32) : Option (CS) := (fX2_swearIn M t x1).bind fun q => fX2_greetDawn_69 t q x1
def fX2_greetDawn_50 (t : Nat) (M : CS) (x1 : Int32) : Option (CS) := if gIn x1 8 then if 12 ≤ (M.1 ((t + 1) + 8 + x1.toNatClampNeg) 3) then fX2_greetDawn_85 t M else fX2_greetDawn_64 t M x1 else none
def fX2_greetDawn_29 (t : Nat) (M : CS) : Option (CS) := if gIn (M.1 t 9) 12 then if (M.1 t 8) = (-1) then fX2_greetDawn_50 t M (M.1 ((t + 3) + 20 + (M.1 t 9).toNatClampNeg) 0) else fX2_greetDawn_85 t M else none
def fX2_greetDawn_23 (t : Nat) (K2 : CS → Int32 → Option (CS)) (M : CS) (x1 : Int32) : Option (CS) := K2 M (x1 + 1)
def fX2_greetDawn_10 (t : Nat) (K2 : CS → Int32 → Option (CS)) (M : CS) (x1 : Int32) : Option (CS) := if gIn x1 8 then (fX0_recover M ((t + 1) + 8 + x1.toNatClampNeg) (M.1 t 11)).bind fun q => fX2_greetDawn_23 t K2 q x1 else none
def fX2_greetDawn_2 (t : Nat) : Nat → CS → Int32 → Option (CS)
  | 0 => fun _ _ => none
  | k + 1 => fun M x1 => if (M.1 t 5) ≤ x1 then fX2_greetDawn_29 t M else fX2_greetDawn_10 t (fX2_greetDawn_2 t k) M x1
def fX2_greetDawn_0 (t : Nat) (M : CS) : Option (CS) := fX2_greetDawn_2 t FU M 0
def fX2_greetDawn (M : CS) (t : Nat) : Option (CS) := fX2_greetDawn_0 t  M
def fX8_takeName_35 (M : CS) (s0 : Int32) : Option (Int32 × CS) := some (s0, M)
def fX8_takeName_34 (M : CS) : Option (Int32 × CS) := fX8_takeName_35 M 0
def fX8_takeName_30 (M : CS) : Option (Int32 × CS) := fX8_takeName_35 M 1
def fX8_takeName_27 (M : CS) (s0 : Int32) : Option (Int32 × CS) := if s0 = 0 then fX8_takeName_34 M else fX8_takeName_30 M
def fX8_takeName_22 (M : CS) : Option (Int32 × CS) := (fX8_fail M 1).bind fun q => fX8_takeName_27 q.2 q.1
def fX8_takeName_17 (M : CS) (s0 : Int32) : Option (Int32 × CS) := if s0 ≤ 6 then fX8_takeName_30 M else fX8_takeName_22 M
def fX8_takeName_13 (M : CS) : Option (Int32 × CS) := (fX8_tokenLength M ).bind fun q => fX8_takeName_17 M q
def fX8_takeName_4 (M : CS) (s0 : Int32) : Option (Int32 × CS) := if (M.1 1 4) = 1 then fX8_takeName_13 M else fX8_takeName_22 M
def fX8_takeName_0 (M : CS) : Option (Int32 × CS) := (fX8_advance M ).bind fun q => fX8_takeName_4 q.2 q.1
def fX8_takeName (M : CS) : Option (Int32 × CS) := bz (fX8_takeName_0  M)
def fX8_takeSemicolon_26 (M : CS) (s0 : Int32) : Option (Int32 × CS) := some (s0, M)
def fX8_takeSemicolon_21 (M : CS) : Option (Int32 × CS) := fX8_takeSemicolon_26 M 1
def fX8_takeSemicolon_25 (M : CS) : Option (Int32 × CS) := fX8_takeSemicolon_26 M 0
def fX8_takeSemicolon_18 (M : CS) (s0 : Int32) : Option (Int32 × CS) := if s0 = 0 then fX8_takeSemicolon_25 M else fX8_takeSemicolon_21 M
def fX8_takeSemicolon_13 (M : CS) : Option (Int32 × CS) := (fX8_fail M 1).bind fun q => fX8_takeSemicolon_18 q.2 q.1
def fX8_takeSemicolon_4 (M : CS) (s0 : Int32) : Option (Int32 × CS) := if (M.1 1 4) = 3 then fX8_takeSemicolon_21 M else fX8_takeSemicolon_13 M
def fX8_takeSemicolon_0 (M : CS) : Option (Int32 × CS) := (fX8_advance M ).bind fun q => fX8_takeSemicolon_4 q.2 q.1
def fX8_takeSemicolon (M : CS) : Option (Int32 × CS) := bz (fX8_takeSemicolon_0  M)
def fX8_takeNumber_93 (M : CS) (s0 : Int32) : Option (Int32 × CS) := some (s0, M)
def fX8_takeNumber_92 (M : CS) : Option (Int32 × CS) := fX8_takeNumber_93 M 0
def fX8_takeNumber_88 (M : CS) : Option (Int32 × CS) := fX8_takeNumber_93 M 1
def fX8_takeNumber_85 (M : CS) (s0 : Int32) : Option (Int32 × CS) := if s0 = 0 then fX8_takeNumber_92 M else fX8_takeNumber_88 M
def fX8_takeNumber_80 (M : CS) : Option (Int32 × CS) := (fX8_fail M 2).bind fun q => fX8_takeNumber_85 q.2 q.1
def fX8_takeNumber_72 (M : CS) (x2 : Int32) : Option (Int32 × CS) := if (M.1 1 6) ≤ x2 then fX8_takeNumber_88 M else fX8_takeNumber_80 M
def fX8_takeNumber_64 (M : CS) (x1 : Int32) (x2 : Int32) : Option (Int32 × CS) := if (M.1 1 6) < x1 then fX8_takeNumber_80 M else fX8_takeNumber_72 M x2
def fX8_takeNumber_58 (K29 : CS → Int32 → Int32 → Int32 → Option (Int32 × CS)) (M : CS) (x1 : Int32) (x2 : Int32) (x3 : Int32) : Option (Int32 × CS) := K29 M x1 x2 (x3 + 1)
def fX8_takeNumber_37 (K29 : CS → Int32 → Int32 → Int32 → Option (Int32 × CS)) (M : CS) (x1 : Int32) (x2 : Int32) (x3 : Int32) : Option (Int32 × CS) := if gIn x3 600 then fX8_takeNumber_58 K29 (va_up M.1 1 (upd (M.1 1) 6 ((((M.1 1 6) * 10) + (M.1 2 x3.toNatClampNeg)) - 48)), M.2) x1 x2 x3 else none
def fX8_takeNumber_29 : Nat → CS → Int32 → Int32 → Int32 → Option (Int32 × CS)
  | 0 => fun _ _ _ _ => none
  | k + 1 => fun M x1 x2 x3 => if (M.1 1 3) ≤ x3 then fX8_takeNumber_64 M x1 x2 else fX8_takeNumber_37 (fX8_takeNumber_29 k) M x1 x2 x3
def fX8_takeNumber_24 (M : CS) (x1 : Int32) (x2 : Int32) : Option (Int32 × CS) := fX8_takeNumber_29 FU M x1 x2 (M.1 1 5)
def fX8_takeNumber_19 (M : CS) (x1 : Int32) (x2 : Int32) : Option (Int32 × CS) := fX8_takeNumber_24 (va_up M.1 1 (upd (M.1 1) 6 0), M.2) x1 x2
def fX8_takeNumber_18 (M : CS) (s0 : Int32) : Option (Int32 × CS) := some (s0, M)
def fX8_takeNumber_13 (M : CS) : Option (Int32 × CS) := (fX8_fail M 1).bind fun q => fX8_takeNumber_18 q.2 q.1
def fX8_takeNumber_4 (M : CS) (x1 : Int32) (x2 : Int32) (s0 : Int32) : Option (Int32 × CS) := if (M.1 1 4) = 2 then fX8_takeNumber_19 M x1 x2 else fX8_takeNumber_13 M
def fX8_takeNumber_0 (M : CS) (a1 : Int32) (a2 : Int32) : Option (Int32 × CS) := (fX8_advance M ).bind fun q => fX8_takeNumber_4 q.2 a1 a2 q.1
def fX8_takeNumber (M : CS) (a1 : Int32) (a2 : Int32) : Option (Int32 × CS) := bz (fX8_takeNumber_0  M a1 a2)
def fX10_appendInput_60 (M : CS) : Option (Int32 × CS) := some ((M.1 1 2), M)
def fX10_appendInput_51 (M : CS) (x5 : Int32) : Option (Int32 × CS) := (fX8_appendFour M x5).bind fun q => fX10_appendInput_60 q
def fX10_appendInput_42 (M : CS) (x4 : Int32) (x5 : Int32) : Option (Int32 × CS) := (fX8_appendFour M x4).bind fun q => fX10_appendInput_51 q x5
def fX10_appendInput_34 (M : CS) (x3 : Int32) (x4 : Int32) (x5 : Int32) : Option (Int32 × CS) := (fX8_appendFour M x3).bind fun q => fX10_appendInput_42 q x4 x5
def fX10_appendInput_26 (M : CS) (x2 : Int32) (x3 : Int32) (x4 : Int32) (x5 : Int32) : Option (Int32 × CS) := (fX8_appendFour M x2).bind fun q => fX10_appendInput_34 q x3 x4 x5
def fX10_appendInput_18 (M : CS) (x1 : Int32) (x2 : Int32) (x3 : Int32) (x4 : Int32) (x5 : Int32) : Option (Int32 × CS) := (fX8_appendFour M x1).bind fun q => fX10_appendInput_26 q x2 x3 x4 x5
def fX10_appendInput_16 (M : CS) : Option (Int32 × CS) := some ((-1), M)
def fX10_appendInput_0 (M : CS) (a1 : Int32) (a2 : Int32) (a3 : Int32) (a4 : Int32) (a5 : Int32) : Option (Int32 × CS) := if ((M.1 1 2) + 20) ≤ 600 then fX10_appendInput_18 M a1 a2 a3 a4 a5 else fX10_appendInput_16 M
def fX10_appendInput (M : CS) (a1 : Int32) (a2 : Int32) (a3 : Int32) (a4 : Int32) (a5 : Int32) : Option (Int32 × CS) := fX10_appendInput_0  M a1 a2 a3 a4 a5
def fX10_strengthOf_8 (M : CS) (s0 : Int32) : Option (Int32) := some s0
def fX10_strengthOf_5 (M : CS) (z0 : Nat) : Option (Int32) := (fX0_strength M z0).bind fun q => fX10_strengthOf_8 M q
def fX10_strengthOf_0 (M : CS) (a1 : Int32) : Option (Int32) := (fX10_catAt M a1).bind fun q => fX10_strengthOf_5 M q
def fX10_strengthOf (M : CS) (a1 : Int32) : Option (Int32) := fX10_strengthOf_0  M a1
def fX10_isConsistent_35 (M : CS) (s0 : Int32) : Option (Int32) := some s0
def fX10_isConsistent_34 (M : CS) : Option (Int32) := fX10_isConsistent_35 M 0
def fX10_isConsistent_30 (M : CS) : Option (Int32) := fX10_isConsistent_35 M 1
def fX10_isConsistent_27 (M : CS) (s0 : Int32) : Option (Int32) := if s0 = 0 then fX10_isConsistent_34 M else fX10_isConsistent_30 M
def fX10_isConsistent_20 (M : CS) : Option (Int32) := (fX2_catsAddUp M 13).bind fun q => fX10_isConsistent_27 M q
def fX10_isConsistent_17 (M : CS) (s0 : Int32) : Option (Int32) := if s0 = 0 then fX10_isConsistent_34 M else fX10_isConsistent_20 M
def fX10_isConsistent_10 (M : CS) : Option (Int32) := (fX2_grainAddsUp M 13).bind fun q => fX10_isConsistent_17 M q
def fX10_isConsistent_7 (M : CS) (s0 : Int32) : Option (Int32) := if s0 = 0 then fX10_isConsistent_34 M else fX10_isConsistent_10 M
def fX10_isConsistent_0 (M : CS) : Option (Int32) := (fX2_miceAddUp M 13).bind fun q => fX10_isConsistent_7 M q
def fX10_isConsistent (M : CS) : Option (Int32) := bq (fX10_isConsistent_0  M)
def fX2_passHour_92 (t : Nat) (M : CS) : Option (CS) := some M
def fX2_passHour_88 (t : Nat) (M : CS) : Option (CS) := (fX2_greetDawn M t).bind fun q => fX2_passHour_92 t q
def fX2_passHour_76 (t : Nat) (M : CS) : Option (CS) := if ((M.1 t 12) - (M.1 t 12) / 24 * 24) = 6 then fX2_passHour_88 t M else fX2_passHour_92 t M
def fX2_passHour_72 (t : Nat) (M : CS) : Option (CS) := (fX2_changeShift M t).bind fun q => fX2_passHour_76 t q
def fX2_passHour_65 (t : Nat) (M : CS) : Option (CS) := if 0 < (M.1 t 10) then fX2_passHour_76 t M else fX2_passHour_72 t M
def fX2_passHour_55 (t : Nat) (M : CS) : Option (CS) := fX2_passHour_65 t (va_up M.1 t (upd (M.1 t) 10 ((M.1 t 10) - 1)), M.2)
def fX2_passHour_49 (t : Nat) (M : CS) (s0 : Int32) : Option (CS) := (fX2_restAllBut M t s0).bind fun q => fX2_passHour_55 t q
def fX2_passHour_45 (t : Nat) (M : CS) : Option (CS) := (fX2_hunt M t).bind fun q => fX2_passHour_49 t q.2 q.1
def fX2_passHour_41 (t : Nat) (M : CS) : Option (CS) := (fX2_growMice M t).bind fun q => fX2_passHour_45 t q
def fX2_passHour_31 (t : Nat) (M : CS) : Option (CS) := if ((M.1 t 12) - (M.1 t 12) / 24 * 24) = 0 then fX2_passHour_41 t M else fX2_passHour_45 t M
def fX2_passHour_25 (t : Nat) (K12 : CS → Int32 → Option (CS)) (M : CS) (x1 : Int32) : Option (CS) := K12 M (x1 + 1)
def fX2_passHour_20 (t : Nat) (K12 : CS → Int32 → Option (CS)) (M : CS) (x1 : Int32) : Option (CS) := (fX2_feedMice M t x1).bind fun q => fX2_passHour_25 t K12 q x1
def fX2_passHour_12 (t : Nat) : Nat → CS → Int32 → Option (CS)
  | 0 => fun _ _ => none
  | k + 1 => fun M x1 => if (M.1 t 6) ≤ x1 then fX2_passHour_31 t M else fX2_passHour_20 t (fX2_passHour_12 t k) M x1
def fX2_passHour_10 (t : Nat) (M : CS) : Option (CS) := fX2_passHour_12 t FU M 0
def fX2_passHour_0 (t : Nat) (M : CS) : Option (CS) := fX2_passHour_10 t (va_up M.1 t (upd (M.1 t) 12 ((M.1 t 12) + 1)), M.2)
def fX2_passHour (M : CS) (t : Nat) : Option (CS) := fX2_passHour_0 t  M
set_option maxRecDepth 10000 in
theorem kX10_tirednessOf_5 {r : Int32} {M : CS} {z0 : Nat} (X : gX p s m args c cX10_tirednessOf 2 RX10 (kR kTab kA)) (hret : gRetR p l e (rmL 2 0 0) s m args below meth c cX10_tirednessOf Q r) (hkz0 : kc z0 = 18) (hf : fX10_tirednessOf_5 M z0 = some r) {ls : Array Slot} (hP : (cP dC dI cg kA ca) M s s.heap) (hl : lv_has ls 2 [(0, .ref (ca 0))]) : W p l e (rmL 2 0 0) s m args below meth c s.heap [] 0 0 Q (F0 m 5 ls [.ref (ca z0)]) := by
  have hx := X.hx
  have hb := X.hb
  have hown := X.hown
  have hts := X.hts
  rw [fX10_tirednessOf_5] at hf
  refine cr_get (k := 3) X hP hkz0 rfl cv18_3 rfl cinX0 (by decide) rfl tw224 dX10_tirednessOf_5 ?_
  cases hf
  exact hret _ _ dX10_tirednessOf_8
set_option maxRecDepth 10000 in
theorem kX10_tirednessOf_0 {r : Int32} {M : CS} {a1 : Int32} (X : gX p s m args c cX10_tirednessOf 2 RX10 (kR kTab kA)) (hret : gRetR p l e (rmL 2 0 0) s m args below meth c cX10_tirednessOf Q r) (hf : fX10_tirednessOf_0 M a1 = some r) {ls : Array Slot} (hP : (cP dC dI cg kA ca) M s s.heap) (hl : lv_has ls 2 [(0, .ref (ca 0)), (1, .int a1)]) : W p l e (rmL 2 0 0) s m args below meth c s.heap [] 0 0 Q (F0 m 0 ls []) := by
  have hx := X.hx
  have hb := X.hb
  have hown := X.hown
  have hts := X.hts
  rw [fX10_tirednessOf_0] at hf
  refine lv_aload_n hx hb dX10_tirednessOf_0 rfl (lv_at hl 0 rfl) ?_
  refine lv_iload_n hx hb dX10_tirednessOf_1 rfl (lv_at hl 1 rfl) ?_
  obtain ⟨q, hc, hf⟩ := bd hf
  refine gCallVP X rfl (vX10_catAt hc) gRX10_X10_catAt hdX10_catAt rfl ⟨by decide, by decide⟩ (gB_blind cOK) (gB_at cOK X hP) (cr_rec hP (rfl : kc 0 = 0) rfl cw0 rfl) hl.1 (Nat.le_of_ble_eq_true rfl) ⟨Nat.zero_le _, Nat.zero_le _⟩ dX10_tirednessOf_2 (As := [.int a1]) (rest := []) rfl ?_
  exact kX10_tirednessOf_5 X hret (kkX10_catAt hc) hf hP (lv_sub hl [0] rfl)
theorem vX10_tirednessOf {l : Launch} {dC : Nat → ClassId} {dI : Nat → Nat → Nat} {cg : Nat → ClassId} {kA : String → Nat → Nat} {ca : Nat → Nat} {M : CS} {r : Int32} {a1 : Int32} (hf : fX10_tirednessOf M a1 = some r) : gMetR l yX10_tirednessOf cX10_tirednessOf 2 (some .int) 2 (gB (cP dC dI cg kA ca) (kR kTab kA) M) [.ref (ca 0), .int a1] r := gEntryR (ty := .int) (by decide) rfl rfl (Nat.le_of_ble_eq_true rfl) (fun _ h => h.2) (fun p e s m args below meth c Q ls X hB hret hl => 
  kX10_tirednessOf_0 X hret hf hB.1 (lv_sub hl [0, 1] rfl))
set_option maxRecDepth 10000 in
theorem kX10_caughtBy_5 {r : Int32} {M : CS} {z0 : Nat} (X : gX p s m args c cX10_caughtBy 2 RX10 (kR kTab kA)) (hret : gRetR p l e (rmL 2 0 0) s m args below meth c cX10_caughtBy Q r) (hkz0 : kc z0 = 18) (hf : fX10_caughtBy_5 M z0 = some r) {ls : Array Slot} (hP : (cP dC dI cg kA ca) M s s.heap) (hl : lv_has ls 2 [(0, .ref (ca 0))]) : W p l e (rmL 2 0 0) s m args below meth c s.heap [] 0 0 Q (F0 m 5 ls [.ref (ca z0)]) := by
  have hx := X.hx
  have hb := X.hb
  have hown := X.hown
  have hts := X.hts
  rw [fX10_caughtBy_5] at hf
  refine cr_get (k := 4) X hP hkz0 rfl cv18_4 rfl cinX0 (by decide) rfl tw228 dX10_caughtBy_5 ?_
  cases hf
  exact hret _ _ dX10_caughtBy_8
set_option maxRecDepth 10000 in
theorem kX10_caughtBy_0 {r : Int32} {M : CS} {a1 : Int32} (X : gX p s m args c cX10_caughtBy 2 RX10 (kR kTab kA)) (hret : gRetR p l e (rmL 2 0 0) s m args below meth c cX10_caughtBy Q r) (hf : fX10_caughtBy_0 M a1 = some r) {ls : Array Slot} (hP : (cP dC dI cg kA ca) M s s.heap) (hl : lv_has ls 2 [(0, .ref (ca 0)), (1, .int a1)]) : W p l e (rmL 2 0 0) s m args below meth c s.heap [] 0 0 Q (F0 m 0 ls []) := by
  have hx := X.hx
  have hb := X.hb
  have hown := X.hown
  have hts := X.hts
  rw [fX10_caughtBy_0] at hf
  refine lv_aload_n hx hb dX10_caughtBy_0 rfl (lv_at hl 0 rfl) ?_
  refine lv_iload_n hx hb dX10_caughtBy_1 rfl (lv_at hl 1 rfl) ?_
  obtain ⟨q, hc, hf⟩ := bd hf
  refine gCallVP X rfl (vX10_catAt hc) gRX10_X10_catAt hdX10_catAt rfl ⟨by decide, by decide⟩ (gB_blind cOK) (gB_at cOK X hP) (cr_rec hP (rfl : kc 0 = 0) rfl cw0 rfl) hl.1 (Nat.le_of_ble_eq_true rfl) ⟨Nat.zero_le _, Nat.zero_le _⟩ dX10_caughtBy_2 (As := [.int a1]) (rest := []) rfl ?_
  exact kX10_caughtBy_5 X hret (kkX10_catAt hc) hf hP (lv_sub hl [0] rfl)
theorem vX10_caughtBy {l : Launch} {dC : Nat → ClassId} {dI : Nat → Nat → Nat} {cg : Nat → ClassId} {kA : String → Nat → Nat} {ca : Nat → Nat} {M : CS} {r : Int32} {a1 : Int32} (hf : fX10_caughtBy M a1 = some r) : gMetR l yX10_caughtBy cX10_caughtBy 2 (some .int) 2 (gB (cP dC dI cg kA ca) (kR kTab kA) M) [.ref (ca 0), .int a1] r := gEntryR (ty := .int) (by decide) rfl rfl (Nat.le_of_ble_eq_true rfl) (fun _ h => h.2) (fun p e s m args below meth c Q ls X hB hret hl => 
  kX10_caughtBy_0 X hret hf hB.1 (lv_sub hl [0, 1] rfl))
set_option maxRecDepth 10000 in
theorem kX10_oathsOf_5 {r : Int32} {M : CS} {z0 : Nat} (X : gX p s m args c cX10_oathsOf 2 RX10 (kR kTab kA)) (hret : gRetR p l e (rmL 2 0 0) s m args below meth c cX10_oathsOf Q r) (hkz0 : kc z0 = 18) (hf : fX10_oathsOf_5 M z0 = some r) {ls : Array Slot} (hP : (cP dC dI cg kA ca) M s s.heap) (hl : lv_has ls 2 [(0, .ref (ca 0))]) : W p l e (rmL 2 0 0) s m args below meth c s.heap [] 0 0 Q (F0 m 5 ls [.ref (ca z0)]) := by
  have hx := X.hx
  have hb := X.hb
  have hown := X.hown
  have hts := X.hts
  rw [fX10_oathsOf_5] at hf
  refine cr_get (k := 5) X hP hkz0 rfl cv18_5 rfl cinX0 (by decide) rfl tw231 dX10_oathsOf_5 ?_
  cases hf
  exact hret _ _ dX10_oathsOf_8
set_option maxRecDepth 10000 in
theorem kX10_oathsOf_0 {r : Int32} {M : CS} {a1 : Int32} (X : gX p s m args c cX10_oathsOf 2 RX10 (kR kTab kA)) (hret : gRetR p l e (rmL 2 0 0) s m args below meth c cX10_oathsOf Q r) (hf : fX10_oathsOf_0 M a1 = some r) {ls : Array Slot} (hP : (cP dC dI cg kA ca) M s s.heap) (hl : lv_has ls 2 [(0, .ref (ca 0)), (1, .int a1)]) : W p l e (rmL 2 0 0) s m args below meth c s.heap [] 0 0 Q (F0 m 0 ls []) := by
  have hx := X.hx
  have hb := X.hb
  have hown := X.hown
  have hts := X.hts
  rw [fX10_oathsOf_0] at hf
  refine lv_aload_n hx hb dX10_oathsOf_0 rfl (lv_at hl 0 rfl) ?_
  refine lv_iload_n hx hb dX10_oathsOf_1 rfl (lv_at hl 1 rfl) ?_
  obtain ⟨q, hc, hf⟩ := bd hf
  refine gCallVP X rfl (vX10_catAt hc) gRX10_X10_catAt hdX10_catAt rfl ⟨by decide, by decide⟩ (gB_blind cOK) (gB_at cOK X hP) (cr_rec hP (rfl : kc 0 = 0) rfl cw0 rfl) hl.1 (Nat.le_of_ble_eq_true rfl) ⟨Nat.zero_le _, Nat.zero_le _⟩ dX10_oathsOf_2 (As := [.int a1]) (rest := []) rfl ?_
  exact kX10_oathsOf_5 X hret (kkX10_catAt hc) hf hP (lv_sub hl [0] rfl)
theorem vX10_oathsOf {l : Launch} {dC : Nat → ClassId} {dI : Nat → Nat → Nat} {cg : Nat → ClassId} {kA : String → Nat → Nat} {ca : Nat → Nat} {M : CS} {r : Int32} {a1 : Int32} (hf : fX10_oathsOf M a1 = some r) : gMetR l yX10_oathsOf cX10_oathsOf 2 (some .int) 2 (gB (cP dC dI cg kA ca) (kR kTab kA) M) [.ref (ca 0), .int a1] r := gEntryR (ty := .int) (by decide) rfl rfl (Nat.le_of_ble_eq_true rfl) (fun _ h => h.2) (fun p e s m args below meth c Q ls X hB hret hl => 
  kX10_oathsOf_0 X hret hf hB.1 (lv_sub hl [0, 1] rfl))
set_option maxRecDepth 10000 in
theorem kX10_grainIn_5 {r : Int32} {M : CS} {z0 : Nat} (X : gX p s m args c cX10_grainIn 2 RX10 (kR kTab kA)) (hret : gRetR p l e (rmL 2 0 0) s m args below meth c cX10_grainIn Q r) (hkz0 : kc z0 = 19) (hf : fX10_grainIn_5 M z0 = some r) {ls : Array Slot} (hP : (cP dC dI cg kA ca) M s s.heap) (hl : lv_has ls 2 [(0, .ref (ca 0))]) : W p l e (rmL 2 0 0) s m args below meth c s.heap [] 0 0 Q (F0 m 5 ls [.ref (ca z0)]) := by
  have hx := X.hx
  have hb := X.hb
  have hown := X.hown
  have hts := X.hts
  rw [fX10_grainIn_5] at hf
  refine cr_get (k := 1) X hP hkz0 rfl cv19_1 rfl cinX4 (by decide) rfl tw257 dX10_grainIn_5 ?_
  cases hf
  exact hret _ _ dX10_grainIn_8
set_option maxRecDepth 10000 in
theorem kX10_grainIn_0 {r : Int32} {M : CS} {a1 : Int32} (X : gX p s m args c cX10_grainIn 2 RX10 (kR kTab kA)) (hret : gRetR p l e (rmL 2 0 0) s m args below meth c cX10_grainIn Q r) (hf : fX10_grainIn_0 M a1 = some r) {ls : Array Slot} (hP : (cP dC dI cg kA ca) M s s.heap) (hl : lv_has ls 2 [(0, .ref (ca 0)), (1, .int a1)]) : W p l e (rmL 2 0 0) s m args below meth c s.heap [] 0 0 Q (F0 m 0 ls []) := by
  have hx := X.hx
  have hb := X.hb
  have hown := X.hown
  have hts := X.hts
  rw [fX10_grainIn_0] at hf
  refine lv_aload_n hx hb dX10_grainIn_0 rfl (lv_at hl 0 rfl) ?_
  refine lv_iload_n hx hb dX10_grainIn_1 rfl (lv_at hl 1 rfl) ?_
  obtain ⟨q, hc, hf⟩ := bd hf
  refine gCallVP X rfl (vX10_sackAt hc) gRX10_X10_sackAt hdX10_sackAt rfl ⟨by decide, by decide⟩ (gB_blind cOK) (gB_at cOK X hP) (cr_rec hP (rfl : kc 0 = 0) rfl cw0 rfl) hl.1 (Nat.le_of_ble_eq_true rfl) ⟨Nat.zero_le _, Nat.zero_le _⟩ dX10_grainIn_2 (As := [.int a1]) (rest := []) rfl ?_
  exact kX10_grainIn_5 X hret (kkX10_sackAt hc) hf hP (lv_sub hl [0] rfl)
theorem vX10_grainIn {l : Launch} {dC : Nat → ClassId} {dI : Nat → Nat → Nat} {cg : Nat → ClassId} {kA : String → Nat → Nat} {ca : Nat → Nat} {M : CS} {r : Int32} {a1 : Int32} (hf : fX10_grainIn M a1 = some r) : gMetR l yX10_grainIn cX10_grainIn 2 (some .int) 2 (gB (cP dC dI cg kA ca) (kR kTab kA) M) [.ref (ca 0), .int a1] r := gEntryR (ty := .int) (by decide) rfl rfl (Nat.le_of_ble_eq_true rfl) (fun _ h => h.2) (fun p e s m args below meth c Q ls X hB hret hl => 
  kX10_grainIn_0 X hret hf hB.1 (lv_sub hl [0, 1] rfl))
set_option maxRecDepth 10000 in
theorem kX10_miceIn_5 {r : Int32} {M : CS} {z0 : Nat} (X : gX p s m args c cX10_miceIn 2 RX10 (kR kTab kA)) (hret : gRetR p l e (rmL 2 0 0) s m args below meth c cX10_miceIn Q r) (hkz0 : kc z0 = 19) (hf : fX10_miceIn_5 M z0 = some r) {ls : Array Slot} (hP : (cP dC dI cg kA ca) M s s.heap) (hl : lv_has ls 2 [(0, .ref (ca 0))]) : W p l e (rmL 2 0 0) s m args below meth c s.heap [] 0 0 Q (F0 m 5 ls [.ref (ca z0)]) := by
  have hx := X.hx
  have hb := X.hb
  have hown := X.hown
  have hts := X.hts
  rw [fX10_miceIn_5] at hf
  refine cr_get (k := 2) X hP hkz0 rfl cv19_2 rfl cinX4 (by decide) rfl tw261 dX10_miceIn_5 ?_
  cases hf
  exact hret _ _ dX10_miceIn_8
set_option maxRecDepth 10000 in
theorem kX10_miceIn_0 {r : Int32} {M : CS} {a1 : Int32} (X : gX p s m args c cX10_miceIn 2 RX10 (kR kTab kA)) (hret : gRetR p l e (rmL 2 0 0) s m args below meth c cX10_miceIn Q r) (hf : fX10_miceIn_0 M a1 = some r) {ls : Array Slot} (hP : (cP dC dI cg kA ca) M s s.heap) (hl : lv_has ls 2 [(0, .ref (ca 0)), (1, .int a1)]) : W p l e (rmL 2 0 0) s m args below meth c s.heap [] 0 0 Q (F0 m 0 ls []) := by
  have hx := X.hx
  have hb := X.hb
  have hown := X.hown
  have hts := X.hts
  rw [fX10_miceIn_0] at hf
  refine lv_aload_n hx hb dX10_miceIn_0 rfl (lv_at hl 0 rfl) ?_
  refine lv_iload_n hx hb dX10_miceIn_1 rfl (lv_at hl 1 rfl) ?_
  obtain ⟨q, hc, hf⟩ := bd hf
  refine gCallVP X rfl (vX10_sackAt hc) gRX10_X10_sackAt hdX10_sackAt rfl ⟨by decide, by decide⟩ (gB_blind cOK) (gB_at cOK X hP) (cr_rec hP (rfl : kc 0 = 0) rfl cw0 rfl) hl.1 (Nat.le_of_ble_eq_true rfl) ⟨Nat.zero_le _, Nat.zero_le _⟩ dX10_miceIn_2 (As := [.int a1]) (rest := []) rfl ?_
  exact kX10_miceIn_5 X hret (kkX10_sackAt hc) hf hP (lv_sub hl [0] rfl)
theorem vX10_miceIn {l : Launch} {dC : Nat → ClassId} {dI : Nat → Nat → Nat} {cg : Nat → ClassId} {kA : String → Nat → Nat} {ca : Nat → Nat} {M : CS} {r : Int32} {a1 : Int32} (hf : fX10_miceIn M a1 = some r) : gMetR l yX10_miceIn cX10_miceIn 2 (some .int) 2 (gB (cP dC dI cg kA ca) (kR kTab kA) M) [.ref (ca 0), .int a1] r := gEntryR (ty := .int) (by decide) rfl rfl (Nat.le_of_ble_eq_true rfl) (fun _ h => h.2) (fun p e s m args below meth c Q ls X hB hret hl => 
  kX10_miceIn_0 X hret hf hB.1 (lv_sub hl [0, 1] rfl))
set_option maxRecDepth 10000 in
theorem kX10_isOpen_5 {r : Int32} {M : CS} {z0 : Nat} (X : gX p s m args c cX10_isOpen 2 RX10 (kR kTab kA)) (hret : gRetR p l e (rmL 2 0 0) s m args below meth c cX10_isOpen Q r) (hkz0 : kc z0 = 19) (hf : fX10_isOpen_5 M z0 = some r) {ls : Array Slot} (hP : (cP dC dI cg kA ca) M s s.heap) (hl : lv_has ls 2 [(0, .ref (ca 0))]) : W p l e (rmL 2 0 0) s m args below meth c s.heap [] 0 0 Q (F0 m 5 ls [.ref (ca z0)]) := by
  have hx := X.hx
  have hb := X.hb
  have hown := X.hown
  have hts := X.hts
  rw [fX10_isOpen_5] at hf
  refine cr_get (k := 3) X hP hkz0 rfl cv19_3 rfl cinX4 (by decide) rfl tw265 dX10_isOpen_5 ?_
  cases hf
  exact hret _ _ dX10_isOpen_8
set_option maxRecDepth 10000 in
theorem kX10_isOpen_0 {r : Int32} {M : CS} {a1 : Int32} (X : gX p s m args c cX10_isOpen 2 RX10 (kR kTab kA)) (hret : gRetR p l e (rmL 2 0 0) s m args below meth c cX10_isOpen Q r) (hf : fX10_isOpen_0 M a1 = some r) {ls : Array Slot} (hP : (cP dC dI cg kA ca) M s s.heap) (hl : lv_has ls 2 [(0, .ref (ca 0)), (1, .int a1)]) : W p l e (rmL 2 0 0) s m args below meth c s.heap [] 0 0 Q (F0 m 0 ls []) := by
  have hx := X.hx
  have hb := X.hb
  have hown := X.hown
  have hts := X.hts
  rw [fX10_isOpen_0] at hf
  refine lv_aload_n hx hb dX10_isOpen_0 rfl (lv_at hl 0 rfl) ?_
  refine lv_iload_n hx hb dX10_isOpen_1 rfl (lv_at hl 1 rfl) ?_
  obtain ⟨q, hc, hf⟩ := bd hf
  refine gCallVP X rfl (vX10_sackAt hc) gRX10_X10_sackAt hdX10_sackAt rfl ⟨by decide, by decide⟩ (gB_blind cOK) (gB_at cOK X hP) (cr_rec hP (rfl : kc 0 = 0) rfl cw0 rfl) hl.1 (Nat.le_of_ble_eq_true rfl) ⟨Nat.zero_le _, Nat.zero_le _⟩ dX10_isOpen_2 (As := [.int a1]) (rest := []) rfl ?_
  exact kX10_isOpen_5 X hret (kkX10_sackAt hc) hf hP (lv_sub hl [0] rfl)
theorem vX10_isOpen {l : Launch} {dC : Nat → ClassId} {dI : Nat → Nat → Nat} {cg : Nat → ClassId} {kA : String → Nat → Nat} {ca : Nat → Nat} {M : CS} {r : Int32} {a1 : Int32} (hf : fX10_isOpen M a1 = some r) : gMetR l yX10_isOpen cX10_isOpen 2 (some .boolean) 2 (gB (cP dC dI cg kA ca) (kR kTab kA) M) [.ref (ca 0), .int a1] r := gEntryR (ty := .boolean) (by decide) rfl (bq_n hf) (Nat.le_of_ble_eq_true rfl) (fun _ h => h.2) (fun p e s m args below meth c Q ls X hB hret hl => 
  kX10_isOpen_0 X hret (bq_f hf) hB.1 (lv_sub hl [0, 1] rfl))
set_option maxRecDepth 10000 in
theorem kX10_eatenFrom_5 {r : Int32} {M : CS} {z0 : Nat} (X : gX p s m args c cX10_eatenFrom 2 RX10 (kR kTab kA)) (hret : gRetR p l e (rmL 2 0 0) s m args below meth c cX10_eatenFrom Q r) (hkz0 : kc z0 = 19) (hf : fX10_eatenFrom_5 M z0 = some r) {ls : Array Slot} (hP : (cP dC dI cg kA ca) M s s.heap) (hl : lv_has ls 2 [(0, .ref (ca 0))]) : W p l e (rmL 2 0 0) s m args below meth c s.heap [] 0 0 Q (F0 m 5 ls [.ref (ca z0)]) := by
  have hx := X.hx
  have hb := X.hb
  have hown := X.hown
  have hts := X.hts
  rw [fX10_eatenFrom_5] at hf
  refine cr_get (k := 4) X hP hkz0 rfl cv19_4 rfl cinX4 (by decide) rfl tw269 dX10_eatenFrom_5 ?_
  cases hf
  exact hret _ _ dX10_eatenFrom_8
set_option maxRecDepth 10000 in
theorem kX10_eatenFrom_0 {r : Int32} {M : CS} {a1 : Int32} (X : gX p s m args c cX10_eatenFrom 2 RX10 (kR kTab kA)) (hret : gRetR p l e (rmL 2 0 0) s m args below meth c cX10_eatenFrom Q r) (hf : fX10_eatenFrom_0 M a1 = some r) {ls : Array Slot} (hP : (cP dC dI cg kA ca) M s s.heap) (hl : lv_has ls 2 [(0, .ref (ca 0)), (1, .int a1)]) : W p l e (rmL 2 0 0) s m args below meth c s.heap [] 0 0 Q (F0 m 0 ls []) := by
  have hx := X.hx
  have hb := X.hb
  have hown := X.hown
  have hts := X.hts
  rw [fX10_eatenFrom_0] at hf
  refine lv_aload_n hx hb dX10_eatenFrom_0 rfl (lv_at hl 0 rfl) ?_
  refine lv_iload_n hx hb dX10_eatenFrom_1 rfl (lv_at hl 1 rfl) ?_
  obtain ⟨q, hc, hf⟩ := bd hf
  refine gCallVP X rfl (vX10_sackAt hc) gRX10_X10_sackAt hdX10_sackAt rfl ⟨by decide, by decide⟩ (gB_blind cOK) (gB_at cOK X hP) (cr_rec hP (rfl : kc 0 = 0) rfl cw0 rfl) hl.1 (Nat.le_of_ble_eq_true rfl) ⟨Nat.zero_le _, Nat.zero_le _⟩ dX10_eatenFrom_2 (As := [.int a1]) (rest := []) rfl ?_
  exact kX10_eatenFrom_5 X hret (kkX10_sackAt hc) hf hP (lv_sub hl [0] rfl)
theorem vX10_eatenFrom {l : Launch} {dC : Nat → ClassId} {dI : Nat → Nat → Nat} {cg : Nat → ClassId} {kA : String → Nat → Nat} {ca : Nat → Nat} {M : CS} {r : Int32} {a1 : Int32} (hf : fX10_eatenFrom M a1 = some r) : gMetR l yX10_eatenFrom cX10_eatenFrom 2 (some .int) 2 (gB (cP dC dI cg kA ca) (kR kTab kA) M) [.ref (ca 0), .int a1] r := gEntryR (ty := .int) (by decide) rfl rfl (Nat.le_of_ble_eq_true rfl) (fun _ h => h.2) (fun p e s m args below meth c Q ls X hB hret hl => 
  kX10_eatenFrom_0 X hret hf hB.1 (lv_sub hl [0, 1] rfl))
set_option maxRecDepth 10000 in
theorem kX2_copyFrom_179 {S1 : CS} {t : Nat} {b1 : Nat} {M : CS} {H : Heap} {locs : List Loc} {ls : Array Slot} (X : gX p s m args c cX2_copyFrom 3 RX2 (kR kTab kA)) (hret : gRetV p l e (rmL 3 0 0) s m args below meth c cX2_copyFrom (cΩ ca) (cP dC dI cg kA ca) Q S1) (hkt : kc t = 11) (hkb1 : kc b1 = 11) (hf : fX2_copyFrom_179 t b1 M = some S1) (hP : (cP dC dI cg kA ca) M s H) (hS : va_S (Fr (cΩ ca) s.heap.size) s.heap H locs) (hl : lv_has ls 3 [(0, .ref (ca t))]) : W p l e (rmL 3 0 0) s m args below meth c H locs 0 0 Q (F0 m 179 ls []) := by
  have hx := X.hx
  have hb := X.hb
  have hown := X.hown
  have hts := X.hts
  rw [fX2_copyFrom_179] at hf
  cases hf
  exact hret _ _ _ _ dX2_copyFrom_179 hP hS
set_option maxRecDepth 10000 in
theorem kX2_copyFrom_173 {S1 : CS} {t : Nat} {b1 : Nat} {K150 : CS → Int32 → Option (CS)} {M : CS} {x2 : Int32} {H : Heap} {locs : List Loc} {ls : Array Slot} (X : gX p s m args c cX2_copyFrom 3 RX2 (kR kTab kA)) (hret : gRetV p l e (rmL 3 0 0) s m args below meth c cX2_copyFrom (cΩ ca) (cP dC dI cg kA ca) Q S1) (hkt : kc t = 11) (hkb1 : kc b1 = 11) (hK150 : ∀ (M : CS) (x2 : Int32) (H : Heap) (locs : List Loc) (ls : Array Slot), K150 M x2 = some S1 → (cP dC dI cg kA ca) M s H → va_S (Fr (cΩ ca) s.heap.size) s.heap H locs → lv_has ls 3 [(0, .ref (ca t)), (1, .ref (ca b1)), (2, .int x2)] → W p l e (rmL 3 0 0) s m args below meth c H locs 0 0 Q (F0 m 150 ls [])) (hf : fX2_copyFrom_173 t b1 K150 M x2 = some S1) (hP : (cP dC dI cg kA ca) M s H) (hS : va_S (Fr (cΩ ca) s.heap.size) s.heap H locs) (hl : lv_has ls 3 [(0, .ref (ca t)), (1, .ref (ca b1)), (2, .int x2)]) : W p l e (rmL 3 0 0) s m args below meth c H locs 0 0 Q (F0 m 173 ls []) := by
  have hx := X.hx
  have hb := X.hb
  have hown := X.hown
  have hts := X.hts
  rw [fX2_copyFrom_173] at hf
  refine lv_iinc (v := (x2 + 1)) (lv' := [(2, .int (x2 + 1)), (0, .ref (ca t)), (1, .ref (ca b1))]) hx hb dX2_copyFrom_173 hl (k := 2) rfl (by rfl) (by decide) rfl (fun ls hl => ?_)
  refine lv_goto (tgt := 150) hx hb dX2_copyFrom_176 (by decide) ?_
  exact hK150 _ _ _ _ _ hf hP hS (lv_sub hl [1, 2, 0] rfl)
set_option maxRecDepth 10000 in
theorem kX2_copyFrom_158 {S1 : CS} {t : Nat} {b1 : Nat} {K150 : CS → Int32 → Option (CS)} {M : CS} {x2 : Int32} {H : Heap} {locs : List Loc} {ls : Array Slot} (X : gX p s m args c cX2_copyFrom 3 RX2 (kR kTab kA)) (hret : gRetV p l e (rmL 3 0 0) s m args below meth c cX2_copyFrom (cΩ ca) (cP dC dI cg kA ca) Q S1) (hkt : kc t = 11) (hkb1 : kc b1 = 11) (hK150 : ∀ (M : CS) (x2 : Int32) (H : Heap) (locs : List Loc) (ls : Array Slot), K150 M x2 = some S1 → (cP dC dI cg kA ca) M s H → va_S (Fr (cΩ ca) s.heap.size) s.heap H locs → lv_has ls 3 [(0, .ref (ca t)), (1, .ref (ca b1)), (2, .int x2)] → W p l e (rmL 3 0 0) s m args below meth c H locs 0 0 Q (F0 m 150 ls [])) (hf : fX2_copyFrom_158 t b1 K150 M x2 = some S1) (hP : (cP dC dI cg kA ca) M s H) (hS : va_S (Fr (cΩ ca) s.heap.size) s.heap H locs) (hl : lv_has ls 3 [(0, .ref (ca t)), (1, .ref (ca b1)), (2, .int x2)]) : W p l e (rmL 3 0 0) s m args below meth c H locs 0 0 Q (F0 m 158 ls []) := by
  have hx := X.hx
  have hb := X.hb
  have hown := X.hown
  have hts := X.hts
  rw [fX2_copyFrom_158] at hf
  refine lv_aload_n hx hb dX2_copyFrom_158 rfl (lv_at hl 0 rfl) ?_
  refine cr_get (k := 2) X hP hkt rfl cv11_2 rfl cinX2 (by decide) rfl tw303 dX2_copyFrom_159 ?_
  refine lv_iload_n hx hb dX2_copyFrom_162 rfl (lv_at hl 2 rfl) ?_
  obtain ⟨g1, hf⟩ := gd hf
  refine cr_aald (f := fun i => (t + 3) + 20 + i) X hP (kc_shifts hkt) rfl (fun _ => rfl) rfl g1 dX2_copyFrom_163 ?_
  refine lv_aload_n hx hb dX2_copyFrom_164 rfl (lv_at hl 1 rfl) ?_
  refine cr_get (k := 2) X hP hkb1 rfl cv11_2 rfl cinX2 (by decide) rfl tw303 dX2_copyFrom_165 ?_
  refine lv_iload_n hx hb dX2_copyFrom_168 rfl (lv_at hl 2 rfl) ?_
  obtain ⟨g2, hf⟩ := gd hf
  refine cr_aald (f := fun i => (b1 + 3) + 20 + i) X hP (kc_shifts hkb1) rfl (fun _ => rfl) rfl g2 dX2_copyFrom_169 ?_
  obtain ⟨q, hc, hf⟩ := bd hf
  refine gCallVV X cOK rfl (vX7_copyFrom (kc_shift (kc_shifts hkt) g1) (kc_shift (kc_shifts hkb1) g2) hc) gRX2_X7_copyFrom hdX7_copyFrom rfl ⟨by decide, by decide⟩ hP hS (cr_rec hP (kc_shift (kc_shifts hkt) g1) rfl cw20 rfl) hl.1 (Nat.le_of_ble_eq_true rfl) ⟨Nat.zero_le _, Nat.zero_le _⟩ dX2_copyFrom_170 (As := [.ref (ca ((b1 + 3) + 20 + x2.toNatClampNeg))]) (rest := []) rfl (fun H locs hP hS => ?_)
  exact kX2_copyFrom_173 X hret hkt hkb1 hK150 hf hP hS (lv_sub hl [0, 1, 2] rfl)
set_option maxRecDepth 10000 in
theorem kX2_copyFrom_150 {S1 : CS} {t : Nat} {b1 : Nat} (X : gX p s m args c cX2_copyFrom 3 RX2 (kR kTab kA)) (hret : gRetV p l e (rmL 3 0 0) s m args below meth c cX2_copyFrom (cΩ ca) (cP dC dI cg kA ca) Q S1) (hkt : kc t = 11) (hkb1 : kc b1 = 11) : ∀ (n : Nat) (M : CS) (x2 : Int32) (H : Heap) (locs : List Loc) (ls : Array Slot), fX2_copyFrom_150 t b1 n M x2 = some S1 → (cP dC dI cg kA ca) M s H → va_S (Fr (cΩ ca) s.heap.size) s.heap H locs → lv_has ls 3 [(0, .ref (ca t)), (1, .ref (ca b1)), (2, .int x2)] → W p l e (rmL 3 0 0) s m args below meth c H locs 0 0 Q (F0 m 150 ls []) := by
  intro n
  induction n with
  | zero => intro M x2 H locs ls hf; cases hf
  | succ k ih =>
    intro M x2 H locs ls hf hP hS hl
    have hx := X.hx
    have hb := X.hb
    have hown := X.hown
    have hts := X.hts
    rw [fX2_copyFrom_150] at hf
    try dsimp only at hf
    refine lv_iload_n hx hb dX2_copyFrom_150 rfl (lv_at hl 2 rfl) ?_
    refine lv_aload_n hx hb dX2_copyFrom_151 rfl (lv_at hl 0 rfl) ?_
    refine cr_get (k := 7) X hP hkt rfl cv11_7 rfl cinX2 (by decide) rfl tw314 dX2_copyFrom_152 ?_
    refine lv_icmp_ge (tgt := 179) hx hb dX2_copyFrom_155 (by decide) (fun c1 => ?_) (fun c1 => ?_)
    · exact kX2_copyFrom_179 X hret hkt hkb1 (ifp c1 hf) hP hS (lv_sub hl [0] rfl)
    · exact kX2_copyFrom_158 X hret hkt hkb1 ih (ifn c1 hf) hP hS (lv_sub hl [0, 1, 2] rfl)
set_option maxRecDepth 10000 in
theorem kX2_copyFrom_148 {S1 : CS} {t : Nat} {b1 : Nat} {M : CS} {H : Heap} {locs : List Loc} {ls : Array Slot} (X : gX p s m args c cX2_copyFrom 3 RX2 (kR kTab kA)) (hret : gRetV p l e (rmL 3 0 0) s m args below meth c cX2_copyFrom (cΩ ca) (cP dC dI cg kA ca) Q S1) (hkt : kc t = 11) (hkb1 : kc b1 = 11) (hf : fX2_copyFrom_148 t b1 M = some S1) (hP : (cP dC dI cg kA ca) M s H) (hS : va_S (Fr (cΩ ca) s.heap.size) s.heap H locs) (hl : lv_has ls 3 [(0, .ref (ca t)), (1, .ref (ca b1))]) : W p l e (rmL 3 0 0) s m args below meth c H locs 0 0 Q (F0 m 148 ls []) := by
  have hx := X.hx
  have hb := X.hb
  have hown := X.hown
  have hts := X.hts
  rw [fX2_copyFrom_148] at hf
  refine lv_iconst (v := 0) hx hb dX2_copyFrom_148 (by decide) ?_
  refine lv_istore_n (lv' := [(2, .int 0), (0, .ref (ca t)), (1, .ref (ca b1))]) hx hb dX2_copyFrom_149 rfl hl (by decide) rfl (fun ls hl => ?_)
  exact kX2_copyFrom_150 X hret hkt hkb1 FU _ _ _ _ _ hf hP hS (lv_sub hl [1, 2, 0] rfl)
set_option maxRecDepth 10000 in
theorem kX2_copyFrom_142 {S1 : CS} {t : Nat} {b1 : Nat} {K119 : CS → Int32 → Option (CS)} {M : CS} {x2 : Int32} {H : Heap} {locs : List Loc} {ls : Array Slot} (X : gX p s m args c cX2_copyFrom 3 RX2 (kR kTab kA)) (hret : gRetV p l e (rmL 3 0 0) s m args below meth c cX2_copyFrom (cΩ ca) (cP dC dI cg kA ca) Q S1) (hkt : kc t = 11) (hkb1 : kc b1 = 11) (hK119 : ∀ (M : CS) (x2 : Int32) (H : Heap) (locs : List Loc) (ls : Array Slot), K119 M x2 = some S1 → (cP dC dI cg kA ca) M s H → va_S (Fr (cΩ ca) s.heap.size) s.heap H locs → lv_has ls 3 [(0, .ref (ca t)), (1, .ref (ca b1)), (2, .int x2)] → W p l e (rmL 3 0 0) s m args below meth c H locs 0 0 Q (F0 m 119 ls [])) (hf : fX2_copyFrom_142 t b1 K119 M x2 = some S1) (hP : (cP dC dI cg kA ca) M s H) (hS : va_S (Fr (cΩ ca) s.heap.size) s.heap H locs) (hl : lv_has ls 3 [(0, .ref (ca t)), (1, .ref (ca b1)), (2, .int x2)]) : W p l e (rmL 3 0 0) s m args below meth c H locs 0 0 Q (F0 m 142 ls []) := by
  have hx := X.hx
  have hb := X.hb
  have hown := X.hown
  have hts := X.hts
  rw [fX2_copyFrom_142] at hf
  refine lv_iinc (v := (x2 + 1)) (lv' := [(2, .int (x2 + 1)), (0, .ref (ca t)), (1, .ref (ca b1))]) hx hb dX2_copyFrom_142 hl (k := 2) rfl (by rfl) (by decide) rfl (fun ls hl => ?_)
  refine lv_goto (tgt := 119) hx hb dX2_copyFrom_145 (by decide) ?_
  exact hK119 _ _ _ _ _ hf hP hS (lv_sub hl [1, 2, 0] rfl)
set_option maxRecDepth 10000 in
theorem kX2_copyFrom_127 {S1 : CS} {t : Nat} {b1 : Nat} {K119 : CS → Int32 → Option (CS)} {M : CS} {x2 : Int32} {H : Heap} {locs : List Loc} {ls : Array Slot} (X : gX p s m args c cX2_copyFrom 3 RX2 (kR kTab kA)) (hret : gRetV p l e (rmL 3 0 0) s m args below meth c cX2_copyFrom (cΩ ca) (cP dC dI cg kA ca) Q S1) (hkt : kc t = 11) (hkb1 : kc b1 = 11) (hK119 : ∀ (M : CS) (x2 : Int32) (H : Heap) (locs : List Loc) (ls : Array Slot), K119 M x2 = some S1 → (cP dC dI cg kA ca) M s H → va_S (Fr (cΩ ca) s.heap.size) s.heap H locs → lv_has ls 3 [(0, .ref (ca t)), (1, .ref (ca b1)), (2, .int x2)] → W p l e (rmL 3 0 0) s m args below meth c H locs 0 0 Q (F0 m 119 ls [])) (hf : fX2_copyFrom_127 t b1 K119 M x2 = some S1) (hP : (cP dC dI cg kA ca) M s H) (hS : va_S (Fr (cΩ ca) s.heap.size) s.heap H locs) (hl : lv_has ls 3 [(0, .ref (ca t)), (1, .ref (ca b1)), (2, .int x2)]) : W p l e (rmL 3 0 0) s m args below meth c H locs 0 0 Q (F0 m 127 ls []) := by
  have hx := X.hx
  have hb := X.hb
  have hown := X.hown
  have hts := X.hts
  rw [fX2_copyFrom_127] at hf
  refine lv_aload_n hx hb dX2_copyFrom_127 rfl (lv_at hl 0 rfl) ?_
  refine cr_get (k := 1) X hP hkt rfl cv11_1 rfl cinX2 (by decide) rfl tw300 dX2_copyFrom_128 ?_
  refine lv_iload_n hx hb dX2_copyFrom_131 rfl (lv_at hl 2 rfl) ?_
  obtain ⟨g1, hf⟩ := gd hf
  refine cr_aald (f := fun i => (t + 2) + 15 + i) X hP (kc_sacks hkt) rfl (fun _ => rfl) rfl g1 dX2_copyFrom_132 ?_
  refine lv_aload_n hx hb dX2_copyFrom_133 rfl (lv_at hl 1 rfl) ?_
  refine cr_get (k := 1) X hP hkb1 rfl cv11_1 rfl cinX2 (by decide) rfl tw300 dX2_copyFrom_134 ?_
  refine lv_iload_n hx hb dX2_copyFrom_137 rfl (lv_at hl 2 rfl) ?_
  obtain ⟨g2, hf⟩ := gd hf
  refine cr_aald (f := fun i => (b1 + 2) + 15 + i) X hP (kc_sacks hkb1) rfl (fun _ => rfl) rfl g2 dX2_copyFrom_138 ?_
  obtain ⟨q, hc, hf⟩ := bd hf
  refine gCallVV X cOK rfl (vX4_copyFrom (kc_sack (kc_sacks hkt) g1) (kc_sack (kc_sacks hkb1) g2) hc) gRX2_X4_copyFrom hdX4_copyFrom rfl ⟨by decide, by decide⟩ hP hS (cr_rec hP (kc_sack (kc_sacks hkt) g1) rfl cw19 rfl) hl.1 (Nat.le_of_ble_eq_true rfl) ⟨Nat.zero_le _, Nat.zero_le _⟩ dX2_copyFrom_139 (As := [.ref (ca ((b1 + 2) + 15 + x2.toNatClampNeg))]) (rest := []) rfl (fun H locs hP hS => ?_)
  exact kX2_copyFrom_142 X hret hkt hkb1 hK119 hf hP hS (lv_sub hl [0, 1, 2] rfl)
set_option maxRecDepth 10000 in
theorem kX2_copyFrom_119 {S1 : CS} {t : Nat} {b1 : Nat} (X : gX p s m args c cX2_copyFrom 3 RX2 (kR kTab kA)) (hret : gRetV p l e (rmL 3 0 0) s m args below meth c cX2_copyFrom (cΩ ca) (cP dC dI cg kA ca) Q S1) (hkt : kc t = 11) (hkb1 : kc b1 = 11) : ∀ (n : Nat) (M : CS) (x2 : Int32) (H : Heap) (locs : List Loc) (ls : Array Slot), fX2_copyFrom_119 t b1 n M x2 = some S1 → (cP dC dI cg kA ca) M s H → va_S (Fr (cΩ ca) s.heap.size) s.heap H locs → lv_has ls 3 [(0, .ref (ca t)), (1, .ref (ca b1)), (2, .int x2)] → W p l e (rmL 3 0 0) s m args below meth c H locs 0 0 Q (F0 m 119 ls []) := by
  intro n
  induction n with
  | zero => intro M x2 H locs ls hf; cases hf
  | succ k ih =>
    intro M x2 H locs ls hf hP hS hl
    have hx := X.hx
    have hb := X.hb
    have hown := X.hown
    have hts := X.hts
    rw [fX2_copyFrom_119] at hf
    try dsimp only at hf
    refine lv_iload_n hx hb dX2_copyFrom_119 rfl (lv_at hl 2 rfl) ?_
    refine lv_aload_n hx hb dX2_copyFrom_120 rfl (lv_at hl 0 rfl) ?_
    refine cr_get (k := 6) X hP hkt rfl cv11_6 rfl cinX2 (by decide) rfl tw311 dX2_copyFrom_121 ?_
    refine lv_icmp_ge (tgt := 148) hx hb dX2_copyFrom_124 (by decide) (fun c1 => ?_) (fun c1 => ?_)
    · exact kX2_copyFrom_148 X hret hkt hkb1 (ifp c1 hf) hP hS (lv_sub hl [0, 1] rfl)
    · exact kX2_copyFrom_127 X hret hkt hkb1 ih (ifn c1 hf) hP hS (lv_sub hl [0, 1, 2] rfl)
set_option maxRecDepth 10000 in
theorem kX2_copyFrom_117 {S1 : CS} {t : Nat} {b1 : Nat} {M : CS} {H : Heap} {locs : List Loc} {ls : Array Slot} (X : gX p s m args c cX2_copyFrom 3 RX2 (kR kTab kA)) (hret : gRetV p l e (rmL 3 0 0) s m args below meth c cX2_copyFrom (cΩ ca) (cP dC dI cg kA ca) Q S1) (hkt : kc t = 11) (hkb1 : kc b1 = 11) (hf : fX2_copyFrom_117 t b1 M = some S1) (hP : (cP dC dI cg kA ca) M s H) (hS : va_S (Fr (cΩ ca) s.heap.size) s.heap H locs) (hl : lv_has ls 3 [(0, .ref (ca t)), (1, .ref (ca b1))]) : W p l e (rmL 3 0 0) s m args below meth c H locs 0 0 Q (F0 m 117 ls []) := by
  have hx := X.hx
  have hb := X.hb
  have hown := X.hown
  have hts := X.hts
  rw [fX2_copyFrom_117] at hf
  refine lv_iconst (v := 0) hx hb dX2_copyFrom_117 (by decide) ?_
  refine lv_istore_n (lv' := [(2, .int 0), (0, .ref (ca t)), (1, .ref (ca b1))]) hx hb dX2_copyFrom_118 rfl hl (by decide) rfl (fun ls hl => ?_)
  exact kX2_copyFrom_119 X hret hkt hkb1 FU _ _ _ _ _ hf hP hS (lv_sub hl [1, 2, 0] rfl)
set_option maxRecDepth 10000 in
theorem kX2_copyFrom_111 {S1 : CS} {t : Nat} {b1 : Nat} {K88 : CS → Int32 → Option (CS)} {M : CS} {x2 : Int32} {H : Heap} {locs : List Loc} {ls : Array Slot} (X : gX p s m args c cX2_copyFrom 3 RX2 (kR kTab kA)) (hret : gRetV p l e (rmL 3 0 0) s m args below meth c cX2_copyFrom (cΩ ca) (cP dC dI cg kA ca) Q S1) (hkt : kc t = 11) (hkb1 : kc b1 = 11) (hK88 : ∀ (M : CS) (x2 : Int32) (H : Heap) (locs : List Loc) (ls : Array Slot), K88 M x2 = some S1 → (cP dC dI cg kA ca) M s H → va_S (Fr (cΩ ca) s.heap.size) s.heap H locs → lv_has ls 3 [(0, .ref (ca t)), (1, .ref (ca b1)), (2, .int x2)] → W p l e (rmL 3 0 0) s m args below meth c H locs 0 0 Q (F0 m 88 ls [])) (hf : fX2_copyFrom_111 t b1 K88 M x2 = some S1) (hP : (cP dC dI cg kA ca) M s H) (hS : va_S (Fr (cΩ ca) s.heap.size) s.heap H locs) (hl : lv_has ls 3 [(0, .ref (ca t)), (1, .ref (ca b1)), (2, .int x2)]) : W p l e (rmL 3 0 0) s m args below meth c H locs 0 0 Q (F0 m 111 ls []) := by
  have hx := X.hx
  have hb := X.hb
  have hown := X.hown
  have hts := X.hts
  rw [fX2_copyFrom_111] at hf
  refine lv_iinc (v := (x2 + 1)) (lv' := [(2, .int (x2 + 1)), (0, .ref (ca t)), (1, .ref (ca b1))]) hx hb dX2_copyFrom_111 hl (k := 2) rfl (by rfl) (by decide) rfl (fun ls hl => ?_)
  refine lv_goto (tgt := 88) hx hb dX2_copyFrom_114 (by decide) ?_
  exact hK88 _ _ _ _ _ hf hP hS (lv_sub hl [1, 2, 0] rfl)
set_option maxRecDepth 10000 in
theorem kX2_copyFrom_96 {S1 : CS} {t : Nat} {b1 : Nat} {K88 : CS → Int32 → Option (CS)} {M : CS} {x2 : Int32} {H : Heap} {locs : List Loc} {ls : Array Slot} (X : gX p s m args c cX2_copyFrom 3 RX2 (kR kTab kA)) (hret : gRetV p l e (rmL 3 0 0) s m args below meth c cX2_copyFrom (cΩ ca) (cP dC dI cg kA ca) Q S1) (hkt : kc t = 11) (hkb1 : kc b1 = 11) (hK88 : ∀ (M : CS) (x2 : Int32) (H : Heap) (locs : List Loc) (ls : Array Slot), K88 M x2 = some S1 → (cP dC dI cg kA ca) M s H → va_S (Fr (cΩ ca) s.heap.size) s.heap H locs → lv_has ls 3 [(0, .ref (ca t)), (1, .ref (ca b1)), (2, .int x2)] → W p l e (rmL 3 0 0) s m args below meth c H locs 0 0 Q (F0 m 88 ls [])) (hf : fX2_copyFrom_96 t b1 K88 M x2 = some S1) (hP : (cP dC dI cg kA ca) M s H) (hS : va_S (Fr (cΩ ca) s.heap.size) s.heap H locs) (hl : lv_has ls 3 [(0, .ref (ca t)), (1, .ref (ca b1)), (2, .int x2)]) : W p l e (rmL 3 0 0) s m args below meth c H locs 0 0 Q (F0 m 96 ls []) := by
  have hx := X.hx
  have hb := X.hb
  have hown := X.hown
  have hts := X.hts
  rw [fX2_copyFrom_96] at hf
  refine lv_aload_n hx hb dX2_copyFrom_96 rfl (lv_at hl 0 rfl) ?_
  refine cr_get (k := 0) X hP hkt rfl cv11_0 rfl cinX2 (by decide) rfl tw297 dX2_copyFrom_97 ?_
  refine lv_iload_n hx hb dX2_copyFrom_100 rfl (lv_at hl 2 rfl) ?_
  obtain ⟨g1, hf⟩ := gd hf
  refine cr_aald (f := fun i => (t + 1) + 8 + i) X hP (kc_cats hkt) rfl (fun _ => rfl) rfl g1 dX2_copyFrom_101 ?_
  refine lv_aload_n hx hb dX2_copyFrom_102 rfl (lv_at hl 1 rfl) ?_
  refine cr_get (k := 0) X hP hkb1 rfl cv11_0 rfl cinX2 (by decide) rfl tw297 dX2_copyFrom_103 ?_
  refine lv_iload_n hx hb dX2_copyFrom_106 rfl (lv_at hl 2 rfl) ?_
  obtain ⟨g2, hf⟩ := gd hf
  refine cr_aald (f := fun i => (b1 + 1) + 8 + i) X hP (kc_cats hkb1) rfl (fun _ => rfl) rfl g2 dX2_copyFrom_107 ?_
  obtain ⟨q, hc, hf⟩ := bd hf
  refine gCallVV X cOK rfl (vX0_copyFrom (kc_cat (kc_cats hkt) g1) (kc_cat (kc_cats hkb1) g2) hc) gRX2_X0_copyFrom hdX0_copyFrom rfl ⟨by decide, by decide⟩ hP hS (cr_rec hP (kc_cat (kc_cats hkt) g1) rfl cw18 rfl) hl.1 (Nat.le_of_ble_eq_true rfl) ⟨Nat.zero_le _, Nat.zero_le _⟩ dX2_copyFrom_108 (As := [.ref (ca ((b1 + 1) + 8 + x2.toNatClampNeg))]) (rest := []) rfl (fun H locs hP hS => ?_)
  exact kX2_copyFrom_111 X hret hkt hkb1 hK88 hf hP hS (lv_sub hl [0, 1, 2] rfl)
set_option maxRecDepth 10000 in
theorem kX2_copyFrom_88 {S1 : CS} {t : Nat} {b1 : Nat} (X : gX p s m args c cX2_copyFrom 3 RX2 (kR kTab kA)) (hret : gRetV p l e (rmL 3 0 0) s m args below meth c cX2_copyFrom (cΩ ca) (cP dC dI cg kA ca) Q S1) (hkt : kc t = 11) (hkb1 : kc b1 = 11) : ∀ (n : Nat) (M : CS) (x2 : Int32) (H : Heap) (locs : List Loc) (ls : Array Slot), fX2_copyFrom_88 t b1 n M x2 = some S1 → (cP dC dI cg kA ca) M s H → va_S (Fr (cΩ ca) s.heap.size) s.heap H locs → lv_has ls 3 [(0, .ref (ca t)), (1, .ref (ca b1)), (2, .int x2)] → W p l e (rmL 3 0 0) s m args below meth c H locs 0 0 Q (F0 m 88 ls []) := by
  intro n
  induction n with
  | zero => intro M x2 H locs ls hf; cases hf
  | succ k ih =>
    intro M x2 H locs ls hf hP hS hl
    have hx := X.hx
    have hb := X.hb
    have hown := X.hown
    have hts := X.hts
    rw [fX2_copyFrom_88] at hf
    try dsimp only at hf
    refine lv_iload_n hx hb dX2_copyFrom_88 rfl (lv_at hl 2 rfl) ?_
    refine lv_aload_n hx hb dX2_copyFrom_89 rfl (lv_at hl 0 rfl) ?_
    refine cr_get (k := 5) X hP hkt rfl cv11_5 rfl cinX2 (by decide) rfl tw308 dX2_copyFrom_90 ?_
    refine lv_icmp_ge (tgt := 117) hx hb dX2_copyFrom_93 (by decide) (fun c1 => ?_) (fun c1 => ?_)
    · exact kX2_copyFrom_117 X hret hkt hkb1 (ifp c1 hf) hP hS (lv_sub hl [0, 1] rfl)
    · exact kX2_copyFrom_96 X hret hkt hkb1 ih (ifn c1 hf) hP hS (lv_sub hl [0, 1, 2] rfl)
set_option maxRecDepth 10000 in
theorem kX2_copyFrom_86 {S1 : CS} {t : Nat} {b1 : Nat} {M : CS} {H : Heap} {locs : List Loc} {ls : Array Slot} (X : gX p s m args c cX2_copyFrom 3 RX2 (kR kTab kA)) (hret : gRetV p l e (rmL 3 0 0) s m args below meth c cX2_copyFrom (cΩ ca) (cP dC dI cg kA ca) Q S1) (hkt : kc t = 11) (hkb1 : kc b1 = 11) (hf : fX2_copyFrom_86 t b1 M = some S1) (hP : (cP dC dI cg kA ca) M s H) (hS : va_S (Fr (cΩ ca) s.heap.size) s.heap H locs) (hl : lv_has ls 3 [(0, .ref (ca t)), (1, .ref (ca b1))]) : W p l e (rmL 3 0 0) s m args below meth c H locs 0 0 Q (F0 m 86 ls []) := by
  have hx := X.hx
  have hb := X.hb
  have hown := X.hown
  have hts := X.hts
  rw [fX2_copyFrom_86] at hf
  refine lv_iconst (v := 0) hx hb dX2_copyFrom_86 (by decide) ?_
  refine lv_istore_n (lv' := [(2, .int 0), (0, .ref (ca t)), (1, .ref (ca b1))]) hx hb dX2_copyFrom_87 rfl hl (by decide) rfl (fun ls hl => ?_)
  exact kX2_copyFrom_88 X hret hkt hkb1 FU _ _ _ _ _ hf hP hS (lv_sub hl [1, 2, 0] rfl)
set_option maxRecDepth 10000 in
theorem kX2_copyFrom_75 {S1 : CS} {t : Nat} {b1 : Nat} {M : CS} {H : Heap} {locs : List Loc} {ls : Array Slot} (X : gX p s m args c cX2_copyFrom 3 RX2 (kR kTab kA)) (hret : gRetV p l e (rmL 3 0 0) s m args below meth c cX2_copyFrom (cΩ ca) (cP dC dI cg kA ca) Q S1) (hkt : kc t = 11) (hkb1 : kc b1 = 11) (hf : fX2_copyFrom_75 t b1 M = some S1) (hP : (cP dC dI cg kA ca) M s H) (hS : va_S (Fr (cΩ ca) s.heap.size) s.heap H locs) (hl : lv_has ls 3 [(0, .ref (ca t)), (1, .ref (ca b1))]) : W p l e (rmL 3 0 0) s m args below meth c H locs 0 0 Q (F0 m 75 ls []) := by
  have hx := X.hx
  have hb := X.hb
  have hown := X.hown
  have hts := X.hts
  rw [fX2_copyFrom_75] at hf
  refine lv_aload_n hx hb dX2_copyFrom_75 rfl (lv_at hl 0 rfl) ?_
  refine cr_get (k := 4) X hP hkt rfl cv11_4 rfl cinX2 (by decide) rfl tw306 dX2_copyFrom_76 ?_
  refine lv_aload_n hx hb dX2_copyFrom_79 rfl (lv_at hl 1 rfl) ?_
  refine cr_get (k := 4) X hP hkb1 rfl cv11_4 rfl cinX2 (by decide) rfl tw306 dX2_copyFrom_80 ?_
  obtain ⟨q, hc, hf⟩ := bd hf
  refine gCallVV X cOK rfl (vX9_copyFrom (kc_totals hkt) (kc_totals hkb1) hc) gRX2_X9_copyFrom hdX9_copyFrom rfl ⟨by decide, by decide⟩ hP hS (cr_rec hP (kc_totals hkt) rfl cw17 rfl) hl.1 (Nat.le_of_ble_eq_true rfl) ⟨Nat.zero_le _, Nat.zero_le _⟩ dX2_copyFrom_83 (As := [.ref (ca (b1 + 8))]) (rest := []) rfl (fun H locs hP hS => ?_)
  exact kX2_copyFrom_86 X hret hkt hkb1 hf hP hS (lv_sub hl [0, 1] rfl)
set_option maxRecDepth 10000 in
theorem kX2_copyFrom_64 {S1 : CS} {t : Nat} {b1 : Nat} {M : CS} {H : Heap} {locs : List Loc} {ls : Array Slot} (X : gX p s m args c cX2_copyFrom 3 RX2 (kR kTab kA)) (hret : gRetV p l e (rmL 3 0 0) s m args below meth c cX2_copyFrom (cΩ ca) (cP dC dI cg kA ca) Q S1) (hkt : kc t = 11) (hkb1 : kc b1 = 11) (hf : fX2_copyFrom_64 t b1 M = some S1) (hP : (cP dC dI cg kA ca) M s H) (hS : va_S (Fr (cΩ ca) s.heap.size) s.heap H locs) (hl : lv_has ls 3 [(0, .ref (ca t)), (1, .ref (ca b1))]) : W p l e (rmL 3 0 0) s m args below meth c H locs 0 0 Q (F0 m 64 ls []) := by
  have hx := X.hx
  have hb := X.hb
  have hown := X.hown
  have hts := X.hts
  rw [fX2_copyFrom_64] at hf
  refine lv_aload_n hx hb dX2_copyFrom_64 rfl (lv_at hl 0 rfl) ?_
  refine cr_get (k := 3) X hP hkt rfl cv11_3 rfl cinX2 (by decide) rfl tw305 dX2_copyFrom_65 ?_
  refine lv_aload_n hx hb dX2_copyFrom_68 rfl (lv_at hl 1 rfl) ?_
  refine cr_get (k := 3) X hP hkb1 rfl cv11_3 rfl cinX2 (by decide) rfl tw305 dX2_copyFrom_69 ?_
  obtain ⟨q, hc, hf⟩ := bd hf
  refine gCallVV X cOK rfl (vX1_copyFrom (kc_events hkt) (kc_events hkb1) hc) gRX2_X1_copyFrom hdX1_copyFrom rfl ⟨by decide, by decide⟩ hP hS (cr_rec hP (kc_events hkt) rfl cw15 rfl) hl.1 (Nat.le_of_ble_eq_true rfl) ⟨Nat.zero_le _, Nat.zero_le _⟩ dX2_copyFrom_72 (As := [.ref (ca (b1 + 4))]) (rest := []) rfl (fun H locs hP hS => ?_)
  exact kX2_copyFrom_75 X hret hkt hkb1 hf hP hS (lv_sub hl [0, 1] rfl)
set_option maxRecDepth 10000 in
theorem kX2_copyFrom_56 {S1 : CS} {t : Nat} {b1 : Nat} {M : CS} {H : Heap} {locs : List Loc} {ls : Array Slot} (X : gX p s m args c cX2_copyFrom 3 RX2 (kR kTab kA)) (hret : gRetV p l e (rmL 3 0 0) s m args below meth c cX2_copyFrom (cΩ ca) (cP dC dI cg kA ca) Q S1) (hkt : kc t = 11) (hkb1 : kc b1 = 11) (hf : fX2_copyFrom_56 t b1 M = some S1) (hP : (cP dC dI cg kA ca) M s H) (hS : va_S (Fr (cΩ ca) s.heap.size) s.heap H locs) (hl : lv_has ls 3 [(0, .ref (ca t)), (1, .ref (ca b1))]) : W p l e (rmL 3 0 0) s m args below meth c H locs 0 0 Q (F0 m 56 ls []) := by
  have hx := X.hx
  have hb := X.hb
  have hown := X.hown
  have hts := X.hts
  rw [fX2_copyFrom_56] at hf
  refine lv_aload_n hx hb dX2_copyFrom_56 rfl (lv_at hl 0 rfl) ?_
  refine lv_aload_n hx hb dX2_copyFrom_57 rfl (lv_at hl 1 rfl) ?_
  refine cr_get (k := 12) X hP hkb1 rfl cv11_12 rfl cinX2 (by decide) rfl tw325 dX2_copyFrom_58 ?_
  refine cr_put (k := 12) X hP hS hkt rfl cs11_12 rfl cinX2 tyX2_ok nmX2 (by decide) rfl rfl rfl rfl tw325 dX2_copyFrom_61 (fun H locs hP hS => ?_)
  exact kX2_copyFrom_64 X hret hkt hkb1 hf hP hS (lv_sub hl [0, 1] rfl)
set_option maxRecDepth 10000 in
theorem kX2_copyFrom_48 {S1 : CS} {t : Nat} {b1 : Nat} {M : CS} {H : Heap} {locs : List Loc} {ls : Array Slot} (X : gX p s m args c cX2_copyFrom 3 RX2 (kR kTab kA)) (hret : gRetV p l e (rmL 3 0 0) s m args below meth c cX2_copyFrom (cΩ ca) (cP dC dI cg kA ca) Q S1) (hkt : kc t = 11) (hkb1 : kc b1 = 11) (hf : fX2_copyFrom_48 t b1 M = some S1) (hP : (cP dC dI cg kA ca) M s H) (hS : va_S (Fr (cΩ ca) s.heap.size) s.heap H locs) (hl : lv_has ls 3 [(0, .ref (ca t)), (1, .ref (ca b1))]) : W p l e (rmL 3 0 0) s m args below meth c H locs 0 0 Q (F0 m 48 ls []) := by
  have hx := X.hx
  have hb := X.hb
  have hown := X.hown
  have hts := X.hts
  rw [fX2_copyFrom_48] at hf
  refine lv_aload_n hx hb dX2_copyFrom_48 rfl (lv_at hl 0 rfl) ?_
  refine lv_aload_n hx hb dX2_copyFrom_49 rfl (lv_at hl 1 rfl) ?_
  refine cr_get (k := 11) X hP hkb1 rfl cv11_11 rfl cinX2 (by decide) rfl tw322 dX2_copyFrom_50 ?_
  refine cr_put (k := 11) X hP hS hkt rfl cs11_11 rfl cinX2 tyX2_ok nmX2 (by decide) rfl rfl rfl rfl tw322 dX2_copyFrom_53 (fun H locs hP hS => ?_)
  exact kX2_copyFrom_56 X hret hkt hkb1 hf hP hS (lv_sub hl [0, 1] rfl)
set_option maxRecDepth 10000 in
theorem kX2_copyFrom_40 {S1 : CS} {t : Nat} {b1 : Nat} {M : CS} {H : Heap} {locs : List Loc} {ls : Array Slot} (X : gX p s m args c cX2_copyFrom 3 RX2 (kR kTab kA)) (hret : gRetV p l e (rmL 3 0 0) s m args below meth c cX2_copyFrom (cΩ ca) (cP dC dI cg kA ca) Q S1) (hkt : kc t = 11) (hkb1 : kc b1 = 11) (hf : fX2_copyFrom_40 t b1 M = some S1) (hP : (cP dC dI cg kA ca) M s H) (hS : va_S (Fr (cΩ ca) s.heap.size) s.heap H locs) (hl : lv_has ls 3 [(0, .ref (ca t)), (1, .ref (ca b1))]) : W p l e (rmL 3 0 0) s m args below meth c H locs 0 0 Q (F0 m 40 ls []) := by
  have hx := X.hx
  have hb := X.hb
  have hown := X.hown
  have hts := X.hts
  rw [fX2_copyFrom_40] at hf
  refine lv_aload_n hx hb dX2_copyFrom_40 rfl (lv_at hl 0 rfl) ?_
  refine lv_aload_n hx hb dX2_copyFrom_41 rfl (lv_at hl 1 rfl) ?_
  refine cr_get (k := 10) X hP hkb1 rfl cv11_10 rfl cinX2 (by decide) rfl tw320 dX2_copyFrom_42 ?_
  refine cr_put (k := 10) X hP hS hkt rfl cs11_10 rfl cinX2 tyX2_ok nmX2 (by decide) rfl rfl rfl rfl tw320 dX2_copyFrom_45 (fun H locs hP hS => ?_)
  exact kX2_copyFrom_48 X hret hkt hkb1 hf hP hS (lv_sub hl [0, 1] rfl)
set_option maxRecDepth 10000 in
theorem kX2_copyFrom_32 {S1 : CS} {t : Nat} {b1 : Nat} {M : CS} {H : Heap} {locs : List Loc} {ls : Array Slot} (X : gX p s m args c cX2_copyFrom 3 RX2 (kR kTab kA)) (hret : gRetV p l e (rmL 3 0 0) s m args below meth c cX2_copyFrom (cΩ ca) (cP dC dI cg kA ca) Q S1) (hkt : kc t = 11) (hkb1 : kc b1 = 11) (hf : fX2_copyFrom_32 t b1 M = some S1) (hP : (cP dC dI cg kA ca) M s H) (hS : va_S (Fr (cΩ ca) s.heap.size) s.heap H locs) (hl : lv_has ls 3 [(0, .ref (ca t)), (1, .ref (ca b1))]) : W p l e (rmL 3 0 0) s m args below meth c H locs 0 0 Q (F0 m 32 ls []) := by
  have hx := X.hx
  have hb := X.hb
  have hown := X.hown
  have hts := X.hts
  rw [fX2_copyFrom_32] at hf
  refine lv_aload_n hx hb dX2_copyFrom_32 rfl (lv_at hl 0 rfl) ?_
  refine lv_aload_n hx hb dX2_copyFrom_33 rfl (lv_at hl 1 rfl) ?_
  refine cr_get (k := 9) X hP hkb1 rfl cv11_9 rfl cinX2 (by decide) rfl tw318 dX2_copyFrom_34 ?_
  refine cr_put (k := 9) X hP hS hkt rfl cs11_9 rfl cinX2 tyX2_ok nmX2 (by decide) rfl rfl rfl rfl tw318 dX2_copyFrom_37 (fun H locs hP hS => ?_)
  exact kX2_copyFrom_40 X hret hkt hkb1 hf hP hS (lv_sub hl [0, 1] rfl)
set_option maxRecDepth 10000 in
theorem kX2_copyFrom_24 {S1 : CS} {t : Nat} {b1 : Nat} {M : CS} {H : Heap} {locs : List Loc} {ls : Array Slot} (X : gX p s m args c cX2_copyFrom 3 RX2 (kR kTab kA)) (hret : gRetV p l e (rmL 3 0 0) s m args below meth c cX2_copyFrom (cΩ ca) (cP dC dI cg kA ca) Q S1) (hkt : kc t = 11) (hkb1 : kc b1 = 11) (hf : fX2_copyFrom_24 t b1 M = some S1) (hP : (cP dC dI cg kA ca) M s H) (hS : va_S (Fr (cΩ ca) s.heap.size) s.heap H locs) (hl : lv_has ls 3 [(0, .ref (ca t)), (1, .ref (ca b1))]) : W p l e (rmL 3 0 0) s m args below meth c H locs 0 0 Q (F0 m 24 ls []) := by
  have hx := X.hx
  have hb := X.hb
  have hown := X.hown
  have hts := X.hts
  rw [fX2_copyFrom_24] at hf
  refine lv_aload_n hx hb dX2_copyFrom_24 rfl (lv_at hl 0 rfl) ?_
  refine lv_aload_n hx hb dX2_copyFrom_25 rfl (lv_at hl 1 rfl) ?_
  refine cr_get (k := 8) X hP hkb1 rfl cv11_8 rfl cinX2 (by decide) rfl tw316 dX2_copyFrom_26 ?_
  refine cr_put (k := 8) X hP hS hkt rfl cs11_8 rfl cinX2 tyX2_ok nmX2 (by decide) rfl rfl rfl rfl tw316 dX2_copyFrom_29 (fun H locs hP hS => ?_)
  exact kX2_copyFrom_32 X hret hkt hkb1 hf hP hS (lv_sub hl [0, 1] rfl)
set_option maxRecDepth 10000 in
theorem kX2_copyFrom_16 {S1 : CS} {t : Nat} {b1 : Nat} {M : CS} {H : Heap} {locs : List Loc} {ls : Array Slot} (X : gX p s m args c cX2_copyFrom 3 RX2 (kR kTab kA)) (hret : gRetV p l e (rmL 3 0 0) s m args below meth c cX2_copyFrom (cΩ ca) (cP dC dI cg kA ca) Q S1) (hkt : kc t = 11) (hkb1 : kc b1 = 11) (hf : fX2_copyFrom_16 t b1 M = some S1) (hP : (cP dC dI cg kA ca) M s H) (hS : va_S (Fr (cΩ ca) s.heap.size) s.heap H locs) (hl : lv_has ls 3 [(0, .ref (ca t)), (1, .ref (ca b1))]) : W p l e (rmL 3 0 0) s m args below meth c H locs 0 0 Q (F0 m 16 ls []) := by
  have hx := X.hx
  have hb := X.hb
  have hown := X.hown
  have hts := X.hts
  rw [fX2_copyFrom_16] at hf
  refine lv_aload_n hx hb dX2_copyFrom_16 rfl (lv_at hl 0 rfl) ?_
  refine lv_aload_n hx hb dX2_copyFrom_17 rfl (lv_at hl 1 rfl) ?_
  refine cr_get (k := 7) X hP hkb1 rfl cv11_7 rfl cinX2 (by decide) rfl tw314 dX2_copyFrom_18 ?_
  refine cr_put (k := 7) X hP hS hkt rfl cs11_7 rfl cinX2 tyX2_ok nmX2 (by decide) rfl rfl rfl rfl tw314 dX2_copyFrom_21 (fun H locs hP hS => ?_)
  exact kX2_copyFrom_24 X hret hkt hkb1 hf hP hS (lv_sub hl [0, 1] rfl)
set_option maxRecDepth 10000 in
theorem kX2_copyFrom_8 {S1 : CS} {t : Nat} {b1 : Nat} {M : CS} {H : Heap} {locs : List Loc} {ls : Array Slot} (X : gX p s m args c cX2_copyFrom 3 RX2 (kR kTab kA)) (hret : gRetV p l e (rmL 3 0 0) s m args below meth c cX2_copyFrom (cΩ ca) (cP dC dI cg kA ca) Q S1) (hkt : kc t = 11) (hkb1 : kc b1 = 11) (hf : fX2_copyFrom_8 t b1 M = some S1) (hP : (cP dC dI cg kA ca) M s H) (hS : va_S (Fr (cΩ ca) s.heap.size) s.heap H locs) (hl : lv_has ls 3 [(0, .ref (ca t)), (1, .ref (ca b1))]) : W p l e (rmL 3 0 0) s m args below meth c H locs 0 0 Q (F0 m 8 ls []) := by
  have hx := X.hx
  have hb := X.hb
  have hown := X.hown
  have hts := X.hts
  rw [fX2_copyFrom_8] at hf
  refine lv_aload_n hx hb dX2_copyFrom_8 rfl (lv_at hl 0 rfl) ?_
  refine lv_aload_n hx hb dX2_copyFrom_9 rfl (lv_at hl 1 rfl) ?_
  refine cr_get (k := 6) X hP hkb1 rfl cv11_6 rfl cinX2 (by decide) rfl tw311 dX2_copyFrom_10 ?_
  refine cr_put (k := 6) X hP hS hkt rfl cs11_6 rfl cinX2 tyX2_ok nmX2 (by decide) rfl rfl rfl rfl tw311 dX2_copyFrom_13 (fun H locs hP hS => ?_)
  exact kX2_copyFrom_16 X hret hkt hkb1 hf hP hS (lv_sub hl [0, 1] rfl)
set_option maxRecDepth 10000 in
theorem kX2_copyFrom_0 {S1 : CS} {t : Nat} {b1 : Nat} {M : CS} {H : Heap} {locs : List Loc} {ls : Array Slot} (X : gX p s m args c cX2_copyFrom 3 RX2 (kR kTab kA)) (hret : gRetV p l e (rmL 3 0 0) s m args below meth c cX2_copyFrom (cΩ ca) (cP dC dI cg kA ca) Q S1) (hkt : kc t = 11) (hkb1 : kc b1 = 11) (hf : fX2_copyFrom_0 t b1 M = some S1) (hP : (cP dC dI cg kA ca) M s H) (hS : va_S (Fr (cΩ ca) s.heap.size) s.heap H locs) (hl : lv_has ls 3 [(0, .ref (ca t)), (1, .ref (ca b1))]) : W p l e (rmL 3 0 0) s m args below meth c H locs 0 0 Q (F0 m 0 ls []) := by
  have hx := X.hx
  have hb := X.hb
  have hown := X.hown
  have hts := X.hts
  rw [fX2_copyFrom_0] at hf
  refine lv_aload_n hx hb dX2_copyFrom_0 rfl (lv_at hl 0 rfl) ?_
  refine lv_aload_n hx hb dX2_copyFrom_1 rfl (lv_at hl 1 rfl) ?_
  refine cr_get (k := 5) X hP hkb1 rfl cv11_5 rfl cinX2 (by decide) rfl tw308 dX2_copyFrom_2 ?_
  refine cr_put (k := 5) X hP hS hkt rfl cs11_5 rfl cinX2 tyX2_ok nmX2 (by decide) rfl rfl rfl rfl tw308 dX2_copyFrom_5 (fun H locs hP hS => ?_)
  exact kX2_copyFrom_8 X hret hkt hkb1 hf hP hS (lv_sub hl [0, 1] rfl)
theorem vX2_copyFrom {l : Launch} {dC : Nat → ClassId} {dI : Nat → Nat → Nat} {cg : Nat → ClassId} {kA : String → Nat → Nat} {ca : Nat → Nat} {M S1 : CS} {t : Nat} {b1 : Nat} (hkt : kc t = 11) (hkb1 : kc b1 = 11) (hf : fX2_copyFrom M t b1 = some S1) : gMetV l yX2_copyFrom cX2_copyFrom 3 3 (cΩ ca) (cP dC dI cg kA ca) (kR kTab kA) [.ref (ca t), .ref (ca b1)] M S1 := gEntryV (by decide) cOK (Nat.le_of_ble_eq_true rfl) (fun p e s m args below meth c Q ls X hP hS hret hl => 
  kX2_copyFrom_0 X hret hkt hkb1 hf hP hS (lv_sub hl [0, 1] rfl))
set_option maxRecDepth 10000 in
theorem kX2_hunt_18 {r : Int32} {S1 : CS} {t : Nat} {M : CS} {H : Heap} {locs : List Loc} {ls : Array Slot} (X : gX p s m args c cX2_hunt 5 RX2 (kR kTab kA)) (hret : gRetI p l e (rmL 3 0 0) s m args below meth c cX2_hunt (cΩ ca) (cP dC dI cg kA ca) Q r S1) (hkt : kc t = 11) (hf : fX2_hunt_18 t M = some (r, S1)) (hP : (cP dC dI cg kA ca) M s H) (hS : va_S (Fr (cΩ ca) s.heap.size) s.heap H locs) (hl : lv_has ls 5 [(0, .ref (ca t))]) : W p l e (rmL 3 0 0) s m args below meth c H locs 0 0 Q (F0 m 18 ls []) := by
  have hx := X.hx
  have hb := X.hb
  have hown := X.hown
  have hts := X.hts
  rw [fX2_hunt_18] at hf
  refine lv_iconst (v := (-1)) hx hb dX2_hunt_18 (by decide) ?_
  cases hf
  exact hret _ _ _ _ dX2_hunt_19 hP hS
set_option maxRecDepth 10000 in
theorem kX2_hunt_104 {r : Int32} {S1 : CS} {t : Nat} {M : CS} {H : Heap} {locs : List Loc} {ls : Array Slot} (X : gX p s m args c cX2_hunt 5 RX2 (kR kTab kA)) (hret : gRetI p l e (rmL 3 0 0) s m args below meth c cX2_hunt (cΩ ca) (cP dC dI cg kA ca) Q r S1) (hkt : kc t = 11) (hf : fX2_hunt_104 t M = some (r, S1)) (hP : (cP dC dI cg kA ca) M s H) (hS : va_S (Fr (cΩ ca) s.heap.size) s.heap H locs) (hl : lv_has ls 5 [(0, .ref (ca t))]) : W p l e (rmL 3 0 0) s m args below meth c H locs 0 0 Q (F0 m 104 ls []) := by
  have hx := X.hx
  have hb := X.hb
  have hown := X.hown
  have hts := X.hts
  rw [fX2_hunt_104] at hf
  refine lv_aload_n hx hb dX2_hunt_104 rfl (lv_at hl 0 rfl) ?_
  refine cr_get (k := 8) X hP hkt rfl cv11_8 rfl cinX2 (by decide) rfl tw316 dX2_hunt_105 ?_
  cases hf
  exact hret _ _ _ _ dX2_hunt_108 hP hS
set_option maxRecDepth 10000 in
theorem kX2_hunt_90 {r : Int32} {S1 : CS} {t : Nat} {M : CS} {x4 : Int32} {H : Heap} {locs : List Loc} {ls : Array Slot} (X : gX p s m args c cX2_hunt 5 RX2 (kR kTab kA)) (hret : gRetI p l e (rmL 3 0 0) s m args below meth c cX2_hunt (cΩ ca) (cP dC dI cg kA ca) Q r S1) (hkt : kc t = 11) (hf : fX2_hunt_90 t M x4 = some (r, S1)) (hP : (cP dC dI cg kA ca) M s H) (hS : va_S (Fr (cΩ ca) s.heap.size) s.heap H locs) (hl : lv_has ls 5 [(0, .ref (ca t)), (4, .int x4)]) : W p l e (rmL 3 0 0) s m args below meth c H locs 0 0 Q (F0 m 90 ls []) := by
  have hx := X.hx
  have hb := X.hb
  have hown := X.hown
  have hts := X.hts
  rw [fX2_hunt_90] at hf
  refine lv_aload_n hx hb dX2_hunt_90 rfl (lv_at hl 0 rfl) ?_
  refine cr_get (k := 3) X hP hkt rfl cv11_3 rfl cinX2 (by decide) rfl tw305 dX2_hunt_91 ?_
  refine lv_iconst (v := 1) hx hb dX2_hunt_94 (by decide) ?_
  refine lv_aload_n hx hb dX2_hunt_95 rfl (lv_at hl 0 rfl) ?_
  refine cr_get (k := 8) X hP hkt rfl cv11_8 rfl cinX2 (by decide) rfl tw316 dX2_hunt_96 ?_
  refine lv_iload hx hb dX2_hunt_99 (lv_at hl 1 rfl) ?_
  obtain ⟨q, hc, hf⟩ := bd hf
  refine gCallVV X cOK rfl (vX1_add (kc_events hkt) hc) gRX2_X1_add hdX1_add rfl ⟨by decide, by decide⟩ hP hS (cr_rec hP (kc_events hkt) rfl cw15 rfl) hl.1 (Nat.le_of_ble_eq_true rfl) ⟨Nat.zero_le _, Nat.zero_le _⟩ dX2_hunt_101 (As := [.int 1, .int (M.1 t 8), .int x4]) (rest := []) rfl (fun H locs hP hS => ?_)
  exact kX2_hunt_104 X hret hkt hf hP hS (lv_sub hl [0] rfl)
set_option maxRecDepth 10000 in
theorem kX2_hunt_86 {r : Int32} {S1 : CS} {t : Nat} {M : CS} {p2 : Nat} {x4 : Int32} {H : Heap} {locs : List Loc} {ls : Array Slot} (X : gX p s m args c cX2_hunt 5 RX2 (kR kTab kA)) (hret : gRetI p l e (rmL 3 0 0) s m args below meth c cX2_hunt (cΩ ca) (cP dC dI cg kA ca) Q r S1) (hkt : kc t = 11) (hkp2 : kc p2 = 18) (hf : fX2_hunt_86 t M p2 x4 = some (r, S1)) (hP : (cP dC dI cg kA ca) M s H) (hS : va_S (Fr (cΩ ca) s.heap.size) s.heap H locs) (hl : lv_has ls 5 [(0, .ref (ca t)), (2, .ref (ca p2)), (4, .int x4)]) : W p l e (rmL 3 0 0) s m args below meth c H locs 0 0 Q (F0 m 86 ls []) := by
  have hx := X.hx
  have hb := X.hb
  have hown := X.hown
  have hts := X.hts
  rw [fX2_hunt_86] at hf
  refine lv_aload_n hx hb dX2_hunt_86 rfl (lv_at hl 1 rfl) ?_
  obtain ⟨q, hc, hf⟩ := bd hf
  refine gCallVV X cOK rfl (vX0_tire hkp2 hc) gRX2_X0_tire hdX0_tire rfl ⟨by decide, by decide⟩ hP hS (cr_rec hP hkp2 rfl cw18 rfl) hl.1 (Nat.le_of_ble_eq_true rfl) ⟨Nat.zero_le _, Nat.zero_le _⟩ dX2_hunt_87 (As := []) (rest := []) rfl (fun H locs hP hS => ?_)
  exact kX2_hunt_90 X hret hkt hf hP hS (lv_sub hl [0, 2] rfl)
set_option maxRecDepth 10000 in
theorem kX2_hunt_72 {r : Int32} {S1 : CS} {t : Nat} {M : CS} {p2 : Nat} {x4 : Int32} {H : Heap} {locs : List Loc} {ls : Array Slot} (X : gX p s m args c cX2_hunt 5 RX2 (kR kTab kA)) (hret : gRetI p l e (rmL 3 0 0) s m args below meth c cX2_hunt (cΩ ca) (cP dC dI cg kA ca) Q r S1) (hkt : kc t = 11) (hkp2 : kc p2 = 18) (hf : fX2_hunt_72 t M p2 x4 = some (r, S1)) (hP : (cP dC dI cg kA ca) M s H) (hS : va_S (Fr (cΩ ca) s.heap.size) s.heap H locs) (hl : lv_has ls 5 [(0, .ref (ca t)), (2, .ref (ca p2)), (4, .int x4)]) : W p l e (rmL 3 0 0) s m args below meth c H locs 0 0 Q (F0 m 72 ls []) := by
  have hx := X.hx
  have hb := X.hb
  have hown := X.hown
  have hts := X.hts
  rw [fX2_hunt_72] at hf
  refine lv_aload_n hx hb dX2_hunt_72 rfl (lv_at hl 0 rfl) ?_
  refine cr_get (k := 4) X hP hkt rfl cv11_4 rfl cinX2 (by decide) rfl tw306 dX2_hunt_73 ?_
  refine lv_dup hx hb dX2_hunt_76 rfl ?_
  refine cr_get (k := 0) X hP (kc_totals hkt) rfl cv17_0 rfl cinX9 (by decide) rfl tw171 dX2_hunt_77 ?_
  refine lv_iload hx hb dX2_hunt_80 (lv_at hl 2 rfl) ?_
  refine lv_iadd hx hb dX2_hunt_82 ?_
  refine cr_put (k := 0) X hP hS (kc_totals hkt) rfl cs17_0 rfl cinX9 tyX9_ok nmX9 (by decide) rfl rfl rfl rfl tw171 dX2_hunt_83 (fun H locs hP hS => ?_)
  exact kX2_hunt_86 X hret hkt hkp2 hf hP hS (lv_sub hl [0, 1, 2] rfl)
set_option maxRecDepth 10000 in
theorem kX2_hunt_61 {r : Int32} {S1 : CS} {t : Nat} {M : CS} {p2 : Nat} {x4 : Int32} {H : Heap} {locs : List Loc} {ls : Array Slot} (X : gX p s m args c cX2_hunt 5 RX2 (kR kTab kA)) (hret : gRetI p l e (rmL 3 0 0) s m args below meth c cX2_hunt (cΩ ca) (cP dC dI cg kA ca) Q r S1) (hkt : kc t = 11) (hkp2 : kc p2 = 18) (hf : fX2_hunt_61 t M p2 x4 = some (r, S1)) (hP : (cP dC dI cg kA ca) M s H) (hS : va_S (Fr (cΩ ca) s.heap.size) s.heap H locs) (hl : lv_has ls 5 [(0, .ref (ca t)), (2, .ref (ca p2)), (4, .int x4)]) : W p l e (rmL 3 0 0) s m args below meth c H locs 0 0 Q (F0 m 61 ls []) := by
  have hx := X.hx
  have hb := X.hb
  have hown := X.hown
  have hts := X.hts
  rw [fX2_hunt_61] at hf
  refine lv_aload_n hx hb dX2_hunt_61 rfl (lv_at hl 1 rfl) ?_
  refine lv_dup hx hb dX2_hunt_62 rfl ?_
  refine cr_get (k := 4) X hP hkp2 rfl cv18_4 rfl cinX0 (by decide) rfl tw227 dX2_hunt_63 ?_
  refine lv_iload hx hb dX2_hunt_66 (lv_at hl 2 rfl) ?_
  refine lv_iadd hx hb dX2_hunt_68 ?_
  refine cr_put (k := 4) X hP hS hkp2 rfl cs18_4 rfl cinX0 tyX0_ok nmX0 (by decide) rfl rfl rfl rfl tw227 dX2_hunt_69 (fun H locs hP hS => ?_)
  exact kX2_hunt_72 X hret hkt hkp2 hf hP hS (lv_sub hl [0, 1, 2] rfl)
set_option maxRecDepth 10000 in
theorem kX2_hunt_41 {r : Int32} {S1 : CS} {t : Nat} {M : CS} {p2 : Nat} {p3 : Nat} {s0 : Int32} {H : Heap} {locs : List Loc} {ls : Array Slot} (X : gX p s m args c cX2_hunt 5 RX2 (kR kTab kA)) (hret : gRetI p l e (rmL 3 0 0) s m args below meth c cX2_hunt (cΩ ca) (cP dC dI cg kA ca) Q r S1) (hkt : kc t = 11) (hkp2 : kc p2 = 18) (hkp3 : kc p3 = 19) (hf : fX2_hunt_41 t M p2 p3 s0 = some (r, S1)) (hP : (cP dC dI cg kA ca) M s H) (hS : va_S (Fr (cΩ ca) s.heap.size) s.heap H locs) (hl : lv_has ls 5 [(0, .ref (ca t)), (2, .ref (ca p2)), (3, .ref (ca p3))]) : W p l e (rmL 3 0 0) s m args below meth c H locs 0 0 Q (F0 m 41 ls [.int s0]) := by
  have hx := X.hx
  have hb := X.hb
  have hown := X.hown
  have hts := X.hts
  rw [fX2_hunt_41] at hf
  refine lv_aload_n hx hb dX2_hunt_41 rfl (lv_at hl 2 rfl) ?_
  refine cr_get (k := 2) X hP hkp3 rfl cv19_2 rfl cinX4 (by decide) rfl tw259 dX2_hunt_42 ?_
  refine gMin X rfl tw1289 tw553 tw19 tw554 (by decide) hl.1 (Nat.le_of_ble_eq_true rfl) ⟨Nat.zero_le _, Nat.zero_le _⟩ dX2_hunt_45 ?_
  refine lv_istore (lv' := [(4, .int (if (M.1 p3 2) < s0 then (M.1 p3 2) else s0)), (0, .ref (ca t)), (2, .ref (ca p2)), (3, .ref (ca p3))]) hx hb dX2_hunt_48 hl (by decide) rfl (fun ls hl => ?_)
  refine lv_aload_n hx hb dX2_hunt_50 rfl (lv_at hl 3 rfl) ?_
  refine lv_dup hx hb dX2_hunt_51 rfl ?_
  refine cr_get (k := 2) X hP hkp3 rfl cv19_2 rfl cinX4 (by decide) rfl tw259 dX2_hunt_52 ?_
  refine lv_iload hx hb dX2_hunt_55 (lv_at hl 0 rfl) ?_
  refine lv_isub hx hb dX2_hunt_57 ?_
  refine cr_put (k := 2) X hP hS hkp3 rfl cs19_2 rfl cinX4 tyX4_ok nmX4 (by decide) rfl rfl rfl rfl tw259 dX2_hunt_58 (fun H locs hP hS => ?_)
  exact kX2_hunt_61 X hret hkt hkp2 hf hP hS (lv_sub hl [1, 2, 0] rfl)
set_option maxRecDepth 10000 in
theorem kX2_hunt_20 {r : Int32} {S1 : CS} {t : Nat} {M : CS} {x1 : Int32} {H : Heap} {locs : List Loc} {ls : Array Slot} (X : gX p s m args c cX2_hunt 5 RX2 (kR kTab kA)) (hret : gRetI p l e (rmL 3 0 0) s m args below meth c cX2_hunt (cΩ ca) (cP dC dI cg kA ca) Q r S1) (hkt : kc t = 11) (hf : fX2_hunt_20 t M x1 = some (r, S1)) (hP : (cP dC dI cg kA ca) M s H) (hS : va_S (Fr (cΩ ca) s.heap.size) s.heap H locs) (hl : lv_has ls 5 [(0, .ref (ca t)), (1, .int x1)]) : W p l e (rmL 3 0 0) s m args below meth c H locs 0 0 Q (F0 m 20 ls []) := by
  have hx := X.hx
  have hb := X.hb
  have hown := X.hown
  have hts := X.hts
  rw [fX2_hunt_20] at hf
  refine lv_aload_n hx hb dX2_hunt_20 rfl (lv_at hl 0 rfl) ?_
  refine cr_get (k := 0) X hP hkt rfl cv11_0 rfl cinX2 (by decide) rfl tw297 dX2_hunt_21 ?_
  refine lv_aload_n hx hb dX2_hunt_24 rfl (lv_at hl 0 rfl) ?_
  refine cr_get (k := 8) X hP hkt rfl cv11_8 rfl cinX2 (by decide) rfl tw316 dX2_hunt_25 ?_
  obtain ⟨g1, hf⟩ := gd hf
  refine cr_aald (f := fun i => (t + 1) + 8 + i) X hP (kc_cats hkt) rfl (fun _ => rfl) rfl g1 dX2_hunt_28 ?_
  refine lv_astore_n (lv' := [(2, .ref (ca ((t + 1) + 8 + (M.1 t 8).toNatClampNeg))), (0, .ref (ca t)), (1, .int x1)]) hx hb dX2_hunt_29 rfl hl (by decide) rfl (fun ls hl => ?_)
  refine lv_aload_n hx hb dX2_hunt_30 rfl (lv_at hl 1 rfl) ?_
  refine cr_get (k := 1) X hP hkt rfl cv11_1 rfl cinX2 (by decide) rfl tw300 dX2_hunt_31 ?_
  refine lv_iload_n hx hb dX2_hunt_34 rfl (lv_at hl 2 rfl) ?_
  obtain ⟨g2, hf⟩ := gd hf
  refine cr_aald (f := fun i => (t + 2) + 15 + i) X hP (kc_sacks hkt) rfl (fun _ => rfl) rfl g2 dX2_hunt_35 ?_
  refine lv_astore_n (lv' := [(3, .ref (ca ((t + 2) + 15 + x1.toNatClampNeg))), (2, .ref (ca ((t + 1) + 8 + (M.1 t 8).toNatClampNeg))), (0, .ref (ca t)), (1, .int x1)]) hx hb dX2_hunt_36 rfl hl (by decide) rfl (fun ls hl => ?_)
  refine lv_aload_n hx hb dX2_hunt_37 rfl (lv_at hl 1 rfl) ?_
  obtain ⟨q, hc, hf⟩ := bd hf
  refine gCallVR X rfl (vX0_strength (kc_cat (kc_cats hkt) g1) hc) gRX2_X0_strength hdX0_strength rfl ⟨by decide, by decide⟩ (gB_blind cOK) (gB_at cOK X hP) (cr_rec hP (kc_cat (kc_cats hkt) g1) rfl cw18 rfl) hl.1 (Nat.le_of_ble_eq_true rfl) ⟨Nat.zero_le _, Nat.zero_le _⟩ dX2_hunt_38 (As := []) (rest := []) rfl ?_
  exact kX2_hunt_41 X hret hkt (kc_cat (kc_cats hkt) g1) (kc_sack (kc_sacks hkt) g2) hf hP hS (lv_sub hl [2, 1, 0] rfl)
set_option maxRecDepth 10000 in
theorem kX2_hunt_13 {r : Int32} {S1 : CS} {t : Nat} {M : CS} {x1 : Int32} {H : Heap} {locs : List Loc} {ls : Array Slot} (X : gX p s m args c cX2_hunt 5 RX2 (kR kTab kA)) (hret : gRetI p l e (rmL 3 0 0) s m args below meth c cX2_hunt (cΩ ca) (cP dC dI cg kA ca) Q r S1) (hkt : kc t = 11) (hf : fX2_hunt_13 t M x1 = some (r, S1)) (hP : (cP dC dI cg kA ca) M s H) (hS : va_S (Fr (cΩ ca) s.heap.size) s.heap H locs) (hl : lv_has ls 5 [(0, .ref (ca t)), (1, .int x1)]) : W p l e (rmL 3 0 0) s m args below meth c H locs 0 0 Q (F0 m 13 ls []) := by
  have hx := X.hx
  have hb := X.hb
  have hown := X.hown
  have hts := X.hts
  rw [fX2_hunt_13] at hf
  refine lv_iload_n hx hb dX2_hunt_13 rfl (lv_at hl 1 rfl) ?_
  refine lv_iconst (v := (-1)) hx hb dX2_hunt_14 (by decide) ?_
  refine lv_icmp_ne (tgt := 20) hx hb dX2_hunt_15 (by decide) (fun c1 => ?_) (fun c1 => ?_)
  · exact kX2_hunt_20 X hret hkt (ifn c1 hf) hP hS (lv_sub hl [0, 1] rfl)
  · exact kX2_hunt_18 X hret hkt (ifp c1 hf) hP hS (lv_sub hl [0] rfl)
set_option maxRecDepth 10000 in
theorem kX2_hunt_4 {r : Int32} {S1 : CS} {t : Nat} {M : CS} {s0 : Int32} {H : Heap} {locs : List Loc} {ls : Array Slot} (X : gX p s m args c cX2_hunt 5 RX2 (kR kTab kA)) (hret : gRetI p l e (rmL 3 0 0) s m args below meth c cX2_hunt (cΩ ca) (cP dC dI cg kA ca) Q r S1) (hkt : kc t = 11) (hf : fX2_hunt_4 t M s0 = some (r, S1)) (hP : (cP dC dI cg kA ca) M s H) (hS : va_S (Fr (cΩ ca) s.heap.size) s.heap H locs) (hl : lv_has ls 5 [(0, .ref (ca t))]) : W p l e (rmL 3 0 0) s m args below meth c H locs 0 0 Q (F0 m 4 ls [.int s0]) := by
  have hx := X.hx
  have hb := X.hb
  have hown := X.hown
  have hts := X.hts
  rw [fX2_hunt_4] at hf
  refine lv_istore_n (lv' := [(1, .int s0), (0, .ref (ca t))]) hx hb dX2_hunt_4 rfl hl (by decide) rfl (fun ls hl => ?_)
  refine lv_aload_n hx hb dX2_hunt_5 rfl (lv_at hl 1 rfl) ?_
  refine cr_get (k := 8) X hP hkt rfl cv11_8 rfl cinX2 (by decide) rfl tw316 dX2_hunt_6 ?_
  refine lv_iconst (v := (-1)) hx hb dX2_hunt_9 (by decide) ?_
  refine lv_icmp_eq (tgt := 18) hx hb dX2_hunt_10 (by decide) (fun c1 => ?_) (fun c1 => ?_)
  · exact kX2_hunt_18 X hret hkt (ifp c1 hf) hP hS (lv_sub hl [1] rfl)
  · exact kX2_hunt_13 X hret hkt (ifn c1 hf) hP hS (lv_sub hl [1, 0] rfl)
set_option maxRecDepth 10000 in
theorem kX2_hunt_0 {r : Int32} {S1 : CS} {t : Nat} {M : CS} {H : Heap} {locs : List Loc} {ls : Array Slot} (X : gX p s m args c cX2_hunt 5 RX2 (kR kTab kA)) (hret : gRetI p l e (rmL 3 0 0) s m args below meth c cX2_hunt (cΩ ca) (cP dC dI cg kA ca) Q r S1) (hkt : kc t = 11) (hf : fX2_hunt_0 t M = some (r, S1)) (hP : (cP dC dI cg kA ca) M s H) (hS : va_S (Fr (cΩ ca) s.heap.size) s.heap H locs) (hl : lv_has ls 5 [(0, .ref (ca t))]) : W p l e (rmL 3 0 0) s m args below meth c H locs 0 0 Q (F0 m 0 ls []) := by
  have hx := X.hx
  have hb := X.hb
  have hown := X.hown
  have hts := X.hts
  rw [fX2_hunt_0] at hf
  refine lv_aload_n hx hb dX2_hunt_0 rfl (lv_at hl 0 rfl) ?_
  obtain ⟨q, hc, hf⟩ := bd hf
  refine gCallVR X rfl (vX2_busiestOpenSack hkt hc) gRX2_X2_busiestOpenSack hdX2_busiestOpenSack rfl ⟨by decide, by decide⟩ (gB_blind cOK) (gB_at cOK X hP) (cr_rec hP hkt rfl cw11 rfl) hl.1 (Nat.le_of_ble_eq_true rfl) ⟨Nat.zero_le _, Nat.zero_le _⟩ dX2_hunt_1 (As := []) (rest := []) rfl ?_
  exact kX2_hunt_4 X hret hkt hf hP hS (lv_sub hl [0] rfl)
theorem vX2_hunt {l : Launch} {dC : Nat → ClassId} {dI : Nat → Nat → Nat} {cg : Nat → ClassId} {kA : String → Nat → Nat} {ca : Nat → Nat} {M S1 : CS} {r : Int32} {t : Nat} (hkt : kc t = 11) (hf : fX2_hunt M t  = some (r, S1)) : gMetI l yX2_hunt cX2_hunt 5 (some .int) 3 (cΩ ca) (cP dC dI cg kA ca) (kR kTab kA) [.ref (ca t)] M r S1 := gEntryI (ty := .int) (by decide) rfl rfl cOK (Nat.le_of_ble_eq_true rfl) (fun p e s m args below meth c Q ls X hP hS hret hl => 
  kX2_hunt_0 X hret hkt hf hP hS (lv_sub hl [0] rfl))
set_option maxRecDepth 10000 in
theorem kX2_restAllBut_31 {S1 : CS} {t : Nat} {M : CS} {H : Heap} {locs : List Loc} {ls : Array Slot} (X : gX p s m args c cX2_restAllBut 3 RX2 (kR kTab kA)) (hret : gRetV p l e (rmL 3 0 0) s m args below meth c cX2_restAllBut (cΩ ca) (cP dC dI cg kA ca) Q S1) (hkt : kc t = 11) (hf : fX2_restAllBut_31 t M = some S1) (hP : (cP dC dI cg kA ca) M s H) (hS : va_S (Fr (cΩ ca) s.heap.size) s.heap H locs) (hl : lv_has ls 3 [(0, .ref (ca t))]) : W p l e (rmL 3 0 0) s m args below meth c H locs 0 0 Q (F0 m 31 ls []) := by
  have hx := X.hx
  have hb := X.hb
  have hown := X.hown
  have hts := X.hts
  rw [fX2_restAllBut_31] at hf
  cases hf
  exact hret _ _ _ _ dX2_restAllBut_31 hP hS
set_option maxRecDepth 10000 in
theorem kX2_restAllBut_25 {S1 : CS} {t : Nat} {K2 : CS → Int32 → Int32 → Option (CS)} {M : CS} {x1 : Int32} {x2 : Int32} {H : Heap} {locs : List Loc} {ls : Array Slot} (X : gX p s m args c cX2_restAllBut 3 RX2 (kR kTab kA)) (hret : gRetV p l e (rmL 3 0 0) s m args below meth c cX2_restAllBut (cΩ ca) (cP dC dI cg kA ca) Q S1) (hkt : kc t = 11) (hK2 : ∀ (M : CS) (x1 : Int32) (x2 : Int32) (H : Heap) (locs : List Loc) (ls : Array Slot), K2 M x1 x2 = some S1 → (cP dC dI cg kA ca) M s H → va_S (Fr (cΩ ca) s.heap.size) s.heap H locs → lv_has ls 3 [(0, .ref (ca t)), (1, .int x1), (2, .int x2)] → W p l e (rmL 3 0 0) s m args below meth c H locs 0 0 Q (F0 m 2 ls [])) (hf : fX2_restAllBut_25 t K2 M x1 x2 = some S1) (hP : (cP dC dI cg kA ca) M s H) (hS : va_S (Fr (cΩ ca) s.heap.size) s.heap H locs) (hl : lv_has ls 3 [(0, .ref (ca t)), (1, .int x1), (2, .int x2)]) : W p l e (rmL 3 0 0) s m args below meth c H locs 0 0 Q (F0 m 25 ls []) := by
  have hx := X.hx
  have hb := X.hb
  have hown := X.hown
  have hts := X.hts
  rw [fX2_restAllBut_25] at hf
  refine lv_iinc (v := (x2 + 1)) (lv' := [(2, .int (x2 + 1)), (0, .ref (ca t)), (1, .int x1)]) hx hb dX2_restAllBut_25 hl (k := 2) rfl (by rfl) (by decide) rfl (fun ls hl => ?_)
  refine lv_goto (tgt := 2) hx hb dX2_restAllBut_28 (by decide) ?_
  exact hK2 _ _ _ _ _ _ hf hP hS (lv_sub hl [1, 2, 0] rfl)
set_option maxRecDepth 10000 in
theorem kX2_restAllBut_15 {S1 : CS} {t : Nat} {K2 : CS → Int32 → Int32 → Option (CS)} {M : CS} {x1 : Int32} {x2 : Int32} {H : Heap} {locs : List Loc} {ls : Array Slot} (X : gX p s m args c cX2_restAllBut 3 RX2 (kR kTab kA)) (hret : gRetV p l e (rmL 3 0 0) s m args below meth c cX2_restAllBut (cΩ ca) (cP dC dI cg kA ca) Q S1) (hkt : kc t = 11) (hK2 : ∀ (M : CS) (x1 : Int32) (x2 : Int32) (H : Heap) (locs : List Loc) (ls : Array Slot), K2 M x1 x2 = some S1 → (cP dC dI cg kA ca) M s H → va_S (Fr (cΩ ca) s.heap.size) s.heap H locs → lv_has ls 3 [(0, .ref (ca t)), (1, .int x1), (2, .int x2)] → W p l e (rmL 3 0 0) s m args below meth c H locs 0 0 Q (F0 m 2 ls [])) (hf : fX2_restAllBut_15 t K2 M x1 x2 = some S1) (hP : (cP dC dI cg kA ca) M s H) (hS : va_S (Fr (cΩ ca) s.heap.size) s.heap H locs) (hl : lv_has ls 3 [(0, .ref (ca t)), (1, .int x1), (2, .int x2)]) : W p l e (rmL 3 0 0) s m args below meth c H locs 0 0 Q (F0 m 15 ls []) := by
  have hx := X.hx
  have hb := X.hb
  have hown := X.hown
  have hts := X.hts
  rw [fX2_restAllBut_15] at hf
  refine lv_aload_n hx hb dX2_restAllBut_15 rfl (lv_at hl 0 rfl) ?_
  refine cr_get (k := 0) X hP hkt rfl cv11_0 rfl cinX2 (by decide) rfl tw297 dX2_restAllBut_16 ?_
  refine lv_iload_n hx hb dX2_restAllBut_19 rfl (lv_at hl 2 rfl) ?_
  obtain ⟨g1, hf⟩ := gd hf
  refine cr_aald (f := fun i => (t + 1) + 8 + i) X hP (kc_cats hkt) rfl (fun _ => rfl) rfl g1 dX2_restAllBut_20 ?_
  refine lv_iconst (v := 1) hx hb dX2_restAllBut_21 (by decide) ?_
  obtain ⟨q, hc, hf⟩ := bd hf
  refine gCallVV X cOK rfl (vX0_recover (kc_cat (kc_cats hkt) g1) hc) gRX2_X0_recover hdX0_recover rfl ⟨by decide, by decide⟩ hP hS (cr_rec hP (kc_cat (kc_cats hkt) g1) rfl cw18 rfl) hl.1 (Nat.le_of_ble_eq_true rfl) ⟨Nat.zero_le _, Nat.zero_le _⟩ dX2_restAllBut_22 (As := [.int 1]) (rest := []) rfl (fun H locs hP hS => ?_)
  exact kX2_restAllBut_25 X hret hkt hK2 hf hP hS (lv_sub hl [0, 1, 2] rfl)
set_option maxRecDepth 10000 in
theorem kX2_restAllBut_10 {S1 : CS} {t : Nat} {K2 : CS → Int32 → Int32 → Option (CS)} {M : CS} {x1 : Int32} {x2 : Int32} {H : Heap} {locs : List Loc} {ls : Array Slot} (X : gX p s m args c cX2_restAllBut 3 RX2 (kR kTab kA)) (hret : gRetV p l e (rmL 3 0 0) s m args below meth c cX2_restAllBut (cΩ ca) (cP dC dI cg kA ca) Q S1) (hkt : kc t = 11) (hK2 : ∀ (M : CS) (x1 : Int32) (x2 : Int32) (H : Heap) (locs : List Loc) (ls : Array Slot), K2 M x1 x2 = some S1 → (cP dC dI cg kA ca) M s H → va_S (Fr (cΩ ca) s.heap.size) s.heap H locs → lv_has ls 3 [(0, .ref (ca t)), (1, .int x1), (2, .int x2)] → W p l e (rmL 3 0 0) s m args below meth c H locs 0 0 Q (F0 m 2 ls [])) (hf : fX2_restAllBut_10 t K2 M x1 x2 = some S1) (hP : (cP dC dI cg kA ca) M s H) (hS : va_S (Fr (cΩ ca) s.heap.size) s.heap H locs) (hl : lv_has ls 3 [(0, .ref (ca t)), (1, .int x1), (2, .int x2)]) : W p l e (rmL 3 0 0) s m args below meth c H locs 0 0 Q (F0 m 10 ls []) := by
  have hx := X.hx
  have hb := X.hb
  have hown := X.hown
  have hts := X.hts
  rw [fX2_restAllBut_10] at hf
  refine lv_iload_n hx hb dX2_restAllBut_10 rfl (lv_at hl 2 rfl) ?_
  refine lv_iload_n hx hb dX2_restAllBut_11 rfl (lv_at hl 1 rfl) ?_
  refine lv_icmp_eq (tgt := 25) hx hb dX2_restAllBut_12 (by decide) (fun c1 => ?_) (fun c1 => ?_)
  · exact kX2_restAllBut_25 X hret hkt hK2 (ifp c1 hf) hP hS (lv_sub hl [0, 1, 2] rfl)
  · exact kX2_restAllBut_15 X hret hkt hK2 (ifn c1 hf) hP hS (lv_sub hl [0, 1, 2] rfl)
set_option maxRecDepth 10000 in
theorem kX2_restAllBut_2 {S1 : CS} {t : Nat} (X : gX p s m args c cX2_restAllBut 3 RX2 (kR kTab kA)) (hret : gRetV p l e (rmL 3 0 0) s m args below meth c cX2_restAllBut (cΩ ca) (cP dC dI cg kA ca) Q S1) (hkt : kc t = 11) : ∀ (n : Nat) (M : CS) (x1 : Int32) (x2 : Int32) (H : Heap) (locs : List Loc) (ls : Array Slot), fX2_restAllBut_2 t n M x1 x2 = some S1 → (cP dC dI cg kA ca) M s H → va_S (Fr (cΩ ca) s.heap.size) s.heap H locs → lv_has ls 3 [(0, .ref (ca t)), (1, .int x1), (2, .int x2)] → W p l e (rmL 3 0 0) s m args below meth c H locs 0 0 Q (F0 m 2 ls []) := by
  intro n
  induction n with
  | zero => intro M x1 x2 H locs ls hf; cases hf
  | succ k ih =>
    intro M x1 x2 H locs ls hf hP hS hl
    have hx := X.hx
    have hb := X.hb
    have hown := X.hown
    have hts := X.hts
    rw [fX2_restAllBut_2] at hf
    try dsimp only at hf
    refine lv_iload_n hx hb dX2_restAllBut_2 rfl (lv_at hl 2 rfl) ?_
    refine lv_aload_n hx hb dX2_restAllBut_3 rfl (lv_at hl 0 rfl) ?_
    refine cr_get (k := 5) X hP hkt rfl cv11_5 rfl cinX2 (by decide) rfl tw308 dX2_restAllBut_4 ?_
    refine lv_icmp_ge (tgt := 31) hx hb dX2_restAllBut_7 (by decide) (fun c1 => ?_) (fun c1 => ?_)
    · exact kX2_restAllBut_31 X hret hkt (ifp c1 hf) hP hS (lv_sub hl [0] rfl)
    · exact kX2_restAllBut_10 X hret hkt ih (ifn c1 hf) hP hS (lv_sub hl [0, 1, 2] rfl)
set_option maxRecDepth 10000 in
theorem kX2_restAllBut_0 {S1 : CS} {t : Nat} {M : CS} {a1 : Int32} {H : Heap} {locs : List Loc} {ls : Array Slot} (X : gX p s m args c cX2_restAllBut 3 RX2 (kR kTab kA)) (hret : gRetV p l e (rmL 3 0 0) s m args below meth c cX2_restAllBut (cΩ ca) (cP dC dI cg kA ca) Q S1) (hkt : kc t = 11) (hf : fX2_restAllBut_0 t M a1 = some S1) (hP : (cP dC dI cg kA ca) M s H) (hS : va_S (Fr (cΩ ca) s.heap.size) s.heap H locs) (hl : lv_has ls 3 [(0, .ref (ca t)), (1, .int a1)]) : W p l e (rmL 3 0 0) s m args below meth c H locs 0 0 Q (F0 m 0 ls []) := by
  have hx := X.hx
  have hb := X.hb
  have hown := X.hown
  have hts := X.hts
  rw [fX2_restAllBut_0] at hf
  refine lv_iconst (v := 0) hx hb dX2_restAllBut_0 (by decide) ?_
  refine lv_istore_n (lv' := [(2, .int 0), (0, .ref (ca t)), (1, .int a1)]) hx hb dX2_restAllBut_1 rfl hl (by decide) rfl (fun ls hl => ?_)
  exact kX2_restAllBut_2 X hret hkt FU _ _ _ _ _ _ hf hP hS (lv_sub hl [1, 2, 0] rfl)
theorem vX2_restAllBut {l : Launch} {dC : Nat → ClassId} {dI : Nat → Nat → Nat} {cg : Nat → ClassId} {kA : String → Nat → Nat} {ca : Nat → Nat} {M S1 : CS} {t : Nat} {a1 : Int32} (hkt : kc t = 11) (hf : fX2_restAllBut M t a1 = some S1) : gMetV l yX2_restAllBut cX2_restAllBut 3 3 (cΩ ca) (cP dC dI cg kA ca) (kR kTab kA) [.ref (ca t), .int a1] M S1 := gEntryV (by decide) cOK (Nat.le_of_ble_eq_true rfl) (fun p e s m args below meth c Q ls X hP hS hret hl => 
  kX2_restAllBut_0 X hret hkt hf hP hS (lv_sub hl [0, 1] rfl))
set_option maxRecDepth 10000 in
theorem kX2_changeShift_124 {S1 : CS} {t : Nat} {M : CS} {H : Heap} {locs : List Loc} {ls : Array Slot} (X : gX p s m args c cX2_changeShift 3 RX2 (kR kTab kA)) (hret : gRetV p l e (rmL 3 0 0) s m args below meth c cX2_changeShift (cΩ ca) (cP dC dI cg kA ca) Q S1) (hkt : kc t = 11) (hf : fX2_changeShift_124 t M = some S1) (hP : (cP dC dI cg kA ca) M s H) (hS : va_S (Fr (cΩ ca) s.heap.size) s.heap H locs) (hl : lv_has ls 3 [(0, .ref (ca t))]) : W p l e (rmL 3 0 0) s m args below meth c H locs 0 0 Q (F0 m 124 ls []) := by
  have hx := X.hx
  have hb := X.hb
  have hown := X.hown
  have hts := X.hts
  rw [fX2_changeShift_124] at hf
  cases hf
  exact hret _ _ _ _ dX2_changeShift_124 hP hS
set_option maxRecDepth 10000 in
theorem kX2_changeShift_114 {S1 : CS} {t : Nat} {M : CS} {x1 : Int32} {x2 : Int32} {H : Heap} {locs : List Loc} {ls : Array Slot} (X : gX p s m args c cX2_changeShift 3 RX2 (kR kTab kA)) (hret : gRetV p l e (rmL 3 0 0) s m args below meth c cX2_changeShift (cΩ ca) (cP dC dI cg kA ca) Q S1) (hkt : kc t = 11) (hf : fX2_changeShift_114 t M x1 x2 = some S1) (hP : (cP dC dI cg kA ca) M s H) (hS : va_S (Fr (cΩ ca) s.heap.size) s.heap H locs) (hl : lv_has ls 3 [(0, .ref (ca t)), (1, .int x1), (2, .int x2)]) : W p l e (rmL 3 0 0) s m args below meth c H locs 0 0 Q (F0 m 114 ls []) := by
  have hx := X.hx
  have hb := X.hb
  have hown := X.hown
  have hts := X.hts
  rw [fX2_changeShift_114] at hf
  refine lv_aload_n hx hb dX2_changeShift_114 rfl (lv_at hl 0 rfl) ?_
  refine cr_get (k := 3) X hP hkt rfl cv11_3 rfl cinX2 (by decide) rfl tw305 dX2_changeShift_115 ?_
  refine lv_iconst (v := 3) hx hb dX2_changeShift_118 (by decide) ?_
  refine lv_iload_n hx hb dX2_changeShift_119 rfl (lv_at hl 2 rfl) ?_
  refine lv_iload_n hx hb dX2_changeShift_120 rfl (lv_at hl 1 rfl) ?_
  obtain ⟨q, hc, hf⟩ := bd hf
  refine gCallVV X cOK rfl (vX1_add (kc_events hkt) hc) gRX2_X1_add hdX1_add rfl ⟨by decide, by decide⟩ hP hS (cr_rec hP (kc_events hkt) rfl cw15 rfl) hl.1 (Nat.le_of_ble_eq_true rfl) ⟨Nat.zero_le _, Nat.zero_le _⟩ dX2_changeShift_121 (As := [.int 3, .int x2, .int x1]) (rest := []) rfl (fun H locs hP hS => ?_)
  exact kX2_changeShift_124 X hret hkt hf hP hS (lv_sub hl [0] rfl)
set_option maxRecDepth 10000 in
theorem kX2_changeShift_101 {S1 : CS} {t : Nat} {M : CS} {x1 : Int32} {x2 : Int32} {H : Heap} {locs : List Loc} {ls : Array Slot} (X : gX p s m args c cX2_changeShift 3 RX2 (kR kTab kA)) (hret : gRetV p l e (rmL 3 0 0) s m args below meth c cX2_changeShift (cΩ ca) (cP dC dI cg kA ca) Q S1) (hkt : kc t = 11) (hf : fX2_changeShift_101 t M x1 x2 = some S1) (hP : (cP dC dI cg kA ca) M s H) (hS : va_S (Fr (cΩ ca) s.heap.size) s.heap H locs) (hl : lv_has ls 3 [(0, .ref (ca t)), (1, .int x1), (2, .int x2)]) : W p l e (rmL 3 0 0) s m args below meth c H locs 0 0 Q (F0 m 101 ls []) := by
  have hx := X.hx
  have hb := X.hb
  have hown := X.hown
  have hts := X.hts
  rw [fX2_changeShift_101] at hf
  refine lv_aload_n hx hb dX2_changeShift_101 rfl (lv_at hl 0 rfl) ?_
  refine cr_get (k := 4) X hP hkt rfl cv11_4 rfl cinX2 (by decide) rfl tw306 dX2_changeShift_102 ?_
  refine lv_dup hx hb dX2_changeShift_105 rfl ?_
  refine cr_get (k := 5) X hP (kc_totals hkt) rfl cv17_5 rfl cinX9 (by decide) rfl tw186 dX2_changeShift_106 ?_
  refine lv_iconst (v := 1) hx hb dX2_changeShift_109 (by decide) ?_
  refine lv_iadd hx hb dX2_changeShift_110 ?_
  refine cr_put (k := 5) X hP hS (kc_totals hkt) rfl cs17_5 rfl cinX9 tyX9_ok nmX9 (by decide) rfl rfl rfl rfl tw186 dX2_changeShift_111 (fun H locs hP hS => ?_)
  exact kX2_changeShift_114 X hret hkt hf hP hS (lv_sub hl [0, 1, 2] rfl)
set_option maxRecDepth 10000 in
theorem kX2_changeShift_96 {S1 : CS} {t : Nat} {M : CS} {x1 : Int32} {x2 : Int32} {H : Heap} {locs : List Loc} {ls : Array Slot} (X : gX p s m args c cX2_changeShift 3 RX2 (kR kTab kA)) (hret : gRetV p l e (rmL 3 0 0) s m args below meth c cX2_changeShift (cΩ ca) (cP dC dI cg kA ca) Q S1) (hkt : kc t = 11) (hf : fX2_changeShift_96 t M x1 x2 = some S1) (hP : (cP dC dI cg kA ca) M s H) (hS : va_S (Fr (cΩ ca) s.heap.size) s.heap H locs) (hl : lv_has ls 3 [(0, .ref (ca t)), (1, .int x1), (2, .int x2)]) : W p l e (rmL 3 0 0) s m args below meth c H locs 0 0 Q (F0 m 96 ls []) := by
  have hx := X.hx
  have hb := X.hb
  have hown := X.hown
  have hts := X.hts
  rw [fX2_changeShift_96] at hf
  refine lv_aload_n hx hb dX2_changeShift_96 rfl (lv_at hl 0 rfl) ?_
  refine lv_iconst (v := (-1)) hx hb dX2_changeShift_97 (by decide) ?_
  refine cr_put (k := 8) X hP hS hkt rfl cs11_8 rfl cinX2 tyX2_ok nmX2 (by decide) rfl rfl rfl rfl tw316 dX2_changeShift_98 (fun H locs hP hS => ?_)
  exact kX2_changeShift_101 X hret hkt hf hP hS (lv_sub hl [0, 1, 2] rfl)
set_option maxRecDepth 10000 in
theorem kX2_changeShift_93 {S1 : CS} {t : Nat} {M : CS} {H : Heap} {locs : List Loc} {ls : Array Slot} (X : gX p s m args c cX2_changeShift 3 RX2 (kR kTab kA)) (hret : gRetV p l e (rmL 3 0 0) s m args below meth c cX2_changeShift (cΩ ca) (cP dC dI cg kA ca) Q S1) (hkt : kc t = 11) (hf : fX2_changeShift_93 t M = some S1) (hP : (cP dC dI cg kA ca) M s H) (hS : va_S (Fr (cΩ ca) s.heap.size) s.heap H locs) (hl : lv_has ls 3 [(0, .ref (ca t))]) : W p l e (rmL 3 0 0) s m args below meth c H locs 0 0 Q (F0 m 93 ls []) := by
  have hx := X.hx
  have hb := X.hb
  have hown := X.hown
  have hts := X.hts
  rw [fX2_changeShift_93] at hf
  refine lv_goto (tgt := 124) hx hb dX2_changeShift_93 (by decide) ?_
  exact kX2_changeShift_124 X hret hkt hf hP hS (lv_sub hl [0] rfl)
set_option maxRecDepth 10000 in
theorem kX2_changeShift_83 {S1 : CS} {t : Nat} {M : CS} {x1 : Int32} {x2 : Int32} {H : Heap} {locs : List Loc} {ls : Array Slot} (X : gX p s m args c cX2_changeShift 3 RX2 (kR kTab kA)) (hret : gRetV p l e (rmL 3 0 0) s m args below meth c cX2_changeShift (cΩ ca) (cP dC dI cg kA ca) Q S1) (hkt : kc t = 11) (hf : fX2_changeShift_83 t M x1 x2 = some S1) (hP : (cP dC dI cg kA ca) M s H) (hS : va_S (Fr (cΩ ca) s.heap.size) s.heap H locs) (hl : lv_has ls 3 [(0, .ref (ca t)), (1, .int x1), (2, .int x2)]) : W p l e (rmL 3 0 0) s m args below meth c H locs 0 0 Q (F0 m 83 ls []) := by
  have hx := X.hx
  have hb := X.hb
  have hown := X.hown
  have hts := X.hts
  rw [fX2_changeShift_83] at hf
  refine lv_aload_n hx hb dX2_changeShift_83 rfl (lv_at hl 0 rfl) ?_
  refine cr_get (k := 3) X hP hkt rfl cv11_3 rfl cinX2 (by decide) rfl tw305 dX2_changeShift_84 ?_
  refine lv_iconst (v := 2) hx hb dX2_changeShift_87 (by decide) ?_
  refine lv_iload_n hx hb dX2_changeShift_88 rfl (lv_at hl 2 rfl) ?_
  refine lv_iload_n hx hb dX2_changeShift_89 rfl (lv_at hl 1 rfl) ?_
  obtain ⟨q, hc, hf⟩ := bd hf
  refine gCallVV X cOK rfl (vX1_add (kc_events hkt) hc) gRX2_X1_add hdX1_add rfl ⟨by decide, by decide⟩ hP hS (cr_rec hP (kc_events hkt) rfl cw15 rfl) hl.1 (Nat.le_of_ble_eq_true rfl) ⟨Nat.zero_le _, Nat.zero_le _⟩ dX2_changeShift_90 (As := [.int 2, .int x2, .int x1]) (rest := []) rfl (fun H locs hP hS => ?_)
  exact kX2_changeShift_93 X hret hkt hf hP hS (lv_sub hl [0] rfl)
set_option maxRecDepth 10000 in
theorem kX2_changeShift_78 {S1 : CS} {t : Nat} {M : CS} {x1 : Int32} {x2 : Int32} {H : Heap} {locs : List Loc} {ls : Array Slot} (X : gX p s m args c cX2_changeShift 3 RX2 (kR kTab kA)) (hret : gRetV p l e (rmL 3 0 0) s m args below meth c cX2_changeShift (cΩ ca) (cP dC dI cg kA ca) Q S1) (hkt : kc t = 11) (hf : fX2_changeShift_78 t M x1 x2 = some S1) (hP : (cP dC dI cg kA ca) M s H) (hS : va_S (Fr (cΩ ca) s.heap.size) s.heap H locs) (hl : lv_has ls 3 [(0, .ref (ca t)), (1, .int x1), (2, .int x2)]) : W p l e (rmL 3 0 0) s m args below meth c H locs 0 0 Q (F0 m 78 ls []) := by
  have hx := X.hx
  have hb := X.hb
  have hown := X.hown
  have hts := X.hts
  rw [fX2_changeShift_78] at hf
  refine lv_aload_n hx hb dX2_changeShift_78 rfl (lv_at hl 0 rfl) ?_
  refine lv_iload_n hx hb dX2_changeShift_79 rfl (lv_at hl 2 rfl) ?_
  obtain ⟨q, hc, hf⟩ := bd hf
  refine gCallVV X cOK rfl (vX2_swearIn hkt hc) gRX2_X2_swearIn hdX2_swearIn rfl ⟨by decide, by decide⟩ hP hS (cr_rec hP hkt rfl cw11 rfl) hl.1 (Nat.le_of_ble_eq_true rfl) ⟨Nat.zero_le _, Nat.zero_le _⟩ dX2_changeShift_80 (As := [.int x2]) (rest := []) rfl (fun H locs hP hS => ?_)
  exact kX2_changeShift_83 X hret hkt hf hP hS (lv_sub hl [0, 1, 2] rfl)
set_option maxRecDepth 10000 in
theorem kX2_changeShift_75 {S1 : CS} {t : Nat} {M : CS} {x1 : Int32} {x2 : Int32} {s0 : Int32} {H : Heap} {locs : List Loc} {ls : Array Slot} (X : gX p s m args c cX2_changeShift 3 RX2 (kR kTab kA)) (hret : gRetV p l e (rmL 3 0 0) s m args below meth c cX2_changeShift (cΩ ca) (cP dC dI cg kA ca) Q S1) (hkt : kc t = 11) (hf : fX2_changeShift_75 t M x1 x2 s0 = some S1) (hP : (cP dC dI cg kA ca) M s H) (hS : va_S (Fr (cΩ ca) s.heap.size) s.heap H locs) (hl : lv_has ls 3 [(0, .ref (ca t)), (1, .int x1), (2, .int x2)]) : W p l e (rmL 3 0 0) s m args below meth c H locs 0 0 Q (F0 m 75 ls [.int s0]) := by
  have hx := X.hx
  have hb := X.hb
  have hown := X.hown
  have hts := X.hts
  rw [fX2_changeShift_75] at hf
  refine lv_if_ne (tgt := 96) hx hb dX2_changeShift_75 (by decide) (fun c1 => ?_) (fun c1 => ?_)
  · exact kX2_changeShift_96 X hret hkt (ifn c1 hf) hP hS (lv_sub hl [0, 1, 2] rfl)
  · exact kX2_changeShift_78 X hret hkt (ifp c1 hf) hP hS (lv_sub hl [0, 1, 2] rfl)
set_option maxRecDepth 10000 in
theorem kX2_changeShift_52 {S1 : CS} {t : Nat} {M : CS} {H : Heap} {locs : List Loc} {ls : Array Slot} (X : gX p s m args c cX2_changeShift 3 RX2 (kR kTab kA)) (hret : gRetV p l e (rmL 3 0 0) s m args below meth c cX2_changeShift (cΩ ca) (cP dC dI cg kA ca) Q S1) (hkt : kc t = 11) (hf : fX2_changeShift_52 t M = some S1) (hP : (cP dC dI cg kA ca) M s H) (hS : va_S (Fr (cΩ ca) s.heap.size) s.heap H locs) (hl : lv_has ls 3 [(0, .ref (ca t))]) : W p l e (rmL 3 0 0) s m args below meth c H locs 0 0 Q (F0 m 52 ls []) := by
  have hx := X.hx
  have hb := X.hb
  have hown := X.hown
  have hts := X.hts
  rw [fX2_changeShift_52] at hf
  refine lv_aload_n hx hb dX2_changeShift_52 rfl (lv_at hl 0 rfl) ?_
  refine cr_get (k := 8) X hP hkt rfl cv11_8 rfl cinX2 (by decide) rfl tw316 dX2_changeShift_53 ?_
  refine lv_istore_n (lv' := [(1, .int (M.1 t 8)), (0, .ref (ca t))]) hx hb dX2_changeShift_56 rfl hl (by decide) rfl (fun ls hl => ?_)
  refine lv_aload_n hx hb dX2_changeShift_57 rfl (lv_at hl 1 rfl) ?_
  refine cr_get (k := 2) X hP hkt rfl cv11_2 rfl cinX2 (by decide) rfl tw303 dX2_changeShift_58 ?_
  refine lv_aload_n hx hb dX2_changeShift_61 rfl (lv_at hl 1 rfl) ?_
  refine cr_get (k := 9) X hP hkt rfl cv11_9 rfl cinX2 (by decide) rfl tw318 dX2_changeShift_62 ?_
  obtain ⟨g1, hf⟩ := gd hf
  refine cr_aald (f := fun i => (t + 3) + 20 + i) X hP (kc_shifts hkt) rfl (fun _ => rfl) rfl g1 dX2_changeShift_65 ?_
  refine cr_get (k := 0) X hP (kc_shift (kc_shifts hkt) g1) rfl cv20_0 rfl cinX7 (by decide) rfl tw287 dX2_changeShift_66 ?_
  refine lv_istore_n (lv' := [(2, .int (M.1 ((t + 3) + 20 + (M.1 t 9).toNatClampNeg) 0)), (1, .int (M.1 t 8)), (0, .ref (ca t))]) hx hb dX2_changeShift_69 rfl hl (by decide) rfl (fun ls hl => ?_)
  refine lv_aload_n hx hb dX2_changeShift_70 rfl (lv_at hl 2 rfl) ?_
  refine lv_iload_n hx hb dX2_changeShift_71 rfl (lv_at hl 0 rfl) ?_
  obtain ⟨q, hc, hf⟩ := bd hf
  refine gCallVR X rfl (vX2_reasonAgainst hkt hc) gRX2_X2_reasonAgainst hdX2_reasonAgainst rfl ⟨by decide, by decide⟩ (gB_blind cOK) (gB_at cOK X hP) (cr_rec hP hkt rfl cw11 rfl) hl.1 (Nat.le_of_ble_eq_true rfl) ⟨Nat.zero_le _, Nat.zero_le _⟩ dX2_changeShift_72 (As := [.int (M.1 ((t + 3) + 20 + (M.1 t 9).toNatClampNeg) 0)]) (rest := []) rfl ?_
  exact kX2_changeShift_75 X hret hkt hf hP hS (lv_sub hl [2, 1, 0] rfl)
set_option maxRecDepth 10000 in
theorem kX2_changeShift_51 {S1 : CS} {t : Nat} {M : CS} {H : Heap} {locs : List Loc} {ls : Array Slot} (X : gX p s m args c cX2_changeShift 3 RX2 (kR kTab kA)) (hret : gRetV p l e (rmL 3 0 0) s m args below meth c cX2_changeShift (cΩ ca) (cP dC dI cg kA ca) Q S1) (hkt : kc t = 11) (hf : fX2_changeShift_51 t M = some S1) (hP : (cP dC dI cg kA ca) M s H) (hS : va_S (Fr (cΩ ca) s.heap.size) s.heap H locs) (hl : lv_has ls 3 [(0, .ref (ca t))]) : W p l e (rmL 3 0 0) s m args below meth c H locs 0 0 Q (F0 m 51 ls []) := by
  have hx := X.hx
  have hb := X.hb
  have hown := X.hown
  have hts := X.hts
  rw [fX2_changeShift_51] at hf
  cases hf
  exact hret _ _ _ _ dX2_changeShift_51 hP hS
set_option maxRecDepth 10000 in
theorem kX2_changeShift_43 {S1 : CS} {t : Nat} {M : CS} {H : Heap} {locs : List Loc} {ls : Array Slot} (X : gX p s m args c cX2_changeShift 3 RX2 (kR kTab kA)) (hret : gRetV p l e (rmL 3 0 0) s m args below meth c cX2_changeShift (cΩ ca) (cP dC dI cg kA ca) Q S1) (hkt : kc t = 11) (hf : fX2_changeShift_43 t M = some S1) (hP : (cP dC dI cg kA ca) M s H) (hS : va_S (Fr (cΩ ca) s.heap.size) s.heap H locs) (hl : lv_has ls 3 [(0, .ref (ca t))]) : W p l e (rmL 3 0 0) s m args below meth c H locs 0 0 Q (F0 m 43 ls []) := by
  have hx := X.hx
  have hb := X.hb
  have hown := X.hown
  have hts := X.hts
  rw [fX2_changeShift_43] at hf
  refine lv_aload_n hx hb dX2_changeShift_43 rfl (lv_at hl 0 rfl) ?_
  refine cr_get (k := 8) X hP hkt rfl cv11_8 rfl cinX2 (by decide) rfl tw316 dX2_changeShift_44 ?_
  refine lv_iconst (v := (-1)) hx hb dX2_changeShift_47 (by decide) ?_
  refine lv_icmp_ne (tgt := 52) hx hb dX2_changeShift_48 (by decide) (fun c1 => ?_) (fun c1 => ?_)
  · exact kX2_changeShift_52 X hret hkt (ifn c1 hf) hP hS (lv_sub hl [0] rfl)
  · exact kX2_changeShift_51 X hret hkt (ifp c1 hf) hP hS (lv_sub hl [0] rfl)
set_option maxRecDepth 10000 in
theorem kX2_changeShift_27 {S1 : CS} {t : Nat} {M : CS} {H : Heap} {locs : List Loc} {ls : Array Slot} (X : gX p s m args c cX2_changeShift 3 RX2 (kR kTab kA)) (hret : gRetV p l e (rmL 3 0 0) s m args below meth c cX2_changeShift (cΩ ca) (cP dC dI cg kA ca) Q S1) (hkt : kc t = 11) (hf : fX2_changeShift_27 t M = some S1) (hP : (cP dC dI cg kA ca) M s H) (hS : va_S (Fr (cΩ ca) s.heap.size) s.heap H locs) (hl : lv_has ls 3 [(0, .ref (ca t))]) : W p l e (rmL 3 0 0) s m args below meth c H locs 0 0 Q (F0 m 27 ls []) := by
  have hx := X.hx
  have hb := X.hb
  have hown := X.hown
  have hts := X.hts
  rw [fX2_changeShift_27] at hf
  refine lv_aload_n hx hb dX2_changeShift_27 rfl (lv_at hl 0 rfl) ?_
  refine lv_aload_n hx hb dX2_changeShift_28 rfl (lv_at hl 0 rfl) ?_
  refine cr_get (k := 2) X hP hkt rfl cv11_2 rfl cinX2 (by decide) rfl tw303 dX2_changeShift_29 ?_
  refine lv_aload_n hx hb dX2_changeShift_32 rfl (lv_at hl 0 rfl) ?_
  refine cr_get (k := 9) X hP hkt rfl cv11_9 rfl cinX2 (by decide) rfl tw318 dX2_changeShift_33 ?_
  obtain ⟨g1, hf⟩ := gd hf
  refine cr_aald (f := fun i => (t + 3) + 20 + i) X hP (kc_shifts hkt) rfl (fun _ => rfl) rfl g1 dX2_changeShift_36 ?_
  refine cr_get (k := 1) X hP (kc_shift (kc_shifts hkt) g1) rfl cv20_1 rfl cinX7 (by decide) rfl tw290 dX2_changeShift_37 ?_
  refine cr_put (k := 10) X hP hS hkt rfl cs11_10 rfl cinX2 tyX2_ok nmX2 (by decide) rfl rfl rfl rfl tw320 dX2_changeShift_40 (fun H locs hP hS => ?_)
  exact kX2_changeShift_43 X hret hkt hf hP hS (lv_sub hl [0] rfl)
set_option maxRecDepth 10000 in
theorem kX2_changeShift_24 {S1 : CS} {t : Nat} {M : CS} {s0 : Int32} {H : Heap} {locs : List Loc} {ls : Array Slot} (X : gX p s m args c cX2_changeShift 3 RX2 (kR kTab kA)) (hret : gRetV p l e (rmL 3 0 0) s m args below meth c cX2_changeShift (cΩ ca) (cP dC dI cg kA ca) Q S1) (hkt : kc t = 11) (hf : fX2_changeShift_24 t M s0 = some S1) (hP : (cP dC dI cg kA ca) M s H) (hS : va_S (Fr (cΩ ca) s.heap.size) s.heap H locs) (hl : lv_has ls 3 [(0, .ref (ca t))]) : W p l e (rmL 3 0 0) s m args below meth c H locs 0 0 Q (F0 m 24 ls [.int s0, .ref (ca t)]) := by
  have hx := X.hx
  have hb := X.hb
  have hown := X.hown
  have hts := X.hts
  rw [fX2_changeShift_24] at hf
  refine cr_put (k := 9) X hP hS hkt rfl cs11_9 rfl cinX2 tyX2_ok nmX2 (by decide) rfl rfl rfl rfl tw318 dX2_changeShift_24 (fun H locs hP hS => ?_)
  exact kX2_changeShift_27 X hret hkt hf hP hS (lv_sub hl [0] rfl)
set_option maxRecDepth 10000 in
theorem kX2_changeShift_23 {S1 : CS} {t : Nat} {M : CS} {H : Heap} {locs : List Loc} {ls : Array Slot} (X : gX p s m args c cX2_changeShift 3 RX2 (kR kTab kA)) (hret : gRetV p l e (rmL 3 0 0) s m args below meth c cX2_changeShift (cΩ ca) (cP dC dI cg kA ca) Q S1) (hkt : kc t = 11) (hf : fX2_changeShift_23 t M = some S1) (hP : (cP dC dI cg kA ca) M s H) (hS : va_S (Fr (cΩ ca) s.heap.size) s.heap H locs) (hl : lv_has ls 3 [(0, .ref (ca t))]) : W p l e (rmL 3 0 0) s m args below meth c H locs 0 0 Q (F0 m 23 ls [.ref (ca t)]) := by
  have hx := X.hx
  have hb := X.hb
  have hown := X.hown
  have hts := X.hts
  rw [fX2_changeShift_23] at hf
  refine lv_iconst (v := 0) hx hb dX2_changeShift_23 (by decide) ?_
  exact kX2_changeShift_24 X hret hkt hf hP hS (lv_sub hl [0] rfl)
set_option maxRecDepth 10000 in
theorem kX2_changeShift_14 {S1 : CS} {t : Nat} {M : CS} {H : Heap} {locs : List Loc} {ls : Array Slot} (X : gX p s m args c cX2_changeShift 3 RX2 (kR kTab kA)) (hret : gRetV p l e (rmL 3 0 0) s m args below meth c cX2_changeShift (cΩ ca) (cP dC dI cg kA ca) Q S1) (hkt : kc t = 11) (hf : fX2_changeShift_14 t M = some S1) (hP : (cP dC dI cg kA ca) M s H) (hS : va_S (Fr (cΩ ca) s.heap.size) s.heap H locs) (hl : lv_has ls 3 [(0, .ref (ca t))]) : W p l e (rmL 3 0 0) s m args below meth c H locs 0 0 Q (F0 m 14 ls [.ref (ca t)]) := by
  have hx := X.hx
  have hb := X.hb
  have hown := X.hown
  have hts := X.hts
  rw [fX2_changeShift_14] at hf
  refine lv_aload_n hx hb dX2_changeShift_14 rfl (lv_at hl 0 rfl) ?_
  refine cr_get (k := 9) X hP hkt rfl cv11_9 rfl cinX2 (by decide) rfl tw318 dX2_changeShift_15 ?_
  refine lv_iconst (v := 1) hx hb dX2_changeShift_18 (by decide) ?_
  refine lv_iadd hx hb dX2_changeShift_19 ?_
  refine lv_goto (tgt := 24) hx hb dX2_changeShift_20 (by decide) ?_
  exact kX2_changeShift_24 X hret hkt hf hP hS (lv_sub hl [0] rfl)
set_option maxRecDepth 10000 in
theorem kX2_changeShift_0 {S1 : CS} {t : Nat} {M : CS} {H : Heap} {locs : List Loc} {ls : Array Slot} (X : gX p s m args c cX2_changeShift 3 RX2 (kR kTab kA)) (hret : gRetV p l e (rmL 3 0 0) s m args below meth c cX2_changeShift (cΩ ca) (cP dC dI cg kA ca) Q S1) (hkt : kc t = 11) (hf : fX2_changeShift_0 t M = some S1) (hP : (cP dC dI cg kA ca) M s H) (hS : va_S (Fr (cΩ ca) s.heap.size) s.heap H locs) (hl : lv_has ls 3 [(0, .ref (ca t))]) : W p l e (rmL 3 0 0) s m args below meth c H locs 0 0 Q (F0 m 0 ls []) := by
  have hx := X.hx
  have hb := X.hb
  have hown := X.hown
  have hts := X.hts
  rw [fX2_changeShift_0] at hf
  refine lv_aload_n hx hb dX2_changeShift_0 rfl (lv_at hl 0 rfl) ?_
  refine lv_aload_n hx hb dX2_changeShift_1 rfl (lv_at hl 0 rfl) ?_
  refine cr_get (k := 9) X hP hkt rfl cv11_9 rfl cinX2 (by decide) rfl tw318 dX2_changeShift_2 ?_
  refine lv_iconst (v := 1) hx hb dX2_changeShift_5 (by decide) ?_
  refine lv_iadd hx hb dX2_changeShift_6 ?_
  refine lv_aload_n hx hb dX2_changeShift_7 rfl (lv_at hl 0 rfl) ?_
  refine cr_get (k := 7) X hP hkt rfl cv11_7 rfl cinX2 (by decide) rfl tw314 dX2_changeShift_8 ?_
  refine lv_icmp_ge (tgt := 23) hx hb dX2_changeShift_11 (by decide) (fun c1 => ?_) (fun c1 => ?_)
  · exact kX2_changeShift_23 X hret hkt (ifp c1 hf) hP hS (lv_sub hl [0] rfl)
  · exact kX2_changeShift_14 X hret hkt (ifn c1 hf) hP hS (lv_sub hl [0] rfl)
theorem vX2_changeShift {l : Launch} {dC : Nat → ClassId} {dI : Nat → Nat → Nat} {cg : Nat → ClassId} {kA : String → Nat → Nat} {ca : Nat → Nat} {M S1 : CS} {t : Nat} (hkt : kc t = 11) (hf : fX2_changeShift M t  = some S1) : gMetV l yX2_changeShift cX2_changeShift 3 3 (cΩ ca) (cP dC dI cg kA ca) (kR kTab kA) [.ref (ca t)] M S1 := gEntryV (by decide) cOK (Nat.le_of_ble_eq_true rfl) (fun p e s m args below meth c Q ls X hP hS hret hl => 
  kX2_changeShift_0 X hret hkt hf hP hS (lv_sub hl [0] rfl))
set_option maxRecDepth 10000 in
theorem kX2_greetDawn_98 {S1 : CS} {t : Nat} {M : CS} {H : Heap} {locs : List Loc} {ls : Array Slot} (X : gX p s m args c cX2_greetDawn 2 RX2 (kR kTab kA)) (hret : gRetV p l e (rmL 3 0 0) s m args below meth c cX2_greetDawn (cΩ ca) (cP dC dI cg kA ca) Q S1) (hkt : kc t = 11) (hf : fX2_greetDawn_98 t M = some S1) (hP : (cP dC dI cg kA ca) M s H) (hS : va_S (Fr (cΩ ca) s.heap.size) s.heap H locs) (hl : lv_has ls 2 [(0, .ref (ca t))]) : W p l e (rmL 3 0 0) s m args below meth c H locs 0 0 Q (F0 m 98 ls []) := by
  have hx := X.hx
  have hb := X.hb
  have hown := X.hown
  have hts := X.hts
  rw [fX2_greetDawn_98] at hf
  cases hf
  exact hret _ _ _ _ dX2_greetDawn_98 hP hS
set_option maxRecDepth 10000 in
theorem kX2_greetDawn_85 {S1 : CS} {t : Nat} {M : CS} {H : Heap} {locs : List Loc} {ls : Array Slot} (X : gX p s m args c cX2_greetDawn 2 RX2 (kR kTab kA)) (hret : gRetV p l e (rmL 3 0 0) s m args below meth c cX2_greetDawn (cΩ ca) (cP dC dI cg kA ca) Q S1) (hkt : kc t = 11) (hf : fX2_greetDawn_85 t M = some S1) (hP : (cP dC dI cg kA ca) M s H) (hS : va_S (Fr (cΩ ca) s.heap.size) s.heap H locs) (hl : lv_has ls 2 [(0, .ref (ca t))]) : W p l e (rmL 3 0 0) s m args below meth c H locs 0 0 Q (F0 m 85 ls []) := by
  have hx := X.hx
  have hb := X.hb
  have hown := X.hown
  have hts := X.hts
  rw [fX2_greetDawn_85] at hf
  refine lv_aload_n hx hb dX2_greetDawn_85 rfl (lv_at hl 0 rfl) ?_
  refine cr_get (k := 3) X hP hkt rfl cv11_3 rfl cinX2 (by decide) rfl tw305 dX2_greetDawn_86 ?_
  refine lv_iconst (v := 4) hx hb dX2_greetDawn_89 (by decide) ?_
  refine lv_iconst (v := (-1)) hx hb dX2_greetDawn_90 (by decide) ?_
  refine lv_aload_n hx hb dX2_greetDawn_91 rfl (lv_at hl 0 rfl) ?_
  refine cr_get (k := 12) X hP hkt rfl cv11_12 rfl cinX2 (by decide) rfl tw325 dX2_greetDawn_92 ?_
  obtain ⟨q, hc, hf⟩ := bd hf
  refine gCallVV X cOK rfl (vX1_add (kc_events hkt) hc) gRX2_X1_add hdX1_add rfl ⟨by decide, by decide⟩ hP hS (cr_rec hP (kc_events hkt) rfl cw15 rfl) hl.1 (Nat.le_of_ble_eq_true rfl) ⟨Nat.zero_le _, Nat.zero_le _⟩ dX2_greetDawn_95 (As := [.int 4, .int (-1), .int (M.1 t 12)]) (rest := []) rfl (fun H locs hP hS => ?_)
  exact kX2_greetDawn_98 X hret hkt hf hP hS (lv_sub hl [0] rfl)
set_option maxRecDepth 10000 in
theorem kX2_greetDawn_82 {S1 : CS} {t : Nat} {M : CS} {H : Heap} {locs : List Loc} {ls : Array Slot} (X : gX p s m args c cX2_greetDawn 2 RX2 (kR kTab kA)) (hret : gRetV p l e (rmL 3 0 0) s m args below meth c cX2_greetDawn (cΩ ca) (cP dC dI cg kA ca) Q S1) (hkt : kc t = 11) (hf : fX2_greetDawn_82 t M = some S1) (hP : (cP dC dI cg kA ca) M s H) (hS : va_S (Fr (cΩ ca) s.heap.size) s.heap H locs) (hl : lv_has ls 2 [(0, .ref (ca t))]) : W p l e (rmL 3 0 0) s m args below meth c H locs 0 0 Q (F0 m 82 ls []) := by
  have hx := X.hx
  have hb := X.hb
  have hown := X.hown
  have hts := X.hts
  rw [fX2_greetDawn_82] at hf
  refine lv_goto (tgt := 98) hx hb dX2_greetDawn_82 (by decide) ?_
  exact kX2_greetDawn_98 X hret hkt hf hP hS (lv_sub hl [0] rfl)
set_option maxRecDepth 10000 in
theorem kX2_greetDawn_69 {S1 : CS} {t : Nat} {M : CS} {x1 : Int32} {H : Heap} {locs : List Loc} {ls : Array Slot} (X : gX p s m args c cX2_greetDawn 2 RX2 (kR kTab kA)) (hret : gRetV p l e (rmL 3 0 0) s m args below meth c cX2_greetDawn (cΩ ca) (cP dC dI cg kA ca) Q S1) (hkt : kc t = 11) (hf : fX2_greetDawn_69 t M x1 = some S1) (hP : (cP dC dI cg kA ca) M s H) (hS : va_S (Fr (cΩ ca) s.heap.size) s.heap H locs) (hl : lv_has ls 2 [(0, .ref (ca t)), (1, .int x1)]) : W p l e (rmL 3 0 0) s m args below meth c H locs 0 0 Q (F0 m 69 ls []) := by
  have hx := X.hx
  have hb := X.hb
  have hown := X.hown
  have hts := X.hts
  rw [fX2_greetDawn_69] at hf
  refine lv_aload_n hx hb dX2_greetDawn_69 rfl (lv_at hl 0 rfl) ?_
  refine cr_get (k := 3) X hP hkt rfl cv11_3 rfl cinX2 (by decide) rfl tw305 dX2_greetDawn_70 ?_
  refine lv_iconst (v := 4) hx hb dX2_greetDawn_73 (by decide) ?_
  refine lv_iload_n hx hb dX2_greetDawn_74 rfl (lv_at hl 1 rfl) ?_
  refine lv_aload_n hx hb dX2_greetDawn_75 rfl (lv_at hl 0 rfl) ?_
  refine cr_get (k := 12) X hP hkt rfl cv11_12 rfl cinX2 (by decide) rfl tw325 dX2_greetDawn_76 ?_
  obtain ⟨q, hc, hf⟩ := bd hf
  refine gCallVV X cOK rfl (vX1_add (kc_events hkt) hc) gRX2_X1_add hdX1_add rfl ⟨by decide, by decide⟩ hP hS (cr_rec hP (kc_events hkt) rfl cw15 rfl) hl.1 (Nat.le_of_ble_eq_true rfl) ⟨Nat.zero_le _, Nat.zero_le _⟩ dX2_greetDawn_79 (As := [.int 4, .int x1, .int (M.1 t 12)]) (rest := []) rfl (fun H locs hP hS => ?_)
  exact kX2_greetDawn_82 X hret hkt hf hP hS (lv_sub hl [0] rfl)
set_option maxRecDepth 10000 in
theorem kX2_greetDawn_64 {S1 : CS} {t : Nat} {M : CS} {x1 : Int32} {H : Heap} {locs : List Loc} {ls : Array Slot} (X : gX p s m args c cX2_greetDawn 2 RX2 (kR kTab kA)) (hret : gRetV p l e (rmL 3 0 0) s m args below meth c cX2_greetDawn (cΩ ca) (cP dC dI cg kA ca) Q S1) (hkt : kc t = 11) (hf : fX2_greetDawn_64 t M x1 = some S1) (hP : (cP dC dI cg kA ca) M s H) (hS : va_S (Fr (cΩ ca) s.heap.size) s.heap H locs) (hl : lv_has ls 2 [(0, .ref (ca t)), (1, .int x1)]) : W p l e (rmL 3 0 0) s m args below meth c H locs 0 0 Q (F0 m 64 ls []) := by
  have hx := X.hx
  have hb := X.hb
  have hown := X.hown
  have hts := X.hts
  rw [fX2_greetDawn_64] at hf
  refine lv_aload_n hx hb dX2_greetDawn_64 rfl (lv_at hl 0 rfl) ?_
  refine lv_iload_n hx hb dX2_greetDawn_65 rfl (lv_at hl 1 rfl) ?_
  obtain ⟨q, hc, hf⟩ := bd hf
  refine gCallVV X cOK rfl (vX2_swearIn hkt hc) gRX2_X2_swearIn hdX2_swearIn rfl ⟨by decide, by decide⟩ hP hS (cr_rec hP hkt rfl cw11 rfl) hl.1 (Nat.le_of_ble_eq_true rfl) ⟨Nat.zero_le _, Nat.zero_le _⟩ dX2_greetDawn_66 (As := [.int x1]) (rest := []) rfl (fun H locs hP hS => ?_)
  exact kX2_greetDawn_69 X hret hkt hf hP hS (lv_sub hl [0, 1] rfl)
set_option maxRecDepth 10000 in
theorem kX2_greetDawn_50 {S1 : CS} {t : Nat} {M : CS} {x1 : Int32} {H : Heap} {locs : List Loc} {ls : Array Slot} (X : gX p s m args c cX2_greetDawn 2 RX2 (kR kTab kA)) (hret : gRetV p l e (rmL 3 0 0) s m args below meth c cX2_greetDawn (cΩ ca) (cP dC dI cg kA ca) Q S1) (hkt : kc t = 11) (hf : fX2_greetDawn_50 t M x1 = some S1) (hP : (cP dC dI cg kA ca) M s H) (hS : va_S (Fr (cΩ ca) s.heap.size) s.heap H locs) (hl : lv_has ls 2 [(0, .ref (ca t)), (1, .int x1)]) : W p l e (rmL 3 0 0) s m args below meth c H locs 0 0 Q (F0 m 50 ls []) := by
  have hx := X.hx
  have hb := X.hb
  have hown := X.hown
  have hts := X.hts
  rw [fX2_greetDawn_50] at hf
  refine lv_aload_n hx hb dX2_greetDawn_50 rfl (lv_at hl 0 rfl) ?_
  refine cr_get (k := 0) X hP hkt rfl cv11_0 rfl cinX2 (by decide) rfl tw297 dX2_greetDawn_51 ?_
  refine lv_iload_n hx hb dX2_greetDawn_54 rfl (lv_at hl 1 rfl) ?_
  obtain ⟨g1, hf⟩ := gd hf
  refine cr_aald (f := fun i => (t + 1) + 8 + i) X hP (kc_cats hkt) rfl (fun _ => rfl) rfl g1 dX2_greetDawn_55 ?_
  refine cr_get (k := 3) X hP (kc_cat (kc_cats hkt) g1) rfl cv18_3 rfl cinX0 (by decide) rfl tw225 dX2_greetDawn_56 ?_
  refine lv_bipush (v := 12) hx hb dX2_greetDawn_59 (by decide) ?_
  refine lv_icmp_ge (tgt := 85) hx hb dX2_greetDawn_61 (by decide) (fun c1 => ?_) (fun c1 => ?_)
  · exact kX2_greetDawn_85 X hret hkt (ifp c1 hf) hP hS (lv_sub hl [0] rfl)
  · exact kX2_greetDawn_64 X hret hkt (ifn c1 hf) hP hS (lv_sub hl [0, 1] rfl)
set_option maxRecDepth 10000 in
theorem kX2_greetDawn_29 {S1 : CS} {t : Nat} {M : CS} {H : Heap} {locs : List Loc} {ls : Array Slot} (X : gX p s m args c cX2_greetDawn 2 RX2 (kR kTab kA)) (hret : gRetV p l e (rmL 3 0 0) s m args below meth c cX2_greetDawn (cΩ ca) (cP dC dI cg kA ca) Q S1) (hkt : kc t = 11) (hf : fX2_greetDawn_29 t M = some S1) (hP : (cP dC dI cg kA ca) M s H) (hS : va_S (Fr (cΩ ca) s.heap.size) s.heap H locs) (hl : lv_has ls 2 [(0, .ref (ca t))]) : W p l e (rmL 3 0 0) s m args below meth c H locs 0 0 Q (F0 m 29 ls []) := by
  have hx := X.hx
  have hb := X.hb
  have hown := X.hown
  have hts := X.hts
  rw [fX2_greetDawn_29] at hf
  refine lv_aload_n hx hb dX2_greetDawn_29 rfl (lv_at hl 0 rfl) ?_
  refine cr_get (k := 2) X hP hkt rfl cv11_2 rfl cinX2 (by decide) rfl tw303 dX2_greetDawn_30 ?_
  refine lv_aload_n hx hb dX2_greetDawn_33 rfl (lv_at hl 0 rfl) ?_
  refine cr_get (k := 9) X hP hkt rfl cv11_9 rfl cinX2 (by decide) rfl tw318 dX2_greetDawn_34 ?_
  obtain ⟨g1, hf⟩ := gd hf
  refine cr_aald (f := fun i => (t + 3) + 20 + i) X hP (kc_shifts hkt) rfl (fun _ => rfl) rfl g1 dX2_greetDawn_37 ?_
  refine cr_get (k := 0) X hP (kc_shift (kc_shifts hkt) g1) rfl cv20_0 rfl cinX7 (by decide) rfl tw287 dX2_greetDawn_38 ?_
  refine lv_istore_n (lv' := [(1, .int (M.1 ((t + 3) + 20 + (M.1 t 9).toNatClampNeg) 0)), (0, .ref (ca t))]) hx hb dX2_greetDawn_41 rfl hl (by decide) rfl (fun ls hl => ?_)
  refine lv_aload_n hx hb dX2_greetDawn_42 rfl (lv_at hl 1 rfl) ?_
  refine cr_get (k := 8) X hP hkt rfl cv11_8 rfl cinX2 (by decide) rfl tw316 dX2_greetDawn_43 ?_
  refine lv_iconst (v := (-1)) hx hb dX2_greetDawn_46 (by decide) ?_
  refine lv_icmp_ne (tgt := 85) hx hb dX2_greetDawn_47 (by decide) (fun c1 => ?_) (fun c1 => ?_)
  · exact kX2_greetDawn_85 X hret hkt (ifn c1 hf) hP hS (lv_sub hl [1] rfl)
  · exact kX2_greetDawn_50 X hret hkt (ifp c1 hf) hP hS (lv_sub hl [1, 0] rfl)
set_option maxRecDepth 10000 in
theorem kX2_greetDawn_23 {S1 : CS} {t : Nat} {K2 : CS → Int32 → Option (CS)} {M : CS} {x1 : Int32} {H : Heap} {locs : List Loc} {ls : Array Slot} (X : gX p s m args c cX2_greetDawn 2 RX2 (kR kTab kA)) (hret : gRetV p l e (rmL 3 0 0) s m args below meth c cX2_greetDawn (cΩ ca) (cP dC dI cg kA ca) Q S1) (hkt : kc t = 11) (hK2 : ∀ (M : CS) (x1 : Int32) (H : Heap) (locs : List Loc) (ls : Array Slot), K2 M x1 = some S1 → (cP dC dI cg kA ca) M s H → va_S (Fr (cΩ ca) s.heap.size) s.heap H locs → lv_has ls 2 [(0, .ref (ca t)), (1, .int x1)] → W p l e (rmL 3 0 0) s m args below meth c H locs 0 0 Q (F0 m 2 ls [])) (hf : fX2_greetDawn_23 t K2 M x1 = some S1) (hP : (cP dC dI cg kA ca) M s H) (hS : va_S (Fr (cΩ ca) s.heap.size) s.heap H locs) (hl : lv_has ls 2 [(0, .ref (ca t)), (1, .int x1)]) : W p l e (rmL 3 0 0) s m args below meth c H locs 0 0 Q (F0 m 23 ls []) := by
  have hx := X.hx
  have hb := X.hb
  have hown := X.hown
  have hts := X.hts
  rw [fX2_greetDawn_23] at hf
  refine lv_iinc (v := (x1 + 1)) (lv' := [(1, .int (x1 + 1)), (0, .ref (ca t))]) hx hb dX2_greetDawn_23 hl (k := 1) rfl (by rfl) (by decide) rfl (fun ls hl => ?_)
  refine lv_goto (tgt := 2) hx hb dX2_greetDawn_26 (by decide) ?_
  exact hK2 _ _ _ _ _ hf hP hS (lv_sub hl [1, 0] rfl)
set_option maxRecDepth 10000 in
theorem kX2_greetDawn_10 {S1 : CS} {t : Nat} {K2 : CS → Int32 → Option (CS)} {M : CS} {x1 : Int32} {H : Heap} {locs : List Loc} {ls : Array Slot} (X : gX p s m args c cX2_greetDawn 2 RX2 (kR kTab kA)) (hret : gRetV p l e (rmL 3 0 0) s m args below meth c cX2_greetDawn (cΩ ca) (cP dC dI cg kA ca) Q S1) (hkt : kc t = 11) (hK2 : ∀ (M : CS) (x1 : Int32) (H : Heap) (locs : List Loc) (ls : Array Slot), K2 M x1 = some S1 → (cP dC dI cg kA ca) M s H → va_S (Fr (cΩ ca) s.heap.size) s.heap H locs → lv_has ls 2 [(0, .ref (ca t)), (1, .int x1)] → W p l e (rmL 3 0 0) s m args below meth c H locs 0 0 Q (F0 m 2 ls [])) (hf : fX2_greetDawn_10 t K2 M x1 = some S1) (hP : (cP dC dI cg kA ca) M s H) (hS : va_S (Fr (cΩ ca) s.heap.size) s.heap H locs) (hl : lv_has ls 2 [(0, .ref (ca t)), (1, .int x1)]) : W p l e (rmL 3 0 0) s m args below meth c H locs 0 0 Q (F0 m 10 ls []) := by
  have hx := X.hx
  have hb := X.hb
  have hown := X.hown
  have hts := X.hts
  rw [fX2_greetDawn_10] at hf
  refine lv_aload_n hx hb dX2_greetDawn_10 rfl (lv_at hl 0 rfl) ?_
  refine cr_get (k := 0) X hP hkt rfl cv11_0 rfl cinX2 (by decide) rfl tw297 dX2_greetDawn_11 ?_
  refine lv_iload_n hx hb dX2_greetDawn_14 rfl (lv_at hl 1 rfl) ?_
  obtain ⟨g1, hf⟩ := gd hf
  refine cr_aald (f := fun i => (t + 1) + 8 + i) X hP (kc_cats hkt) rfl (fun _ => rfl) rfl g1 dX2_greetDawn_15 ?_
  refine lv_aload_n hx hb dX2_greetDawn_16 rfl (lv_at hl 0 rfl) ?_
  refine cr_get (k := 11) X hP hkt rfl cv11_11 rfl cinX2 (by decide) rfl tw322 dX2_greetDawn_17 ?_
  obtain ⟨q, hc, hf⟩ := bd hf
  refine gCallVV X cOK rfl (vX0_recover (kc_cat (kc_cats hkt) g1) hc) gRX2_X0_recover hdX0_recover rfl ⟨by decide, by decide⟩ hP hS (cr_rec hP (kc_cat (kc_cats hkt) g1) rfl cw18 rfl) hl.1 (Nat.le_of_ble_eq_true rfl) ⟨Nat.zero_le _, Nat.zero_le _⟩ dX2_greetDawn_20 (As := [.int (M.1 t 11)]) (rest := []) rfl (fun H locs hP hS => ?_)
  exact kX2_greetDawn_23 X hret hkt hK2 hf hP hS (lv_sub hl [0, 1] rfl)
set_option maxRecDepth 10000 in
theorem kX2_greetDawn_2 {S1 : CS} {t : Nat} (X : gX p s m args c cX2_greetDawn 2 RX2 (kR kTab kA)) (hret : gRetV p l e (rmL 3 0 0) s m args below meth c cX2_greetDawn (cΩ ca) (cP dC dI cg kA ca) Q S1) (hkt : kc t = 11) : ∀ (n : Nat) (M : CS) (x1 : Int32) (H : Heap) (locs : List Loc) (ls : Array Slot), fX2_greetDawn_2 t n M x1 = some S1 → (cP dC dI cg kA ca) M s H → va_S (Fr (cΩ ca) s.heap.size) s.heap H locs → lv_has ls 2 [(0, .ref (ca t)), (1, .int x1)] → W p l e (rmL 3 0 0) s m args below meth c H locs 0 0 Q (F0 m 2 ls []) := by
  intro n
  induction n with
  | zero => intro M x1 H locs ls hf; cases hf
  | succ k ih =>
    intro M x1 H locs ls hf hP hS hl
    have hx := X.hx
    have hb := X.hb
    have hown := X.hown
    have hts := X.hts
    rw [fX2_greetDawn_2] at hf
    try dsimp only at hf
    refine lv_iload_n hx hb dX2_greetDawn_2 rfl (lv_at hl 1 rfl) ?_
    refine lv_aload_n hx hb dX2_greetDawn_3 rfl (lv_at hl 0 rfl) ?_
    refine cr_get (k := 5) X hP hkt rfl cv11_5 rfl cinX2 (by decide) rfl tw308 dX2_greetDawn_4 ?_
    refine lv_icmp_ge (tgt := 29) hx hb dX2_greetDawn_7 (by decide) (fun c1 => ?_) (fun c1 => ?_)
    · exact kX2_greetDawn_29 X hret hkt (ifp c1 hf) hP hS (lv_sub hl [0] rfl)
    · exact kX2_greetDawn_10 X hret hkt ih (ifn c1 hf) hP hS (lv_sub hl [0, 1] rfl)
set_option maxRecDepth 10000 in
theorem kX2_greetDawn_0 {S1 : CS} {t : Nat} {M : CS} {H : Heap} {locs : List Loc} {ls : Array Slot} (X : gX p s m args c cX2_greetDawn 2 RX2 (kR kTab kA)) (hret : gRetV p l e (rmL 3 0 0) s m args below meth c cX2_greetDawn (cΩ ca) (cP dC dI cg kA ca) Q S1) (hkt : kc t = 11) (hf : fX2_greetDawn_0 t M = some S1) (hP : (cP dC dI cg kA ca) M s H) (hS : va_S (Fr (cΩ ca) s.heap.size) s.heap H locs) (hl : lv_has ls 2 [(0, .ref (ca t))]) : W p l e (rmL 3 0 0) s m args below meth c H locs 0 0 Q (F0 m 0 ls []) := by
  have hx := X.hx
  have hb := X.hb
  have hown := X.hown
  have hts := X.hts
  rw [fX2_greetDawn_0] at hf
  refine lv_iconst (v := 0) hx hb dX2_greetDawn_0 (by decide) ?_
  refine lv_istore_n (lv' := [(1, .int 0), (0, .ref (ca t))]) hx hb dX2_greetDawn_1 rfl hl (by decide) rfl (fun ls hl => ?_)
  exact kX2_greetDawn_2 X hret hkt FU _ _ _ _ _ hf hP hS (lv_sub hl [1, 0] rfl)
theorem vX2_greetDawn {l : Launch} {dC : Nat → ClassId} {dI : Nat → Nat → Nat} {cg : Nat → ClassId} {kA : String → Nat → Nat} {ca : Nat → Nat} {M S1 : CS} {t : Nat} (hkt : kc t = 11) (hf : fX2_greetDawn M t  = some S1) : gMetV l yX2_greetDawn cX2_greetDawn 2 3 (cΩ ca) (cP dC dI cg kA ca) (kR kTab kA) [.ref (ca t)] M S1 := gEntryV (by decide) cOK (Nat.le_of_ble_eq_true rfl) (fun p e s m args below meth c Q ls X hP hS hret hl => 
  kX2_greetDawn_0 X hret hkt hf hP hS (lv_sub hl [0] rfl))
set_option maxRecDepth 10000 in
theorem kX8_takeName_35 {r : Int32} {S1 : CS} {M : CS} {s0 : Int32} {H : Heap} {locs : List Loc} {ls : Array Slot} (X : gX p s m args c cX8_takeName 1 RX8 (kR kTab kA)) (hret : gRetI p l e (rmL 3 0 0) s m args below meth c cX8_takeName (cΩ ca) (cP dC dI cg kA ca) Q r S1) (hf : fX8_takeName_35 M s0 = some (r, S1)) (hP : (cP dC dI cg kA ca) M s H) (hS : va_S (Fr (cΩ ca) s.heap.size) s.heap H locs) (hl : lv_has ls 1 [(0, .ref (ca 1))]) : W p l e (rmL 3 0 0) s m args below meth c H locs 0 0 Q (F0 m 35 ls [.int s0]) := by
  have hx := X.hx
  have hb := X.hb
  have hown := X.hown
  have hts := X.hts
  rw [fX8_takeName_35] at hf
  cases hf
  exact hret _ _ _ _ dX8_takeName_35 hP hS
set_option maxRecDepth 10000 in
theorem kX8_takeName_34 {r : Int32} {S1 : CS} {M : CS} {H : Heap} {locs : List Loc} {ls : Array Slot} (X : gX p s m args c cX8_takeName 1 RX8 (kR kTab kA)) (hret : gRetI p l e (rmL 3 0 0) s m args below meth c cX8_takeName (cΩ ca) (cP dC dI cg kA ca) Q r S1) (hf : fX8_takeName_34 M = some (r, S1)) (hP : (cP dC dI cg kA ca) M s H) (hS : va_S (Fr (cΩ ca) s.heap.size) s.heap H locs) (hl : lv_has ls 1 [(0, .ref (ca 1))]) : W p l e (rmL 3 0 0) s m args below meth c H locs 0 0 Q (F0 m 34 ls []) := by
  have hx := X.hx
  have hb := X.hb
  have hown := X.hown
  have hts := X.hts
  rw [fX8_takeName_34] at hf
  refine lv_iconst (v := 0) hx hb dX8_takeName_34 (by decide) ?_
  exact kX8_takeName_35 X hret hf hP hS (lv_sub hl [0] rfl)
set_option maxRecDepth 10000 in
theorem kX8_takeName_30 {r : Int32} {S1 : CS} {M : CS} {H : Heap} {locs : List Loc} {ls : Array Slot} (X : gX p s m args c cX8_takeName 1 RX8 (kR kTab kA)) (hret : gRetI p l e (rmL 3 0 0) s m args below meth c cX8_takeName (cΩ ca) (cP dC dI cg kA ca) Q r S1) (hf : fX8_takeName_30 M = some (r, S1)) (hP : (cP dC dI cg kA ca) M s H) (hS : va_S (Fr (cΩ ca) s.heap.size) s.heap H locs) (hl : lv_has ls 1 [(0, .ref (ca 1))]) : W p l e (rmL 3 0 0) s m args below meth c H locs 0 0 Q (F0 m 30 ls []) := by
  have hx := X.hx
  have hb := X.hb
  have hown := X.hown
  have hts := X.hts
  rw [fX8_takeName_30] at hf
  refine lv_iconst (v := 1) hx hb dX8_takeName_30 (by decide) ?_
  refine lv_goto (tgt := 35) hx hb dX8_takeName_31 (by decide) ?_
  exact kX8_takeName_35 X hret hf hP hS (lv_sub hl [0] rfl)
set_option maxRecDepth 10000 in
theorem kX8_takeName_27 {r : Int32} {S1 : CS} {M : CS} {s0 : Int32} {H : Heap} {locs : List Loc} {ls : Array Slot} (X : gX p s m args c cX8_takeName 1 RX8 (kR kTab kA)) (hret : gRetI p l e (rmL 3 0 0) s m args below meth c cX8_takeName (cΩ ca) (cP dC dI cg kA ca) Q r S1) (hf : fX8_takeName_27 M s0 = some (r, S1)) (hP : (cP dC dI cg kA ca) M s H) (hS : va_S (Fr (cΩ ca) s.heap.size) s.heap H locs) (hl : lv_has ls 1 [(0, .ref (ca 1))]) : W p l e (rmL 3 0 0) s m args below meth c H locs 0 0 Q (F0 m 27 ls [.int s0]) := by
  have hx := X.hx
  have hb := X.hb
  have hown := X.hown
  have hts := X.hts
  rw [fX8_takeName_27] at hf
  refine lv_if_eq (tgt := 34) hx hb dX8_takeName_27 (by decide) (fun c1 => ?_) (fun c1 => ?_)
  · exact kX8_takeName_34 X hret (ifp c1 hf) hP hS (lv_sub hl [0] rfl)
  · exact kX8_takeName_30 X hret (ifn c1 hf) hP hS (lv_sub hl [0] rfl)
set_option maxRecDepth 10000 in
theorem kX8_takeName_22 {r : Int32} {S1 : CS} {M : CS} {H : Heap} {locs : List Loc} {ls : Array Slot} (X : gX p s m args c cX8_takeName 1 RX8 (kR kTab kA)) (hret : gRetI p l e (rmL 3 0 0) s m args below meth c cX8_takeName (cΩ ca) (cP dC dI cg kA ca) Q r S1) (hf : fX8_takeName_22 M = some (r, S1)) (hP : (cP dC dI cg kA ca) M s H) (hS : va_S (Fr (cΩ ca) s.heap.size) s.heap H locs) (hl : lv_has ls 1 [(0, .ref (ca 1))]) : W p l e (rmL 3 0 0) s m args below meth c H locs 0 0 Q (F0 m 22 ls []) := by
  have hx := X.hx
  have hb := X.hb
  have hown := X.hown
  have hts := X.hts
  rw [fX8_takeName_22] at hf
  refine lv_aload_n hx hb dX8_takeName_22 rfl (lv_at hl 0 rfl) ?_
  refine lv_iconst (v := 1) hx hb dX8_takeName_23 (by decide) ?_
  obtain ⟨q, hc, hf⟩ := bd hf
  refine gCallVI X cOK rfl (vX8_fail hc) gRX8_X8_fail hdX8_fail rfl ⟨by decide, by decide⟩ hP hS (cr_rec hP (rfl : kc 1 = 1) rfl cw1 rfl) hl.1 (Nat.le_of_ble_eq_true rfl) ⟨Nat.zero_le _, Nat.zero_le _⟩ dX8_takeName_24 (As := [.int 1]) (rest := []) rfl (fun H locs hP hS => ?_)
  exact kX8_takeName_27 X hret hf hP hS (lv_sub hl [0] rfl)
set_option maxRecDepth 10000 in
theorem kX8_takeName_17 {r : Int32} {S1 : CS} {M : CS} {s0 : Int32} {H : Heap} {locs : List Loc} {ls : Array Slot} (X : gX p s m args c cX8_takeName 1 RX8 (kR kTab kA)) (hret : gRetI p l e (rmL 3 0 0) s m args below meth c cX8_takeName (cΩ ca) (cP dC dI cg kA ca) Q r S1) (hf : fX8_takeName_17 M s0 = some (r, S1)) (hP : (cP dC dI cg kA ca) M s H) (hS : va_S (Fr (cΩ ca) s.heap.size) s.heap H locs) (hl : lv_has ls 1 [(0, .ref (ca 1))]) : W p l e (rmL 3 0 0) s m args below meth c H locs 0 0 Q (F0 m 17 ls [.int s0]) := by
  have hx := X.hx
  have hb := X.hb
  have hown := X.hown
  have hts := X.hts
  rw [fX8_takeName_17] at hf
  refine lv_bipush (v := 6) hx hb dX8_takeName_17 (by decide) ?_
  refine lv_icmp_le (tgt := 30) hx hb dX8_takeName_19 (by decide) (fun c1 => ?_) (fun c1 => ?_)
  · exact kX8_takeName_30 X hret (ifp c1 hf) hP hS (lv_sub hl [0] rfl)
  · exact kX8_takeName_22 X hret (ifn c1 hf) hP hS (lv_sub hl [0] rfl)
set_option maxRecDepth 10000 in
theorem kX8_takeName_13 {r : Int32} {S1 : CS} {M : CS} {H : Heap} {locs : List Loc} {ls : Array Slot} (X : gX p s m args c cX8_takeName 1 RX8 (kR kTab kA)) (hret : gRetI p l e (rmL 3 0 0) s m args below meth c cX8_takeName (cΩ ca) (cP dC dI cg kA ca) Q r S1) (hf : fX8_takeName_13 M = some (r, S1)) (hP : (cP dC dI cg kA ca) M s H) (hS : va_S (Fr (cΩ ca) s.heap.size) s.heap H locs) (hl : lv_has ls 1 [(0, .ref (ca 1))]) : W p l e (rmL 3 0 0) s m args below meth c H locs 0 0 Q (F0 m 13 ls []) := by
  have hx := X.hx
  have hb := X.hb
  have hown := X.hown
  have hts := X.hts
  rw [fX8_takeName_13] at hf
  refine lv_aload_n hx hb dX8_takeName_13 rfl (lv_at hl 0 rfl) ?_
  obtain ⟨q, hc, hf⟩ := bd hf
  refine gCallVR X rfl (vX8_tokenLength hc) gRX8_X8_tokenLength hdX8_tokenLength rfl ⟨by decide, by decide⟩ (gB_blind cOK) (gB_at cOK X hP) (cr_rec hP (rfl : kc 1 = 1) rfl cw1 rfl) hl.1 (Nat.le_of_ble_eq_true rfl) ⟨Nat.zero_le _, Nat.zero_le _⟩ dX8_takeName_14 (As := []) (rest := []) rfl ?_
  exact kX8_takeName_17 X hret hf hP hS (lv_sub hl [0] rfl)
set_option maxRecDepth 10000 in
theorem kX8_takeName_4 {r : Int32} {S1 : CS} {M : CS} {s0 : Int32} {H : Heap} {locs : List Loc} {ls : Array Slot} (X : gX p s m args c cX8_takeName 1 RX8 (kR kTab kA)) (hret : gRetI p l e (rmL 3 0 0) s m args below meth c cX8_takeName (cΩ ca) (cP dC dI cg kA ca) Q r S1) (hf : fX8_takeName_4 M s0 = some (r, S1)) (hP : (cP dC dI cg kA ca) M s H) (hS : va_S (Fr (cΩ ca) s.heap.size) s.heap H locs) (hl : lv_has ls 1 [(0, .ref (ca 1))]) : W p l e (rmL 3 0 0) s m args below meth c H locs 0 0 Q (F0 m 4 ls [.int s0]) := by
  have hx := X.hx
  have hb := X.hb
  have hown := X.hown
  have hts := X.hts
  rw [fX8_takeName_4] at hf
  refine lv_pop hx hb dX8_takeName_4 rfl ?_
  refine lv_aload_n hx hb dX8_takeName_5 rfl (lv_at hl 0 rfl) ?_
  refine cr_get (k := 4) X hP (rfl : kc 1 = 1) rfl cv1_4 rfl cinX8 (by decide) rfl tw92 dX8_takeName_6 ?_
  refine lv_iconst (v := 1) hx hb dX8_takeName_9 (by decide) ?_
  refine lv_icmp_ne (tgt := 22) hx hb dX8_takeName_10 (by decide) (fun c1 => ?_) (fun c1 => ?_)
  · exact kX8_takeName_22 X hret (ifn c1 hf) hP hS (lv_sub hl [0] rfl)
  · exact kX8_takeName_13 X hret (ifp c1 hf) hP hS (lv_sub hl [0] rfl)
set_option maxRecDepth 10000 in
theorem kX8_takeName_0 {r : Int32} {S1 : CS} {M : CS} {H : Heap} {locs : List Loc} {ls : Array Slot} (X : gX p s m args c cX8_takeName 1 RX8 (kR kTab kA)) (hret : gRetI p l e (rmL 3 0 0) s m args below meth c cX8_takeName (cΩ ca) (cP dC dI cg kA ca) Q r S1) (hf : fX8_takeName_0 M = some (r, S1)) (hP : (cP dC dI cg kA ca) M s H) (hS : va_S (Fr (cΩ ca) s.heap.size) s.heap H locs) (hl : lv_has ls 1 [(0, .ref (ca 1))]) : W p l e (rmL 3 0 0) s m args below meth c H locs 0 0 Q (F0 m 0 ls []) := by
  have hx := X.hx
  have hb := X.hb
  have hown := X.hown
  have hts := X.hts
  rw [fX8_takeName_0] at hf
  refine lv_aload_n hx hb dX8_takeName_0 rfl (lv_at hl 0 rfl) ?_
  obtain ⟨q, hc, hf⟩ := bd hf
  refine gCallVI X cOK rfl (vX8_advance hc) gRX8_X8_advance hdX8_advance rfl ⟨by decide, by decide⟩ hP hS (cr_rec hP (rfl : kc 1 = 1) rfl cw1 rfl) hl.1 (Nat.le_of_ble_eq_true rfl) ⟨Nat.zero_le _, Nat.zero_le _⟩ dX8_takeName_1 (As := []) (rest := []) rfl (fun H locs hP hS => ?_)
  exact kX8_takeName_4 X hret hf hP hS (lv_sub hl [0] rfl)
theorem vX8_takeName {l : Launch} {dC : Nat → ClassId} {dI : Nat → Nat → Nat} {cg : Nat → ClassId} {kA : String → Nat → Nat} {ca : Nat → Nat} {M S1 : CS} {r : Int32} (hf : fX8_takeName M  = some (r, S1)) : gMetI l yX8_takeName cX8_takeName 1 (some .boolean) 3 (cΩ ca) (cP dC dI cg kA ca) (kR kTab kA) [.ref (ca 1)] M r S1 := gEntryI (ty := .boolean) (by decide) rfl (bz_n hf) cOK (Nat.le_of_ble_eq_true rfl) (fun p e s m args below meth c Q ls X hP hS hret hl => 
  kX8_takeName_0 X hret (bz_f hf) hP hS (lv_sub hl [0] rfl))
set_option maxRecDepth 10000 in
theorem kX8_takeSemicolon_26 {r : Int32} {S1 : CS} {M : CS} {s0 : Int32} {H : Heap} {locs : List Loc} {ls : Array Slot} (X : gX p s m args c cX8_takeSemicolon 1 RX8 (kR kTab kA)) (hret : gRetI p l e (rmL 3 0 0) s m args below meth c cX8_takeSemicolon (cΩ ca) (cP dC dI cg kA ca) Q r S1) (hf : fX8_takeSemicolon_26 M s0 = some (r, S1)) (hP : (cP dC dI cg kA ca) M s H) (hS : va_S (Fr (cΩ ca) s.heap.size) s.heap H locs) (hl : lv_has ls 1 [(0, .ref (ca 1))]) : W p l e (rmL 3 0 0) s m args below meth c H locs 0 0 Q (F0 m 26 ls [.int s0]) := by
  have hx := X.hx
  have hb := X.hb
  have hown := X.hown
  have hts := X.hts
  rw [fX8_takeSemicolon_26] at hf
  cases hf
  exact hret _ _ _ _ dX8_takeSemicolon_26 hP hS
set_option maxRecDepth 10000 in
theorem kX8_takeSemicolon_21 {r : Int32} {S1 : CS} {M : CS} {H : Heap} {locs : List Loc} {ls : Array Slot} (X : gX p s m args c cX8_takeSemicolon 1 RX8 (kR kTab kA)) (hret : gRetI p l e (rmL 3 0 0) s m args below meth c cX8_takeSemicolon (cΩ ca) (cP dC dI cg kA ca) Q r S1) (hf : fX8_takeSemicolon_21 M = some (r, S1)) (hP : (cP dC dI cg kA ca) M s H) (hS : va_S (Fr (cΩ ca) s.heap.size) s.heap H locs) (hl : lv_has ls 1 [(0, .ref (ca 1))]) : W p l e (rmL 3 0 0) s m args below meth c H locs 0 0 Q (F0 m 21 ls []) := by
  have hx := X.hx
  have hb := X.hb
  have hown := X.hown
  have hts := X.hts
  rw [fX8_takeSemicolon_21] at hf
  refine lv_iconst (v := 1) hx hb dX8_takeSemicolon_21 (by decide) ?_
  refine lv_goto (tgt := 26) hx hb dX8_takeSemicolon_22 (by decide) ?_
  exact kX8_takeSemicolon_26 X hret hf hP hS (lv_sub hl [0] rfl)
set_option maxRecDepth 10000 in
theorem kX8_takeSemicolon_25 {r : Int32} {S1 : CS} {M : CS} {H : Heap} {locs : List Loc} {ls : Array Slot} (X : gX p s m args c cX8_takeSemicolon 1 RX8 (kR kTab kA)) (hret : gRetI p l e (rmL 3 0 0) s m args below meth c cX8_takeSemicolon (cΩ ca) (cP dC dI cg kA ca) Q r S1) (hf : fX8_takeSemicolon_25 M = some (r, S1)) (hP : (cP dC dI cg kA ca) M s H) (hS : va_S (Fr (cΩ ca) s.heap.size) s.heap H locs) (hl : lv_has ls 1 [(0, .ref (ca 1))]) : W p l e (rmL 3 0 0) s m args below meth c H locs 0 0 Q (F0 m 25 ls []) := by
  have hx := X.hx
  have hb := X.hb
  have hown := X.hown
  have hts := X.hts
  rw [fX8_takeSemicolon_25] at hf
  refine lv_iconst (v := 0) hx hb dX8_takeSemicolon_25 (by decide) ?_
  exact kX8_takeSemicolon_26 X hret hf hP hS (lv_sub hl [0] rfl)
set_option maxRecDepth 10000 in
theorem kX8_takeSemicolon_18 {r : Int32} {S1 : CS} {M : CS} {s0 : Int32} {H : Heap} {locs : List Loc} {ls : Array Slot} (X : gX p s m args c cX8_takeSemicolon 1 RX8 (kR kTab kA)) (hret : gRetI p l e (rmL 3 0 0) s m args below meth c cX8_takeSemicolon (cΩ ca) (cP dC dI cg kA ca) Q r S1) (hf : fX8_takeSemicolon_18 M s0 = some (r, S1)) (hP : (cP dC dI cg kA ca) M s H) (hS : va_S (Fr (cΩ ca) s.heap.size) s.heap H locs) (hl : lv_has ls 1 [(0, .ref (ca 1))]) : W p l e (rmL 3 0 0) s m args below meth c H locs 0 0 Q (F0 m 18 ls [.int s0]) := by
  have hx := X.hx
  have hb := X.hb
  have hown := X.hown
  have hts := X.hts
  rw [fX8_takeSemicolon_18] at hf
  refine lv_if_eq (tgt := 25) hx hb dX8_takeSemicolon_18 (by decide) (fun c1 => ?_) (fun c1 => ?_)
  · exact kX8_takeSemicolon_25 X hret (ifp c1 hf) hP hS (lv_sub hl [0] rfl)
  · exact kX8_takeSemicolon_21 X hret (ifn c1 hf) hP hS (lv_sub hl [0] rfl)
set_option maxRecDepth 10000 in
theorem kX8_takeSemicolon_13 {r : Int32} {S1 : CS} {M : CS} {H : Heap} {locs : List Loc} {ls : Array Slot} (X : gX p s m args c cX8_takeSemicolon 1 RX8 (kR kTab kA)) (hret : gRetI p l e (rmL 3 0 0) s m args below meth c cX8_takeSemicolon (cΩ ca) (cP dC dI cg kA ca) Q r S1) (hf : fX8_takeSemicolon_13 M = some (r, S1)) (hP : (cP dC dI cg kA ca) M s H) (hS : va_S (Fr (cΩ ca) s.heap.size) s.heap H locs) (hl : lv_has ls 1 [(0, .ref (ca 1))]) : W p l e (rmL 3 0 0) s m args below meth c H locs 0 0 Q (F0 m 13 ls []) := by
  have hx := X.hx
  have hb := X.hb
  have hown := X.hown
  have hts := X.hts
  rw [fX8_takeSemicolon_13] at hf
  refine lv_aload_n hx hb dX8_takeSemicolon_13 rfl (lv_at hl 0 rfl) ?_
  refine lv_iconst (v := 1) hx hb dX8_takeSemicolon_14 (by decide) ?_
  obtain ⟨q, hc, hf⟩ := bd hf
  refine gCallVI X cOK rfl (vX8_fail hc) gRX8_X8_fail hdX8_fail rfl ⟨by decide, by decide⟩ hP hS (cr_rec hP (rfl : kc 1 = 1) rfl cw1 rfl) hl.1 (Nat.le_of_ble_eq_true rfl) ⟨Nat.zero_le _, Nat.zero_le _⟩ dX8_takeSemicolon_15 (As := [.int 1]) (rest := []) rfl (fun H locs hP hS => ?_)
  exact kX8_takeSemicolon_18 X hret hf hP hS (lv_sub hl [0] rfl)
set_option maxRecDepth 10000 in
theorem kX8_takeSemicolon_4 {r : Int32} {S1 : CS} {M : CS} {s0 : Int32} {H : Heap} {locs : List Loc} {ls : Array Slot} (X : gX p s m args c cX8_takeSemicolon 1 RX8 (kR kTab kA)) (hret : gRetI p l e (rmL 3 0 0) s m args below meth c cX8_takeSemicolon (cΩ ca) (cP dC dI cg kA ca) Q r S1) (hf : fX8_takeSemicolon_4 M s0 = some (r, S1)) (hP : (cP dC dI cg kA ca) M s H) (hS : va_S (Fr (cΩ ca) s.heap.size) s.heap H locs) (hl : lv_has ls 1 [(0, .ref (ca 1))]) : W p l e (rmL 3 0 0) s m args below meth c H locs 0 0 Q (F0 m 4 ls [.int s0]) := by
  have hx := X.hx
  have hb := X.hb
  have hown := X.hown
  have hts := X.hts
  rw [fX8_takeSemicolon_4] at hf
  refine lv_pop hx hb dX8_takeSemicolon_4 rfl ?_
  refine lv_aload_n hx hb dX8_takeSemicolon_5 rfl (lv_at hl 0 rfl) ?_
  refine cr_get (k := 4) X hP (rfl : kc 1 = 1) rfl cv1_4 rfl cinX8 (by decide) rfl tw92 dX8_takeSemicolon_6 ?_
  refine lv_iconst (v := 3) hx hb dX8_takeSemicolon_9 (by decide) ?_
  refine lv_icmp_eq (tgt := 21) hx hb dX8_takeSemicolon_10 (by decide) (fun c1 => ?_) (fun c1 => ?_)
  · exact kX8_takeSemicolon_21 X hret (ifp c1 hf) hP hS (lv_sub hl [0] rfl)
  · exact kX8_takeSemicolon_13 X hret (ifn c1 hf) hP hS (lv_sub hl [0] rfl)
set_option maxRecDepth 10000 in
theorem kX8_takeSemicolon_0 {r : Int32} {S1 : CS} {M : CS} {H : Heap} {locs : List Loc} {ls : Array Slot} (X : gX p s m args c cX8_takeSemicolon 1 RX8 (kR kTab kA)) (hret : gRetI p l e (rmL 3 0 0) s m args below meth c cX8_takeSemicolon (cΩ ca) (cP dC dI cg kA ca) Q r S1) (hf : fX8_takeSemicolon_0 M = some (r, S1)) (hP : (cP dC dI cg kA ca) M s H) (hS : va_S (Fr (cΩ ca) s.heap.size) s.heap H locs) (hl : lv_has ls 1 [(0, .ref (ca 1))]) : W p l e (rmL 3 0 0) s m args below meth c H locs 0 0 Q (F0 m 0 ls []) := by
  have hx := X.hx
  have hb := X.hb
  have hown := X.hown
  have hts := X.hts
  rw [fX8_takeSemicolon_0] at hf
  refine lv_aload_n hx hb dX8_takeSemicolon_0 rfl (lv_at hl 0 rfl) ?_
  obtain ⟨q, hc, hf⟩ := bd hf
  refine gCallVI X cOK rfl (vX8_advance hc) gRX8_X8_advance hdX8_advance rfl ⟨by decide, by decide⟩ hP hS (cr_rec hP (rfl : kc 1 = 1) rfl cw1 rfl) hl.1 (Nat.le_of_ble_eq_true rfl) ⟨Nat.zero_le _, Nat.zero_le _⟩ dX8_takeSemicolon_1 (As := []) (rest := []) rfl (fun H locs hP hS => ?_)
  exact kX8_takeSemicolon_4 X hret hf hP hS (lv_sub hl [0] rfl)
theorem vX8_takeSemicolon {l : Launch} {dC : Nat → ClassId} {dI : Nat → Nat → Nat} {cg : Nat → ClassId} {kA : String → Nat → Nat} {ca : Nat → Nat} {M S1 : CS} {r : Int32} (hf : fX8_takeSemicolon M  = some (r, S1)) : gMetI l yX8_takeSemicolon cX8_takeSemicolon 1 (some .boolean) 3 (cΩ ca) (cP dC dI cg kA ca) (kR kTab kA) [.ref (ca 1)] M r S1 := gEntryI (ty := .boolean) (by decide) rfl (bz_n hf) cOK (Nat.le_of_ble_eq_true rfl) (fun p e s m args below meth c Q ls X hP hS hret hl => 
  kX8_takeSemicolon_0 X hret (bz_f hf) hP hS (lv_sub hl [0] rfl))
set_option maxRecDepth 10000 in
theorem kX8_takeNumber_93 {r : Int32} {S1 : CS} {M : CS} {s0 : Int32} {H : Heap} {locs : List Loc} {ls : Array Slot} (X : gX p s m args c cX8_takeNumber 4 RX8 (kR kTab kA)) (hret : gRetI p l e (rmL 3 0 0) s m args below meth c cX8_takeNumber (cΩ ca) (cP dC dI cg kA ca) Q r S1) (hf : fX8_takeNumber_93 M s0 = some (r, S1)) (hP : (cP dC dI cg kA ca) M s H) (hS : va_S (Fr (cΩ ca) s.heap.size) s.heap H locs) (hl : lv_has ls 4 [(0, .ref (ca 1))]) : W p l e (rmL 3 0 0) s m args below meth c H locs 0 0 Q (F0 m 93 ls [.int s0]) := by
  have hx := X.hx
  have hb := X.hb
  have hown := X.hown
  have hts := X.hts
  rw [fX8_takeNumber_93] at hf
  cases hf
  exact hret _ _ _ _ dX8_takeNumber_93 hP hS
set_option maxRecDepth 10000 in
theorem kX8_takeNumber_92 {r : Int32} {S1 : CS} {M : CS} {H : Heap} {locs : List Loc} {ls : Array Slot} (X : gX p s m args c cX8_takeNumber 4 RX8 (kR kTab kA)) (hret : gRetI p l e (rmL 3 0 0) s m args below meth c cX8_takeNumber (cΩ ca) (cP dC dI cg kA ca) Q r S1) (hf : fX8_takeNumber_92 M = some (r, S1)) (hP : (cP dC dI cg kA ca) M s H) (hS : va_S (Fr (cΩ ca) s.heap.size) s.heap H locs) (hl : lv_has ls 4 [(0, .ref (ca 1))]) : W p l e (rmL 3 0 0) s m args below meth c H locs 0 0 Q (F0 m 92 ls []) := by
  have hx := X.hx
  have hb := X.hb
  have hown := X.hown
  have hts := X.hts
  rw [fX8_takeNumber_92] at hf
  refine lv_iconst (v := 0) hx hb dX8_takeNumber_92 (by decide) ?_
  exact kX8_takeNumber_93 X hret hf hP hS (lv_sub hl [0] rfl)
set_option maxRecDepth 10000 in
theorem kX8_takeNumber_88 {r : Int32} {S1 : CS} {M : CS} {H : Heap} {locs : List Loc} {ls : Array Slot} (X : gX p s m args c cX8_takeNumber 4 RX8 (kR kTab kA)) (hret : gRetI p l e (rmL 3 0 0) s m args below meth c cX8_takeNumber (cΩ ca) (cP dC dI cg kA ca) Q r S1) (hf : fX8_takeNumber_88 M = some (r, S1)) (hP : (cP dC dI cg kA ca) M s H) (hS : va_S (Fr (cΩ ca) s.heap.size) s.heap H locs) (hl : lv_has ls 4 [(0, .ref (ca 1))]) : W p l e (rmL 3 0 0) s m args below meth c H locs 0 0 Q (F0 m 88 ls []) := by
  have hx := X.hx
  have hb := X.hb
  have hown := X.hown
  have hts := X.hts
  rw [fX8_takeNumber_88] at hf
  refine lv_iconst (v := 1) hx hb dX8_takeNumber_88 (by decide) ?_
  refine lv_goto (tgt := 93) hx hb dX8_takeNumber_89 (by decide) ?_
  exact kX8_takeNumber_93 X hret hf hP hS (lv_sub hl [0] rfl)
set_option maxRecDepth 10000 in
theorem kX8_takeNumber_85 {r : Int32} {S1 : CS} {M : CS} {s0 : Int32} {H : Heap} {locs : List Loc} {ls : Array Slot} (X : gX p s m args c cX8_takeNumber 4 RX8 (kR kTab kA)) (hret : gRetI p l e (rmL 3 0 0) s m args below meth c cX8_takeNumber (cΩ ca) (cP dC dI cg kA ca) Q r S1) (hf : fX8_takeNumber_85 M s0 = some (r, S1)) (hP : (cP dC dI cg kA ca) M s H) (hS : va_S (Fr (cΩ ca) s.heap.size) s.heap H locs) (hl : lv_has ls 4 [(0, .ref (ca 1))]) : W p l e (rmL 3 0 0) s m args below meth c H locs 0 0 Q (F0 m 85 ls [.int s0]) := by
  have hx := X.hx
  have hb := X.hb
  have hown := X.hown
  have hts := X.hts
  rw [fX8_takeNumber_85] at hf
  refine lv_if_eq (tgt := 92) hx hb dX8_takeNumber_85 (by decide) (fun c1 => ?_) (fun c1 => ?_)
  · exact kX8_takeNumber_92 X hret (ifp c1 hf) hP hS (lv_sub hl [0] rfl)
  · exact kX8_takeNumber_88 X hret (ifn c1 hf) hP hS (lv_sub hl [0] rfl)
set_option maxRecDepth 10000 in
theorem kX8_takeNumber_80 {r : Int32} {S1 : CS} {M : CS} {H : Heap} {locs : List Loc} {ls : Array Slot} (X : gX p s m args c cX8_takeNumber 4 RX8 (kR kTab kA)) (hret : gRetI p l e (rmL 3 0 0) s m args below meth c cX8_takeNumber (cΩ ca) (cP dC dI cg kA ca) Q r S1) (hf : fX8_takeNumber_80 M = some (r, S1)) (hP : (cP dC dI cg kA ca) M s H) (hS : va_S (Fr (cΩ ca) s.heap.size) s.heap H locs) (hl : lv_has ls 4 [(0, .ref (ca 1))]) : W p l e (rmL 3 0 0) s m args below meth c H locs 0 0 Q (F0 m 80 ls []) := by
  have hx := X.hx
  have hb := X.hb
  have hown := X.hown
  have hts := X.hts
  rw [fX8_takeNumber_80] at hf
  refine lv_aload_n hx hb dX8_takeNumber_80 rfl (lv_at hl 0 rfl) ?_
  refine lv_iconst (v := 2) hx hb dX8_takeNumber_81 (by decide) ?_
  obtain ⟨q, hc, hf⟩ := bd hf
  refine gCallVI X cOK rfl (vX8_fail hc) gRX8_X8_fail hdX8_fail rfl ⟨by decide, by decide⟩ hP hS (cr_rec hP (rfl : kc 1 = 1) rfl cw1 rfl) hl.1 (Nat.le_of_ble_eq_true rfl) ⟨Nat.zero_le _, Nat.zero_le _⟩ dX8_takeNumber_82 (As := [.int 2]) (rest := []) rfl (fun H locs hP hS => ?_)
  exact kX8_takeNumber_85 X hret hf hP hS (lv_sub hl [0] rfl)
set_option maxRecDepth 10000 in
theorem kX8_takeNumber_72 {r : Int32} {S1 : CS} {M : CS} {x2 : Int32} {H : Heap} {locs : List Loc} {ls : Array Slot} (X : gX p s m args c cX8_takeNumber 4 RX8 (kR kTab kA)) (hret : gRetI p l e (rmL 3 0 0) s m args below meth c cX8_takeNumber (cΩ ca) (cP dC dI cg kA ca) Q r S1) (hf : fX8_takeNumber_72 M x2 = some (r, S1)) (hP : (cP dC dI cg kA ca) M s H) (hS : va_S (Fr (cΩ ca) s.heap.size) s.heap H locs) (hl : lv_has ls 4 [(0, .ref (ca 1)), (2, .int x2)]) : W p l e (rmL 3 0 0) s m args below meth c H locs 0 0 Q (F0 m 72 ls []) := by
  have hx := X.hx
  have hb := X.hb
  have hown := X.hown
  have hts := X.hts
  rw [fX8_takeNumber_72] at hf
  refine lv_aload_n hx hb dX8_takeNumber_72 rfl (lv_at hl 0 rfl) ?_
  refine cr_get (k := 6) X hP (rfl : kc 1 = 1) rfl cv1_6 rfl cinX8 (by decide) rfl tw95 dX8_takeNumber_73 ?_
  refine lv_iload_n hx hb dX8_takeNumber_76 rfl (lv_at hl 1 rfl) ?_
  refine lv_icmp_le (tgt := 88) hx hb dX8_takeNumber_77 (by decide) (fun c1 => ?_) (fun c1 => ?_)
  · exact kX8_takeNumber_88 X hret (ifp c1 hf) hP hS (lv_sub hl [0] rfl)
  · exact kX8_takeNumber_80 X hret (ifn c1 hf) hP hS (lv_sub hl [0] rfl)
set_option maxRecDepth 10000 in
theorem kX8_takeNumber_64 {r : Int32} {S1 : CS} {M : CS} {x1 : Int32} {x2 : Int32} {H : Heap} {locs : List Loc} {ls : Array Slot} (X : gX p s m args c cX8_takeNumber 4 RX8 (kR kTab kA)) (hret : gRetI p l e (rmL 3 0 0) s m args below meth c cX8_takeNumber (cΩ ca) (cP dC dI cg kA ca) Q r S1) (hf : fX8_takeNumber_64 M x1 x2 = some (r, S1)) (hP : (cP dC dI cg kA ca) M s H) (hS : va_S (Fr (cΩ ca) s.heap.size) s.heap H locs) (hl : lv_has ls 4 [(0, .ref (ca 1)), (1, .int x1), (2, .int x2)]) : W p l e (rmL 3 0 0) s m args below meth c H locs 0 0 Q (F0 m 64 ls []) := by
  have hx := X.hx
  have hb := X.hb
  have hown := X.hown
  have hts := X.hts
  rw [fX8_takeNumber_64] at hf
  refine lv_aload_n hx hb dX8_takeNumber_64 rfl (lv_at hl 0 rfl) ?_
  refine cr_get (k := 6) X hP (rfl : kc 1 = 1) rfl cv1_6 rfl cinX8 (by decide) rfl tw95 dX8_takeNumber_65 ?_
  refine lv_iload_n hx hb dX8_takeNumber_68 rfl (lv_at hl 1 rfl) ?_
  refine lv_icmp_lt (tgt := 80) hx hb dX8_takeNumber_69 (by decide) (fun c1 => ?_) (fun c1 => ?_)
  · exact kX8_takeNumber_80 X hret (ifp c1 hf) hP hS (lv_sub hl [0] rfl)
  · exact kX8_takeNumber_72 X hret (ifn c1 hf) hP hS (lv_sub hl [0, 2] rfl)
set_option maxRecDepth 10000 in
theorem kX8_takeNumber_58 {r : Int32} {S1 : CS} {K29 : CS → Int32 → Int32 → Int32 → Option (Int32 × CS)} {M : CS} {x1 : Int32} {x2 : Int32} {x3 : Int32} {H : Heap} {locs : List Loc} {ls : Array Slot} (X : gX p s m args c cX8_takeNumber 4 RX8 (kR kTab kA)) (hret : gRetI p l e (rmL 3 0 0) s m args below meth c cX8_takeNumber (cΩ ca) (cP dC dI cg kA ca) Q r S1) (hK29 : ∀ (M : CS) (x1 : Int32) (x2 : Int32) (x3 : Int32) (H : Heap) (locs : List Loc) (ls : Array Slot), K29 M x1 x2 x3 = some (r, S1) → (cP dC dI cg kA ca) M s H → va_S (Fr (cΩ ca) s.heap.size) s.heap H locs → lv_has ls 4 [(0, .ref (ca 1)), (1, .int x1), (2, .int x2), (3, .int x3)] → W p l e (rmL 3 0 0) s m args below meth c H locs 0 0 Q (F0 m 29 ls [])) (hf : fX8_takeNumber_58 K29 M x1 x2 x3 = some (r, S1)) (hP : (cP dC dI cg kA ca) M s H) (hS : va_S (Fr (cΩ ca) s.heap.size) s.heap H locs) (hl : lv_has ls 4 [(0, .ref (ca 1)), (1, .int x1), (2, .int x2), (3, .int x3)]) : W p l e (rmL 3 0 0) s m args below meth c H locs 0 0 Q (F0 m 58 ls []) := by
  have hx := X.hx
  have hb := X.hb
  have hown := X.hown
  have hts := X.hts
  rw [fX8_takeNumber_58] at hf
  refine lv_iinc (v := (x3 + 1)) (lv' := [(3, .int (x3 + 1)), (0, .ref (ca 1)), (1, .int x1), (2, .int x2)]) hx hb dX8_takeNumber_58 hl (k := 3) rfl (by rfl) (by decide) rfl (fun ls hl => ?_)
  refine lv_goto (tgt := 29) hx hb dX8_takeNumber_61 (by decide) ?_
  exact hK29 _ _ _ _ _ _ _ hf hP hS (lv_sub hl [1, 2, 3, 0] rfl)
set_option maxRecDepth 10000 in
theorem kX8_takeNumber_37 {r : Int32} {S1 : CS} {K29 : CS → Int32 → Int32 → Int32 → Option (Int32 × CS)} {M : CS} {x1 : Int32} {x2 : Int32} {x3 : Int32} {H : Heap} {locs : List Loc} {ls : Array Slot} (X : gX p s m args c cX8_takeNumber 4 RX8 (kR kTab kA)) (hret : gRetI p l e (rmL 3 0 0) s m args below meth c cX8_takeNumber (cΩ ca) (cP dC dI cg kA ca) Q r S1) (hK29 : ∀ (M : CS) (x1 : Int32) (x2 : Int32) (x3 : Int32) (H : Heap) (locs : List Loc) (ls : Array Slot), K29 M x1 x2 x3 = some (r, S1) → (cP dC dI cg kA ca) M s H → va_S (Fr (cΩ ca) s.heap.size) s.heap H locs → lv_has ls 4 [(0, .ref (ca 1)), (1, .int x1), (2, .int x2), (3, .int x3)] → W p l e (rmL 3 0 0) s m args below meth c H locs 0 0 Q (F0 m 29 ls [])) (hf : fX8_takeNumber_37 K29 M x1 x2 x3 = some (r, S1)) (hP : (cP dC dI cg kA ca) M s H) (hS : va_S (Fr (cΩ ca) s.heap.size) s.heap H locs) (hl : lv_has ls 4 [(0, .ref (ca 1)), (1, .int x1), (2, .int x2), (3, .int x3)]) : W p l e (rmL 3 0 0) s m args below meth c H locs 0 0 Q (F0 m 37 ls []) := by
  have hx := X.hx
  have hb := X.hb
  have hown := X.hown
  have hts := X.hts
  rw [fX8_takeNumber_37] at hf
  refine lv_aload_n hx hb dX8_takeNumber_37 rfl (lv_at hl 0 rfl) ?_
  refine lv_aload_n hx hb dX8_takeNumber_38 rfl (lv_at hl 0 rfl) ?_
  refine cr_get (k := 6) X hP (rfl : kc 1 = 1) rfl cv1_6 rfl cinX8 (by decide) rfl tw95 dX8_takeNumber_39 ?_
  refine lv_bipush (v := 10) hx hb dX8_takeNumber_42 (by decide) ?_
  refine lv_imul hx hb dX8_takeNumber_44 ?_
  refine lv_aload_n hx hb dX8_takeNumber_45 rfl (lv_at hl 0 rfl) ?_
  refine cr_get (k := 0) X hP (rfl : kc 1 = 1) rfl cv1_0 rfl cinX8 (by decide) rfl tw86 dX8_takeNumber_46 ?_
  refine lv_iload_n hx hb dX8_takeNumber_49 rfl (lv_at hl 3 rfl) ?_
  obtain ⟨g1, hf⟩ := gd hf
  refine cr_bald X hP (rfl : kc 2 = 2) rfl (fun _ => rfl) g1 dX8_takeNumber_50 ?_
  refine lv_iadd hx hb dX8_takeNumber_51 ?_
  refine lv_bipush (v := 48) hx hb dX8_takeNumber_52 (by decide) ?_
  refine lv_isub hx hb dX8_takeNumber_54 ?_
  refine cr_put (k := 6) X hP hS (rfl : kc 1 = 1) rfl cs1_6 rfl cinX8 tyX8_ok nmX8 (by decide) rfl rfl rfl rfl tw95 dX8_takeNumber_55 (fun H locs hP hS => ?_)
  exact kX8_takeNumber_58 X hret hK29 hf hP hS (lv_sub hl [0, 1, 2, 3] rfl)
set_option maxRecDepth 10000 in
theorem kX8_takeNumber_29 {r : Int32} {S1 : CS} (X : gX p s m args c cX8_takeNumber 4 RX8 (kR kTab kA)) (hret : gRetI p l e (rmL 3 0 0) s m args below meth c cX8_takeNumber (cΩ ca) (cP dC dI cg kA ca) Q r S1) : ∀ (n : Nat) (M : CS) (x1 : Int32) (x2 : Int32) (x3 : Int32) (H : Heap) (locs : List Loc) (ls : Array Slot), fX8_takeNumber_29 n M x1 x2 x3 = some (r, S1) → (cP dC dI cg kA ca) M s H → va_S (Fr (cΩ ca) s.heap.size) s.heap H locs → lv_has ls 4 [(0, .ref (ca 1)), (1, .int x1), (2, .int x2), (3, .int x3)] → W p l e (rmL 3 0 0) s m args below meth c H locs 0 0 Q (F0 m 29 ls []) := by
  intro n
  induction n with
  | zero => intro M x1 x2 x3 H locs ls hf; cases hf
  | succ k ih =>
    intro M x1 x2 x3 H locs ls hf hP hS hl
    have hx := X.hx
    have hb := X.hb
    have hown := X.hown
    have hts := X.hts
    rw [fX8_takeNumber_29] at hf
    try dsimp only at hf
    refine lv_iload_n hx hb dX8_takeNumber_29 rfl (lv_at hl 3 rfl) ?_
    refine lv_aload_n hx hb dX8_takeNumber_30 rfl (lv_at hl 0 rfl) ?_
    refine cr_get (k := 3) X hP (rfl : kc 1 = 1) rfl cv1_3 rfl cinX8 (by decide) rfl tw91 dX8_takeNumber_31 ?_
    refine lv_icmp_ge (tgt := 64) hx hb dX8_takeNumber_34 (by decide) (fun c1 => ?_) (fun c1 => ?_)
    · exact kX8_takeNumber_64 X hret (ifp c1 hf) hP hS (lv_sub hl [0, 1, 2] rfl)
    · exact kX8_takeNumber_37 X hret ih (ifn c1 hf) hP hS (lv_sub hl [0, 1, 2, 3] rfl)
set_option maxRecDepth 10000 in
theorem kX8_takeNumber_24 {r : Int32} {S1 : CS} {M : CS} {x1 : Int32} {x2 : Int32} {H : Heap} {locs : List Loc} {ls : Array Slot} (X : gX p s m args c cX8_takeNumber 4 RX8 (kR kTab kA)) (hret : gRetI p l e (rmL 3 0 0) s m args below meth c cX8_takeNumber (cΩ ca) (cP dC dI cg kA ca) Q r S1) (hf : fX8_takeNumber_24 M x1 x2 = some (r, S1)) (hP : (cP dC dI cg kA ca) M s H) (hS : va_S (Fr (cΩ ca) s.heap.size) s.heap H locs) (hl : lv_has ls 4 [(0, .ref (ca 1)), (1, .int x1), (2, .int x2)]) : W p l e (rmL 3 0 0) s m args below meth c H locs 0 0 Q (F0 m 24 ls []) := by
  have hx := X.hx
  have hb := X.hb
  have hown := X.hown
  have hts := X.hts
  rw [fX8_takeNumber_24] at hf
  refine lv_aload_n hx hb dX8_takeNumber_24 rfl (lv_at hl 0 rfl) ?_
  refine cr_get (k := 5) X hP (rfl : kc 1 = 1) rfl cv1_5 rfl cinX8 (by decide) rfl tw93 dX8_takeNumber_25 ?_
  refine lv_istore_n (lv' := [(3, .int (M.1 1 5)), (0, .ref (ca 1)), (1, .int x1), (2, .int x2)]) hx hb dX8_takeNumber_28 rfl hl (by decide) rfl (fun ls hl => ?_)
  exact kX8_takeNumber_29 X hret FU _ _ _ _ _ _ _ hf hP hS (lv_sub hl [1, 2, 3, 0] rfl)
set_option maxRecDepth 10000 in
theorem kX8_takeNumber_19 {r : Int32} {S1 : CS} {M : CS} {x1 : Int32} {x2 : Int32} {H : Heap} {locs : List Loc} {ls : Array Slot} (X : gX p s m args c cX8_takeNumber 4 RX8 (kR kTab kA)) (hret : gRetI p l e (rmL 3 0 0) s m args below meth c cX8_takeNumber (cΩ ca) (cP dC dI cg kA ca) Q r S1) (hf : fX8_takeNumber_19 M x1 x2 = some (r, S1)) (hP : (cP dC dI cg kA ca) M s H) (hS : va_S (Fr (cΩ ca) s.heap.size) s.heap H locs) (hl : lv_has ls 4 [(0, .ref (ca 1)), (1, .int x1), (2, .int x2)]) : W p l e (rmL 3 0 0) s m args below meth c H locs 0 0 Q (F0 m 19 ls []) := by
  have hx := X.hx
  have hb := X.hb
  have hown := X.hown
  have hts := X.hts
  rw [fX8_takeNumber_19] at hf
  refine lv_aload_n hx hb dX8_takeNumber_19 rfl (lv_at hl 0 rfl) ?_
  refine lv_iconst (v := 0) hx hb dX8_takeNumber_20 (by decide) ?_
  refine cr_put (k := 6) X hP hS (rfl : kc 1 = 1) rfl cs1_6 rfl cinX8 tyX8_ok nmX8 (by decide) rfl rfl rfl rfl tw95 dX8_takeNumber_21 (fun H locs hP hS => ?_)
  exact kX8_takeNumber_24 X hret hf hP hS (lv_sub hl [0, 1, 2] rfl)
set_option maxRecDepth 10000 in
theorem kX8_takeNumber_18 {r : Int32} {S1 : CS} {M : CS} {s0 : Int32} {H : Heap} {locs : List Loc} {ls : Array Slot} (X : gX p s m args c cX8_takeNumber 4 RX8 (kR kTab kA)) (hret : gRetI p l e (rmL 3 0 0) s m args below meth c cX8_takeNumber (cΩ ca) (cP dC dI cg kA ca) Q r S1) (hf : fX8_takeNumber_18 M s0 = some (r, S1)) (hP : (cP dC dI cg kA ca) M s H) (hS : va_S (Fr (cΩ ca) s.heap.size) s.heap H locs) (hl : lv_has ls 4 [(0, .ref (ca 1))]) : W p l e (rmL 3 0 0) s m args below meth c H locs 0 0 Q (F0 m 18 ls [.int s0]) := by
  have hx := X.hx
  have hb := X.hb
  have hown := X.hown
  have hts := X.hts
  rw [fX8_takeNumber_18] at hf
  cases hf
  exact hret _ _ _ _ dX8_takeNumber_18 hP hS
set_option maxRecDepth 10000 in
theorem kX8_takeNumber_13 {r : Int32} {S1 : CS} {M : CS} {H : Heap} {locs : List Loc} {ls : Array Slot} (X : gX p s m args c cX8_takeNumber 4 RX8 (kR kTab kA)) (hret : gRetI p l e (rmL 3 0 0) s m args below meth c cX8_takeNumber (cΩ ca) (cP dC dI cg kA ca) Q r S1) (hf : fX8_takeNumber_13 M = some (r, S1)) (hP : (cP dC dI cg kA ca) M s H) (hS : va_S (Fr (cΩ ca) s.heap.size) s.heap H locs) (hl : lv_has ls 4 [(0, .ref (ca 1))]) : W p l e (rmL 3 0 0) s m args below meth c H locs 0 0 Q (F0 m 13 ls []) := by
  have hx := X.hx
  have hb := X.hb
  have hown := X.hown
  have hts := X.hts
  rw [fX8_takeNumber_13] at hf
  refine lv_aload_n hx hb dX8_takeNumber_13 rfl (lv_at hl 0 rfl) ?_
  refine lv_iconst (v := 1) hx hb dX8_takeNumber_14 (by decide) ?_
  obtain ⟨q, hc, hf⟩ := bd hf
  refine gCallVI X cOK rfl (vX8_fail hc) gRX8_X8_fail hdX8_fail rfl ⟨by decide, by decide⟩ hP hS (cr_rec hP (rfl : kc 1 = 1) rfl cw1 rfl) hl.1 (Nat.le_of_ble_eq_true rfl) ⟨Nat.zero_le _, Nat.zero_le _⟩ dX8_takeNumber_15 (As := [.int 1]) (rest := []) rfl (fun H locs hP hS => ?_)
  exact kX8_takeNumber_18 X hret hf hP hS (lv_sub hl [0] rfl)
set_option maxRecDepth 10000 in
theorem kX8_takeNumber_4 {r : Int32} {S1 : CS} {M : CS} {x1 : Int32} {x2 : Int32} {s0 : Int32} {H : Heap} {locs : List Loc} {ls : Array Slot} (X : gX p s m args c cX8_takeNumber 4 RX8 (kR kTab kA)) (hret : gRetI p l e (rmL 3 0 0) s m args below meth c cX8_takeNumber (cΩ ca) (cP dC dI cg kA ca) Q r S1) (hf : fX8_takeNumber_4 M x1 x2 s0 = some (r, S1)) (hP : (cP dC dI cg kA ca) M s H) (hS : va_S (Fr (cΩ ca) s.heap.size) s.heap H locs) (hl : lv_has ls 4 [(0, .ref (ca 1)), (1, .int x1), (2, .int x2)]) : W p l e (rmL 3 0 0) s m args below meth c H locs 0 0 Q (F0 m 4 ls [.int s0]) := by
  have hx := X.hx
  have hb := X.hb
  have hown := X.hown
  have hts := X.hts
  rw [fX8_takeNumber_4] at hf
  refine lv_pop hx hb dX8_takeNumber_4 rfl ?_
  refine lv_aload_n hx hb dX8_takeNumber_5 rfl (lv_at hl 0 rfl) ?_
  refine cr_get (k := 4) X hP (rfl : kc 1 = 1) rfl cv1_4 rfl cinX8 (by decide) rfl tw92 dX8_takeNumber_6 ?_
  refine lv_iconst (v := 2) hx hb dX8_takeNumber_9 (by decide) ?_
  refine lv_icmp_eq (tgt := 19) hx hb dX8_takeNumber_10 (by decide) (fun c1 => ?_) (fun c1 => ?_)
  · exact kX8_takeNumber_19 X hret (ifp c1 hf) hP hS (lv_sub hl [0, 1, 2] rfl)
  · exact kX8_takeNumber_13 X hret (ifn c1 hf) hP hS (lv_sub hl [0] rfl)
set_option maxRecDepth 10000 in
theorem kX8_takeNumber_0 {r : Int32} {S1 : CS} {M : CS} {a1 : Int32} {a2 : Int32} {H : Heap} {locs : List Loc} {ls : Array Slot} (X : gX p s m args c cX8_takeNumber 4 RX8 (kR kTab kA)) (hret : gRetI p l e (rmL 3 0 0) s m args below meth c cX8_takeNumber (cΩ ca) (cP dC dI cg kA ca) Q r S1) (hf : fX8_takeNumber_0 M a1 a2 = some (r, S1)) (hP : (cP dC dI cg kA ca) M s H) (hS : va_S (Fr (cΩ ca) s.heap.size) s.heap H locs) (hl : lv_has ls 4 [(0, .ref (ca 1)), (1, .int a1), (2, .int a2)]) : W p l e (rmL 3 0 0) s m args below meth c H locs 0 0 Q (F0 m 0 ls []) := by
  have hx := X.hx
  have hb := X.hb
  have hown := X.hown
  have hts := X.hts
  rw [fX8_takeNumber_0] at hf
  refine lv_aload_n hx hb dX8_takeNumber_0 rfl (lv_at hl 0 rfl) ?_
  obtain ⟨q, hc, hf⟩ := bd hf
  refine gCallVI X cOK rfl (vX8_advance hc) gRX8_X8_advance hdX8_advance rfl ⟨by decide, by decide⟩ hP hS (cr_rec hP (rfl : kc 1 = 1) rfl cw1 rfl) hl.1 (Nat.le_of_ble_eq_true rfl) ⟨Nat.zero_le _, Nat.zero_le _⟩ dX8_takeNumber_1 (As := []) (rest := []) rfl (fun H locs hP hS => ?_)
  exact kX8_takeNumber_4 X hret hf hP hS (lv_sub hl [0, 1, 2] rfl)
theorem vX8_takeNumber {l : Launch} {dC : Nat → ClassId} {dI : Nat → Nat → Nat} {cg : Nat → ClassId} {kA : String → Nat → Nat} {ca : Nat → Nat} {M S1 : CS} {r : Int32} {a1 : Int32} {a2 : Int32} (hf : fX8_takeNumber M a1 a2 = some (r, S1)) : gMetI l yX8_takeNumber cX8_takeNumber 4 (some .boolean) 3 (cΩ ca) (cP dC dI cg kA ca) (kR kTab kA) [.ref (ca 1), .int a1, .int a2] M r S1 := gEntryI (ty := .boolean) (by decide) rfl (bz_n hf) cOK (Nat.le_of_ble_eq_true rfl) (fun p e s m args below meth c Q ls X hP hS hret hl => 
  kX8_takeNumber_0 X hret (bz_f hf) hP hS (lv_sub hl [0, 1, 2] rfl))
set_option maxRecDepth 10000 in
theorem kX10_appendInput_60 {r : Int32} {S1 : CS} {M : CS} {H : Heap} {locs : List Loc} {ls : Array Slot} (X : gX p s m args c cX10_appendInput 6 RX10 (kR kTab kA)) (hret : gRetI p l e (rmL 3 0 0) s m args below meth c cX10_appendInput (cΩ ca) (cP dC dI cg kA ca) Q r S1) (hf : fX10_appendInput_60 M = some (r, S1)) (hP : (cP dC dI cg kA ca) M s H) (hS : va_S (Fr (cΩ ca) s.heap.size) s.heap H locs) (hl : lv_has ls 6 [(0, .ref (ca 0))]) : W p l e (rmL 3 0 0) s m args below meth c H locs 0 0 Q (F0 m 60 ls []) := by
  have hx := X.hx
  have hb := X.hb
  have hown := X.hown
  have hts := X.hts
  rw [fX10_appendInput_60] at hf
  refine lv_aload_n hx hb dX10_appendInput_60 rfl (lv_at hl 0 rfl) ?_
  refine cr_get (k := 0) X hP (rfl : kc 0 = 0) rfl cv0_0 rfl cinX10 (by decide) rfl tw750 dX10_appendInput_61 ?_
  refine cr_get (k := 2) X hP (rfl : kc 1 = 1) rfl cv1_2 rfl cinX8 (by decide) rfl tw88 dX10_appendInput_64 ?_
  cases hf
  exact hret _ _ _ _ dX10_appendInput_67 hP hS
set_option maxRecDepth 10000 in
theorem kX10_appendInput_51 {r : Int32} {S1 : CS} {M : CS} {x5 : Int32} {H : Heap} {locs : List Loc} {ls : Array Slot} (X : gX p s m args c cX10_appendInput 6 RX10 (kR kTab kA)) (hret : gRetI p l e (rmL 3 0 0) s m args below meth c cX10_appendInput (cΩ ca) (cP dC dI cg kA ca) Q r S1) (hf : fX10_appendInput_51 M x5 = some (r, S1)) (hP : (cP dC dI cg kA ca) M s H) (hS : va_S (Fr (cΩ ca) s.heap.size) s.heap H locs) (hl : lv_has ls 6 [(0, .ref (ca 0)), (5, .int x5)]) : W p l e (rmL 3 0 0) s m args below meth c H locs 0 0 Q (F0 m 51 ls []) := by
  have hx := X.hx
  have hb := X.hb
  have hown := X.hown
  have hts := X.hts
  rw [fX10_appendInput_51] at hf
  refine lv_aload_n hx hb dX10_appendInput_51 rfl (lv_at hl 0 rfl) ?_
  refine cr_get (k := 0) X hP (rfl : kc 0 = 0) rfl cv0_0 rfl cinX10 (by decide) rfl tw750 dX10_appendInput_52 ?_
  refine lv_iload hx hb dX10_appendInput_55 (lv_at hl 1 rfl) ?_
  obtain ⟨q, hc, hf⟩ := bd hf
  refine gCallVV X cOK rfl (vX8_appendFour hc) gRX10_X8_appendFour hdX8_appendFour rfl ⟨by decide, by decide⟩ hP hS (cr_rec hP (rfl : kc 1 = 1) rfl cw1 rfl) hl.1 (Nat.le_of_ble_eq_true rfl) ⟨Nat.zero_le _, Nat.zero_le _⟩ dX10_appendInput_57 (As := [.int x5]) (rest := []) rfl (fun H locs hP hS => ?_)
  exact kX10_appendInput_60 X hret hf hP hS (lv_sub hl [0] rfl)
set_option maxRecDepth 10000 in
theorem kX10_appendInput_42 {r : Int32} {S1 : CS} {M : CS} {x4 : Int32} {x5 : Int32} {H : Heap} {locs : List Loc} {ls : Array Slot} (X : gX p s m args c cX10_appendInput 6 RX10 (kR kTab kA)) (hret : gRetI p l e (rmL 3 0 0) s m args below meth c cX10_appendInput (cΩ ca) (cP dC dI cg kA ca) Q r S1) (hf : fX10_appendInput_42 M x4 x5 = some (r, S1)) (hP : (cP dC dI cg kA ca) M s H) (hS : va_S (Fr (cΩ ca) s.heap.size) s.heap H locs) (hl : lv_has ls 6 [(0, .ref (ca 0)), (4, .int x4), (5, .int x5)]) : W p l e (rmL 3 0 0) s m args below meth c H locs 0 0 Q (F0 m 42 ls []) := by
  have hx := X.hx
  have hb := X.hb
  have hown := X.hown
  have hts := X.hts
  rw [fX10_appendInput_42] at hf
  refine lv_aload_n hx hb dX10_appendInput_42 rfl (lv_at hl 0 rfl) ?_
  refine cr_get (k := 0) X hP (rfl : kc 0 = 0) rfl cv0_0 rfl cinX10 (by decide) rfl tw750 dX10_appendInput_43 ?_
  refine lv_iload hx hb dX10_appendInput_46 (lv_at hl 1 rfl) ?_
  obtain ⟨q, hc, hf⟩ := bd hf
  refine gCallVV X cOK rfl (vX8_appendFour hc) gRX10_X8_appendFour hdX8_appendFour rfl ⟨by decide, by decide⟩ hP hS (cr_rec hP (rfl : kc 1 = 1) rfl cw1 rfl) hl.1 (Nat.le_of_ble_eq_true rfl) ⟨Nat.zero_le _, Nat.zero_le _⟩ dX10_appendInput_48 (As := [.int x4]) (rest := []) rfl (fun H locs hP hS => ?_)
  exact kX10_appendInput_51 X hret hf hP hS (lv_sub hl [0, 2] rfl)
set_option maxRecDepth 10000 in
theorem kX10_appendInput_34 {r : Int32} {S1 : CS} {M : CS} {x3 : Int32} {x4 : Int32} {x5 : Int32} {H : Heap} {locs : List Loc} {ls : Array Slot} (X : gX p s m args c cX10_appendInput 6 RX10 (kR kTab kA)) (hret : gRetI p l e (rmL 3 0 0) s m args below meth c cX10_appendInput (cΩ ca) (cP dC dI cg kA ca) Q r S1) (hf : fX10_appendInput_34 M x3 x4 x5 = some (r, S1)) (hP : (cP dC dI cg kA ca) M s H) (hS : va_S (Fr (cΩ ca) s.heap.size) s.heap H locs) (hl : lv_has ls 6 [(0, .ref (ca 0)), (3, .int x3), (4, .int x4), (5, .int x5)]) : W p l e (rmL 3 0 0) s m args below meth c H locs 0 0 Q (F0 m 34 ls []) := by
  have hx := X.hx
  have hb := X.hb
  have hown := X.hown
  have hts := X.hts
  rw [fX10_appendInput_34] at hf
  refine lv_aload_n hx hb dX10_appendInput_34 rfl (lv_at hl 0 rfl) ?_
  refine cr_get (k := 0) X hP (rfl : kc 0 = 0) rfl cv0_0 rfl cinX10 (by decide) rfl tw750 dX10_appendInput_35 ?_
  refine lv_iload_n hx hb dX10_appendInput_38 rfl (lv_at hl 1 rfl) ?_
  obtain ⟨q, hc, hf⟩ := bd hf
  refine gCallVV X cOK rfl (vX8_appendFour hc) gRX10_X8_appendFour hdX8_appendFour rfl ⟨by decide, by decide⟩ hP hS (cr_rec hP (rfl : kc 1 = 1) rfl cw1 rfl) hl.1 (Nat.le_of_ble_eq_true rfl) ⟨Nat.zero_le _, Nat.zero_le _⟩ dX10_appendInput_39 (As := [.int x3]) (rest := []) rfl (fun H locs hP hS => ?_)
  exact kX10_appendInput_42 X hret hf hP hS (lv_sub hl [0, 2, 3] rfl)
set_option maxRecDepth 10000 in
theorem kX10_appendInput_26 {r : Int32} {S1 : CS} {M : CS} {x2 : Int32} {x3 : Int32} {x4 : Int32} {x5 : Int32} {H : Heap} {locs : List Loc} {ls : Array Slot} (X : gX p s m args c cX10_appendInput 6 RX10 (kR kTab kA)) (hret : gRetI p l e (rmL 3 0 0) s m args below meth c cX10_appendInput (cΩ ca) (cP dC dI cg kA ca) Q r S1) (hf : fX10_appendInput_26 M x2 x3 x4 x5 = some (r, S1)) (hP : (cP dC dI cg kA ca) M s H) (hS : va_S (Fr (cΩ ca) s.heap.size) s.heap H locs) (hl : lv_has ls 6 [(0, .ref (ca 0)), (2, .int x2), (3, .int x3), (4, .int x4), (5, .int x5)]) : W p l e (rmL 3 0 0) s m args below meth c H locs 0 0 Q (F0 m 26 ls []) := by
  have hx := X.hx
  have hb := X.hb
  have hown := X.hown
  have hts := X.hts
  rw [fX10_appendInput_26] at hf
  refine lv_aload_n hx hb dX10_appendInput_26 rfl (lv_at hl 0 rfl) ?_
  refine cr_get (k := 0) X hP (rfl : kc 0 = 0) rfl cv0_0 rfl cinX10 (by decide) rfl tw750 dX10_appendInput_27 ?_
  refine lv_iload_n hx hb dX10_appendInput_30 rfl (lv_at hl 1 rfl) ?_
  obtain ⟨q, hc, hf⟩ := bd hf
  refine gCallVV X cOK rfl (vX8_appendFour hc) gRX10_X8_appendFour hdX8_appendFour rfl ⟨by decide, by decide⟩ hP hS (cr_rec hP (rfl : kc 1 = 1) rfl cw1 rfl) hl.1 (Nat.le_of_ble_eq_true rfl) ⟨Nat.zero_le _, Nat.zero_le _⟩ dX10_appendInput_31 (As := [.int x2]) (rest := []) rfl (fun H locs hP hS => ?_)
  exact kX10_appendInput_34 X hret hf hP hS (lv_sub hl [0, 2, 3, 4] rfl)
set_option maxRecDepth 10000 in
theorem kX10_appendInput_18 {r : Int32} {S1 : CS} {M : CS} {x1 : Int32} {x2 : Int32} {x3 : Int32} {x4 : Int32} {x5 : Int32} {H : Heap} {locs : List Loc} {ls : Array Slot} (X : gX p s m args c cX10_appendInput 6 RX10 (kR kTab kA)) (hret : gRetI p l e (rmL 3 0 0) s m args below meth c cX10_appendInput (cΩ ca) (cP dC dI cg kA ca) Q r S1) (hf : fX10_appendInput_18 M x1 x2 x3 x4 x5 = some (r, S1)) (hP : (cP dC dI cg kA ca) M s H) (hS : va_S (Fr (cΩ ca) s.heap.size) s.heap H locs) (hl : lv_has ls 6 [(0, .ref (ca 0)), (1, .int x1), (2, .int x2), (3, .int x3), (4, .int x4), (5, .int x5)]) : W p l e (rmL 3 0 0) s m args below meth c H locs 0 0 Q (F0 m 18 ls []) := by
  have hx := X.hx
  have hb := X.hb
  have hown := X.hown
  have hts := X.hts
  rw [fX10_appendInput_18] at hf
  refine lv_aload_n hx hb dX10_appendInput_18 rfl (lv_at hl 0 rfl) ?_
  refine cr_get (k := 0) X hP (rfl : kc 0 = 0) rfl cv0_0 rfl cinX10 (by decide) rfl tw750 dX10_appendInput_19 ?_
  refine lv_iload_n hx hb dX10_appendInput_22 rfl (lv_at hl 1 rfl) ?_
  obtain ⟨q, hc, hf⟩ := bd hf
  refine gCallVV X cOK rfl (vX8_appendFour hc) gRX10_X8_appendFour hdX8_appendFour rfl ⟨by decide, by decide⟩ hP hS (cr_rec hP (rfl : kc 1 = 1) rfl cw1 rfl) hl.1 (Nat.le_of_ble_eq_true rfl) ⟨Nat.zero_le _, Nat.zero_le _⟩ dX10_appendInput_23 (As := [.int x1]) (rest := []) rfl (fun H locs hP hS => ?_)
  exact kX10_appendInput_26 X hret hf hP hS (lv_sub hl [0, 2, 3, 4, 5] rfl)
set_option maxRecDepth 10000 in
theorem kX10_appendInput_16 {r : Int32} {S1 : CS} {M : CS} {H : Heap} {locs : List Loc} {ls : Array Slot} (X : gX p s m args c cX10_appendInput 6 RX10 (kR kTab kA)) (hret : gRetI p l e (rmL 3 0 0) s m args below meth c cX10_appendInput (cΩ ca) (cP dC dI cg kA ca) Q r S1) (hf : fX10_appendInput_16 M = some (r, S1)) (hP : (cP dC dI cg kA ca) M s H) (hS : va_S (Fr (cΩ ca) s.heap.size) s.heap H locs) (hl : lv_has ls 6 [(0, .ref (ca 0))]) : W p l e (rmL 3 0 0) s m args below meth c H locs 0 0 Q (F0 m 16 ls []) := by
  have hx := X.hx
  have hb := X.hb
  have hown := X.hown
  have hts := X.hts
  rw [fX10_appendInput_16] at hf
  refine lv_iconst (v := (-1)) hx hb dX10_appendInput_16 (by decide) ?_
  cases hf
  exact hret _ _ _ _ dX10_appendInput_17 hP hS
set_option maxRecDepth 10000 in
theorem kX10_appendInput_0 {r : Int32} {S1 : CS} {M : CS} {a1 : Int32} {a2 : Int32} {a3 : Int32} {a4 : Int32} {a5 : Int32} {H : Heap} {locs : List Loc} {ls : Array Slot} (X : gX p s m args c cX10_appendInput 6 RX10 (kR kTab kA)) (hret : gRetI p l e (rmL 3 0 0) s m args below meth c cX10_appendInput (cΩ ca) (cP dC dI cg kA ca) Q r S1) (hf : fX10_appendInput_0 M a1 a2 a3 a4 a5 = some (r, S1)) (hP : (cP dC dI cg kA ca) M s H) (hS : va_S (Fr (cΩ ca) s.heap.size) s.heap H locs) (hl : lv_has ls 6 [(0, .ref (ca 0)), (1, .int a1), (2, .int a2), (3, .int a3), (4, .int a4), (5, .int a5)]) : W p l e (rmL 3 0 0) s m args below meth c H locs 0 0 Q (F0 m 0 ls []) := by
  have hx := X.hx
  have hb := X.hb
  have hown := X.hown
  have hts := X.hts
  rw [fX10_appendInput_0] at hf
  refine lv_aload_n hx hb dX10_appendInput_0 rfl (lv_at hl 0 rfl) ?_
  refine cr_get (k := 0) X hP (rfl : kc 0 = 0) rfl cv0_0 rfl cinX10 (by decide) rfl tw750 dX10_appendInput_1 ?_
  refine cr_get (k := 2) X hP (rfl : kc 1 = 1) rfl cv1_2 rfl cinX8 (by decide) rfl tw88 dX10_appendInput_4 ?_
  refine lv_bipush (v := 20) hx hb dX10_appendInput_7 (by decide) ?_
  refine lv_iadd hx hb dX10_appendInput_9 ?_
  refine lv_sipush (v := 600) hx hb dX10_appendInput_10 (by decide) ?_
  refine lv_icmp_le (tgt := 18) hx hb dX10_appendInput_13 (by decide) (fun c1 => ?_) (fun c1 => ?_)
  · exact kX10_appendInput_18 X hret (ifp c1 hf) hP hS (lv_sub hl [0, 1, 2, 3, 4, 5] rfl)
  · exact kX10_appendInput_16 X hret (ifn c1 hf) hP hS (lv_sub hl [0] rfl)
theorem vX10_appendInput {l : Launch} {dC : Nat → ClassId} {dI : Nat → Nat → Nat} {cg : Nat → ClassId} {kA : String → Nat → Nat} {ca : Nat → Nat} {M S1 : CS} {r : Int32} {a1 : Int32} {a2 : Int32} {a3 : Int32} {a4 : Int32} {a5 : Int32} (hf : fX10_appendInput M a1 a2 a3 a4 a5 = some (r, S1)) : gMetI l yX10_appendInput cX10_appendInput 6 (some .int) 3 (cΩ ca) (cP dC dI cg kA ca) (kR kTab kA) [.ref (ca 0), .int a1, .int a2, .int a3, .int a4, .int a5] M r S1 := gEntryI (ty := .int) (by decide) rfl rfl cOK (Nat.le_of_ble_eq_true rfl) (fun p e s m args below meth c Q ls X hP hS hret hl => 
  kX10_appendInput_0 X hret hf hP hS (lv_sub hl [0, 1, 2, 3, 4, 5] rfl))
set_option maxRecDepth 10000 in
theorem kX10_strengthOf_8 {r : Int32} {M : CS} {s0 : Int32} (X : gX p s m args c cX10_strengthOf 2 RX10 (kR kTab kA)) (hret : gRetR p l e (rmL 3 0 0) s m args below meth c cX10_strengthOf Q r) (hf : fX10_strengthOf_8 M s0 = some r) {ls : Array Slot} (hP : (cP dC dI cg kA ca) M s s.heap) (hl : lv_has ls 2 [(0, .ref (ca 0))]) : W p l e (rmL 3 0 0) s m args below meth c s.heap [] 0 0 Q (F0 m 8 ls [.int s0]) := by
  have hx := X.hx
  have hb := X.hb
  have hown := X.hown
  have hts := X.hts
  rw [fX10_strengthOf_8] at hf
  cases hf
  exact hret _ _ dX10_strengthOf_8
set_option maxRecDepth 10000 in
theorem kX10_strengthOf_5 {r : Int32} {M : CS} {z0 : Nat} (X : gX p s m args c cX10_strengthOf 2 RX10 (kR kTab kA)) (hret : gRetR p l e (rmL 3 0 0) s m args below meth c cX10_strengthOf Q r) (hkz0 : kc z0 = 18) (hf : fX10_strengthOf_5 M z0 = some r) {ls : Array Slot} (hP : (cP dC dI cg kA ca) M s s.heap) (hl : lv_has ls 2 [(0, .ref (ca 0))]) : W p l e (rmL 3 0 0) s m args below meth c s.heap [] 0 0 Q (F0 m 5 ls [.ref (ca z0)]) := by
  have hx := X.hx
  have hb := X.hb
  have hown := X.hown
  have hts := X.hts
  rw [fX10_strengthOf_5] at hf
  obtain ⟨q, hc, hf⟩ := bd hf
  refine gCallVR X rfl (vX0_strength hkz0 hc) gRX10_X0_strength hdX0_strength rfl ⟨by decide, by decide⟩ (gB_blind cOK) (gB_at cOK X hP) (cr_rec hP hkz0 rfl cw18 rfl) hl.1 (Nat.le_of_ble_eq_true rfl) ⟨Nat.zero_le _, Nat.zero_le _⟩ dX10_strengthOf_5 (As := []) (rest := []) rfl ?_
  exact kX10_strengthOf_8 X hret hf hP (lv_sub hl [0] rfl)
set_option maxRecDepth 10000 in
theorem kX10_strengthOf_0 {r : Int32} {M : CS} {a1 : Int32} (X : gX p s m args c cX10_strengthOf 2 RX10 (kR kTab kA)) (hret : gRetR p l e (rmL 3 0 0) s m args below meth c cX10_strengthOf Q r) (hf : fX10_strengthOf_0 M a1 = some r) {ls : Array Slot} (hP : (cP dC dI cg kA ca) M s s.heap) (hl : lv_has ls 2 [(0, .ref (ca 0)), (1, .int a1)]) : W p l e (rmL 3 0 0) s m args below meth c s.heap [] 0 0 Q (F0 m 0 ls []) := by
  have hx := X.hx
  have hb := X.hb
  have hown := X.hown
  have hts := X.hts
  rw [fX10_strengthOf_0] at hf
  refine lv_aload_n hx hb dX10_strengthOf_0 rfl (lv_at hl 0 rfl) ?_
  refine lv_iload_n hx hb dX10_strengthOf_1 rfl (lv_at hl 1 rfl) ?_
  obtain ⟨q, hc, hf⟩ := bd hf
  refine gCallVP X rfl (vX10_catAt hc) gRX10_X10_catAt hdX10_catAt rfl ⟨by decide, by decide⟩ (gB_blind cOK) (gB_at cOK X hP) (cr_rec hP (rfl : kc 0 = 0) rfl cw0 rfl) hl.1 (Nat.le_of_ble_eq_true rfl) ⟨Nat.zero_le _, Nat.zero_le _⟩ dX10_strengthOf_2 (As := [.int a1]) (rest := []) rfl ?_
  exact kX10_strengthOf_5 X hret (kkX10_catAt hc) hf hP (lv_sub hl [0] rfl)
theorem vX10_strengthOf {l : Launch} {dC : Nat → ClassId} {dI : Nat → Nat → Nat} {cg : Nat → ClassId} {kA : String → Nat → Nat} {ca : Nat → Nat} {M : CS} {r : Int32} {a1 : Int32} (hf : fX10_strengthOf M a1 = some r) : gMetR l yX10_strengthOf cX10_strengthOf 2 (some .int) 3 (gB (cP dC dI cg kA ca) (kR kTab kA) M) [.ref (ca 0), .int a1] r := gEntryR (ty := .int) (by decide) rfl rfl (Nat.le_of_ble_eq_true rfl) (fun _ h => h.2) (fun p e s m args below meth c Q ls X hB hret hl => 
  kX10_strengthOf_0 X hret hf hB.1 (lv_sub hl [0, 1] rfl))
set_option maxRecDepth 10000 in
theorem kX10_isConsistent_35 {r : Int32} {M : CS} {s0 : Int32} (X : gX p s m args c cX10_isConsistent 1 RX10 (kR kTab kA)) (hret : gRetR p l e (rmL 3 0 0) s m args below meth c cX10_isConsistent Q r) (hf : fX10_isConsistent_35 M s0 = some r) {ls : Array Slot} (hP : (cP dC dI cg kA ca) M s s.heap) (hl : lv_has ls 1 [(0, .ref (ca 0))]) : W p l e (rmL 3 0 0) s m args below meth c s.heap [] 0 0 Q (F0 m 35 ls [.int s0]) := by
  have hx := X.hx
  have hb := X.hb
  have hown := X.hown
  have hts := X.hts
  rw [fX10_isConsistent_35] at hf
  cases hf
  exact hret _ _ dX10_isConsistent_35
set_option maxRecDepth 10000 in
theorem kX10_isConsistent_34 {r : Int32} {M : CS} (X : gX p s m args c cX10_isConsistent 1 RX10 (kR kTab kA)) (hret : gRetR p l e (rmL 3 0 0) s m args below meth c cX10_isConsistent Q r) (hf : fX10_isConsistent_34 M = some r) {ls : Array Slot} (hP : (cP dC dI cg kA ca) M s s.heap) (hl : lv_has ls 1 [(0, .ref (ca 0))]) : W p l e (rmL 3 0 0) s m args below meth c s.heap [] 0 0 Q (F0 m 34 ls []) := by
  have hx := X.hx
  have hb := X.hb
  have hown := X.hown
  have hts := X.hts
  rw [fX10_isConsistent_34] at hf
  refine lv_iconst (v := 0) hx hb dX10_isConsistent_34 (by decide) ?_
  exact kX10_isConsistent_35 X hret hf hP (lv_sub hl [0] rfl)
set_option maxRecDepth 10000 in
theorem kX10_isConsistent_30 {r : Int32} {M : CS} (X : gX p s m args c cX10_isConsistent 1 RX10 (kR kTab kA)) (hret : gRetR p l e (rmL 3 0 0) s m args below meth c cX10_isConsistent Q r) (hf : fX10_isConsistent_30 M = some r) {ls : Array Slot} (hP : (cP dC dI cg kA ca) M s s.heap) (hl : lv_has ls 1 [(0, .ref (ca 0))]) : W p l e (rmL 3 0 0) s m args below meth c s.heap [] 0 0 Q (F0 m 30 ls []) := by
  have hx := X.hx
  have hb := X.hb
  have hown := X.hown
  have hts := X.hts
  rw [fX10_isConsistent_30] at hf
  refine lv_iconst (v := 1) hx hb dX10_isConsistent_30 (by decide) ?_
  refine lv_goto (tgt := 35) hx hb dX10_isConsistent_31 (by decide) ?_
  exact kX10_isConsistent_35 X hret hf hP (lv_sub hl [0] rfl)
set_option maxRecDepth 10000 in
theorem kX10_isConsistent_27 {r : Int32} {M : CS} {s0 : Int32} (X : gX p s m args c cX10_isConsistent 1 RX10 (kR kTab kA)) (hret : gRetR p l e (rmL 3 0 0) s m args below meth c cX10_isConsistent Q r) (hf : fX10_isConsistent_27 M s0 = some r) {ls : Array Slot} (hP : (cP dC dI cg kA ca) M s s.heap) (hl : lv_has ls 1 [(0, .ref (ca 0))]) : W p l e (rmL 3 0 0) s m args below meth c s.heap [] 0 0 Q (F0 m 27 ls [.int s0]) := by
  have hx := X.hx
  have hb := X.hb
  have hown := X.hown
  have hts := X.hts
  rw [fX10_isConsistent_27] at hf
  refine lv_if_eq (tgt := 34) hx hb dX10_isConsistent_27 (by decide) (fun c1 => ?_) (fun c1 => ?_)
  · exact kX10_isConsistent_34 X hret (ifp c1 hf) hP (lv_sub hl [0] rfl)
  · exact kX10_isConsistent_30 X hret (ifn c1 hf) hP (lv_sub hl [0] rfl)
set_option maxRecDepth 10000 in
theorem kX10_isConsistent_20 {r : Int32} {M : CS} (X : gX p s m args c cX10_isConsistent 1 RX10 (kR kTab kA)) (hret : gRetR p l e (rmL 3 0 0) s m args below meth c cX10_isConsistent Q r) (hf : fX10_isConsistent_20 M = some r) {ls : Array Slot} (hP : (cP dC dI cg kA ca) M s s.heap) (hl : lv_has ls 1 [(0, .ref (ca 0))]) : W p l e (rmL 3 0 0) s m args below meth c s.heap [] 0 0 Q (F0 m 20 ls []) := by
  have hx := X.hx
  have hb := X.hb
  have hown := X.hown
  have hts := X.hts
  rw [fX10_isConsistent_20] at hf
  refine lv_aload_n hx hb dX10_isConsistent_20 rfl (lv_at hl 0 rfl) ?_
  refine cr_get (k := 2) X hP (rfl : kc 0 = 0) rfl cv0_2 rfl cinX10 (by decide) rfl tw752 dX10_isConsistent_21 ?_
  obtain ⟨q, hc, hf⟩ := bd hf
  refine gCallVR X rfl (vX2_catsAddUp (rfl : kc 13 = 11) hc) gRX10_X2_catsAddUp hdX2_catsAddUp rfl ⟨by decide, by decide⟩ (gB_blind cOK) (gB_at cOK X hP) (cr_rec hP (rfl : kc 13 = 11) rfl cw11 rfl) hl.1 (Nat.le_of_ble_eq_true rfl) ⟨Nat.zero_le _, Nat.zero_le _⟩ dX10_isConsistent_24 (As := []) (rest := []) rfl ?_
  exact kX10_isConsistent_27 X hret hf hP (lv_sub hl [0] rfl)
set_option maxRecDepth 10000 in
theorem kX10_isConsistent_17 {r : Int32} {M : CS} {s0 : Int32} (X : gX p s m args c cX10_isConsistent 1 RX10 (kR kTab kA)) (hret : gRetR p l e (rmL 3 0 0) s m args below meth c cX10_isConsistent Q r) (hf : fX10_isConsistent_17 M s0 = some r) {ls : Array Slot} (hP : (cP dC dI cg kA ca) M s s.heap) (hl : lv_has ls 1 [(0, .ref (ca 0))]) : W p l e (rmL 3 0 0) s m args below meth c s.heap [] 0 0 Q (F0 m 17 ls [.int s0]) := by
  have hx := X.hx
  have hb := X.hb
  have hown := X.hown
  have hts := X.hts
  rw [fX10_isConsistent_17] at hf
  refine lv_if_eq (tgt := 34) hx hb dX10_isConsistent_17 (by decide) (fun c1 => ?_) (fun c1 => ?_)
  · exact kX10_isConsistent_34 X hret (ifp c1 hf) hP (lv_sub hl [0] rfl)
  · exact kX10_isConsistent_20 X hret (ifn c1 hf) hP (lv_sub hl [0] rfl)
set_option maxRecDepth 10000 in
theorem kX10_isConsistent_10 {r : Int32} {M : CS} (X : gX p s m args c cX10_isConsistent 1 RX10 (kR kTab kA)) (hret : gRetR p l e (rmL 3 0 0) s m args below meth c cX10_isConsistent Q r) (hf : fX10_isConsistent_10 M = some r) {ls : Array Slot} (hP : (cP dC dI cg kA ca) M s s.heap) (hl : lv_has ls 1 [(0, .ref (ca 0))]) : W p l e (rmL 3 0 0) s m args below meth c s.heap [] 0 0 Q (F0 m 10 ls []) := by
  have hx := X.hx
  have hb := X.hb
  have hown := X.hown
  have hts := X.hts
  rw [fX10_isConsistent_10] at hf
  refine lv_aload_n hx hb dX10_isConsistent_10 rfl (lv_at hl 0 rfl) ?_
  refine cr_get (k := 2) X hP (rfl : kc 0 = 0) rfl cv0_2 rfl cinX10 (by decide) rfl tw752 dX10_isConsistent_11 ?_
  obtain ⟨q, hc, hf⟩ := bd hf
  refine gCallVR X rfl (vX2_grainAddsUp (rfl : kc 13 = 11) hc) gRX10_X2_grainAddsUp hdX2_grainAddsUp rfl ⟨by decide, by decide⟩ (gB_blind cOK) (gB_at cOK X hP) (cr_rec hP (rfl : kc 13 = 11) rfl cw11 rfl) hl.1 (Nat.le_of_ble_eq_true rfl) ⟨Nat.zero_le _, Nat.zero_le _⟩ dX10_isConsistent_14 (As := []) (rest := []) rfl ?_
  exact kX10_isConsistent_17 X hret hf hP (lv_sub hl [0] rfl)
set_option maxRecDepth 10000 in
theorem kX10_isConsistent_7 {r : Int32} {M : CS} {s0 : Int32} (X : gX p s m args c cX10_isConsistent 1 RX10 (kR kTab kA)) (hret : gRetR p l e (rmL 3 0 0) s m args below meth c cX10_isConsistent Q r) (hf : fX10_isConsistent_7 M s0 = some r) {ls : Array Slot} (hP : (cP dC dI cg kA ca) M s s.heap) (hl : lv_has ls 1 [(0, .ref (ca 0))]) : W p l e (rmL 3 0 0) s m args below meth c s.heap [] 0 0 Q (F0 m 7 ls [.int s0]) := by
  have hx := X.hx
  have hb := X.hb
  have hown := X.hown
  have hts := X.hts
  rw [fX10_isConsistent_7] at hf
  refine lv_if_eq (tgt := 34) hx hb dX10_isConsistent_7 (by decide) (fun c1 => ?_) (fun c1 => ?_)
  · exact kX10_isConsistent_34 X hret (ifp c1 hf) hP (lv_sub hl [0] rfl)
  · exact kX10_isConsistent_10 X hret (ifn c1 hf) hP (lv_sub hl [0] rfl)
set_option maxRecDepth 10000 in
theorem kX10_isConsistent_0 {r : Int32} {M : CS} (X : gX p s m args c cX10_isConsistent 1 RX10 (kR kTab kA)) (hret : gRetR p l e (rmL 3 0 0) s m args below meth c cX10_isConsistent Q r) (hf : fX10_isConsistent_0 M = some r) {ls : Array Slot} (hP : (cP dC dI cg kA ca) M s s.heap) (hl : lv_has ls 1 [(0, .ref (ca 0))]) : W p l e (rmL 3 0 0) s m args below meth c s.heap [] 0 0 Q (F0 m 0 ls []) := by
  have hx := X.hx
  have hb := X.hb
  have hown := X.hown
  have hts := X.hts
  rw [fX10_isConsistent_0] at hf
  refine lv_aload_n hx hb dX10_isConsistent_0 rfl (lv_at hl 0 rfl) ?_
  refine cr_get (k := 2) X hP (rfl : kc 0 = 0) rfl cv0_2 rfl cinX10 (by decide) rfl tw752 dX10_isConsistent_1 ?_
  obtain ⟨q, hc, hf⟩ := bd hf
  refine gCallVR X rfl (vX2_miceAddUp (rfl : kc 13 = 11) hc) gRX10_X2_miceAddUp hdX2_miceAddUp rfl ⟨by decide, by decide⟩ (gB_blind cOK) (gB_at cOK X hP) (cr_rec hP (rfl : kc 13 = 11) rfl cw11 rfl) hl.1 (Nat.le_of_ble_eq_true rfl) ⟨Nat.zero_le _, Nat.zero_le _⟩ dX10_isConsistent_4 (As := []) (rest := []) rfl ?_
  exact kX10_isConsistent_7 X hret hf hP (lv_sub hl [0] rfl)
theorem vX10_isConsistent {l : Launch} {dC : Nat → ClassId} {dI : Nat → Nat → Nat} {cg : Nat → ClassId} {kA : String → Nat → Nat} {ca : Nat → Nat} {M : CS} {r : Int32} (hf : fX10_isConsistent M  = some r) : gMetR l yX10_isConsistent cX10_isConsistent 1 (some .boolean) 3 (gB (cP dC dI cg kA ca) (kR kTab kA) M) [.ref (ca 0)] r := gEntryR (ty := .boolean) (by decide) rfl (bq_n hf) (Nat.le_of_ble_eq_true rfl) (fun _ h => h.2) (fun p e s m args below meth c Q ls X hB hret hl => 
  kX10_isConsistent_0 X hret (bq_f hf) hB.1 (lv_sub hl [0] rfl))
set_option maxRecDepth 10000 in
theorem kX2_passHour_92 {S1 : CS} {t : Nat} {M : CS} {H : Heap} {locs : List Loc} {ls : Array Slot} (X : gX p s m args c cX2_passHour 2 RX2 (kR kTab kA)) (hret : gRetV p l e (rmL 4 0 0) s m args below meth c cX2_passHour (cΩ ca) (cP dC dI cg kA ca) Q S1) (hkt : kc t = 11) (hf : fX2_passHour_92 t M = some S1) (hP : (cP dC dI cg kA ca) M s H) (hS : va_S (Fr (cΩ ca) s.heap.size) s.heap H locs) (hl : lv_has ls 2 [(0, .ref (ca t))]) : W p l e (rmL 4 0 0) s m args below meth c H locs 0 0 Q (F0 m 92 ls []) := by
  have hx := X.hx
  have hb := X.hb
  have hown := X.hown
  have hts := X.hts
  rw [fX2_passHour_92] at hf
  cases hf
  exact hret _ _ _ _ dX2_passHour_92 hP hS
set_option maxRecDepth 10000 in
theorem kX2_passHour_88 {S1 : CS} {t : Nat} {M : CS} {H : Heap} {locs : List Loc} {ls : Array Slot} (X : gX p s m args c cX2_passHour 2 RX2 (kR kTab kA)) (hret : gRetV p l e (rmL 4 0 0) s m args below meth c cX2_passHour (cΩ ca) (cP dC dI cg kA ca) Q S1) (hkt : kc t = 11) (hf : fX2_passHour_88 t M = some S1) (hP : (cP dC dI cg kA ca) M s H) (hS : va_S (Fr (cΩ ca) s.heap.size) s.heap H locs) (hl : lv_has ls 2 [(0, .ref (ca t))]) : W p l e (rmL 4 0 0) s m args below meth c H locs 0 0 Q (F0 m 88 ls []) := by
  have hx := X.hx
  have hb := X.hb
  have hown := X.hown
  have hts := X.hts
  rw [fX2_passHour_88] at hf
  refine lv_aload_n hx hb dX2_passHour_88 rfl (lv_at hl 0 rfl) ?_
  obtain ⟨q, hc, hf⟩ := bd hf
  refine gCallVV X cOK rfl (vX2_greetDawn hkt hc) gRX2_X2_greetDawn hdX2_greetDawn rfl ⟨by decide, by decide⟩ hP hS (cr_rec hP hkt rfl cw11 rfl) hl.1 (Nat.le_of_ble_eq_true rfl) ⟨Nat.zero_le _, Nat.zero_le _⟩ dX2_passHour_89 (As := []) (rest := []) rfl (fun H locs hP hS => ?_)
  exact kX2_passHour_92 X hret hkt hf hP hS (lv_sub hl [0] rfl)
set_option maxRecDepth 10000 in
theorem kX2_passHour_76 {S1 : CS} {t : Nat} {M : CS} {H : Heap} {locs : List Loc} {ls : Array Slot} (X : gX p s m args c cX2_passHour 2 RX2 (kR kTab kA)) (hret : gRetV p l e (rmL 4 0 0) s m args below meth c cX2_passHour (cΩ ca) (cP dC dI cg kA ca) Q S1) (hkt : kc t = 11) (hf : fX2_passHour_76 t M = some S1) (hP : (cP dC dI cg kA ca) M s H) (hS : va_S (Fr (cΩ ca) s.heap.size) s.heap H locs) (hl : lv_has ls 2 [(0, .ref (ca t))]) : W p l e (rmL 4 0 0) s m args below meth c H locs 0 0 Q (F0 m 76 ls []) := by
  have hx := X.hx
  have hb := X.hb
  have hown := X.hown
  have hts := X.hts
  rw [fX2_passHour_76] at hf
  refine lv_aload_n hx hb dX2_passHour_76 rfl (lv_at hl 0 rfl) ?_
  refine cr_get (k := 12) X hP hkt rfl cv11_12 rfl cinX2 (by decide) rfl tw325 dX2_passHour_77 ?_
  refine lv_bipush (v := 24) hx hb dX2_passHour_80 (by decide) ?_
  refine lv_irem hx hb dX2_passHour_82 (by decide) ?_
  refine lv_bipush (v := 6) hx hb dX2_passHour_83 (by decide) ?_
  refine lv_icmp_ne (tgt := 92) hx hb dX2_passHour_85 (by decide) (fun c1 => ?_) (fun c1 => ?_)
  · exact kX2_passHour_92 X hret hkt (ifn c1 hf) hP hS (lv_sub hl [0] rfl)
  · exact kX2_passHour_88 X hret hkt (ifp c1 hf) hP hS (lv_sub hl [0] rfl)
set_option maxRecDepth 10000 in
theorem kX2_passHour_72 {S1 : CS} {t : Nat} {M : CS} {H : Heap} {locs : List Loc} {ls : Array Slot} (X : gX p s m args c cX2_passHour 2 RX2 (kR kTab kA)) (hret : gRetV p l e (rmL 4 0 0) s m args below meth c cX2_passHour (cΩ ca) (cP dC dI cg kA ca) Q S1) (hkt : kc t = 11) (hf : fX2_passHour_72 t M = some S1) (hP : (cP dC dI cg kA ca) M s H) (hS : va_S (Fr (cΩ ca) s.heap.size) s.heap H locs) (hl : lv_has ls 2 [(0, .ref (ca t))]) : W p l e (rmL 4 0 0) s m args below meth c H locs 0 0 Q (F0 m 72 ls []) := by
  have hx := X.hx
  have hb := X.hb
  have hown := X.hown
  have hts := X.hts
  rw [fX2_passHour_72] at hf
  refine lv_aload_n hx hb dX2_passHour_72 rfl (lv_at hl 0 rfl) ?_
  obtain ⟨q, hc, hf⟩ := bd hf
  refine gCallVV X cOK rfl (vX2_changeShift hkt hc) gRX2_X2_changeShift hdX2_changeShift rfl ⟨by decide, by decide⟩ hP hS (cr_rec hP hkt rfl cw11 rfl) hl.1 (Nat.le_of_ble_eq_true rfl) ⟨Nat.zero_le _, Nat.zero_le _⟩ dX2_passHour_73 (As := []) (rest := []) rfl (fun H locs hP hS => ?_)
  exact kX2_passHour_76 X hret hkt hf hP hS (lv_sub hl [0] rfl)
set_option maxRecDepth 10000 in
theorem kX2_passHour_65 {S1 : CS} {t : Nat} {M : CS} {H : Heap} {locs : List Loc} {ls : Array Slot} (X : gX p s m args c cX2_passHour 2 RX2 (kR kTab kA)) (hret : gRetV p l e (rmL 4 0 0) s m args below meth c cX2_passHour (cΩ ca) (cP dC dI cg kA ca) Q S1) (hkt : kc t = 11) (hf : fX2_passHour_65 t M = some S1) (hP : (cP dC dI cg kA ca) M s H) (hS : va_S (Fr (cΩ ca) s.heap.size) s.heap H locs) (hl : lv_has ls 2 [(0, .ref (ca t))]) : W p l e (rmL 4 0 0) s m args below meth c H locs 0 0 Q (F0 m 65 ls []) := by
  have hx := X.hx
  have hb := X.hb
  have hown := X.hown
  have hts := X.hts
  rw [fX2_passHour_65] at hf
  refine lv_aload_n hx hb dX2_passHour_65 rfl (lv_at hl 0 rfl) ?_
  refine cr_get (k := 10) X hP hkt rfl cv11_10 rfl cinX2 (by decide) rfl tw320 dX2_passHour_66 ?_
  refine lv_if_gt (tgt := 76) hx hb dX2_passHour_69 (by decide) (fun c1 => ?_) (fun c1 => ?_)
  · exact kX2_passHour_76 X hret hkt (ifp c1 hf) hP hS (lv_sub hl [0] rfl)
  · exact kX2_passHour_72 X hret hkt (ifn c1 hf) hP hS (lv_sub hl [0] rfl)
set_option maxRecDepth 10000 in
theorem kX2_passHour_55 {S1 : CS} {t : Nat} {M : CS} {H : Heap} {locs : List Loc} {ls : Array Slot} (X : gX p s m args c cX2_passHour 2 RX2 (kR kTab kA)) (hret : gRetV p l e (rmL 4 0 0) s m args below meth c cX2_passHour (cΩ ca) (cP dC dI cg kA ca) Q S1) (hkt : kc t = 11) (hf : fX2_passHour_55 t M = some S1) (hP : (cP dC dI cg kA ca) M s H) (hS : va_S (Fr (cΩ ca) s.heap.size) s.heap H locs) (hl : lv_has ls 2 [(0, .ref (ca t))]) : W p l e (rmL 4 0 0) s m args below meth c H locs 0 0 Q (F0 m 55 ls []) := by
  have hx := X.hx
  have hb := X.hb
  have hown := X.hown
  have hts := X.hts
  rw [fX2_passHour_55] at hf
  refine lv_aload_n hx hb dX2_passHour_55 rfl (lv_at hl 0 rfl) ?_
  refine lv_dup hx hb dX2_passHour_56 rfl ?_
  refine cr_get (k := 10) X hP hkt rfl cv11_10 rfl cinX2 (by decide) rfl tw320 dX2_passHour_57 ?_
  refine lv_iconst (v := 1) hx hb dX2_passHour_60 (by decide) ?_
  refine lv_isub hx hb dX2_passHour_61 ?_
  refine cr_put (k := 10) X hP hS hkt rfl cs11_10 rfl cinX2 tyX2_ok nmX2 (by decide) rfl rfl rfl rfl tw320 dX2_passHour_62 (fun H locs hP hS => ?_)
  exact kX2_passHour_65 X hret hkt hf hP hS (lv_sub hl [0] rfl)
set_option maxRecDepth 10000 in
theorem kX2_passHour_49 {S1 : CS} {t : Nat} {M : CS} {s0 : Int32} {H : Heap} {locs : List Loc} {ls : Array Slot} (X : gX p s m args c cX2_passHour 2 RX2 (kR kTab kA)) (hret : gRetV p l e (rmL 4 0 0) s m args below meth c cX2_passHour (cΩ ca) (cP dC dI cg kA ca) Q S1) (hkt : kc t = 11) (hf : fX2_passHour_49 t M s0 = some S1) (hP : (cP dC dI cg kA ca) M s H) (hS : va_S (Fr (cΩ ca) s.heap.size) s.heap H locs) (hl : lv_has ls 2 [(0, .ref (ca t))]) : W p l e (rmL 4 0 0) s m args below meth c H locs 0 0 Q (F0 m 49 ls [.int s0]) := by
  have hx := X.hx
  have hb := X.hb
  have hown := X.hown
  have hts := X.hts
  rw [fX2_passHour_49] at hf
  refine lv_istore_n (lv' := [(1, .int s0), (0, .ref (ca t))]) hx hb dX2_passHour_49 rfl hl (by decide) rfl (fun ls hl => ?_)
  refine lv_aload_n hx hb dX2_passHour_50 rfl (lv_at hl 1 rfl) ?_
  refine lv_iload_n hx hb dX2_passHour_51 rfl (lv_at hl 0 rfl) ?_
  obtain ⟨q, hc, hf⟩ := bd hf
  refine gCallVV X cOK rfl (vX2_restAllBut hkt hc) gRX2_X2_restAllBut hdX2_restAllBut rfl ⟨by decide, by decide⟩ hP hS (cr_rec hP hkt rfl cw11 rfl) hl.1 (Nat.le_of_ble_eq_true rfl) ⟨Nat.zero_le _, Nat.zero_le _⟩ dX2_passHour_52 (As := [.int s0]) (rest := []) rfl (fun H locs hP hS => ?_)
  exact kX2_passHour_55 X hret hkt hf hP hS (lv_sub hl [1] rfl)
set_option maxRecDepth 10000 in
theorem kX2_passHour_45 {S1 : CS} {t : Nat} {M : CS} {H : Heap} {locs : List Loc} {ls : Array Slot} (X : gX p s m args c cX2_passHour 2 RX2 (kR kTab kA)) (hret : gRetV p l e (rmL 4 0 0) s m args below meth c cX2_passHour (cΩ ca) (cP dC dI cg kA ca) Q S1) (hkt : kc t = 11) (hf : fX2_passHour_45 t M = some S1) (hP : (cP dC dI cg kA ca) M s H) (hS : va_S (Fr (cΩ ca) s.heap.size) s.heap H locs) (hl : lv_has ls 2 [(0, .ref (ca t))]) : W p l e (rmL 4 0 0) s m args below meth c H locs 0 0 Q (F0 m 45 ls []) := by
  have hx := X.hx
  have hb := X.hb
  have hown := X.hown
  have hts := X.hts
  rw [fX2_passHour_45] at hf
  refine lv_aload_n hx hb dX2_passHour_45 rfl (lv_at hl 0 rfl) ?_
  obtain ⟨q, hc, hf⟩ := bd hf
  refine gCallVI X cOK rfl (vX2_hunt hkt hc) gRX2_X2_hunt hdX2_hunt rfl ⟨by decide, by decide⟩ hP hS (cr_rec hP hkt rfl cw11 rfl) hl.1 (Nat.le_of_ble_eq_true rfl) ⟨Nat.zero_le _, Nat.zero_le _⟩ dX2_passHour_46 (As := []) (rest := []) rfl (fun H locs hP hS => ?_)
  exact kX2_passHour_49 X hret hkt hf hP hS (lv_sub hl [0] rfl)
set_option maxRecDepth 10000 in
theorem kX2_passHour_41 {S1 : CS} {t : Nat} {M : CS} {H : Heap} {locs : List Loc} {ls : Array Slot} (X : gX p s m args c cX2_passHour 2 RX2 (kR kTab kA)) (hret : gRetV p l e (rmL 4 0 0) s m args below meth c cX2_passHour (cΩ ca) (cP dC dI cg kA ca) Q S1) (hkt : kc t = 11) (hf : fX2_passHour_41 t M = some S1) (hP : (cP dC dI cg kA ca) M s H) (hS : va_S (Fr (cΩ ca) s.heap.size) s.heap H locs) (hl : lv_has ls 2 [(0, .ref (ca t))]) : W p l e (rmL 4 0 0) s m args below meth c H locs 0 0 Q (F0 m 41 ls []) := by
  have hx := X.hx
  have hb := X.hb
  have hown := X.hown
  have hts := X.hts
  rw [fX2_passHour_41] at hf
  refine lv_aload_n hx hb dX2_passHour_41 rfl (lv_at hl 0 rfl) ?_
  obtain ⟨q, hc, hf⟩ := bd hf
  refine gCallVV X cOK rfl (vX2_growMice hkt hc) gRX2_X2_growMice hdX2_growMice rfl ⟨by decide, by decide⟩ hP hS (cr_rec hP hkt rfl cw11 rfl) hl.1 (Nat.le_of_ble_eq_true rfl) ⟨Nat.zero_le _, Nat.zero_le _⟩ dX2_passHour_42 (As := []) (rest := []) rfl (fun H locs hP hS => ?_)
  exact kX2_passHour_45 X hret hkt hf hP hS (lv_sub hl [0] rfl)
set_option maxRecDepth 10000 in
theorem kX2_passHour_31 {S1 : CS} {t : Nat} {M : CS} {H : Heap} {locs : List Loc} {ls : Array Slot} (X : gX p s m args c cX2_passHour 2 RX2 (kR kTab kA)) (hret : gRetV p l e (rmL 4 0 0) s m args below meth c cX2_passHour (cΩ ca) (cP dC dI cg kA ca) Q S1) (hkt : kc t = 11) (hf : fX2_passHour_31 t M = some S1) (hP : (cP dC dI cg kA ca) M s H) (hS : va_S (Fr (cΩ ca) s.heap.size) s.heap H locs) (hl : lv_has ls 2 [(0, .ref (ca t))]) : W p l e (rmL 4 0 0) s m args below meth c H locs 0 0 Q (F0 m 31 ls []) := by
  have hx := X.hx
  have hb := X.hb
  have hown := X.hown
  have hts := X.hts
  rw [fX2_passHour_31] at hf
  refine lv_aload_n hx hb dX2_passHour_31 rfl (lv_at hl 0 rfl) ?_
  refine cr_get (k := 12) X hP hkt rfl cv11_12 rfl cinX2 (by decide) rfl tw325 dX2_passHour_32 ?_
  refine lv_bipush (v := 24) hx hb dX2_passHour_35 (by decide) ?_
  refine lv_irem hx hb dX2_passHour_37 (by decide) ?_
  refine lv_if_ne (tgt := 45) hx hb dX2_passHour_38 (by decide) (fun c1 => ?_) (fun c1 => ?_)
  · exact kX2_passHour_45 X hret hkt (ifn c1 hf) hP hS (lv_sub hl [0] rfl)
  · exact kX2_passHour_41 X hret hkt (ifp c1 hf) hP hS (lv_sub hl [0] rfl)
set_option maxRecDepth 10000 in
theorem kX2_passHour_25 {S1 : CS} {t : Nat} {K12 : CS → Int32 → Option (CS)} {M : CS} {x1 : Int32} {H : Heap} {locs : List Loc} {ls : Array Slot} (X : gX p s m args c cX2_passHour 2 RX2 (kR kTab kA)) (hret : gRetV p l e (rmL 4 0 0) s m args below meth c cX2_passHour (cΩ ca) (cP dC dI cg kA ca) Q S1) (hkt : kc t = 11) (hK12 : ∀ (M : CS) (x1 : Int32) (H : Heap) (locs : List Loc) (ls : Array Slot), K12 M x1 = some S1 → (cP dC dI cg kA ca) M s H → va_S (Fr (cΩ ca) s.heap.size) s.heap H locs → lv_has ls 2 [(0, .ref (ca t)), (1, .int x1)] → W p l e (rmL 4 0 0) s m args below meth c H locs 0 0 Q (F0 m 12 ls [])) (hf : fX2_passHour_25 t K12 M x1 = some S1) (hP : (cP dC dI cg kA ca) M s H) (hS : va_S (Fr (cΩ ca) s.heap.size) s.heap H locs) (hl : lv_has ls 2 [(0, .ref (ca t)), (1, .int x1)]) : W p l e (rmL 4 0 0) s m args below meth c H locs 0 0 Q (F0 m 25 ls []) := by
  have hx := X.hx
  have hb := X.hb
  have hown := X.hown
  have hts := X.hts
  rw [fX2_passHour_25] at hf
  refine lv_iinc (v := (x1 + 1)) (lv' := [(1, .int (x1 + 1)), (0, .ref (ca t))]) hx hb dX2_passHour_25 hl (k := 1) rfl (by rfl) (by decide) rfl (fun ls hl => ?_)
  refine lv_goto (tgt := 12) hx hb dX2_passHour_28 (by decide) ?_
  exact hK12 _ _ _ _ _ hf hP hS (lv_sub hl [1, 0] rfl)
set_option maxRecDepth 10000 in
theorem kX2_passHour_20 {S1 : CS} {t : Nat} {K12 : CS → Int32 → Option (CS)} {M : CS} {x1 : Int32} {H : Heap} {locs : List Loc} {ls : Array Slot} (X : gX p s m args c cX2_passHour 2 RX2 (kR kTab kA)) (hret : gRetV p l e (rmL 4 0 0) s m args below meth c cX2_passHour (cΩ ca) (cP dC dI cg kA ca) Q S1) (hkt : kc t = 11) (hK12 : ∀ (M : CS) (x1 : Int32) (H : Heap) (locs : List Loc) (ls : Array Slot), K12 M x1 = some S1 → (cP dC dI cg kA ca) M s H → va_S (Fr (cΩ ca) s.heap.size) s.heap H locs → lv_has ls 2 [(0, .ref (ca t)), (1, .int x1)] → W p l e (rmL 4 0 0) s m args below meth c H locs 0 0 Q (F0 m 12 ls [])) (hf : fX2_passHour_20 t K12 M x1 = some S1) (hP : (cP dC dI cg kA ca) M s H) (hS : va_S (Fr (cΩ ca) s.heap.size) s.heap H locs) (hl : lv_has ls 2 [(0, .ref (ca t)), (1, .int x1)]) : W p l e (rmL 4 0 0) s m args below meth c H locs 0 0 Q (F0 m 20 ls []) := by
  have hx := X.hx
  have hb := X.hb
  have hown := X.hown
  have hts := X.hts
  rw [fX2_passHour_20] at hf
  refine lv_aload_n hx hb dX2_passHour_20 rfl (lv_at hl 0 rfl) ?_
  refine lv_iload_n hx hb dX2_passHour_21 rfl (lv_at hl 1 rfl) ?_
  obtain ⟨q, hc, hf⟩ := bd hf
  refine gCallVV X cOK rfl (vX2_feedMice hkt hc) gRX2_X2_feedMice hdX2_feedMice rfl ⟨by decide, by decide⟩ hP hS (cr_rec hP hkt rfl cw11 rfl) hl.1 (Nat.le_of_ble_eq_true rfl) ⟨Nat.zero_le _, Nat.zero_le _⟩ dX2_passHour_22 (As := [.int x1]) (rest := []) rfl (fun H locs hP hS => ?_)
  exact kX2_passHour_25 X hret hkt hK12 hf hP hS (lv_sub hl [0, 1] rfl)
set_option maxRecDepth 10000 in
theorem kX2_passHour_12 {S1 : CS} {t : Nat} (X : gX p s m args c cX2_passHour 2 RX2 (kR kTab kA)) (hret : gRetV p l e (rmL 4 0 0) s m args below meth c cX2_passHour (cΩ ca) (cP dC dI cg kA ca) Q S1) (hkt : kc t = 11) : ∀ (n : Nat) (M : CS) (x1 : Int32) (H : Heap) (locs : List Loc) (ls : Array Slot), fX2_passHour_12 t n M x1 = some S1 → (cP dC dI cg kA ca) M s H → va_S (Fr (cΩ ca) s.heap.size) s.heap H locs → lv_has ls 2 [(0, .ref (ca t)), (1, .int x1)] → W p l e (rmL 4 0 0) s m args below meth c H locs 0 0 Q (F0 m 12 ls []) := by
  intro n
  induction n with
  | zero => intro M x1 H locs ls hf; cases hf
  | succ k ih =>
    intro M x1 H locs ls hf hP hS hl
    have hx := X.hx
    have hb := X.hb
    have hown := X.hown
    have hts := X.hts
    rw [fX2_passHour_12] at hf
    try dsimp only at hf
    refine lv_iload_n hx hb dX2_passHour_12 rfl (lv_at hl 1 rfl) ?_
    refine lv_aload_n hx hb dX2_passHour_13 rfl (lv_at hl 0 rfl) ?_
    refine cr_get (k := 6) X hP hkt rfl cv11_6 rfl cinX2 (by decide) rfl tw311 dX2_passHour_14 ?_
    refine lv_icmp_ge (tgt := 31) hx hb dX2_passHour_17 (by decide) (fun c1 => ?_) (fun c1 => ?_)
    · exact kX2_passHour_31 X hret hkt (ifp c1 hf) hP hS (lv_sub hl [0] rfl)
    · exact kX2_passHour_20 X hret hkt ih (ifn c1 hf) hP hS (lv_sub hl [0, 1] rfl)
set_option maxRecDepth 10000 in
theorem kX2_passHour_10 {S1 : CS} {t : Nat} {M : CS} {H : Heap} {locs : List Loc} {ls : Array Slot} (X : gX p s m args c cX2_passHour 2 RX2 (kR kTab kA)) (hret : gRetV p l e (rmL 4 0 0) s m args below meth c cX2_passHour (cΩ ca) (cP dC dI cg kA ca) Q S1) (hkt : kc t = 11) (hf : fX2_passHour_10 t M = some S1) (hP : (cP dC dI cg kA ca) M s H) (hS : va_S (Fr (cΩ ca) s.heap.size) s.heap H locs) (hl : lv_has ls 2 [(0, .ref (ca t))]) : W p l e (rmL 4 0 0) s m args below meth c H locs 0 0 Q (F0 m 10 ls []) := by
  have hx := X.hx
  have hb := X.hb
  have hown := X.hown
  have hts := X.hts
  rw [fX2_passHour_10] at hf
  refine lv_iconst (v := 0) hx hb dX2_passHour_10 (by decide) ?_
  refine lv_istore_n (lv' := [(1, .int 0), (0, .ref (ca t))]) hx hb dX2_passHour_11 rfl hl (by decide) rfl (fun ls hl => ?_)
  exact kX2_passHour_12 X hret hkt FU _ _ _ _ _ hf hP hS (lv_sub hl [1, 0] rfl)
set_option maxRecDepth 10000 in
theorem kX2_passHour_0 {S1 : CS} {t : Nat} {M : CS} {H : Heap} {locs : List Loc} {ls : Array Slot} (X : gX p s m args c cX2_passHour 2 RX2 (kR kTab kA)) (hret : gRetV p l e (rmL 4 0 0) s m args below meth c cX2_passHour (cΩ ca) (cP dC dI cg kA ca) Q S1) (hkt : kc t = 11) (hf : fX2_passHour_0 t M = some S1) (hP : (cP dC dI cg kA ca) M s H) (hS : va_S (Fr (cΩ ca) s.heap.size) s.heap H locs) (hl : lv_has ls 2 [(0, .ref (ca t))]) : W p l e (rmL 4 0 0) s m args below meth c H locs 0 0 Q (F0 m 0 ls []) := by
  have hx := X.hx
  have hb := X.hb
  have hown := X.hown
  have hts := X.hts
  rw [fX2_passHour_0] at hf
  refine lv_aload_n hx hb dX2_passHour_0 rfl (lv_at hl 0 rfl) ?_
  refine lv_dup hx hb dX2_passHour_1 rfl ?_
  refine cr_get (k := 12) X hP hkt rfl cv11_12 rfl cinX2 (by decide) rfl tw325 dX2_passHour_2 ?_
  refine lv_iconst (v := 1) hx hb dX2_passHour_5 (by decide) ?_
  refine lv_iadd hx hb dX2_passHour_6 ?_
  refine cr_put (k := 12) X hP hS hkt rfl cs11_12 rfl cinX2 tyX2_ok nmX2 (by decide) rfl rfl rfl rfl tw325 dX2_passHour_7 (fun H locs hP hS => ?_)
  exact kX2_passHour_10 X hret hkt hf hP hS (lv_sub hl [0] rfl)
theorem vX2_passHour {l : Launch} {dC : Nat → ClassId} {dI : Nat → Nat → Nat} {cg : Nat → ClassId} {kA : String → Nat → Nat} {ca : Nat → Nat} {M S1 : CS} {t : Nat} (hkt : kc t = 11) (hf : fX2_passHour M t  = some S1) : gMetV l yX2_passHour cX2_passHour 2 4 (cΩ ca) (cP dC dI cg kA ca) (kR kTab kA) [.ref (ca t)] M S1 := gEntryV (by decide) cOK (Nat.le_of_ble_eq_true rfl) (fun p e s m args below meth c Q ls X hP hS hret hl => 
  kX2_passHour_0 X hret hkt hf hP hS (lv_sub hl [0] rfl))
