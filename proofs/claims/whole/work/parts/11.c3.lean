variable {l : Launch} {p : Program} {e : Env} {s : State} {m : MethodId} {args : Array Value} {below : List Frame} {meth : Method} {c : Code} {A : Nat → Prop} {Q : State → Prop}
variable {dC : Nat → ClassId} {dI : Nat → Nat → Nat} {cg : Nat → ClassId} {kA : String → Nat → Nat} {ca : Nat → Nat}
def fX2_miceAddUp_53 (t : Nat) (M : CS) (s0 : Int32) : Option (Int32) := some s0
def fX2_miceAddUp_52 (t : Nat) (M : CS) : Option (Int32) := fX2_miceAddUp_53 t M 0
def fX2_miceAddUp_48 (t : Nat) (M : CS) : Option (Int32) := fX2_miceAddUp_53 t M 1
def fX2_miceAddUp_44 (t : Nat) (M : CS) (x1 : Int32) (s0 : Int32) : Option (Int32) := if s0 = x1 then fX2_miceAddUp_48 t M else fX2_miceAddUp_52 t M
def fX2_miceAddUp_40 (t : Nat) (M : CS) (x1 : Int32) : Option (Int32) := (fX2_miceOfAllBackwards M t).bind fun q => fX2_miceAddUp_44 t M x1 q
def fX2_miceAddUp_36 (t : Nat) (M : CS) (x1 : Int32) (s0 : Int32) : Option (Int32) := if s0 = x1 then fX2_miceAddUp_40 t M x1 else fX2_miceAddUp_52 t M
def fX2_miceAddUp_0 (t : Nat) (M : CS) : Option (Int32) := (fX2_miceOfAll M t).bind fun q => fX2_miceAddUp_36 t M ((((M.1 (t + 8) 6) + (M.1 (t + 8) 2)) - (M.1 (t + 8) 0)) - (M.1 (t + 8) 3)) q
def fX2_miceAddUp (M : CS) (t : Nat) : Option (Int32) := bq (fX2_miceAddUp_0 t  M)
def fX2_grainAddsUp_68 (t : Nat) (M : CS) (s0 : Int32) : Option (Int32) := some s0
def fX2_grainAddsUp_67 (t : Nat) (M : CS) : Option (Int32) := fX2_grainAddsUp_68 t M 0
def fX2_grainAddsUp_63 (t : Nat) (M : CS) : Option (Int32) := fX2_grainAddsUp_68 t M 1
def fX2_grainAddsUp_45 (t : Nat) (M : CS) (s0 : Int32) : Option (Int32) := if s0 = ((M.1 (t + 8) 7) - (M.1 (t + 8) 1)) then fX2_grainAddsUp_63 t M else fX2_grainAddsUp_67 t M
def fX2_grainAddsUp_41 (t : Nat) (M : CS) : Option (Int32) := (fX2_grainOfAll M t).bind fun q => fX2_grainAddsUp_45 t M q
def fX2_grainAddsUp_30 (t : Nat) (M : CS) (x1 : Int32) : Option (Int32) := if x1 = (M.1 (t + 8) 1) then fX2_grainAddsUp_41 t M else fX2_grainAddsUp_67 t M
def fX2_grainAddsUp_12 (t : Nat) (K4 : CS → Int32 → Int32 → Option (Int32)) (M : CS) (x1 : Int32) (x2 : Int32) : Option (Int32) := if gIn x2 6 then K4 M (x1 + (M.1 ((t + 2) + 15 + x2.toNatClampNeg) 4)) (x2 + 1) else none
def fX2_grainAddsUp_4 (t : Nat) : Nat → CS → Int32 → Int32 → Option (Int32)
  | 0 => fun _ _ _ => none
  | k + 1 => fun M x1 x2 => if (M.1 t 6) ≤ x2 then fX2_grainAddsUp_30 t M x1 else fX2_grainAddsUp_12 t (fX2_grainAddsUp_4 t k) M x1 x2
def fX2_grainAddsUp_0 (t : Nat) (M : CS) : Option (Int32) := fX2_grainAddsUp_4 t FU M 0 0
def fX2_grainAddsUp (M : CS) (t : Nat) : Option (Int32) := bq (fX2_grainAddsUp_0 t  M)
def fX3_putNumber_39 (M : CS) : Option (CS) := some M
def fX3_putNumber_31 (K4 : CS → Int32 → Int32 → Option (CS)) (M : CS) (x1 : Int32) (x2 : Int32) : Option (CS) := K4 M x1 (x2 / 10)
def fX3_putNumber_18 (K4 : CS → Int32 → Int32 → Option (CS)) (M : CS) (x1 : Int32) (x2 : Int32) : Option (CS) := if ¬ x2 = 0 then (fX3_put M (48 + ((x1 / x2) - (x1 / x2) / 10 * 10))).bind fun q => fX3_putNumber_31 K4 q x1 x2 else none
def fX3_putNumber_13 (K4 : CS → Int32 → Int32 → Option (CS)) (M : CS) (x1 : Int32) (x2 : Int32) : Option (CS) := if x2 = 1 then fX3_putNumber_18 K4 M x1 x2 else fX3_putNumber_31 K4 M x1 x2
def fX3_putNumber_8 (K4 : CS → Int32 → Int32 → Option (CS)) (M : CS) (x1 : Int32) (x2 : Int32) : Option (CS) := if x2 ≤ x1 then fX3_putNumber_18 K4 M x1 x2 else fX3_putNumber_13 K4 M x1 x2
def fX3_putNumber_4 : Nat → CS → Int32 → Int32 → Option (CS)
  | 0 => fun _ _ _ => none
  | k + 1 => fun M x1 x2 => if x2 ≤ 0 then fX3_putNumber_39 M else fX3_putNumber_8 (fX3_putNumber_4 k) M x1 x2
def fX3_putNumber_0 (M : CS) (a1 : Int32) : Option (CS) := fX3_putNumber_4 FU M a1 1000
def fX3_putNumber (M : CS) (a1 : Int32) : Option (CS) := fX3_putNumber_0  M a1
def fX8_appendFour_29 (M : CS) : Option (CS) := some M
def fX8_appendFour_24 (M : CS) (x1 : Int32) : Option (CS) := (fX8_append M x1).bind fun q => fX8_appendFour_29 q
def fX8_appendFour_16 (M : CS) (x1 : Int32) : Option (CS) := (fX8_append M (x1 >>> (8 &&& 31))).bind fun q => fX8_appendFour_24 q x1
def fX8_appendFour_8 (M : CS) (x1 : Int32) : Option (CS) := (fX8_append M (x1 >>> (16 &&& 31))).bind fun q => fX8_appendFour_16 q x1
def fX8_appendFour_0 (M : CS) (a1 : Int32) : Option (CS) := (fX8_append M (a1 >>> (24 &&& 31))).bind fun q => fX8_appendFour_8 q a1
def fX8_appendFour (M : CS) (a1 : Int32) : Option (CS) := fX8_appendFour_0  M a1
def fX8_advance_199 (M : CS) : Option (Int32 × CS) := some (1, M)
def fX8_advance_194 (M : CS) : Option (Int32 × CS) := fX8_advance_199 (va_up M.1 1 (upd (M.1 1) 4 5), M.2)
def fX8_advance_190 (M : CS) (s0 : Int32) : Option (Int32 × CS) := if s0 ≤ 4 then fX8_advance_199 M else fX8_advance_194 M
def fX8_advance_186 (M : CS) : Option (Int32 × CS) := (fX8_tokenLength M ).bind fun q => fX8_advance_190 M q
def fX8_advance_178 (M : CS) : Option (Int32 × CS) := if (M.1 1 4) = 2 then fX8_advance_186 M else fX8_advance_199 M
def fX8_advance_173 (M : CS) (s0 : Int32) : Option (Int32 × CS) := if 8 < s0 then fX8_advance_194 M else fX8_advance_178 M
def fX8_advance_169 (M : CS) : Option (Int32 × CS) := (fX8_tokenLength M ).bind fun q => fX8_advance_173 M q
def fX8_advance_161 (M : CS) : Option (Int32 × CS) := if (M.1 1 4) = 1 then fX8_advance_169 M else fX8_advance_178 M
def fX8_advance_158 (K114 : CS → Int32 → Option (Int32 × CS)) (M : CS) (x1 : Int32) : Option (Int32 × CS) := K114 M x1
def fX8_advance_148 (K114 : CS → Int32 → Option (Int32 × CS)) (M : CS) (x1 : Int32) : Option (Int32 × CS) := fX8_advance_158 K114 (va_up M.1 1 (upd (M.1 1) 3 ((M.1 1 3) + 1)), M.2) x1
def fX8_advance_141 (K114 : CS → Int32 → Option (Int32 × CS)) (M : CS) (x1 : Int32) (s0 : Int32) : Option (Int32 × CS) := if s0 = (M.1 1 4) then fX8_advance_148 K114 M x1 else fX8_advance_161 M
def fX8_advance_129 (K114 : CS → Int32 → Option (Int32 × CS)) (M : CS) (x1 : Int32) : Option (Int32 × CS) := if gIn (M.1 1 3) 600 then (fX8_kindOf M (M.1 2 (M.1 1 3).toNatClampNeg)).bind fun q => fX8_advance_141 K114 M x1 q else none
def fX8_advance_118 (K114 : CS → Int32 → Option (Int32 × CS)) (M : CS) (x1 : Int32) : Option (Int32 × CS) := if (M.1 1 2) ≤ (M.1 1 3) then fX8_advance_161 M else fX8_advance_129 K114 M x1
def fX8_advance_114 : Nat → CS → Int32 → Option (Int32 × CS)
  | 0 => fun _ _ => none
  | k + 1 => fun M x1 => if x1 = 0 then fX8_advance_161 M else fX8_advance_118 (fX8_advance_114 k) M x1
def fX8_advance_113 (M : CS) (s0 : Int32) : Option (Int32 × CS) := fX8_advance_114 FU M s0
def fX8_advance_108 (M : CS) : Option (Int32 × CS) := fX8_advance_113 M 1
def fX8_advance_112 (M : CS) : Option (Int32 × CS) := fX8_advance_113 M 0
def fX8_advance_100 (M : CS) : Option (Int32 × CS) := if (M.1 1 4) = 2 then fX8_advance_108 M else fX8_advance_112 M
def fX8_advance_92 (M : CS) : Option (Int32 × CS) := if (M.1 1 4) = 1 then fX8_advance_108 M else fX8_advance_100 M
def fX8_advance_82 (M : CS) : Option (Int32 × CS) := fX8_advance_92 (va_up M.1 1 (upd (M.1 1) 3 ((M.1 1 3) + 1)), M.2)
def fX8_advance_79 (M : CS) (s0 : Int32) : Option (Int32 × CS) := fX8_advance_82 (va_up M.1 1 (upd (M.1 1) 4 s0), M.2)
def fX8_advance_66 (M : CS) : Option (Int32 × CS) := if gIn (M.1 1 3) 600 then (fX8_kindOf M (M.1 2 (M.1 1 3).toNatClampNeg)).bind fun q => fX8_advance_79 M q else none
def fX8_advance_64 (M : CS) : Option (Int32 × CS) := some (0, M)
def fX8_advance_59 (M : CS) : Option (Int32 × CS) := fX8_advance_64 (va_up M.1 1 (upd (M.1 1) 4 0), M.2)
def fX8_advance_48 (M : CS) : Option (Int32 × CS) := if (M.1 1 3) < (M.1 1 2) then fX8_advance_66 M else fX8_advance_59 M
def fX8_advance_40 (M : CS) : Option (Int32 × CS) := fX8_advance_48 (va_up M.1 1 (upd (M.1 1) 5 (M.1 1 3)), M.2)
def fX8_advance_37 (K0 : CS → Option (Int32 × CS)) (M : CS) : Option (Int32 × CS) := K0 M
def fX8_advance_27 (K0 : CS → Option (Int32 × CS)) (M : CS) : Option (Int32 × CS) := fX8_advance_37 K0 (va_up M.1 1 (upd (M.1 1) 3 ((M.1 1 3) + 1)), M.2)
def fX8_advance_23 (K0 : CS → Option (Int32 × CS)) (M : CS) (s0 : Int32) : Option (Int32 × CS) := if s0 = 4 then fX8_advance_27 K0 M else fX8_advance_40 M
def fX8_advance_11 (K0 : CS → Option (Int32 × CS)) (M : CS) : Option (Int32 × CS) := if gIn (M.1 1 3) 600 then (fX8_kindOf M (M.1 2 (M.1 1 3).toNatClampNeg)).bind fun q => fX8_advance_23 K0 M q else none
def fX8_advance_0 : Nat → CS → Option (Int32 × CS)
  | 0 => fun _ => none
  | k + 1 => fun M => if (M.1 1 2) ≤ (M.1 1 3) then fX8_advance_40 M else fX8_advance_11 (fX8_advance_0 k) M
def fX8_advance (M : CS) : Option (Int32 × CS) := bz (fX8_advance_0 FU M)
def fX10_speedOf_5 (M : CS) (z0 : Nat) : Option (Int32) := some (M.1 z0 1)
def fX10_speedOf_0 (M : CS) (a1 : Int32) : Option (Int32) := (fX10_catAt M a1).bind fun q => fX10_speedOf_5 M q
def fX10_speedOf (M : CS) (a1 : Int32) : Option (Int32) := fX10_speedOf_0  M a1
def fX10_isLeftPawed_5 (M : CS) (z0 : Nat) : Option (Int32) := some (M.1 z0 2)
def fX10_isLeftPawed_0 (M : CS) (a1 : Int32) : Option (Int32) := (fX10_catAt M a1).bind fun q => fX10_isLeftPawed_5 M q
def fX10_isLeftPawed (M : CS) (a1 : Int32) : Option (Int32) := bq (fX10_isLeftPawed_0  M a1)
def fX10_tirednessOf_5 (M : CS) (z0 : Nat) : Option (Int32) := some (M.1 z0 3)
def fX10_tirednessOf_0 (M : CS) (a1 : Int32) : Option (Int32) := (fX10_catAt M a1).bind fun q => fX10_tirednessOf_5 M q
def fX10_tirednessOf (M : CS) (a1 : Int32) : Option (Int32) := fX10_tirednessOf_0  M a1
def fX10_caughtBy_5 (M : CS) (z0 : Nat) : Option (Int32) := some (M.1 z0 4)
def fX10_caughtBy_0 (M : CS) (a1 : Int32) : Option (Int32) := (fX10_catAt M a1).bind fun q => fX10_caughtBy_5 M q
def fX10_caughtBy (M : CS) (a1 : Int32) : Option (Int32) := fX10_caughtBy_0  M a1
def fX10_oathsOf_5 (M : CS) (z0 : Nat) : Option (Int32) := some (M.1 z0 5)
def fX10_oathsOf_0 (M : CS) (a1 : Int32) : Option (Int32) := (fX10_catAt M a1).bind fun q => fX10_oathsOf_5 M q
def fX10_oathsOf (M : CS) (a1 : Int32) : Option (Int32) := fX10_oathsOf_0  M a1
def fX10_grainIn_5 (M : CS) (z0 : Nat) : Option (Int32) := some (M.1 z0 1)
def fX10_grainIn_0 (M : CS) (a1 : Int32) : Option (Int32) := (fX10_sackAt M a1).bind fun q => fX10_grainIn_5 M q
def fX10_grainIn (M : CS) (a1 : Int32) : Option (Int32) := fX10_grainIn_0  M a1
def fX10_miceIn_5 (M : CS) (z0 : Nat) : Option (Int32) := some (M.1 z0 2)
def fX10_miceIn_0 (M : CS) (a1 : Int32) : Option (Int32) := (fX10_sackAt M a1).bind fun q => fX10_miceIn_5 M q
def fX10_miceIn (M : CS) (a1 : Int32) : Option (Int32) := fX10_miceIn_0  M a1
def fX10_isOpen_5 (M : CS) (z0 : Nat) : Option (Int32) := some (M.1 z0 3)
def fX10_isOpen_0 (M : CS) (a1 : Int32) : Option (Int32) := (fX10_sackAt M a1).bind fun q => fX10_isOpen_5 M q
def fX10_isOpen (M : CS) (a1 : Int32) : Option (Int32) := bq (fX10_isOpen_0  M a1)
def fX10_eatenFrom_5 (M : CS) (z0 : Nat) : Option (Int32) := some (M.1 z0 4)
def fX10_eatenFrom_0 (M : CS) (a1 : Int32) : Option (Int32) := (fX10_sackAt M a1).bind fun q => fX10_eatenFrom_5 M q
def fX10_eatenFrom (M : CS) (a1 : Int32) : Option (Int32) := fX10_eatenFrom_0  M a1
def fX10_catOfShift_5 (M : CS) (z0 : Nat) : Option (Int32) := some (M.1 z0 0)
def fX10_catOfShift_0 (M : CS) (a1 : Int32) : Option (Int32) := (fX10_shiftAt M a1).bind fun q => fX10_catOfShift_5 M q
def fX10_catOfShift (M : CS) (a1 : Int32) : Option (Int32) := fX10_catOfShift_0  M a1
def fX10_hoursOfShift_5 (M : CS) (z0 : Nat) : Option (Int32) := some (M.1 z0 1)
def fX10_hoursOfShift_0 (M : CS) (a1 : Int32) : Option (Int32) := (fX10_shiftAt M a1).bind fun q => fX10_hoursOfShift_5 M q
def fX10_hoursOfShift (M : CS) (a1 : Int32) : Option (Int32) := fX10_hoursOfShift_0  M a1
def fX10_oathReason_14 (M : CS) (s0 : Int32) : Option (Int32) := some s0
def fX10_oathReason_5 (M : CS) (z0 : Nat) (x1 : Int32) : Option (Int32) := (fX2_reasonAgainst M 13 x1).bind fun q => fX10_oathReason_14 M q
def fX10_oathReason_0 (M : CS) (a1 : Int32) : Option (Int32) := (fX10_catAt M a1).bind fun q => fX10_oathReason_5 M q a1
def fX10_oathReason (M : CS) (a1 : Int32) : Option (Int32) := fX10_oathReason_0  M a1
def fX10_huntingSack_7 (M : CS) (s0 : Int32) : Option (Int32) := some s0
def fX10_huntingSack_0 (M : CS) : Option (Int32) := (fX2_busiestOpenSack M 13).bind fun q => fX10_huntingSack_7 M q
def fX10_huntingSack (M : CS) : Option (Int32) := fX10_huntingSack_0  M
def fX2_copyFrom_179 (t : Nat) (b1 : Nat) (M : CS) : Option (CS) := some M
def fX2_copyFrom_173 (t : Nat) (b1 : Nat) (K150 : CS → Int32 → Option (CS)) (M : CS) (x2 : Int32) : Option (CS) := K150 M (x2 + 1)
def fX2_copyFrom_158 (t : Nat) (b1 : Nat) (K150 : CS → Int32 → Option (CS)) (M : CS) (x2 : Int32) : Option (CS) := if gIn x2 12 then if gIn x2 12 then (fX7_copyFrom M ((t + 3) + 20 + x2.toNatClampNeg) ((b1 + 3) + 20 + x2.toNatClampNeg)).bind fun q => fX2_copyFrom_173 t b1 K150 q x2 else none else none
def fX2_copyFrom_150 (t : Nat) (b1 : Nat) : Nat → CS → Int32 → Option (CS)
  | 0 => fun _ _ => none
  | k + 1 => fun M x2 => if (M.1 t 7) ≤ x2 then fX2_copyFrom_179 t b1 M else fX2_copyFrom_158 t b1 (fX2_copyFrom_150 t b1 k) M x2
def fX2_copyFrom_148 (t : Nat) (b1 : Nat) (M : CS) : Option (CS) := fX2_copyFrom_150 t b1 FU M 0
def fX2_copyFrom_142 (t : Nat) (b1 : Nat) (K119 : CS → Int32 → Option (CS)) (M : CS) (x2 : Int32) : Option (CS) := K119 M (x2 + 1)
def fX2_copyFrom_127 (t : Nat) (b1 : Nat) (K119 : CS → Int32 → Option (CS)) (M : CS) (x2 : Int32) : Option (CS) := if gIn x2 6 then if gIn x2 6 then (fX4_copyFrom M ((t + 2) + 15 + x2.toNatClampNeg) ((b1 + 2) + 15 + x2.toNatClampNeg)).bind fun q => fX2_copyFrom_142 t b1 K119 q x2 else none else none
def fX2_copyFrom_119 (t : Nat) (b1 : Nat) : Nat → CS → Int32 → Option (CS)
  | 0 => fun _ _ => none
  | k + 1 => fun M x2 => if (M.1 t 6) ≤ x2 then fX2_copyFrom_148 t b1 M else fX2_copyFrom_127 t b1 (fX2_copyFrom_119 t b1 k) M x2
def fX2_copyFrom_117 (t : Nat) (b1 : Nat) (M : CS) : Option (CS) := fX2_copyFrom_119 t b1 FU M 0
def fX2_copyFrom_111 (t : Nat) (b1 : Nat) (K88 : CS → Int32 → Option (CS)) (M : CS) (x2 : Int32) : Option (CS) := K88 M (x2 + 1)
def fX2_copyFrom_96 (t : Nat) (b1 : Nat) (K88 : CS → Int32 → Option (CS)) (M : CS) (x2 : Int32) : Option (CS) := if gIn x2 8 then if gIn x2 8 then (fX0_copyFrom M ((t + 1) + 8 + x2.toNatClampNeg) ((b1 + 1) + 8 + x2.toNatClampNeg)).bind fun q => fX2_copyFrom_111 t b1 K88 q x2 else none else none
def fX2_copyFrom_88 (t : Nat) (b1 : Nat) : Nat → CS → Int32 → Option (CS)
  | 0 => fun _ _ => none
  | k + 1 => fun M x2 => if (M.1 t 5) ≤ x2 then fX2_copyFrom_117 t b1 M else fX2_copyFrom_96 t b1 (fX2_copyFrom_88 t b1 k) M x2
def fX2_copyFrom_86 (t : Nat) (b1 : Nat) (M : CS) : Option (CS) := fX2_copyFrom_88 t b1 FU M 0
def fX2_copyFrom_75 (t : Nat) (b1 : Nat) (M : CS) : Option (CS) := (fX9_copyFrom M (t + 8) (b1 + 8)).bind fun q => fX2_copyFrom_86 t b1 q
def fX2_copyFrom_64 (t : Nat) (b1 : Nat) (M : CS) : Option (CS) := (fX1_copyFrom M (t + 4) (b1 + 4)).bind fun q => fX2_copyFrom_75 t b1 q
def fX2_copyFrom_56 (t : Nat) (b1 : Nat) (M : CS) : Option (CS) := fX2_copyFrom_64 t b1 (va_up M.1 t (upd (M.1 t) 12 (M.1 b1 12)), M.2)
def fX2_copyFrom_48 (t : Nat) (b1 : Nat) (M : CS) : Option (CS) := fX2_copyFrom_56 t b1 (va_up M.1 t (upd (M.1 t) 11 (M.1 b1 11)), M.2)
def fX2_copyFrom_40 (t : Nat) (b1 : Nat) (M : CS) : Option (CS) := fX2_copyFrom_48 t b1 (va_up M.1 t (upd (M.1 t) 10 (M.1 b1 10)), M.2)
def fX2_copyFrom_32 (t : Nat) (b1 : Nat) (M : CS) : Option (CS) := fX2_copyFrom_40 t b1 (va_up M.1 t (upd (M.1 t) 9 (M.1 b1 9)), M.2)
def fX2_copyFrom_24 (t : Nat) (b1 : Nat) (M : CS) : Option (CS) := fX2_copyFrom_32 t b1 (va_up M.1 t (upd (M.1 t) 8 (M.1 b1 8)), M.2)
def fX2_copyFrom_16 (t : Nat) (b1 : Nat) (M : CS) : Option (CS) := fX2_copyFrom_24 t b1 (va_up M.1 t (upd (M.1 t) 7 (M.1 b1 7)), M.2)
def fX2_copyFrom_8 (t : Nat) (b1 : Nat) (M : CS) : Option (CS) := fX2_copyFrom_16 t b1 (va_up M.1 t (upd (M.1 t) 6 (M.1 b1 6)), M.2)
def fX2_copyFrom_0 (t : Nat) (b1 : Nat) (M : CS) : Option (CS) := fX2_copyFrom_8 t b1 (va_up M.1 t (upd (M.1 t) 5 (M.1 b1 5)), M.2)
def fX2_copyFrom (M : CS) (t : Nat) (b1 : Nat) : Option (CS) := fX2_copyFrom_0 t b1  M
def fX2_hunt_18 (t : Nat) (M : CS) : Option (Int32 × CS) := some ((-1), M)
def fX2_hunt_104 (t : Nat) (M : CS) : Option (Int32 × CS) := some ((M.1 t 8), M)
def fX2_hunt_90 (t : Nat) (M : CS) (x4 : Int32) : Option (Int32 × CS) := (fX1_add M (t + 4) 1 (M.1 t 8) x4).bind fun q => fX2_hunt_104 t q
def fX2_hunt_86 (t : Nat) (M : CS) (p2 : Nat) (x4 : Int32) : Option (Int32 × CS) := (fX0_tire M p2).bind fun q => fX2_hunt_90 t q x4
def fX2_hunt_72 (t : Nat) (M : CS) (p2 : Nat) (x4 : Int32) : Option (Int32 × CS) := fX2_hunt_86 t (va_up M.1 (t + 8) (upd (M.1 (t + 8)) 0 ((M.1 (t + 8) 0) + x4)), M.2) p2 x4
def fX2_hunt_61 (t : Nat) (M : CS) (p2 : Nat) (x4 : Int32) : Option (Int32 × CS) := fX2_hunt_72 t (va_up M.1 p2 (upd (M.1 p2) 4 ((M.1 p2 4) + x4)), M.2) p2 x4
def fX2_hunt_41 (t : Nat) (M : CS) (p2 : Nat) (p3 : Nat) (s0 : Int32) : Option (Int32 × CS) := fX2_hunt_61 t (va_up M.1 p3 (upd (M.1 p3) 2 ((M.1 p3 2) - (if (M.1 p3 2) < s0 then (M.1 p3 2) else s0))), M.2) p2 (if (M.1 p3 2) < s0 then (M.1 p3 2) else s0)
def fX2_hunt_20 (t : Nat) (M : CS) (x1 : Int32) : Option (Int32 × CS) := if gIn (M.1 t 8) 8 then if gIn x1 6 then (fX0_strength M ((t + 1) + 8 + (M.1 t 8).toNatClampNeg)).bind fun q => fX2_hunt_41 t M ((t + 1) + 8 + (M.1 t 8).toNatClampNeg) ((t + 2) + 15 + x1.toNatClampNeg) q else none else none
def fX2_hunt_13 (t : Nat) (M : CS) (x1 : Int32) : Option (Int32 × CS) := if x1 = (-1) then fX2_hunt_18 t M else fX2_hunt_20 t M x1
def fX2_hunt_4 (t : Nat) (M : CS) (s0 : Int32) : Option (Int32 × CS) := if (M.1 t 8) = (-1) then fX2_hunt_18 t M else fX2_hunt_13 t M s0
def fX2_hunt_0 (t : Nat) (M : CS) : Option (Int32 × CS) := (fX2_busiestOpenSack M t).bind fun q => fX2_hunt_4 t M q
def fX2_hunt (M : CS) (t : Nat) : Option (Int32 × CS) := fX2_hunt_0 t  M
def fX2_restAllBut_31 (t : Nat) (M : CS) : Option (CS) := some M
def fX2_restAllBut_25 (t : Nat) (K2 : CS → Int32 → Int32 → Option (CS)) (M : CS) (x1 : Int32) (x2 : Int32) : Option (CS) := K2 M x1 (x2 + 1)
def fX2_restAllBut_15 (t : Nat) (K2 : CS → Int32 → Int32 → Option (CS)) (M : CS) (x1 : Int32) (x2 : Int32) : Option (CS) := if gIn x2 8 then (fX0_recover M ((t + 1) + 8 + x2.toNatClampNeg) 1).bind fun q => fX2_restAllBut_25 t K2 q x1 x2 else none
def fX2_restAllBut_10 (t : Nat) (K2 : CS → Int32 → Int32 → Option (CS)) (M : CS) (x1 : Int32) (x2 : Int32) : Option (CS) := if x2 = x1 then fX2_restAllBut_25 t K2 M x1 x2 else fX2_restAllBut_15 t K2 M x1 x2
def fX2_restAllBut_2 (t : Nat) : Nat → CS → Int32 → Int32 → Option (CS)
  | 0 => fun _ _ _ => none
  | k + 1 => fun M x1 x2 => if (M.1 t 5) ≤ x2 then fX2_restAllBut_31 t M else fX2_restAllBut_10 t (fX2_restAllBut_2 t k) M x1 x2
def fX2_restAllBut_0 (t : Nat) (M : CS) (a1 : Int32) : Option (CS) := fX2_restAllBut_2 t FU M a1 0
def fX2_restAllBut (M : CS) (t : Nat) (a1 : Int32) : Option (CS) := fX2_restAllBut_0 t  M a1
def fX2_changeShift_124 (t : Nat) (M : CS) : Option (CS) := some M
def fX2_changeShift_114 (t : Nat) (M : CS) (x1 : Int32) (x2 : Int32) : Option (CS) := (fX1_add M (t + 4) 3 x2 x1).bind fun q => fX2_changeShift_124 t q
def fX2_changeShift_101 (t : Nat) (M : CS) (x1 : Int32) (x2 : Int32) : Option (CS) := fX2_changeShift_114 t (va_up M.1 (t + 8) (upd (M.1 (t + 8)) 5 ((M.1 (t + 8) 5) + 1)), M.2) x1 x2
def fX2_changeShift_96 (t : Nat) (M : CS) (x1 : Int32) (x2 : Int32) : Option (CS) := fX2_changeShift_101 t (va_up M.1 t (upd (M.1 t) 8 (-1)), M.2) x1 x2
def fX2_changeShift_93 (t : Nat) (M : CS) : Option (CS) := fX2_changeShift_124 t M
def fX2_changeShift_83 (t : Nat) (M : CS) (x1 : Int32) (x2 : Int32) : Option (CS) := (fX1_add M (t + 4) 2 x2 x1).bind fun q => fX2_changeShift_93 t q
def fX2_changeShift_78 (t : Nat) (M : CS) (x1 : Int32) (x2 : Int32) : Option (CS) := (fX2_swearIn M t x2).bind fun q => fX2_changeShift_83 t q x1 x2
def fX2_changeShift_75 (t : Nat) (M : CS) (x1 : Int32) (x2 : Int32) (s0 : Int32) : Option (CS) := if s0 = 0 then fX2_changeShift_78 t M x1 x2 else fX2_changeShift_96 t M x1 x2
def fX2_changeShift_52 (t : Nat) (M : CS) : Option (CS) := if gIn (M.1 t 9) 12 then (fX2_reasonAgainst M t (M.1 ((t + 3) + 20 + (M.1 t 9).toNatClampNeg) 0)).bind fun q => fX2_changeShift_75 t M (M.1 t 8) (M.1 ((t + 3) + 20 + (M.1 t 9).toNatClampNeg) 0) q else none
def fX2_changeShift_51 (t : Nat) (M : CS) : Option (CS) := some M
def fX2_changeShift_43 (t : Nat) (M : CS) : Option (CS) := if (M.1 t 8) = (-1) then fX2_changeShift_51 t M else fX2_changeShift_52 t M
def fX2_changeShift_27 (t : Nat) (M : CS) : Option (CS) := if gIn (M.1 t 9) 12 then fX2_changeShift_43 t (va_up M.1 t (upd (M.1 t) 10 (M.1 ((t + 3) + 20 + (M.1 t 9).toNatClampNeg) 1)), M.2) else none
def fX2_changeShift_24 (t : Nat) (M : CS) (s0 : Int32) : Option (CS) := fX2_changeShift_27 t (va_up M.1 t (upd (M.1 t) 9 s0), M.2)
def fX2_changeShift_23 (t : Nat) (M : CS) : Option (CS) := fX2_changeShift_24 t M 0
def fX2_changeShift_14 (t : Nat) (M : CS) : Option (CS) := fX2_changeShift_24 t M ((M.1 t 9) + 1)
def fX2_changeShift_0 (t : Nat) (M : CS) : Option (CS) := if (M.1 t 7) ≤ ((M.1 t 9) + 1) then fX2_changeShift_23 t M else fX2_changeShift_14 t M
def fX2_changeShift (M : CS) (t : Nat) : Option (CS) := fX2_changeShift_0 t  M
set_option maxRecDepth 10000 in
theorem kX2_miceAddUp_53 {r : Int32} {t : Nat} {M : CS} {s0 : Int32} (X : gX p s m args c cX2_miceAddUp 2 RX2 (kR kTab kA)) (hret : gRetR p l e (rmL 2 0 0) s m args below meth c cX2_miceAddUp Q r) (hkt : kc t = 11) (hf : fX2_miceAddUp_53 t M s0 = some r) {ls : Array Slot} (hP : (cP dC dI cg kA ca) M s s.heap) (hl : lv_has ls 2 [(0, .ref (ca t))]) : W p l e (rmL 2 0 0) s m args below meth c s.heap [] 0 0 Q (F0 m 53 ls [.int s0]) := by
  have hx := X.hx
  have hb := X.hb
  have hown := X.hown
  have hts := X.hts
  rw [fX2_miceAddUp_53] at hf
  cases hf
  exact hret _ _ dX2_miceAddUp_53
set_option maxRecDepth 10000 in
theorem kX2_miceAddUp_52 {r : Int32} {t : Nat} {M : CS} (X : gX p s m args c cX2_miceAddUp 2 RX2 (kR kTab kA)) (hret : gRetR p l e (rmL 2 0 0) s m args below meth c cX2_miceAddUp Q r) (hkt : kc t = 11) (hf : fX2_miceAddUp_52 t M = some r) {ls : Array Slot} (hP : (cP dC dI cg kA ca) M s s.heap) (hl : lv_has ls 2 [(0, .ref (ca t))]) : W p l e (rmL 2 0 0) s m args below meth c s.heap [] 0 0 Q (F0 m 52 ls []) := by
  have hx := X.hx
  have hb := X.hb
  have hown := X.hown
  have hts := X.hts
  rw [fX2_miceAddUp_52] at hf
  refine lv_iconst (v := 0) hx hb dX2_miceAddUp_52 (by decide) ?_
  exact kX2_miceAddUp_53 X hret hkt hf hP (lv_sub hl [0] rfl)
set_option maxRecDepth 10000 in
theorem kX2_miceAddUp_48 {r : Int32} {t : Nat} {M : CS} (X : gX p s m args c cX2_miceAddUp 2 RX2 (kR kTab kA)) (hret : gRetR p l e (rmL 2 0 0) s m args below meth c cX2_miceAddUp Q r) (hkt : kc t = 11) (hf : fX2_miceAddUp_48 t M = some r) {ls : Array Slot} (hP : (cP dC dI cg kA ca) M s s.heap) (hl : lv_has ls 2 [(0, .ref (ca t))]) : W p l e (rmL 2 0 0) s m args below meth c s.heap [] 0 0 Q (F0 m 48 ls []) := by
  have hx := X.hx
  have hb := X.hb
  have hown := X.hown
  have hts := X.hts
  rw [fX2_miceAddUp_48] at hf
  refine lv_iconst (v := 1) hx hb dX2_miceAddUp_48 (by decide) ?_
  refine lv_goto (tgt := 53) hx hb dX2_miceAddUp_49 (by decide) ?_
  exact kX2_miceAddUp_53 X hret hkt hf hP (lv_sub hl [0] rfl)
set_option maxRecDepth 10000 in
theorem kX2_miceAddUp_44 {r : Int32} {t : Nat} {M : CS} {x1 : Int32} {s0 : Int32} (X : gX p s m args c cX2_miceAddUp 2 RX2 (kR kTab kA)) (hret : gRetR p l e (rmL 2 0 0) s m args below meth c cX2_miceAddUp Q r) (hkt : kc t = 11) (hf : fX2_miceAddUp_44 t M x1 s0 = some r) {ls : Array Slot} (hP : (cP dC dI cg kA ca) M s s.heap) (hl : lv_has ls 2 [(0, .ref (ca t)), (1, .int x1)]) : W p l e (rmL 2 0 0) s m args below meth c s.heap [] 0 0 Q (F0 m 44 ls [.int s0]) := by
  have hx := X.hx
  have hb := X.hb
  have hown := X.hown
  have hts := X.hts
  rw [fX2_miceAddUp_44] at hf
  refine lv_iload_n hx hb dX2_miceAddUp_44 rfl (lv_at hl 1 rfl) ?_
  refine lv_icmp_ne (tgt := 52) hx hb dX2_miceAddUp_45 (by decide) (fun c1 => ?_) (fun c1 => ?_)
  · exact kX2_miceAddUp_52 X hret hkt (ifn c1 hf) hP (lv_sub hl [0] rfl)
  · exact kX2_miceAddUp_48 X hret hkt (ifp c1 hf) hP (lv_sub hl [0] rfl)
set_option maxRecDepth 10000 in
theorem kX2_miceAddUp_40 {r : Int32} {t : Nat} {M : CS} {x1 : Int32} (X : gX p s m args c cX2_miceAddUp 2 RX2 (kR kTab kA)) (hret : gRetR p l e (rmL 2 0 0) s m args below meth c cX2_miceAddUp Q r) (hkt : kc t = 11) (hf : fX2_miceAddUp_40 t M x1 = some r) {ls : Array Slot} (hP : (cP dC dI cg kA ca) M s s.heap) (hl : lv_has ls 2 [(0, .ref (ca t)), (1, .int x1)]) : W p l e (rmL 2 0 0) s m args below meth c s.heap [] 0 0 Q (F0 m 40 ls []) := by
  have hx := X.hx
  have hb := X.hb
  have hown := X.hown
  have hts := X.hts
  rw [fX2_miceAddUp_40] at hf
  refine lv_aload_n hx hb dX2_miceAddUp_40 rfl (lv_at hl 0 rfl) ?_
  obtain ⟨q, hc, hf⟩ := bd hf
  refine gCallVR X rfl (vX2_miceOfAllBackwards hkt hc) gRX2_X2_miceOfAllBackwards hdX2_miceOfAllBackwards rfl ⟨by decide, by decide⟩ (gB_blind cOK) (gB_at cOK X hP) (cr_rec hP hkt rfl cw11 rfl) hl.1 (Nat.le_of_ble_eq_true rfl) ⟨Nat.zero_le _, Nat.zero_le _⟩ dX2_miceAddUp_41 (As := []) (rest := []) rfl ?_
  exact kX2_miceAddUp_44 X hret hkt hf hP (lv_sub hl [0, 1] rfl)
set_option maxRecDepth 10000 in
theorem kX2_miceAddUp_36 {r : Int32} {t : Nat} {M : CS} {x1 : Int32} {s0 : Int32} (X : gX p s m args c cX2_miceAddUp 2 RX2 (kR kTab kA)) (hret : gRetR p l e (rmL 2 0 0) s m args below meth c cX2_miceAddUp Q r) (hkt : kc t = 11) (hf : fX2_miceAddUp_36 t M x1 s0 = some r) {ls : Array Slot} (hP : (cP dC dI cg kA ca) M s s.heap) (hl : lv_has ls 2 [(0, .ref (ca t)), (1, .int x1)]) : W p l e (rmL 2 0 0) s m args below meth c s.heap [] 0 0 Q (F0 m 36 ls [.int s0]) := by
  have hx := X.hx
  have hb := X.hb
  have hown := X.hown
  have hts := X.hts
  rw [fX2_miceAddUp_36] at hf
  refine lv_iload_n hx hb dX2_miceAddUp_36 rfl (lv_at hl 1 rfl) ?_
  refine lv_icmp_ne (tgt := 52) hx hb dX2_miceAddUp_37 (by decide) (fun c1 => ?_) (fun c1 => ?_)
  · exact kX2_miceAddUp_52 X hret hkt (ifn c1 hf) hP (lv_sub hl [0] rfl)
  · exact kX2_miceAddUp_40 X hret hkt (ifp c1 hf) hP (lv_sub hl [0, 1] rfl)
set_option maxRecDepth 10000 in
theorem kX2_miceAddUp_0 {r : Int32} {t : Nat} {M : CS} (X : gX p s m args c cX2_miceAddUp 2 RX2 (kR kTab kA)) (hret : gRetR p l e (rmL 2 0 0) s m args below meth c cX2_miceAddUp Q r) (hkt : kc t = 11) (hf : fX2_miceAddUp_0 t M = some r) {ls : Array Slot} (hP : (cP dC dI cg kA ca) M s s.heap) (hl : lv_has ls 2 [(0, .ref (ca t))]) : W p l e (rmL 2 0 0) s m args below meth c s.heap [] 0 0 Q (F0 m 0 ls []) := by
  have hx := X.hx
  have hb := X.hb
  have hown := X.hown
  have hts := X.hts
  rw [fX2_miceAddUp_0] at hf
  refine lv_aload_n hx hb dX2_miceAddUp_0 rfl (lv_at hl 0 rfl) ?_
  refine cr_get (k := 4) X hP hkt rfl cv11_4 rfl cinX2 (by decide) rfl tw324 dX2_miceAddUp_1 ?_
  refine cr_get (k := 6) X hP (kc_totals hkt) rfl cv17_6 rfl cinX9 (by decide) rfl tw195 dX2_miceAddUp_4 ?_
  refine lv_aload_n hx hb dX2_miceAddUp_7 rfl (lv_at hl 0 rfl) ?_
  refine cr_get (k := 4) X hP hkt rfl cv11_4 rfl cinX2 (by decide) rfl tw324 dX2_miceAddUp_8 ?_
  refine cr_get (k := 2) X hP (kc_totals hkt) rfl cv17_2 rfl cinX9 (by decide) rfl tw183 dX2_miceAddUp_11 ?_
  refine lv_iadd hx hb dX2_miceAddUp_14 ?_
  refine lv_aload_n hx hb dX2_miceAddUp_15 rfl (lv_at hl 0 rfl) ?_
  refine cr_get (k := 4) X hP hkt rfl cv11_4 rfl cinX2 (by decide) rfl tw324 dX2_miceAddUp_16 ?_
  refine cr_get (k := 0) X hP (kc_totals hkt) rfl cv17_0 rfl cinX9 (by decide) rfl tw177 dX2_miceAddUp_19 ?_
  refine lv_isub hx hb dX2_miceAddUp_22 ?_
  refine lv_aload_n hx hb dX2_miceAddUp_23 rfl (lv_at hl 0 rfl) ?_
  refine cr_get (k := 4) X hP hkt rfl cv11_4 rfl cinX2 (by decide) rfl tw324 dX2_miceAddUp_24 ?_
  refine cr_get (k := 3) X hP (kc_totals hkt) rfl cv17_3 rfl cinX9 (by decide) rfl tw186 dX2_miceAddUp_27 ?_
  refine lv_isub hx hb dX2_miceAddUp_30 ?_
  refine lv_istore_n (lv' := [(1, .int ((((M.1 (t + 8) 6) + (M.1 (t + 8) 2)) - (M.1 (t + 8) 0)) - (M.1 (t + 8) 3))), (0, .ref (ca t))]) hx hb dX2_miceAddUp_31 rfl hl (by decide) rfl (fun ls hl => ?_)
  refine lv_aload_n hx hb dX2_miceAddUp_32 rfl (lv_at hl 1 rfl) ?_
  obtain ⟨q, hc, hf⟩ := bd hf
  refine gCallVR X rfl (vX2_miceOfAll hkt hc) gRX2_X2_miceOfAll hdX2_miceOfAll rfl ⟨by decide, by decide⟩ (gB_blind cOK) (gB_at cOK X hP) (cr_rec hP hkt rfl cw11 rfl) hl.1 (Nat.le_of_ble_eq_true rfl) ⟨Nat.zero_le _, Nat.zero_le _⟩ dX2_miceAddUp_33 (As := []) (rest := []) rfl ?_
  exact kX2_miceAddUp_36 X hret hkt hf hP (lv_sub hl [1, 0] rfl)
theorem vX2_miceAddUp {l : Launch} {dC : Nat → ClassId} {dI : Nat → Nat → Nat} {cg : Nat → ClassId} {kA : String → Nat → Nat} {ca : Nat → Nat} {M : CS} {r : Int32} {t : Nat} (hkt : kc t = 11) (hf : fX2_miceAddUp M t  = some r) : gMetR l yX2_miceAddUp cX2_miceAddUp 2 (some .boolean) 2 (gB (cP dC dI cg kA ca) (kR kTab kA) M) [.ref (ca t)] r := gEntryR (ty := .boolean) (by decide) rfl (bq_n hf) (Nat.le_of_ble_eq_true rfl) (fun _ h => h.2) (fun p e s m args below meth c Q ls X hB hret hl => 
  kX2_miceAddUp_0 X hret hkt (bq_f hf) hB.1 (lv_sub hl [0] rfl))
set_option maxRecDepth 10000 in
theorem kX2_grainAddsUp_68 {r : Int32} {t : Nat} {M : CS} {s0 : Int32} (X : gX p s m args c cX2_grainAddsUp 3 RX2 (kR kTab kA)) (hret : gRetR p l e (rmL 2 0 0) s m args below meth c cX2_grainAddsUp Q r) (hkt : kc t = 11) (hf : fX2_grainAddsUp_68 t M s0 = some r) {ls : Array Slot} (hP : (cP dC dI cg kA ca) M s s.heap) (hl : lv_has ls 3 [(0, .ref (ca t))]) : W p l e (rmL 2 0 0) s m args below meth c s.heap [] 0 0 Q (F0 m 68 ls [.int s0]) := by
  have hx := X.hx
  have hb := X.hb
  have hown := X.hown
  have hts := X.hts
  rw [fX2_grainAddsUp_68] at hf
  cases hf
  exact hret _ _ dX2_grainAddsUp_68
set_option maxRecDepth 10000 in
theorem kX2_grainAddsUp_67 {r : Int32} {t : Nat} {M : CS} (X : gX p s m args c cX2_grainAddsUp 3 RX2 (kR kTab kA)) (hret : gRetR p l e (rmL 2 0 0) s m args below meth c cX2_grainAddsUp Q r) (hkt : kc t = 11) (hf : fX2_grainAddsUp_67 t M = some r) {ls : Array Slot} (hP : (cP dC dI cg kA ca) M s s.heap) (hl : lv_has ls 3 [(0, .ref (ca t))]) : W p l e (rmL 2 0 0) s m args below meth c s.heap [] 0 0 Q (F0 m 67 ls []) := by
  have hx := X.hx
  have hb := X.hb
  have hown := X.hown
  have hts := X.hts
  rw [fX2_grainAddsUp_67] at hf
  refine lv_iconst (v := 0) hx hb dX2_grainAddsUp_67 (by decide) ?_
  exact kX2_grainAddsUp_68 X hret hkt hf hP (lv_sub hl [0] rfl)
set_option maxRecDepth 10000 in
theorem kX2_grainAddsUp_63 {r : Int32} {t : Nat} {M : CS} (X : gX p s m args c cX2_grainAddsUp 3 RX2 (kR kTab kA)) (hret : gRetR p l e (rmL 2 0 0) s m args below meth c cX2_grainAddsUp Q r) (hkt : kc t = 11) (hf : fX2_grainAddsUp_63 t M = some r) {ls : Array Slot} (hP : (cP dC dI cg kA ca) M s s.heap) (hl : lv_has ls 3 [(0, .ref (ca t))]) : W p l e (rmL 2 0 0) s m args below meth c s.heap [] 0 0 Q (F0 m 63 ls []) := by
  have hx := X.hx
  have hb := X.hb
  have hown := X.hown
  have hts := X.hts
  rw [fX2_grainAddsUp_63] at hf
  refine lv_iconst (v := 1) hx hb dX2_grainAddsUp_63 (by decide) ?_
  refine lv_goto (tgt := 68) hx hb dX2_grainAddsUp_64 (by decide) ?_
  exact kX2_grainAddsUp_68 X hret hkt hf hP (lv_sub hl [0] rfl)
set_option maxRecDepth 10000 in
theorem kX2_grainAddsUp_45 {r : Int32} {t : Nat} {M : CS} {s0 : Int32} (X : gX p s m args c cX2_grainAddsUp 3 RX2 (kR kTab kA)) (hret : gRetR p l e (rmL 2 0 0) s m args below meth c cX2_grainAddsUp Q r) (hkt : kc t = 11) (hf : fX2_grainAddsUp_45 t M s0 = some r) {ls : Array Slot} (hP : (cP dC dI cg kA ca) M s s.heap) (hl : lv_has ls 3 [(0, .ref (ca t))]) : W p l e (rmL 2 0 0) s m args below meth c s.heap [] 0 0 Q (F0 m 45 ls [.int s0]) := by
  have hx := X.hx
  have hb := X.hb
  have hown := X.hown
  have hts := X.hts
  rw [fX2_grainAddsUp_45] at hf
  refine lv_aload_n hx hb dX2_grainAddsUp_45 rfl (lv_at hl 0 rfl) ?_
  refine cr_get (k := 4) X hP hkt rfl cv11_4 rfl cinX2 (by decide) rfl tw324 dX2_grainAddsUp_46 ?_
  refine cr_get (k := 7) X hP (kc_totals hkt) rfl cv17_7 rfl cinX9 (by decide) rfl tw197 dX2_grainAddsUp_49 ?_
  refine lv_aload_n hx hb dX2_grainAddsUp_52 rfl (lv_at hl 0 rfl) ?_
  refine cr_get (k := 4) X hP hkt rfl cv11_4 rfl cinX2 (by decide) rfl tw324 dX2_grainAddsUp_53 ?_
  refine cr_get (k := 1) X hP (kc_totals hkt) rfl cv17_1 rfl cinX9 (by decide) rfl tw180 dX2_grainAddsUp_56 ?_
  refine lv_isub hx hb dX2_grainAddsUp_59 ?_
  refine lv_icmp_ne (tgt := 67) hx hb dX2_grainAddsUp_60 (by decide) (fun c1 => ?_) (fun c1 => ?_)
  · exact kX2_grainAddsUp_67 X hret hkt (ifn c1 hf) hP (lv_sub hl [0] rfl)
  · exact kX2_grainAddsUp_63 X hret hkt (ifp c1 hf) hP (lv_sub hl [0] rfl)
set_option maxRecDepth 10000 in
theorem kX2_grainAddsUp_41 {r : Int32} {t : Nat} {M : CS} (X : gX p s m args c cX2_grainAddsUp 3 RX2 (kR kTab kA)) (hret : gRetR p l e (rmL 2 0 0) s m args below meth c cX2_grainAddsUp Q r) (hkt : kc t = 11) (hf : fX2_grainAddsUp_41 t M = some r) {ls : Array Slot} (hP : (cP dC dI cg kA ca) M s s.heap) (hl : lv_has ls 3 [(0, .ref (ca t))]) : W p l e (rmL 2 0 0) s m args below meth c s.heap [] 0 0 Q (F0 m 41 ls []) := by
  have hx := X.hx
  have hb := X.hb
  have hown := X.hown
  have hts := X.hts
  rw [fX2_grainAddsUp_41] at hf
  refine lv_aload_n hx hb dX2_grainAddsUp_41 rfl (lv_at hl 0 rfl) ?_
  obtain ⟨q, hc, hf⟩ := bd hf
  refine gCallVR X rfl (vX2_grainOfAll hkt hc) gRX2_X2_grainOfAll hdX2_grainOfAll rfl ⟨by decide, by decide⟩ (gB_blind cOK) (gB_at cOK X hP) (cr_rec hP hkt rfl cw11 rfl) hl.1 (Nat.le_of_ble_eq_true rfl) ⟨Nat.zero_le _, Nat.zero_le _⟩ dX2_grainAddsUp_42 (As := []) (rest := []) rfl ?_
  exact kX2_grainAddsUp_45 X hret hkt hf hP (lv_sub hl [0] rfl)
set_option maxRecDepth 10000 in
theorem kX2_grainAddsUp_30 {r : Int32} {t : Nat} {M : CS} {x1 : Int32} (X : gX p s m args c cX2_grainAddsUp 3 RX2 (kR kTab kA)) (hret : gRetR p l e (rmL 2 0 0) s m args below meth c cX2_grainAddsUp Q r) (hkt : kc t = 11) (hf : fX2_grainAddsUp_30 t M x1 = some r) {ls : Array Slot} (hP : (cP dC dI cg kA ca) M s s.heap) (hl : lv_has ls 3 [(0, .ref (ca t)), (1, .int x1)]) : W p l e (rmL 2 0 0) s m args below meth c s.heap [] 0 0 Q (F0 m 30 ls []) := by
  have hx := X.hx
  have hb := X.hb
  have hown := X.hown
  have hts := X.hts
  rw [fX2_grainAddsUp_30] at hf
  refine lv_iload_n hx hb dX2_grainAddsUp_30 rfl (lv_at hl 1 rfl) ?_
  refine lv_aload_n hx hb dX2_grainAddsUp_31 rfl (lv_at hl 0 rfl) ?_
  refine cr_get (k := 4) X hP hkt rfl cv11_4 rfl cinX2 (by decide) rfl tw324 dX2_grainAddsUp_32 ?_
  refine cr_get (k := 1) X hP (kc_totals hkt) rfl cv17_1 rfl cinX9 (by decide) rfl tw180 dX2_grainAddsUp_35 ?_
  refine lv_icmp_ne (tgt := 67) hx hb dX2_grainAddsUp_38 (by decide) (fun c1 => ?_) (fun c1 => ?_)
  · exact kX2_grainAddsUp_67 X hret hkt (ifn c1 hf) hP (lv_sub hl [0] rfl)
  · exact kX2_grainAddsUp_41 X hret hkt (ifp c1 hf) hP (lv_sub hl [0] rfl)
set_option maxRecDepth 10000 in
theorem kX2_grainAddsUp_12 {r : Int32} {t : Nat} {K4 : CS → Int32 → Int32 → Option (Int32)} {M : CS} {x1 : Int32} {x2 : Int32} (X : gX p s m args c cX2_grainAddsUp 3 RX2 (kR kTab kA)) (hret : gRetR p l e (rmL 2 0 0) s m args below meth c cX2_grainAddsUp Q r) (hkt : kc t = 11) (hK4 : ∀ (M : CS) (x1 : Int32) (x2 : Int32) (ls : Array Slot), K4 M x1 x2 = some r → (cP dC dI cg kA ca) M s s.heap → lv_has ls 3 [(0, .ref (ca t)), (1, .int x1), (2, .int x2)] → W p l e (rmL 2 0 0) s m args below meth c s.heap [] 0 0 Q (F0 m 4 ls [])) (hf : fX2_grainAddsUp_12 t K4 M x1 x2 = some r) {ls : Array Slot} (hP : (cP dC dI cg kA ca) M s s.heap) (hl : lv_has ls 3 [(0, .ref (ca t)), (1, .int x1), (2, .int x2)]) : W p l e (rmL 2 0 0) s m args below meth c s.heap [] 0 0 Q (F0 m 12 ls []) := by
  have hx := X.hx
  have hb := X.hb
  have hown := X.hown
  have hts := X.hts
  rw [fX2_grainAddsUp_12] at hf
  refine lv_iload_n hx hb dX2_grainAddsUp_12 rfl (lv_at hl 1 rfl) ?_
  refine lv_aload_n hx hb dX2_grainAddsUp_13 rfl (lv_at hl 0 rfl) ?_
  refine cr_get (k := 1) X hP hkt rfl cv11_1 rfl cinX2 (by decide) rfl tw316 dX2_grainAddsUp_14 ?_
  refine lv_iload_n hx hb dX2_grainAddsUp_17 rfl (lv_at hl 2 rfl) ?_
  obtain ⟨g1, hf⟩ := gd hf
  refine cr_aald (f := fun i => (t + 2) + 15 + i) X hP (kc_sacks hkt) rfl (fun _ => rfl) rfl g1 dX2_grainAddsUp_18 ?_
  refine cr_get (k := 4) X hP (kc_sack (kc_sacks hkt) g1) rfl cv19_4 rfl cinX4 (by decide) rfl tw282 dX2_grainAddsUp_19 ?_
  refine lv_iadd hx hb dX2_grainAddsUp_22 ?_
  refine lv_istore_n (lv' := [(1, .int (x1 + (M.1 ((t + 2) + 15 + x2.toNatClampNeg) 4))), (0, .ref (ca t)), (2, .int x2)]) hx hb dX2_grainAddsUp_23 rfl hl (by decide) rfl (fun ls hl => ?_)
  refine lv_iinc (v := (x2 + 1)) (lv' := [(2, .int (x2 + 1)), (1, .int (x1 + (M.1 ((t + 2) + 15 + x2.toNatClampNeg) 4))), (0, .ref (ca t))]) hx hb dX2_grainAddsUp_24 hl (k := 2) rfl (by rfl) (by decide) rfl (fun ls hl => ?_)
  refine lv_goto (tgt := 4) hx hb dX2_grainAddsUp_27 (by decide) ?_
  exact hK4 _ _ _ _ hf hP (lv_sub hl [2, 1, 0] rfl)
set_option maxRecDepth 10000 in
theorem kX2_grainAddsUp_4 {r : Int32} {t : Nat} (X : gX p s m args c cX2_grainAddsUp 3 RX2 (kR kTab kA)) (hret : gRetR p l e (rmL 2 0 0) s m args below meth c cX2_grainAddsUp Q r) (hkt : kc t = 11) : ∀ (n : Nat) (M : CS) (x1 : Int32) (x2 : Int32) (ls : Array Slot), fX2_grainAddsUp_4 t n M x1 x2 = some r → (cP dC dI cg kA ca) M s s.heap → lv_has ls 3 [(0, .ref (ca t)), (1, .int x1), (2, .int x2)] → W p l e (rmL 2 0 0) s m args below meth c s.heap [] 0 0 Q (F0 m 4 ls []) := by
  intro n
  induction n with
  | zero => intro M x1 x2 ls hf; cases hf
  | succ k ih =>
    intro M x1 x2 ls hf hP hl
    have hx := X.hx
    have hb := X.hb
    have hown := X.hown
    have hts := X.hts
    rw [fX2_grainAddsUp_4] at hf
    try dsimp only at hf
    refine lv_iload_n hx hb dX2_grainAddsUp_4 rfl (lv_at hl 2 rfl) ?_
    refine lv_aload_n hx hb dX2_grainAddsUp_5 rfl (lv_at hl 0 rfl) ?_
    refine cr_get (k := 6) X hP hkt rfl cv11_6 rfl cinX2 (by decide) rfl tw329 dX2_grainAddsUp_6 ?_
    refine lv_icmp_ge (tgt := 30) hx hb dX2_grainAddsUp_9 (by decide) (fun c1 => ?_) (fun c1 => ?_)
    · exact kX2_grainAddsUp_30 X hret hkt (ifp c1 hf) hP (lv_sub hl [0, 1] rfl)
    · exact kX2_grainAddsUp_12 X hret hkt ih (ifn c1 hf) hP (lv_sub hl [0, 1, 2] rfl)
set_option maxRecDepth 10000 in
theorem kX2_grainAddsUp_0 {r : Int32} {t : Nat} {M : CS} (X : gX p s m args c cX2_grainAddsUp 3 RX2 (kR kTab kA)) (hret : gRetR p l e (rmL 2 0 0) s m args below meth c cX2_grainAddsUp Q r) (hkt : kc t = 11) (hf : fX2_grainAddsUp_0 t M = some r) {ls : Array Slot} (hP : (cP dC dI cg kA ca) M s s.heap) (hl : lv_has ls 3 [(0, .ref (ca t))]) : W p l e (rmL 2 0 0) s m args below meth c s.heap [] 0 0 Q (F0 m 0 ls []) := by
  have hx := X.hx
  have hb := X.hb
  have hown := X.hown
  have hts := X.hts
  rw [fX2_grainAddsUp_0] at hf
  refine lv_iconst (v := 0) hx hb dX2_grainAddsUp_0 (by decide) ?_
  refine lv_istore_n (lv' := [(1, .int 0), (0, .ref (ca t))]) hx hb dX2_grainAddsUp_1 rfl hl (by decide) rfl (fun ls hl => ?_)
  refine lv_iconst (v := 0) hx hb dX2_grainAddsUp_2 (by decide) ?_
  refine lv_istore_n (lv' := [(2, .int 0), (1, .int 0), (0, .ref (ca t))]) hx hb dX2_grainAddsUp_3 rfl hl (by decide) rfl (fun ls hl => ?_)
  exact kX2_grainAddsUp_4 X hret hkt FU _ _ _ _ hf hP (lv_sub hl [2, 1, 0] rfl)
theorem vX2_grainAddsUp {l : Launch} {dC : Nat → ClassId} {dI : Nat → Nat → Nat} {cg : Nat → ClassId} {kA : String → Nat → Nat} {ca : Nat → Nat} {M : CS} {r : Int32} {t : Nat} (hkt : kc t = 11) (hf : fX2_grainAddsUp M t  = some r) : gMetR l yX2_grainAddsUp cX2_grainAddsUp 3 (some .boolean) 2 (gB (cP dC dI cg kA ca) (kR kTab kA) M) [.ref (ca t)] r := gEntryR (ty := .boolean) (by decide) rfl (bq_n hf) (Nat.le_of_ble_eq_true rfl) (fun _ h => h.2) (fun p e s m args below meth c Q ls X hB hret hl => 
  kX2_grainAddsUp_0 X hret hkt (bq_f hf) hB.1 (lv_sub hl [0] rfl))
set_option maxRecDepth 10000 in
theorem kX3_putNumber_39 {S1 : CS} {M : CS} {H : Heap} {locs : List Loc} {ls : Array Slot} (X : gX p s m args c cX3_putNumber 3 RX3 (kR kTab kA)) (hret : gRetV p l e (rmL 2 0 0) s m args below meth c cX3_putNumber (cΩ ca) (cP dC dI cg kA ca) Q S1) (hf : fX3_putNumber_39 M = some S1) (hP : (cP dC dI cg kA ca) M s H) (hS : va_S (Fr (cΩ ca) s.heap.size) s.heap H locs) (hl : lv_has ls 3 [(0, .ref (ca 5))]) : W p l e (rmL 2 0 0) s m args below meth c H locs 0 0 Q (F0 m 39 ls []) := by
  have hx := X.hx
  have hb := X.hb
  have hown := X.hown
  have hts := X.hts
  rw [fX3_putNumber_39] at hf
  cases hf
  exact hret _ _ _ _ dX3_putNumber_39 hP hS
set_option maxRecDepth 10000 in
theorem kX3_putNumber_31 {S1 : CS} {K4 : CS → Int32 → Int32 → Option (CS)} {M : CS} {x1 : Int32} {x2 : Int32} {H : Heap} {locs : List Loc} {ls : Array Slot} (X : gX p s m args c cX3_putNumber 3 RX3 (kR kTab kA)) (hret : gRetV p l e (rmL 2 0 0) s m args below meth c cX3_putNumber (cΩ ca) (cP dC dI cg kA ca) Q S1) (hK4 : ∀ (M : CS) (x1 : Int32) (x2 : Int32) (H : Heap) (locs : List Loc) (ls : Array Slot), K4 M x1 x2 = some S1 → (cP dC dI cg kA ca) M s H → va_S (Fr (cΩ ca) s.heap.size) s.heap H locs → lv_has ls 3 [(0, .ref (ca 5)), (1, .int x1), (2, .int x2)] → W p l e (rmL 2 0 0) s m args below meth c H locs 0 0 Q (F0 m 4 ls [])) (hf : fX3_putNumber_31 K4 M x1 x2 = some S1) (hP : (cP dC dI cg kA ca) M s H) (hS : va_S (Fr (cΩ ca) s.heap.size) s.heap H locs) (hl : lv_has ls 3 [(0, .ref (ca 5)), (1, .int x1), (2, .int x2)]) : W p l e (rmL 2 0 0) s m args below meth c H locs 0 0 Q (F0 m 31 ls []) := by
  have hx := X.hx
  have hb := X.hb
  have hown := X.hown
  have hts := X.hts
  rw [fX3_putNumber_31] at hf
  refine lv_iload_n hx hb dX3_putNumber_31 rfl (lv_at hl 2 rfl) ?_
  refine lv_bipush (v := 10) hx hb dX3_putNumber_32 (by decide) ?_
  refine lv_idiv hx hb dX3_putNumber_34 (by decide) ?_
  refine lv_istore_n (lv' := [(2, .int (x2 / 10)), (0, .ref (ca 5)), (1, .int x1)]) hx hb dX3_putNumber_35 rfl hl (by decide) rfl (fun ls hl => ?_)
  refine lv_goto (tgt := 4) hx hb dX3_putNumber_36 (by decide) ?_
  exact hK4 _ _ _ _ _ _ hf hP hS (lv_sub hl [1, 2, 0] rfl)
set_option maxRecDepth 10000 in
theorem kX3_putNumber_18 {S1 : CS} {K4 : CS → Int32 → Int32 → Option (CS)} {M : CS} {x1 : Int32} {x2 : Int32} {H : Heap} {locs : List Loc} {ls : Array Slot} (X : gX p s m args c cX3_putNumber 3 RX3 (kR kTab kA)) (hret : gRetV p l e (rmL 2 0 0) s m args below meth c cX3_putNumber (cΩ ca) (cP dC dI cg kA ca) Q S1) (hK4 : ∀ (M : CS) (x1 : Int32) (x2 : Int32) (H : Heap) (locs : List Loc) (ls : Array Slot), K4 M x1 x2 = some S1 → (cP dC dI cg kA ca) M s H → va_S (Fr (cΩ ca) s.heap.size) s.heap H locs → lv_has ls 3 [(0, .ref (ca 5)), (1, .int x1), (2, .int x2)] → W p l e (rmL 2 0 0) s m args below meth c H locs 0 0 Q (F0 m 4 ls [])) (hf : fX3_putNumber_18 K4 M x1 x2 = some S1) (hP : (cP dC dI cg kA ca) M s H) (hS : va_S (Fr (cΩ ca) s.heap.size) s.heap H locs) (hl : lv_has ls 3 [(0, .ref (ca 5)), (1, .int x1), (2, .int x2)]) : W p l e (rmL 2 0 0) s m args below meth c H locs 0 0 Q (F0 m 18 ls []) := by
  have hx := X.hx
  have hb := X.hb
  have hown := X.hown
  have hts := X.hts
  rw [fX3_putNumber_18] at hf
  refine lv_aload_n hx hb dX3_putNumber_18 rfl (lv_at hl 0 rfl) ?_
  refine lv_bipush (v := 48) hx hb dX3_putNumber_19 (by decide) ?_
  refine lv_iload_n hx hb dX3_putNumber_21 rfl (lv_at hl 1 rfl) ?_
  refine lv_iload_n hx hb dX3_putNumber_22 rfl (lv_at hl 2 rfl) ?_
  obtain ⟨g1, hf⟩ := gd hf
  refine lv_idiv hx hb dX3_putNumber_23 g1 ?_
  refine lv_bipush (v := 10) hx hb dX3_putNumber_24 (by decide) ?_
  refine lv_irem hx hb dX3_putNumber_26 (by decide) ?_
  refine lv_iadd hx hb dX3_putNumber_27 ?_
  obtain ⟨q, hc, hf⟩ := bd hf
  refine gCallVV X cOK rfl (vX3_put hc) gRX3_X3_put hdX3_put rfl ⟨by decide, by decide⟩ hP hS (cr_rec hP (rfl : kc 5 = 5) rfl cw5 rfl) hl.1 (Nat.le_of_ble_eq_true rfl) ⟨Nat.zero_le _, Nat.zero_le _⟩ dX3_putNumber_28 (As := [.int (48 + ((x1 / x2) - (x1 / x2) / 10 * 10))]) (rest := []) rfl (fun H locs hP hS => ?_)
  exact kX3_putNumber_31 X hret hK4 hf hP hS (lv_sub hl [0, 1, 2] rfl)
set_option maxRecDepth 10000 in
theorem kX3_putNumber_13 {S1 : CS} {K4 : CS → Int32 → Int32 → Option (CS)} {M : CS} {x1 : Int32} {x2 : Int32} {H : Heap} {locs : List Loc} {ls : Array Slot} (X : gX p s m args c cX3_putNumber 3 RX3 (kR kTab kA)) (hret : gRetV p l e (rmL 2 0 0) s m args below meth c cX3_putNumber (cΩ ca) (cP dC dI cg kA ca) Q S1) (hK4 : ∀ (M : CS) (x1 : Int32) (x2 : Int32) (H : Heap) (locs : List Loc) (ls : Array Slot), K4 M x1 x2 = some S1 → (cP dC dI cg kA ca) M s H → va_S (Fr (cΩ ca) s.heap.size) s.heap H locs → lv_has ls 3 [(0, .ref (ca 5)), (1, .int x1), (2, .int x2)] → W p l e (rmL 2 0 0) s m args below meth c H locs 0 0 Q (F0 m 4 ls [])) (hf : fX3_putNumber_13 K4 M x1 x2 = some S1) (hP : (cP dC dI cg kA ca) M s H) (hS : va_S (Fr (cΩ ca) s.heap.size) s.heap H locs) (hl : lv_has ls 3 [(0, .ref (ca 5)), (1, .int x1), (2, .int x2)]) : W p l e (rmL 2 0 0) s m args below meth c H locs 0 0 Q (F0 m 13 ls []) := by
  have hx := X.hx
  have hb := X.hb
  have hown := X.hown
  have hts := X.hts
  rw [fX3_putNumber_13] at hf
  refine lv_iload_n hx hb dX3_putNumber_13 rfl (lv_at hl 2 rfl) ?_
  refine lv_iconst (v := 1) hx hb dX3_putNumber_14 (by decide) ?_
  refine lv_icmp_ne (tgt := 31) hx hb dX3_putNumber_15 (by decide) (fun c1 => ?_) (fun c1 => ?_)
  · exact kX3_putNumber_31 X hret hK4 (ifn c1 hf) hP hS (lv_sub hl [0, 1, 2] rfl)
  · exact kX3_putNumber_18 X hret hK4 (ifp c1 hf) hP hS (lv_sub hl [0, 1, 2] rfl)
set_option maxRecDepth 10000 in
theorem kX3_putNumber_8 {S1 : CS} {K4 : CS → Int32 → Int32 → Option (CS)} {M : CS} {x1 : Int32} {x2 : Int32} {H : Heap} {locs : List Loc} {ls : Array Slot} (X : gX p s m args c cX3_putNumber 3 RX3 (kR kTab kA)) (hret : gRetV p l e (rmL 2 0 0) s m args below meth c cX3_putNumber (cΩ ca) (cP dC dI cg kA ca) Q S1) (hK4 : ∀ (M : CS) (x1 : Int32) (x2 : Int32) (H : Heap) (locs : List Loc) (ls : Array Slot), K4 M x1 x2 = some S1 → (cP dC dI cg kA ca) M s H → va_S (Fr (cΩ ca) s.heap.size) s.heap H locs → lv_has ls 3 [(0, .ref (ca 5)), (1, .int x1), (2, .int x2)] → W p l e (rmL 2 0 0) s m args below meth c H locs 0 0 Q (F0 m 4 ls [])) (hf : fX3_putNumber_8 K4 M x1 x2 = some S1) (hP : (cP dC dI cg kA ca) M s H) (hS : va_S (Fr (cΩ ca) s.heap.size) s.heap H locs) (hl : lv_has ls 3 [(0, .ref (ca 5)), (1, .int x1), (2, .int x2)]) : W p l e (rmL 2 0 0) s m args below meth c H locs 0 0 Q (F0 m 8 ls []) := by
  have hx := X.hx
  have hb := X.hb
  have hown := X.hown
  have hts := X.hts
  rw [fX3_putNumber_8] at hf
  refine lv_iload_n hx hb dX3_putNumber_8 rfl (lv_at hl 1 rfl) ?_
  refine lv_iload_n hx hb dX3_putNumber_9 rfl (lv_at hl 2 rfl) ?_
  refine lv_icmp_ge (tgt := 18) hx hb dX3_putNumber_10 (by decide) (fun c1 => ?_) (fun c1 => ?_)
  · exact kX3_putNumber_18 X hret hK4 (ifp c1 hf) hP hS (lv_sub hl [0, 1, 2] rfl)
  · exact kX3_putNumber_13 X hret hK4 (ifn c1 hf) hP hS (lv_sub hl [0, 1, 2] rfl)
set_option maxRecDepth 10000 in
theorem kX3_putNumber_4 {S1 : CS} (X : gX p s m args c cX3_putNumber 3 RX3 (kR kTab kA)) (hret : gRetV p l e (rmL 2 0 0) s m args below meth c cX3_putNumber (cΩ ca) (cP dC dI cg kA ca) Q S1) : ∀ (n : Nat) (M : CS) (x1 : Int32) (x2 : Int32) (H : Heap) (locs : List Loc) (ls : Array Slot), fX3_putNumber_4 n M x1 x2 = some S1 → (cP dC dI cg kA ca) M s H → va_S (Fr (cΩ ca) s.heap.size) s.heap H locs → lv_has ls 3 [(0, .ref (ca 5)), (1, .int x1), (2, .int x2)] → W p l e (rmL 2 0 0) s m args below meth c H locs 0 0 Q (F0 m 4 ls []) := by
  intro n
  induction n with
  | zero => intro M x1 x2 H locs ls hf; cases hf
  | succ k ih =>
    intro M x1 x2 H locs ls hf hP hS hl
    have hx := X.hx
    have hb := X.hb
    have hown := X.hown
    have hts := X.hts
    rw [fX3_putNumber_4] at hf
    try dsimp only at hf
    refine lv_iload_n hx hb dX3_putNumber_4 rfl (lv_at hl 2 rfl) ?_
    refine lv_if_le (tgt := 39) hx hb dX3_putNumber_5 (by decide) (fun c1 => ?_) (fun c1 => ?_)
    · exact kX3_putNumber_39 X hret (ifp c1 hf) hP hS (lv_sub hl [0] rfl)
    · exact kX3_putNumber_8 X hret ih (ifn c1 hf) hP hS (lv_sub hl [0, 1, 2] rfl)
set_option maxRecDepth 10000 in
theorem kX3_putNumber_0 {S1 : CS} {M : CS} {a1 : Int32} {H : Heap} {locs : List Loc} {ls : Array Slot} (X : gX p s m args c cX3_putNumber 3 RX3 (kR kTab kA)) (hret : gRetV p l e (rmL 2 0 0) s m args below meth c cX3_putNumber (cΩ ca) (cP dC dI cg kA ca) Q S1) (hf : fX3_putNumber_0 M a1 = some S1) (hP : (cP dC dI cg kA ca) M s H) (hS : va_S (Fr (cΩ ca) s.heap.size) s.heap H locs) (hl : lv_has ls 3 [(0, .ref (ca 5)), (1, .int a1)]) : W p l e (rmL 2 0 0) s m args below meth c H locs 0 0 Q (F0 m 0 ls []) := by
  have hx := X.hx
  have hb := X.hb
  have hown := X.hown
  have hts := X.hts
  rw [fX3_putNumber_0] at hf
  refine lv_sipush (v := 1000) hx hb dX3_putNumber_0 (by decide) ?_
  refine lv_istore_n (lv' := [(2, .int 1000), (0, .ref (ca 5)), (1, .int a1)]) hx hb dX3_putNumber_3 rfl hl (by decide) rfl (fun ls hl => ?_)
  exact kX3_putNumber_4 X hret FU _ _ _ _ _ _ hf hP hS (lv_sub hl [1, 2, 0] rfl)
theorem vX3_putNumber {l : Launch} {dC : Nat → ClassId} {dI : Nat → Nat → Nat} {cg : Nat → ClassId} {kA : String → Nat → Nat} {ca : Nat → Nat} {M S1 : CS} {a1 : Int32} (hf : fX3_putNumber M a1 = some S1) : gMetV l yX3_putNumber cX3_putNumber 3 2 (cΩ ca) (cP dC dI cg kA ca) (kR kTab kA) [.ref (ca 5), .int a1] M S1 := gEntryV (by decide) cOK (Nat.le_of_ble_eq_true rfl) (fun p e s m args below meth c Q ls X hP hS hret hl => 
  kX3_putNumber_0 X hret hf hP hS (lv_sub hl [0, 1] rfl))
set_option maxRecDepth 10000 in
theorem kX8_appendFour_29 {S1 : CS} {M : CS} {H : Heap} {locs : List Loc} {ls : Array Slot} (X : gX p s m args c cX8_appendFour 2 RX8 (kR kTab kA)) (hret : gRetV p l e (rmL 2 0 0) s m args below meth c cX8_appendFour (cΩ ca) (cP dC dI cg kA ca) Q S1) (hf : fX8_appendFour_29 M = some S1) (hP : (cP dC dI cg kA ca) M s H) (hS : va_S (Fr (cΩ ca) s.heap.size) s.heap H locs) (hl : lv_has ls 2 [(0, .ref (ca 1))]) : W p l e (rmL 2 0 0) s m args below meth c H locs 0 0 Q (F0 m 29 ls []) := by
  have hx := X.hx
  have hb := X.hb
  have hown := X.hown
  have hts := X.hts
  rw [fX8_appendFour_29] at hf
  cases hf
  exact hret _ _ _ _ dX8_appendFour_29 hP hS
set_option maxRecDepth 10000 in
theorem kX8_appendFour_24 {S1 : CS} {M : CS} {x1 : Int32} {H : Heap} {locs : List Loc} {ls : Array Slot} (X : gX p s m args c cX8_appendFour 2 RX8 (kR kTab kA)) (hret : gRetV p l e (rmL 2 0 0) s m args below meth c cX8_appendFour (cΩ ca) (cP dC dI cg kA ca) Q S1) (hf : fX8_appendFour_24 M x1 = some S1) (hP : (cP dC dI cg kA ca) M s H) (hS : va_S (Fr (cΩ ca) s.heap.size) s.heap H locs) (hl : lv_has ls 2 [(0, .ref (ca 1)), (1, .int x1)]) : W p l e (rmL 2 0 0) s m args below meth c H locs 0 0 Q (F0 m 24 ls []) := by
  have hx := X.hx
  have hb := X.hb
  have hown := X.hown
  have hts := X.hts
  rw [fX8_appendFour_24] at hf
  refine lv_aload_n hx hb dX8_appendFour_24 rfl (lv_at hl 0 rfl) ?_
  refine lv_iload_n hx hb dX8_appendFour_25 rfl (lv_at hl 1 rfl) ?_
  obtain ⟨q, hc, hf⟩ := bd hf
  refine gCallVV X cOK rfl (vX8_append hc) gRX8_X8_append hdX8_append rfl ⟨by decide, by decide⟩ hP hS (cr_rec hP (rfl : kc 1 = 1) rfl cw1 rfl) hl.1 (Nat.le_of_ble_eq_true rfl) ⟨Nat.zero_le _, Nat.zero_le _⟩ dX8_appendFour_26 (As := [.int x1]) (rest := []) rfl (fun H locs hP hS => ?_)
  exact kX8_appendFour_29 X hret hf hP hS (lv_sub hl [0] rfl)
set_option maxRecDepth 10000 in
theorem kX8_appendFour_16 {S1 : CS} {M : CS} {x1 : Int32} {H : Heap} {locs : List Loc} {ls : Array Slot} (X : gX p s m args c cX8_appendFour 2 RX8 (kR kTab kA)) (hret : gRetV p l e (rmL 2 0 0) s m args below meth c cX8_appendFour (cΩ ca) (cP dC dI cg kA ca) Q S1) (hf : fX8_appendFour_16 M x1 = some S1) (hP : (cP dC dI cg kA ca) M s H) (hS : va_S (Fr (cΩ ca) s.heap.size) s.heap H locs) (hl : lv_has ls 2 [(0, .ref (ca 1)), (1, .int x1)]) : W p l e (rmL 2 0 0) s m args below meth c H locs 0 0 Q (F0 m 16 ls []) := by
  have hx := X.hx
  have hb := X.hb
  have hown := X.hown
  have hts := X.hts
  rw [fX8_appendFour_16] at hf
  refine lv_aload_n hx hb dX8_appendFour_16 rfl (lv_at hl 0 rfl) ?_
  refine lv_iload_n hx hb dX8_appendFour_17 rfl (lv_at hl 1 rfl) ?_
  refine lv_bipush (v := 8) hx hb dX8_appendFour_18 (by decide) ?_
  refine lv_ishr hx hb dX8_appendFour_20 ?_
  obtain ⟨q, hc, hf⟩ := bd hf
  refine gCallVV X cOK rfl (vX8_append hc) gRX8_X8_append hdX8_append rfl ⟨by decide, by decide⟩ hP hS (cr_rec hP (rfl : kc 1 = 1) rfl cw1 rfl) hl.1 (Nat.le_of_ble_eq_true rfl) ⟨Nat.zero_le _, Nat.zero_le _⟩ dX8_appendFour_21 (As := [.int (x1 >>> (8 &&& 31))]) (rest := []) rfl (fun H locs hP hS => ?_)
  exact kX8_appendFour_24 X hret hf hP hS (lv_sub hl [0, 1] rfl)
set_option maxRecDepth 10000 in
theorem kX8_appendFour_8 {S1 : CS} {M : CS} {x1 : Int32} {H : Heap} {locs : List Loc} {ls : Array Slot} (X : gX p s m args c cX8_appendFour 2 RX8 (kR kTab kA)) (hret : gRetV p l e (rmL 2 0 0) s m args below meth c cX8_appendFour (cΩ ca) (cP dC dI cg kA ca) Q S1) (hf : fX8_appendFour_8 M x1 = some S1) (hP : (cP dC dI cg kA ca) M s H) (hS : va_S (Fr (cΩ ca) s.heap.size) s.heap H locs) (hl : lv_has ls 2 [(0, .ref (ca 1)), (1, .int x1)]) : W p l e (rmL 2 0 0) s m args below meth c H locs 0 0 Q (F0 m 8 ls []) := by
  have hx := X.hx
  have hb := X.hb
  have hown := X.hown
  have hts := X.hts
  rw [fX8_appendFour_8] at hf
  refine lv_aload_n hx hb dX8_appendFour_8 rfl (lv_at hl 0 rfl) ?_
  refine lv_iload_n hx hb dX8_appendFour_9 rfl (lv_at hl 1 rfl) ?_
  refine lv_bipush (v := 16) hx hb dX8_appendFour_10 (by decide) ?_
  refine lv_ishr hx hb dX8_appendFour_12 ?_
  obtain ⟨q, hc, hf⟩ := bd hf
  refine gCallVV X cOK rfl (vX8_append hc) gRX8_X8_append hdX8_append rfl ⟨by decide, by decide⟩ hP hS (cr_rec hP (rfl : kc 1 = 1) rfl cw1 rfl) hl.1 (Nat.le_of_ble_eq_true rfl) ⟨Nat.zero_le _, Nat.zero_le _⟩ dX8_appendFour_13 (As := [.int (x1 >>> (16 &&& 31))]) (rest := []) rfl (fun H locs hP hS => ?_)
  exact kX8_appendFour_16 X hret hf hP hS (lv_sub hl [0, 1] rfl)
set_option maxRecDepth 10000 in
theorem kX8_appendFour_0 {S1 : CS} {M : CS} {a1 : Int32} {H : Heap} {locs : List Loc} {ls : Array Slot} (X : gX p s m args c cX8_appendFour 2 RX8 (kR kTab kA)) (hret : gRetV p l e (rmL 2 0 0) s m args below meth c cX8_appendFour (cΩ ca) (cP dC dI cg kA ca) Q S1) (hf : fX8_appendFour_0 M a1 = some S1) (hP : (cP dC dI cg kA ca) M s H) (hS : va_S (Fr (cΩ ca) s.heap.size) s.heap H locs) (hl : lv_has ls 2 [(0, .ref (ca 1)), (1, .int a1)]) : W p l e (rmL 2 0 0) s m args below meth c H locs 0 0 Q (F0 m 0 ls []) := by
  have hx := X.hx
  have hb := X.hb
  have hown := X.hown
  have hts := X.hts
  rw [fX8_appendFour_0] at hf
  refine lv_aload_n hx hb dX8_appendFour_0 rfl (lv_at hl 0 rfl) ?_
  refine lv_iload_n hx hb dX8_appendFour_1 rfl (lv_at hl 1 rfl) ?_
  refine lv_bipush (v := 24) hx hb dX8_appendFour_2 (by decide) ?_
  refine lv_ishr hx hb dX8_appendFour_4 ?_
  obtain ⟨q, hc, hf⟩ := bd hf
  refine gCallVV X cOK rfl (vX8_append hc) gRX8_X8_append hdX8_append rfl ⟨by decide, by decide⟩ hP hS (cr_rec hP (rfl : kc 1 = 1) rfl cw1 rfl) hl.1 (Nat.le_of_ble_eq_true rfl) ⟨Nat.zero_le _, Nat.zero_le _⟩ dX8_appendFour_5 (As := [.int (a1 >>> (24 &&& 31))]) (rest := []) rfl (fun H locs hP hS => ?_)
  exact kX8_appendFour_8 X hret hf hP hS (lv_sub hl [0, 1] rfl)
theorem vX8_appendFour {l : Launch} {dC : Nat → ClassId} {dI : Nat → Nat → Nat} {cg : Nat → ClassId} {kA : String → Nat → Nat} {ca : Nat → Nat} {M S1 : CS} {a1 : Int32} (hf : fX8_appendFour M a1 = some S1) : gMetV l yX8_appendFour cX8_appendFour 2 2 (cΩ ca) (cP dC dI cg kA ca) (kR kTab kA) [.ref (ca 1), .int a1] M S1 := gEntryV (by decide) cOK (Nat.le_of_ble_eq_true rfl) (fun p e s m args below meth c Q ls X hP hS hret hl => 
  kX8_appendFour_0 X hret hf hP hS (lv_sub hl [0, 1] rfl))
set_option maxRecDepth 10000 in
theorem kX8_advance_199 {r : Int32} {S1 : CS} {M : CS} {H : Heap} {locs : List Loc} {ls : Array Slot} (X : gX p s m args c cX8_advance 2 RX8 (kR kTab kA)) (hret : gRetI p l e (rmL 2 0 0) s m args below meth c cX8_advance (cΩ ca) (cP dC dI cg kA ca) Q r S1) (hf : fX8_advance_199 M = some (r, S1)) (hP : (cP dC dI cg kA ca) M s H) (hS : va_S (Fr (cΩ ca) s.heap.size) s.heap H locs) (hl : lv_has ls 2 [(0, .ref (ca 1))]) : W p l e (rmL 2 0 0) s m args below meth c H locs 0 0 Q (F0 m 199 ls []) := by
  have hx := X.hx
  have hb := X.hb
  have hown := X.hown
  have hts := X.hts
  rw [fX8_advance_199] at hf
  refine lv_iconst (v := 1) hx hb dX8_advance_199 (by decide) ?_
  cases hf
  exact hret _ _ _ _ dX8_advance_200 hP hS
set_option maxRecDepth 10000 in
theorem kX8_advance_194 {r : Int32} {S1 : CS} {M : CS} {H : Heap} {locs : List Loc} {ls : Array Slot} (X : gX p s m args c cX8_advance 2 RX8 (kR kTab kA)) (hret : gRetI p l e (rmL 2 0 0) s m args below meth c cX8_advance (cΩ ca) (cP dC dI cg kA ca) Q r S1) (hf : fX8_advance_194 M = some (r, S1)) (hP : (cP dC dI cg kA ca) M s H) (hS : va_S (Fr (cΩ ca) s.heap.size) s.heap H locs) (hl : lv_has ls 2 [(0, .ref (ca 1))]) : W p l e (rmL 2 0 0) s m args below meth c H locs 0 0 Q (F0 m 194 ls []) := by
  have hx := X.hx
  have hb := X.hb
  have hown := X.hown
  have hts := X.hts
  rw [fX8_advance_194] at hf
  refine lv_aload_n hx hb dX8_advance_194 rfl (lv_at hl 0 rfl) ?_
  refine lv_iconst (v := 5) hx hb dX8_advance_195 (by decide) ?_
  refine cr_put (k := 4) X hP hS (rfl : kc 1 = 1) rfl cs1_4 rfl cinX8 tyX8_ok nmX8 (by decide) rfl rfl rfl rfl tw88 dX8_advance_196 (fun H locs hP hS => ?_)
  exact kX8_advance_199 X hret hf hP hS (lv_sub hl [0] rfl)
set_option maxRecDepth 10000 in
theorem kX8_advance_190 {r : Int32} {S1 : CS} {M : CS} {s0 : Int32} {H : Heap} {locs : List Loc} {ls : Array Slot} (X : gX p s m args c cX8_advance 2 RX8 (kR kTab kA)) (hret : gRetI p l e (rmL 2 0 0) s m args below meth c cX8_advance (cΩ ca) (cP dC dI cg kA ca) Q r S1) (hf : fX8_advance_190 M s0 = some (r, S1)) (hP : (cP dC dI cg kA ca) M s H) (hS : va_S (Fr (cΩ ca) s.heap.size) s.heap H locs) (hl : lv_has ls 2 [(0, .ref (ca 1))]) : W p l e (rmL 2 0 0) s m args below meth c H locs 0 0 Q (F0 m 190 ls [.int s0]) := by
  have hx := X.hx
  have hb := X.hb
  have hown := X.hown
  have hts := X.hts
  rw [fX8_advance_190] at hf
  refine lv_iconst (v := 4) hx hb dX8_advance_190 (by decide) ?_
  refine lv_icmp_le (tgt := 199) hx hb dX8_advance_191 (by decide) (fun c1 => ?_) (fun c1 => ?_)
  · exact kX8_advance_199 X hret (ifp c1 hf) hP hS (lv_sub hl [0] rfl)
  · exact kX8_advance_194 X hret (ifn c1 hf) hP hS (lv_sub hl [0] rfl)
set_option maxRecDepth 10000 in
theorem kX8_advance_186 {r : Int32} {S1 : CS} {M : CS} {H : Heap} {locs : List Loc} {ls : Array Slot} (X : gX p s m args c cX8_advance 2 RX8 (kR kTab kA)) (hret : gRetI p l e (rmL 2 0 0) s m args below meth c cX8_advance (cΩ ca) (cP dC dI cg kA ca) Q r S1) (hf : fX8_advance_186 M = some (r, S1)) (hP : (cP dC dI cg kA ca) M s H) (hS : va_S (Fr (cΩ ca) s.heap.size) s.heap H locs) (hl : lv_has ls 2 [(0, .ref (ca 1))]) : W p l e (rmL 2 0 0) s m args below meth c H locs 0 0 Q (F0 m 186 ls []) := by
  have hx := X.hx
  have hb := X.hb
  have hown := X.hown
  have hts := X.hts
  rw [fX8_advance_186] at hf
  refine lv_aload_n hx hb dX8_advance_186 rfl (lv_at hl 0 rfl) ?_
  obtain ⟨q, hc, hf⟩ := bd hf
  refine gCallVR X rfl (vX8_tokenLength hc) gRX8_X8_tokenLength hdX8_tokenLength rfl ⟨by decide, by decide⟩ (gB_blind cOK) (gB_at cOK X hP) (cr_rec hP (rfl : kc 1 = 1) rfl cw1 rfl) hl.1 (Nat.le_of_ble_eq_true rfl) ⟨Nat.zero_le _, Nat.zero_le _⟩ dX8_advance_187 (As := []) (rest := []) rfl ?_
  exact kX8_advance_190 X hret hf hP hS (lv_sub hl [0] rfl)
set_option maxRecDepth 10000 in
theorem kX8_advance_178 {r : Int32} {S1 : CS} {M : CS} {H : Heap} {locs : List Loc} {ls : Array Slot} (X : gX p s m args c cX8_advance 2 RX8 (kR kTab kA)) (hret : gRetI p l e (rmL 2 0 0) s m args below meth c cX8_advance (cΩ ca) (cP dC dI cg kA ca) Q r S1) (hf : fX8_advance_178 M = some (r, S1)) (hP : (cP dC dI cg kA ca) M s H) (hS : va_S (Fr (cΩ ca) s.heap.size) s.heap H locs) (hl : lv_has ls 2 [(0, .ref (ca 1))]) : W p l e (rmL 2 0 0) s m args below meth c H locs 0 0 Q (F0 m 178 ls []) := by
  have hx := X.hx
  have hb := X.hb
  have hown := X.hown
  have hts := X.hts
  rw [fX8_advance_178] at hf
  refine lv_aload_n hx hb dX8_advance_178 rfl (lv_at hl 0 rfl) ?_
  refine cr_get (k := 4) X hP (rfl : kc 1 = 1) rfl cv1_4 rfl cinX8 (by decide) rfl tw88 dX8_advance_179 ?_
  refine lv_iconst (v := 2) hx hb dX8_advance_182 (by decide) ?_
  refine lv_icmp_ne (tgt := 199) hx hb dX8_advance_183 (by decide) (fun c1 => ?_) (fun c1 => ?_)
  · exact kX8_advance_199 X hret (ifn c1 hf) hP hS (lv_sub hl [0] rfl)
  · exact kX8_advance_186 X hret (ifp c1 hf) hP hS (lv_sub hl [0] rfl)
set_option maxRecDepth 10000 in
theorem kX8_advance_173 {r : Int32} {S1 : CS} {M : CS} {s0 : Int32} {H : Heap} {locs : List Loc} {ls : Array Slot} (X : gX p s m args c cX8_advance 2 RX8 (kR kTab kA)) (hret : gRetI p l e (rmL 2 0 0) s m args below meth c cX8_advance (cΩ ca) (cP dC dI cg kA ca) Q r S1) (hf : fX8_advance_173 M s0 = some (r, S1)) (hP : (cP dC dI cg kA ca) M s H) (hS : va_S (Fr (cΩ ca) s.heap.size) s.heap H locs) (hl : lv_has ls 2 [(0, .ref (ca 1))]) : W p l e (rmL 2 0 0) s m args below meth c H locs 0 0 Q (F0 m 173 ls [.int s0]) := by
  have hx := X.hx
  have hb := X.hb
  have hown := X.hown
  have hts := X.hts
  rw [fX8_advance_173] at hf
  refine lv_bipush (v := 8) hx hb dX8_advance_173 (by decide) ?_
  refine lv_icmp_gt (tgt := 194) hx hb dX8_advance_175 (by decide) (fun c1 => ?_) (fun c1 => ?_)
  · exact kX8_advance_194 X hret (ifp c1 hf) hP hS (lv_sub hl [0] rfl)
  · exact kX8_advance_178 X hret (ifn c1 hf) hP hS (lv_sub hl [0] rfl)
set_option maxRecDepth 10000 in
theorem kX8_advance_169 {r : Int32} {S1 : CS} {M : CS} {H : Heap} {locs : List Loc} {ls : Array Slot} (X : gX p s m args c cX8_advance 2 RX8 (kR kTab kA)) (hret : gRetI p l e (rmL 2 0 0) s m args below meth c cX8_advance (cΩ ca) (cP dC dI cg kA ca) Q r S1) (hf : fX8_advance_169 M = some (r, S1)) (hP : (cP dC dI cg kA ca) M s H) (hS : va_S (Fr (cΩ ca) s.heap.size) s.heap H locs) (hl : lv_has ls 2 [(0, .ref (ca 1))]) : W p l e (rmL 2 0 0) s m args below meth c H locs 0 0 Q (F0 m 169 ls []) := by
  have hx := X.hx
  have hb := X.hb
  have hown := X.hown
  have hts := X.hts
  rw [fX8_advance_169] at hf
  refine lv_aload_n hx hb dX8_advance_169 rfl (lv_at hl 0 rfl) ?_
  obtain ⟨q, hc, hf⟩ := bd hf
  refine gCallVR X rfl (vX8_tokenLength hc) gRX8_X8_tokenLength hdX8_tokenLength rfl ⟨by decide, by decide⟩ (gB_blind cOK) (gB_at cOK X hP) (cr_rec hP (rfl : kc 1 = 1) rfl cw1 rfl) hl.1 (Nat.le_of_ble_eq_true rfl) ⟨Nat.zero_le _, Nat.zero_le _⟩ dX8_advance_170 (As := []) (rest := []) rfl ?_
  exact kX8_advance_173 X hret hf hP hS (lv_sub hl [0] rfl)
set_option maxRecDepth 10000 in
theorem kX8_advance_161 {r : Int32} {S1 : CS} {M : CS} {H : Heap} {locs : List Loc} {ls : Array Slot} (X : gX p s m args c cX8_advance 2 RX8 (kR kTab kA)) (hret : gRetI p l e (rmL 2 0 0) s m args below meth c cX8_advance (cΩ ca) (cP dC dI cg kA ca) Q r S1) (hf : fX8_advance_161 M = some (r, S1)) (hP : (cP dC dI cg kA ca) M s H) (hS : va_S (Fr (cΩ ca) s.heap.size) s.heap H locs) (hl : lv_has ls 2 [(0, .ref (ca 1))]) : W p l e (rmL 2 0 0) s m args below meth c H locs 0 0 Q (F0 m 161 ls []) := by
  have hx := X.hx
  have hb := X.hb
  have hown := X.hown
  have hts := X.hts
  rw [fX8_advance_161] at hf
  refine lv_aload_n hx hb dX8_advance_161 rfl (lv_at hl 0 rfl) ?_
  refine cr_get (k := 4) X hP (rfl : kc 1 = 1) rfl cv1_4 rfl cinX8 (by decide) rfl tw88 dX8_advance_162 ?_
  refine lv_iconst (v := 1) hx hb dX8_advance_165 (by decide) ?_
  refine lv_icmp_ne (tgt := 178) hx hb dX8_advance_166 (by decide) (fun c1 => ?_) (fun c1 => ?_)
  · exact kX8_advance_178 X hret (ifn c1 hf) hP hS (lv_sub hl [0] rfl)
  · exact kX8_advance_169 X hret (ifp c1 hf) hP hS (lv_sub hl [0] rfl)
set_option maxRecDepth 10000 in
theorem kX8_advance_158 {r : Int32} {S1 : CS} {K114 : CS → Int32 → Option (Int32 × CS)} {M : CS} {x1 : Int32} {H : Heap} {locs : List Loc} {ls : Array Slot} (X : gX p s m args c cX8_advance 2 RX8 (kR kTab kA)) (hret : gRetI p l e (rmL 2 0 0) s m args below meth c cX8_advance (cΩ ca) (cP dC dI cg kA ca) Q r S1) (hK114 : ∀ (M : CS) (x1 : Int32) (H : Heap) (locs : List Loc) (ls : Array Slot), K114 M x1 = some (r, S1) → (cP dC dI cg kA ca) M s H → va_S (Fr (cΩ ca) s.heap.size) s.heap H locs → lv_has ls 2 [(0, .ref (ca 1)), (1, .int x1)] → W p l e (rmL 2 0 0) s m args below meth c H locs 0 0 Q (F0 m 114 ls [])) (hf : fX8_advance_158 K114 M x1 = some (r, S1)) (hP : (cP dC dI cg kA ca) M s H) (hS : va_S (Fr (cΩ ca) s.heap.size) s.heap H locs) (hl : lv_has ls 2 [(0, .ref (ca 1)), (1, .int x1)]) : W p l e (rmL 2 0 0) s m args below meth c H locs 0 0 Q (F0 m 158 ls []) := by
  have hx := X.hx
  have hb := X.hb
  have hown := X.hown
  have hts := X.hts
  rw [fX8_advance_158] at hf
  refine lv_goto (tgt := 114) hx hb dX8_advance_158 (by decide) ?_
  exact hK114 _ _ _ _ _ hf hP hS (lv_sub hl [0, 1] rfl)
set_option maxRecDepth 10000 in
theorem kX8_advance_148 {r : Int32} {S1 : CS} {K114 : CS → Int32 → Option (Int32 × CS)} {M : CS} {x1 : Int32} {H : Heap} {locs : List Loc} {ls : Array Slot} (X : gX p s m args c cX8_advance 2 RX8 (kR kTab kA)) (hret : gRetI p l e (rmL 2 0 0) s m args below meth c cX8_advance (cΩ ca) (cP dC dI cg kA ca) Q r S1) (hK114 : ∀ (M : CS) (x1 : Int32) (H : Heap) (locs : List Loc) (ls : Array Slot), K114 M x1 = some (r, S1) → (cP dC dI cg kA ca) M s H → va_S (Fr (cΩ ca) s.heap.size) s.heap H locs → lv_has ls 2 [(0, .ref (ca 1)), (1, .int x1)] → W p l e (rmL 2 0 0) s m args below meth c H locs 0 0 Q (F0 m 114 ls [])) (hf : fX8_advance_148 K114 M x1 = some (r, S1)) (hP : (cP dC dI cg kA ca) M s H) (hS : va_S (Fr (cΩ ca) s.heap.size) s.heap H locs) (hl : lv_has ls 2 [(0, .ref (ca 1)), (1, .int x1)]) : W p l e (rmL 2 0 0) s m args below meth c H locs 0 0 Q (F0 m 148 ls []) := by
  have hx := X.hx
  have hb := X.hb
  have hown := X.hown
  have hts := X.hts
  rw [fX8_advance_148] at hf
  refine lv_aload_n hx hb dX8_advance_148 rfl (lv_at hl 0 rfl) ?_
  refine lv_dup hx hb dX8_advance_149 rfl ?_
  refine cr_get (k := 3) X hP (rfl : kc 1 = 1) rfl cv1_3 rfl cinX8 (by decide) rfl tw87 dX8_advance_150 ?_
  refine lv_iconst (v := 1) hx hb dX8_advance_153 (by decide) ?_
  refine lv_iadd hx hb dX8_advance_154 ?_
  refine cr_put (k := 3) X hP hS (rfl : kc 1 = 1) rfl cs1_3 rfl cinX8 tyX8_ok nmX8 (by decide) rfl rfl rfl rfl tw87 dX8_advance_155 (fun H locs hP hS => ?_)
  exact kX8_advance_158 X hret hK114 hf hP hS (lv_sub hl [0, 1] rfl)
set_option maxRecDepth 10000 in
theorem kX8_advance_141 {r : Int32} {S1 : CS} {K114 : CS → Int32 → Option (Int32 × CS)} {M : CS} {x1 : Int32} {s0 : Int32} {H : Heap} {locs : List Loc} {ls : Array Slot} (X : gX p s m args c cX8_advance 2 RX8 (kR kTab kA)) (hret : gRetI p l e (rmL 2 0 0) s m args below meth c cX8_advance (cΩ ca) (cP dC dI cg kA ca) Q r S1) (hK114 : ∀ (M : CS) (x1 : Int32) (H : Heap) (locs : List Loc) (ls : Array Slot), K114 M x1 = some (r, S1) → (cP dC dI cg kA ca) M s H → va_S (Fr (cΩ ca) s.heap.size) s.heap H locs → lv_has ls 2 [(0, .ref (ca 1)), (1, .int x1)] → W p l e (rmL 2 0 0) s m args below meth c H locs 0 0 Q (F0 m 114 ls [])) (hf : fX8_advance_141 K114 M x1 s0 = some (r, S1)) (hP : (cP dC dI cg kA ca) M s H) (hS : va_S (Fr (cΩ ca) s.heap.size) s.heap H locs) (hl : lv_has ls 2 [(0, .ref (ca 1)), (1, .int x1)]) : W p l e (rmL 2 0 0) s m args below meth c H locs 0 0 Q (F0 m 141 ls [.int s0]) := by
  have hx := X.hx
  have hb := X.hb
  have hown := X.hown
  have hts := X.hts
  rw [fX8_advance_141] at hf
  refine lv_aload_n hx hb dX8_advance_141 rfl (lv_at hl 0 rfl) ?_
  refine cr_get (k := 4) X hP (rfl : kc 1 = 1) rfl cv1_4 rfl cinX8 (by decide) rfl tw88 dX8_advance_142 ?_
  refine lv_icmp_ne (tgt := 161) hx hb dX8_advance_145 (by decide) (fun c1 => ?_) (fun c1 => ?_)
  · exact kX8_advance_161 X hret (ifn c1 hf) hP hS (lv_sub hl [0] rfl)
  · exact kX8_advance_148 X hret hK114 (ifp c1 hf) hP hS (lv_sub hl [0, 1] rfl)
set_option maxRecDepth 10000 in
theorem kX8_advance_129 {r : Int32} {S1 : CS} {K114 : CS → Int32 → Option (Int32 × CS)} {M : CS} {x1 : Int32} {H : Heap} {locs : List Loc} {ls : Array Slot} (X : gX p s m args c cX8_advance 2 RX8 (kR kTab kA)) (hret : gRetI p l e (rmL 2 0 0) s m args below meth c cX8_advance (cΩ ca) (cP dC dI cg kA ca) Q r S1) (hK114 : ∀ (M : CS) (x1 : Int32) (H : Heap) (locs : List Loc) (ls : Array Slot), K114 M x1 = some (r, S1) → (cP dC dI cg kA ca) M s H → va_S (Fr (cΩ ca) s.heap.size) s.heap H locs → lv_has ls 2 [(0, .ref (ca 1)), (1, .int x1)] → W p l e (rmL 2 0 0) s m args below meth c H locs 0 0 Q (F0 m 114 ls [])) (hf : fX8_advance_129 K114 M x1 = some (r, S1)) (hP : (cP dC dI cg kA ca) M s H) (hS : va_S (Fr (cΩ ca) s.heap.size) s.heap H locs) (hl : lv_has ls 2 [(0, .ref (ca 1)), (1, .int x1)]) : W p l e (rmL 2 0 0) s m args below meth c H locs 0 0 Q (F0 m 129 ls []) := by
  have hx := X.hx
  have hb := X.hb
  have hown := X.hown
  have hts := X.hts
  rw [fX8_advance_129] at hf
  refine lv_aload_n hx hb dX8_advance_129 rfl (lv_at hl 0 rfl) ?_
  refine cr_get (k := 0) X hP (rfl : kc 1 = 1) rfl cv1_0 rfl cinX8 (by decide) rfl tw81 dX8_advance_130 ?_
  refine lv_aload_n hx hb dX8_advance_133 rfl (lv_at hl 0 rfl) ?_
  refine cr_get (k := 3) X hP (rfl : kc 1 = 1) rfl cv1_3 rfl cinX8 (by decide) rfl tw87 dX8_advance_134 ?_
  obtain ⟨g1, hf⟩ := gd hf
  refine cr_bald X hP (rfl : kc 2 = 2) rfl (fun _ => rfl) g1 dX8_advance_137 ?_
  obtain ⟨q, hc, hf⟩ := bd hf
  refine gCallSR X rfl (vX8_kindOf hc) gRX8_X8_kindOf hdX8_kindOf rfl ⟨by decide, by decide⟩ (gB_blind cOK) (gB_at cOK X hP) hl.1 (Nat.le_of_ble_eq_true rfl) ⟨Nat.zero_le _, Nat.zero_le _⟩ dX8_advance_138 (As := [.int (M.1 2 (M.1 1 3).toNatClampNeg)]) (rest := []) rfl ?_
  exact kX8_advance_141 X hret hK114 hf hP hS (lv_sub hl [0, 1] rfl)
set_option maxRecDepth 10000 in
theorem kX8_advance_118 {r : Int32} {S1 : CS} {K114 : CS → Int32 → Option (Int32 × CS)} {M : CS} {x1 : Int32} {H : Heap} {locs : List Loc} {ls : Array Slot} (X : gX p s m args c cX8_advance 2 RX8 (kR kTab kA)) (hret : gRetI p l e (rmL 2 0 0) s m args below meth c cX8_advance (cΩ ca) (cP dC dI cg kA ca) Q r S1) (hK114 : ∀ (M : CS) (x1 : Int32) (H : Heap) (locs : List Loc) (ls : Array Slot), K114 M x1 = some (r, S1) → (cP dC dI cg kA ca) M s H → va_S (Fr (cΩ ca) s.heap.size) s.heap H locs → lv_has ls 2 [(0, .ref (ca 1)), (1, .int x1)] → W p l e (rmL 2 0 0) s m args below meth c H locs 0 0 Q (F0 m 114 ls [])) (hf : fX8_advance_118 K114 M x1 = some (r, S1)) (hP : (cP dC dI cg kA ca) M s H) (hS : va_S (Fr (cΩ ca) s.heap.size) s.heap H locs) (hl : lv_has ls 2 [(0, .ref (ca 1)), (1, .int x1)]) : W p l e (rmL 2 0 0) s m args below meth c H locs 0 0 Q (F0 m 118 ls []) := by
  have hx := X.hx
  have hb := X.hb
  have hown := X.hown
  have hts := X.hts
  rw [fX8_advance_118] at hf
  refine lv_aload_n hx hb dX8_advance_118 rfl (lv_at hl 0 rfl) ?_
  refine cr_get (k := 3) X hP (rfl : kc 1 = 1) rfl cv1_3 rfl cinX8 (by decide) rfl tw87 dX8_advance_119 ?_
  refine lv_aload_n hx hb dX8_advance_122 rfl (lv_at hl 0 rfl) ?_
  refine cr_get (k := 2) X hP (rfl : kc 1 = 1) rfl cv1_2 rfl cinX8 (by decide) rfl tw86 dX8_advance_123 ?_
  refine lv_icmp_ge (tgt := 161) hx hb dX8_advance_126 (by decide) (fun c1 => ?_) (fun c1 => ?_)
  · exact kX8_advance_161 X hret (ifp c1 hf) hP hS (lv_sub hl [0] rfl)
  · exact kX8_advance_129 X hret hK114 (ifn c1 hf) hP hS (lv_sub hl [0, 1] rfl)
set_option maxRecDepth 10000 in
theorem kX8_advance_114 {r : Int32} {S1 : CS} (X : gX p s m args c cX8_advance 2 RX8 (kR kTab kA)) (hret : gRetI p l e (rmL 2 0 0) s m args below meth c cX8_advance (cΩ ca) (cP dC dI cg kA ca) Q r S1) : ∀ (n : Nat) (M : CS) (x1 : Int32) (H : Heap) (locs : List Loc) (ls : Array Slot), fX8_advance_114 n M x1 = some (r, S1) → (cP dC dI cg kA ca) M s H → va_S (Fr (cΩ ca) s.heap.size) s.heap H locs → lv_has ls 2 [(0, .ref (ca 1)), (1, .int x1)] → W p l e (rmL 2 0 0) s m args below meth c H locs 0 0 Q (F0 m 114 ls []) := by
  intro n
  induction n with
  | zero => intro M x1 H locs ls hf; cases hf
  | succ k ih =>
    intro M x1 H locs ls hf hP hS hl
    have hx := X.hx
    have hb := X.hb
    have hown := X.hown
    have hts := X.hts
    rw [fX8_advance_114] at hf
    try dsimp only at hf
    refine lv_iload_n hx hb dX8_advance_114 rfl (lv_at hl 1 rfl) ?_
    refine lv_if_eq (tgt := 161) hx hb dX8_advance_115 (by decide) (fun c1 => ?_) (fun c1 => ?_)
    · exact kX8_advance_161 X hret (ifp c1 hf) hP hS (lv_sub hl [0] rfl)
    · exact kX8_advance_118 X hret ih (ifn c1 hf) hP hS (lv_sub hl [0, 1] rfl)
set_option maxRecDepth 10000 in
theorem kX8_advance_113 {r : Int32} {S1 : CS} {M : CS} {s0 : Int32} {H : Heap} {locs : List Loc} {ls : Array Slot} (X : gX p s m args c cX8_advance 2 RX8 (kR kTab kA)) (hret : gRetI p l e (rmL 2 0 0) s m args below meth c cX8_advance (cΩ ca) (cP dC dI cg kA ca) Q r S1) (hf : fX8_advance_113 M s0 = some (r, S1)) (hP : (cP dC dI cg kA ca) M s H) (hS : va_S (Fr (cΩ ca) s.heap.size) s.heap H locs) (hl : lv_has ls 2 [(0, .ref (ca 1))]) : W p l e (rmL 2 0 0) s m args below meth c H locs 0 0 Q (F0 m 113 ls [.int s0]) := by
  have hx := X.hx
  have hb := X.hb
  have hown := X.hown
  have hts := X.hts
  rw [fX8_advance_113] at hf
  refine lv_istore_n (lv' := [(1, .int s0), (0, .ref (ca 1))]) hx hb dX8_advance_113 rfl hl (by decide) rfl (fun ls hl => ?_)
  exact kX8_advance_114 X hret FU _ _ _ _ _ hf hP hS (lv_sub hl [1, 0] rfl)
set_option maxRecDepth 10000 in
theorem kX8_advance_108 {r : Int32} {S1 : CS} {M : CS} {H : Heap} {locs : List Loc} {ls : Array Slot} (X : gX p s m args c cX8_advance 2 RX8 (kR kTab kA)) (hret : gRetI p l e (rmL 2 0 0) s m args below meth c cX8_advance (cΩ ca) (cP dC dI cg kA ca) Q r S1) (hf : fX8_advance_108 M = some (r, S1)) (hP : (cP dC dI cg kA ca) M s H) (hS : va_S (Fr (cΩ ca) s.heap.size) s.heap H locs) (hl : lv_has ls 2 [(0, .ref (ca 1))]) : W p l e (rmL 2 0 0) s m args below meth c H locs 0 0 Q (F0 m 108 ls []) := by
  have hx := X.hx
  have hb := X.hb
  have hown := X.hown
  have hts := X.hts
  rw [fX8_advance_108] at hf
  refine lv_iconst (v := 1) hx hb dX8_advance_108 (by decide) ?_
  refine lv_goto (tgt := 113) hx hb dX8_advance_109 (by decide) ?_
  exact kX8_advance_113 X hret hf hP hS (lv_sub hl [0] rfl)
set_option maxRecDepth 10000 in
theorem kX8_advance_112 {r : Int32} {S1 : CS} {M : CS} {H : Heap} {locs : List Loc} {ls : Array Slot} (X : gX p s m args c cX8_advance 2 RX8 (kR kTab kA)) (hret : gRetI p l e (rmL 2 0 0) s m args below meth c cX8_advance (cΩ ca) (cP dC dI cg kA ca) Q r S1) (hf : fX8_advance_112 M = some (r, S1)) (hP : (cP dC dI cg kA ca) M s H) (hS : va_S (Fr (cΩ ca) s.heap.size) s.heap H locs) (hl : lv_has ls 2 [(0, .ref (ca 1))]) : W p l e (rmL 2 0 0) s m args below meth c H locs 0 0 Q (F0 m 112 ls []) := by
  have hx := X.hx
  have hb := X.hb
  have hown := X.hown
  have hts := X.hts
  rw [fX8_advance_112] at hf
  refine lv_iconst (v := 0) hx hb dX8_advance_112 (by decide) ?_
  exact kX8_advance_113 X hret hf hP hS (lv_sub hl [0] rfl)
set_option maxRecDepth 10000 in
theorem kX8_advance_100 {r : Int32} {S1 : CS} {M : CS} {H : Heap} {locs : List Loc} {ls : Array Slot} (X : gX p s m args c cX8_advance 2 RX8 (kR kTab kA)) (hret : gRetI p l e (rmL 2 0 0) s m args below meth c cX8_advance (cΩ ca) (cP dC dI cg kA ca) Q r S1) (hf : fX8_advance_100 M = some (r, S1)) (hP : (cP dC dI cg kA ca) M s H) (hS : va_S (Fr (cΩ ca) s.heap.size) s.heap H locs) (hl : lv_has ls 2 [(0, .ref (ca 1))]) : W p l e (rmL 2 0 0) s m args below meth c H locs 0 0 Q (F0 m 100 ls []) := by
  have hx := X.hx
  have hb := X.hb
  have hown := X.hown
  have hts := X.hts
  rw [fX8_advance_100] at hf
  refine lv_aload_n hx hb dX8_advance_100 rfl (lv_at hl 0 rfl) ?_
  refine cr_get (k := 4) X hP (rfl : kc 1 = 1) rfl cv1_4 rfl cinX8 (by decide) rfl tw88 dX8_advance_101 ?_
  refine lv_iconst (v := 2) hx hb dX8_advance_104 (by decide) ?_
  refine lv_icmp_ne (tgt := 112) hx hb dX8_advance_105 (by decide) (fun c1 => ?_) (fun c1 => ?_)
  · exact kX8_advance_112 X hret (ifn c1 hf) hP hS (lv_sub hl [0] rfl)
  · exact kX8_advance_108 X hret (ifp c1 hf) hP hS (lv_sub hl [0] rfl)
set_option maxRecDepth 10000 in
theorem kX8_advance_92 {r : Int32} {S1 : CS} {M : CS} {H : Heap} {locs : List Loc} {ls : Array Slot} (X : gX p s m args c cX8_advance 2 RX8 (kR kTab kA)) (hret : gRetI p l e (rmL 2 0 0) s m args below meth c cX8_advance (cΩ ca) (cP dC dI cg kA ca) Q r S1) (hf : fX8_advance_92 M = some (r, S1)) (hP : (cP dC dI cg kA ca) M s H) (hS : va_S (Fr (cΩ ca) s.heap.size) s.heap H locs) (hl : lv_has ls 2 [(0, .ref (ca 1))]) : W p l e (rmL 2 0 0) s m args below meth c H locs 0 0 Q (F0 m 92 ls []) := by
  have hx := X.hx
  have hb := X.hb
  have hown := X.hown
  have hts := X.hts
  rw [fX8_advance_92] at hf
  refine lv_aload_n hx hb dX8_advance_92 rfl (lv_at hl 0 rfl) ?_
  refine cr_get (k := 4) X hP (rfl : kc 1 = 1) rfl cv1_4 rfl cinX8 (by decide) rfl tw88 dX8_advance_93 ?_
  refine lv_iconst (v := 1) hx hb dX8_advance_96 (by decide) ?_
  refine lv_icmp_eq (tgt := 108) hx hb dX8_advance_97 (by decide) (fun c1 => ?_) (fun c1 => ?_)
  · exact kX8_advance_108 X hret (ifp c1 hf) hP hS (lv_sub hl [0] rfl)
  · exact kX8_advance_100 X hret (ifn c1 hf) hP hS (lv_sub hl [0] rfl)
set_option maxRecDepth 10000 in
theorem kX8_advance_82 {r : Int32} {S1 : CS} {M : CS} {H : Heap} {locs : List Loc} {ls : Array Slot} (X : gX p s m args c cX8_advance 2 RX8 (kR kTab kA)) (hret : gRetI p l e (rmL 2 0 0) s m args below meth c cX8_advance (cΩ ca) (cP dC dI cg kA ca) Q r S1) (hf : fX8_advance_82 M = some (r, S1)) (hP : (cP dC dI cg kA ca) M s H) (hS : va_S (Fr (cΩ ca) s.heap.size) s.heap H locs) (hl : lv_has ls 2 [(0, .ref (ca 1))]) : W p l e (rmL 2 0 0) s m args below meth c H locs 0 0 Q (F0 m 82 ls []) := by
  have hx := X.hx
  have hb := X.hb
  have hown := X.hown
  have hts := X.hts
  rw [fX8_advance_82] at hf
  refine lv_aload_n hx hb dX8_advance_82 rfl (lv_at hl 0 rfl) ?_
  refine lv_dup hx hb dX8_advance_83 rfl ?_
  refine cr_get (k := 3) X hP (rfl : kc 1 = 1) rfl cv1_3 rfl cinX8 (by decide) rfl tw87 dX8_advance_84 ?_
  refine lv_iconst (v := 1) hx hb dX8_advance_87 (by decide) ?_
  refine lv_iadd hx hb dX8_advance_88 ?_
  refine cr_put (k := 3) X hP hS (rfl : kc 1 = 1) rfl cs1_3 rfl cinX8 tyX8_ok nmX8 (by decide) rfl rfl rfl rfl tw87 dX8_advance_89 (fun H locs hP hS => ?_)
  exact kX8_advance_92 X hret hf hP hS (lv_sub hl [0] rfl)
set_option maxRecDepth 10000 in
theorem kX8_advance_79 {r : Int32} {S1 : CS} {M : CS} {s0 : Int32} {H : Heap} {locs : List Loc} {ls : Array Slot} (X : gX p s m args c cX8_advance 2 RX8 (kR kTab kA)) (hret : gRetI p l e (rmL 2 0 0) s m args below meth c cX8_advance (cΩ ca) (cP dC dI cg kA ca) Q r S1) (hf : fX8_advance_79 M s0 = some (r, S1)) (hP : (cP dC dI cg kA ca) M s H) (hS : va_S (Fr (cΩ ca) s.heap.size) s.heap H locs) (hl : lv_has ls 2 [(0, .ref (ca 1))]) : W p l e (rmL 2 0 0) s m args below meth c H locs 0 0 Q (F0 m 79 ls [.int s0, .ref (ca 1)]) := by
  have hx := X.hx
  have hb := X.hb
  have hown := X.hown
  have hts := X.hts
  rw [fX8_advance_79] at hf
  refine cr_put (k := 4) X hP hS (rfl : kc 1 = 1) rfl cs1_4 rfl cinX8 tyX8_ok nmX8 (by decide) rfl rfl rfl rfl tw88 dX8_advance_79 (fun H locs hP hS => ?_)
  exact kX8_advance_82 X hret hf hP hS (lv_sub hl [0] rfl)
set_option maxRecDepth 10000 in
theorem kX8_advance_66 {r : Int32} {S1 : CS} {M : CS} {H : Heap} {locs : List Loc} {ls : Array Slot} (X : gX p s m args c cX8_advance 2 RX8 (kR kTab kA)) (hret : gRetI p l e (rmL 2 0 0) s m args below meth c cX8_advance (cΩ ca) (cP dC dI cg kA ca) Q r S1) (hf : fX8_advance_66 M = some (r, S1)) (hP : (cP dC dI cg kA ca) M s H) (hS : va_S (Fr (cΩ ca) s.heap.size) s.heap H locs) (hl : lv_has ls 2 [(0, .ref (ca 1))]) : W p l e (rmL 2 0 0) s m args below meth c H locs 0 0 Q (F0 m 66 ls []) := by
  have hx := X.hx
  have hb := X.hb
  have hown := X.hown
  have hts := X.hts
  rw [fX8_advance_66] at hf
  refine lv_aload_n hx hb dX8_advance_66 rfl (lv_at hl 0 rfl) ?_
  refine lv_aload_n hx hb dX8_advance_67 rfl (lv_at hl 0 rfl) ?_
  refine cr_get (k := 0) X hP (rfl : kc 1 = 1) rfl cv1_0 rfl cinX8 (by decide) rfl tw81 dX8_advance_68 ?_
  refine lv_aload_n hx hb dX8_advance_71 rfl (lv_at hl 0 rfl) ?_
  refine cr_get (k := 3) X hP (rfl : kc 1 = 1) rfl cv1_3 rfl cinX8 (by decide) rfl tw87 dX8_advance_72 ?_
  obtain ⟨g1, hf⟩ := gd hf
  refine cr_bald X hP (rfl : kc 2 = 2) rfl (fun _ => rfl) g1 dX8_advance_75 ?_
  obtain ⟨q, hc, hf⟩ := bd hf
  refine gCallSR X rfl (vX8_kindOf hc) gRX8_X8_kindOf hdX8_kindOf rfl ⟨by decide, by decide⟩ (gB_blind cOK) (gB_at cOK X hP) hl.1 (Nat.le_of_ble_eq_true rfl) ⟨Nat.zero_le _, Nat.zero_le _⟩ dX8_advance_76 (As := [.int (M.1 2 (M.1 1 3).toNatClampNeg)]) (rest := [.ref (ca 1)]) rfl ?_
  exact kX8_advance_79 X hret hf hP hS (lv_sub hl [0] rfl)
set_option maxRecDepth 10000 in
theorem kX8_advance_64 {r : Int32} {S1 : CS} {M : CS} {H : Heap} {locs : List Loc} {ls : Array Slot} (X : gX p s m args c cX8_advance 2 RX8 (kR kTab kA)) (hret : gRetI p l e (rmL 2 0 0) s m args below meth c cX8_advance (cΩ ca) (cP dC dI cg kA ca) Q r S1) (hf : fX8_advance_64 M = some (r, S1)) (hP : (cP dC dI cg kA ca) M s H) (hS : va_S (Fr (cΩ ca) s.heap.size) s.heap H locs) (hl : lv_has ls 2 [(0, .ref (ca 1))]) : W p l e (rmL 2 0 0) s m args below meth c H locs 0 0 Q (F0 m 64 ls []) := by
  have hx := X.hx
  have hb := X.hb
  have hown := X.hown
  have hts := X.hts
  rw [fX8_advance_64] at hf
  refine lv_iconst (v := 0) hx hb dX8_advance_64 (by decide) ?_
  cases hf
  exact hret _ _ _ _ dX8_advance_65 hP hS
set_option maxRecDepth 10000 in
theorem kX8_advance_59 {r : Int32} {S1 : CS} {M : CS} {H : Heap} {locs : List Loc} {ls : Array Slot} (X : gX p s m args c cX8_advance 2 RX8 (kR kTab kA)) (hret : gRetI p l e (rmL 2 0 0) s m args below meth c cX8_advance (cΩ ca) (cP dC dI cg kA ca) Q r S1) (hf : fX8_advance_59 M = some (r, S1)) (hP : (cP dC dI cg kA ca) M s H) (hS : va_S (Fr (cΩ ca) s.heap.size) s.heap H locs) (hl : lv_has ls 2 [(0, .ref (ca 1))]) : W p l e (rmL 2 0 0) s m args below meth c H locs 0 0 Q (F0 m 59 ls []) := by
  have hx := X.hx
  have hb := X.hb
  have hown := X.hown
  have hts := X.hts
  rw [fX8_advance_59] at hf
  refine lv_aload_n hx hb dX8_advance_59 rfl (lv_at hl 0 rfl) ?_
  refine lv_iconst (v := 0) hx hb dX8_advance_60 (by decide) ?_
  refine cr_put (k := 4) X hP hS (rfl : kc 1 = 1) rfl cs1_4 rfl cinX8 tyX8_ok nmX8 (by decide) rfl rfl rfl rfl tw88 dX8_advance_61 (fun H locs hP hS => ?_)
  exact kX8_advance_64 X hret hf hP hS (lv_sub hl [0] rfl)
set_option maxRecDepth 10000 in
theorem kX8_advance_48 {r : Int32} {S1 : CS} {M : CS} {H : Heap} {locs : List Loc} {ls : Array Slot} (X : gX p s m args c cX8_advance 2 RX8 (kR kTab kA)) (hret : gRetI p l e (rmL 2 0 0) s m args below meth c cX8_advance (cΩ ca) (cP dC dI cg kA ca) Q r S1) (hf : fX8_advance_48 M = some (r, S1)) (hP : (cP dC dI cg kA ca) M s H) (hS : va_S (Fr (cΩ ca) s.heap.size) s.heap H locs) (hl : lv_has ls 2 [(0, .ref (ca 1))]) : W p l e (rmL 2 0 0) s m args below meth c H locs 0 0 Q (F0 m 48 ls []) := by
  have hx := X.hx
  have hb := X.hb
  have hown := X.hown
  have hts := X.hts
  rw [fX8_advance_48] at hf
  refine lv_aload_n hx hb dX8_advance_48 rfl (lv_at hl 0 rfl) ?_
  refine cr_get (k := 3) X hP (rfl : kc 1 = 1) rfl cv1_3 rfl cinX8 (by decide) rfl tw87 dX8_advance_49 ?_
  refine lv_aload_n hx hb dX8_advance_52 rfl (lv_at hl 0 rfl) ?_
  refine cr_get (k := 2) X hP (rfl : kc 1 = 1) rfl cv1_2 rfl cinX8 (by decide) rfl tw86 dX8_advance_53 ?_
  refine lv_icmp_lt (tgt := 66) hx hb dX8_advance_56 (by decide) (fun c1 => ?_) (fun c1 => ?_)
  · exact kX8_advance_66 X hret (ifp c1 hf) hP hS (lv_sub hl [0] rfl)
  · exact kX8_advance_59 X hret (ifn c1 hf) hP hS (lv_sub hl [0] rfl)
set_option maxRecDepth 10000 in
theorem kX8_advance_40 {r : Int32} {S1 : CS} {M : CS} {H : Heap} {locs : List Loc} {ls : Array Slot} (X : gX p s m args c cX8_advance 2 RX8 (kR kTab kA)) (hret : gRetI p l e (rmL 2 0 0) s m args below meth c cX8_advance (cΩ ca) (cP dC dI cg kA ca) Q r S1) (hf : fX8_advance_40 M = some (r, S1)) (hP : (cP dC dI cg kA ca) M s H) (hS : va_S (Fr (cΩ ca) s.heap.size) s.heap H locs) (hl : lv_has ls 2 [(0, .ref (ca 1))]) : W p l e (rmL 2 0 0) s m args below meth c H locs 0 0 Q (F0 m 40 ls []) := by
  have hx := X.hx
  have hb := X.hb
  have hown := X.hown
  have hts := X.hts
  rw [fX8_advance_40] at hf
  refine lv_aload_n hx hb dX8_advance_40 rfl (lv_at hl 0 rfl) ?_
  refine lv_aload_n hx hb dX8_advance_41 rfl (lv_at hl 0 rfl) ?_
  refine cr_get (k := 3) X hP (rfl : kc 1 = 1) rfl cv1_3 rfl cinX8 (by decide) rfl tw87 dX8_advance_42 ?_
  refine cr_put (k := 5) X hP hS (rfl : kc 1 = 1) rfl cs1_5 rfl cinX8 tyX8_ok nmX8 (by decide) rfl rfl rfl rfl tw89 dX8_advance_45 (fun H locs hP hS => ?_)
  exact kX8_advance_48 X hret hf hP hS (lv_sub hl [0] rfl)
set_option maxRecDepth 10000 in
theorem kX8_advance_37 {r : Int32} {S1 : CS} {K0 : CS → Option (Int32 × CS)} {M : CS} {H : Heap} {locs : List Loc} {ls : Array Slot} (X : gX p s m args c cX8_advance 2 RX8 (kR kTab kA)) (hret : gRetI p l e (rmL 2 0 0) s m args below meth c cX8_advance (cΩ ca) (cP dC dI cg kA ca) Q r S1) (hK0 : ∀ (M : CS) (H : Heap) (locs : List Loc) (ls : Array Slot), K0 M = some (r, S1) → (cP dC dI cg kA ca) M s H → va_S (Fr (cΩ ca) s.heap.size) s.heap H locs → lv_has ls 2 [(0, .ref (ca 1))] → W p l e (rmL 2 0 0) s m args below meth c H locs 0 0 Q (F0 m 0 ls [])) (hf : fX8_advance_37 K0 M = some (r, S1)) (hP : (cP dC dI cg kA ca) M s H) (hS : va_S (Fr (cΩ ca) s.heap.size) s.heap H locs) (hl : lv_has ls 2 [(0, .ref (ca 1))]) : W p l e (rmL 2 0 0) s m args below meth c H locs 0 0 Q (F0 m 37 ls []) := by
  have hx := X.hx
  have hb := X.hb
  have hown := X.hown
  have hts := X.hts
  rw [fX8_advance_37] at hf
  refine lv_goto (tgt := 0) hx hb dX8_advance_37 (by decide) ?_
  exact hK0 _ _ _ _ hf hP hS (lv_sub hl [0] rfl)
set_option maxRecDepth 10000 in
theorem kX8_advance_27 {r : Int32} {S1 : CS} {K0 : CS → Option (Int32 × CS)} {M : CS} {H : Heap} {locs : List Loc} {ls : Array Slot} (X : gX p s m args c cX8_advance 2 RX8 (kR kTab kA)) (hret : gRetI p l e (rmL 2 0 0) s m args below meth c cX8_advance (cΩ ca) (cP dC dI cg kA ca) Q r S1) (hK0 : ∀ (M : CS) (H : Heap) (locs : List Loc) (ls : Array Slot), K0 M = some (r, S1) → (cP dC dI cg kA ca) M s H → va_S (Fr (cΩ ca) s.heap.size) s.heap H locs → lv_has ls 2 [(0, .ref (ca 1))] → W p l e (rmL 2 0 0) s m args below meth c H locs 0 0 Q (F0 m 0 ls [])) (hf : fX8_advance_27 K0 M = some (r, S1)) (hP : (cP dC dI cg kA ca) M s H) (hS : va_S (Fr (cΩ ca) s.heap.size) s.heap H locs) (hl : lv_has ls 2 [(0, .ref (ca 1))]) : W p l e (rmL 2 0 0) s m args below meth c H locs 0 0 Q (F0 m 27 ls []) := by
  have hx := X.hx
  have hb := X.hb
  have hown := X.hown
  have hts := X.hts
  rw [fX8_advance_27] at hf
  refine lv_aload_n hx hb dX8_advance_27 rfl (lv_at hl 0 rfl) ?_
  refine lv_dup hx hb dX8_advance_28 rfl ?_
  refine cr_get (k := 3) X hP (rfl : kc 1 = 1) rfl cv1_3 rfl cinX8 (by decide) rfl tw87 dX8_advance_29 ?_
  refine lv_iconst (v := 1) hx hb dX8_advance_32 (by decide) ?_
  refine lv_iadd hx hb dX8_advance_33 ?_
  refine cr_put (k := 3) X hP hS (rfl : kc 1 = 1) rfl cs1_3 rfl cinX8 tyX8_ok nmX8 (by decide) rfl rfl rfl rfl tw87 dX8_advance_34 (fun H locs hP hS => ?_)
  exact kX8_advance_37 X hret hK0 hf hP hS (lv_sub hl [0] rfl)
set_option maxRecDepth 10000 in
theorem kX8_advance_23 {r : Int32} {S1 : CS} {K0 : CS → Option (Int32 × CS)} {M : CS} {s0 : Int32} {H : Heap} {locs : List Loc} {ls : Array Slot} (X : gX p s m args c cX8_advance 2 RX8 (kR kTab kA)) (hret : gRetI p l e (rmL 2 0 0) s m args below meth c cX8_advance (cΩ ca) (cP dC dI cg kA ca) Q r S1) (hK0 : ∀ (M : CS) (H : Heap) (locs : List Loc) (ls : Array Slot), K0 M = some (r, S1) → (cP dC dI cg kA ca) M s H → va_S (Fr (cΩ ca) s.heap.size) s.heap H locs → lv_has ls 2 [(0, .ref (ca 1))] → W p l e (rmL 2 0 0) s m args below meth c H locs 0 0 Q (F0 m 0 ls [])) (hf : fX8_advance_23 K0 M s0 = some (r, S1)) (hP : (cP dC dI cg kA ca) M s H) (hS : va_S (Fr (cΩ ca) s.heap.size) s.heap H locs) (hl : lv_has ls 2 [(0, .ref (ca 1))]) : W p l e (rmL 2 0 0) s m args below meth c H locs 0 0 Q (F0 m 23 ls [.int s0]) := by
  have hx := X.hx
  have hb := X.hb
  have hown := X.hown
  have hts := X.hts
  rw [fX8_advance_23] at hf
  refine lv_iconst (v := 4) hx hb dX8_advance_23 (by decide) ?_
  refine lv_icmp_ne (tgt := 40) hx hb dX8_advance_24 (by decide) (fun c1 => ?_) (fun c1 => ?_)
  · exact kX8_advance_40 X hret (ifn c1 hf) hP hS (lv_sub hl [0] rfl)
  · exact kX8_advance_27 X hret hK0 (ifp c1 hf) hP hS (lv_sub hl [0] rfl)
set_option maxRecDepth 10000 in
theorem kX8_advance_11 {r : Int32} {S1 : CS} {K0 : CS → Option (Int32 × CS)} {M : CS} {H : Heap} {locs : List Loc} {ls : Array Slot} (X : gX p s m args c cX8_advance 2 RX8 (kR kTab kA)) (hret : gRetI p l e (rmL 2 0 0) s m args below meth c cX8_advance (cΩ ca) (cP dC dI cg kA ca) Q r S1) (hK0 : ∀ (M : CS) (H : Heap) (locs : List Loc) (ls : Array Slot), K0 M = some (r, S1) → (cP dC dI cg kA ca) M s H → va_S (Fr (cΩ ca) s.heap.size) s.heap H locs → lv_has ls 2 [(0, .ref (ca 1))] → W p l e (rmL 2 0 0) s m args below meth c H locs 0 0 Q (F0 m 0 ls [])) (hf : fX8_advance_11 K0 M = some (r, S1)) (hP : (cP dC dI cg kA ca) M s H) (hS : va_S (Fr (cΩ ca) s.heap.size) s.heap H locs) (hl : lv_has ls 2 [(0, .ref (ca 1))]) : W p l e (rmL 2 0 0) s m args below meth c H locs 0 0 Q (F0 m 11 ls []) := by
  have hx := X.hx
  have hb := X.hb
  have hown := X.hown
  have hts := X.hts
  rw [fX8_advance_11] at hf
  refine lv_aload_n hx hb dX8_advance_11 rfl (lv_at hl 0 rfl) ?_
  refine cr_get (k := 0) X hP (rfl : kc 1 = 1) rfl cv1_0 rfl cinX8 (by decide) rfl tw81 dX8_advance_12 ?_
  refine lv_aload_n hx hb dX8_advance_15 rfl (lv_at hl 0 rfl) ?_
  refine cr_get (k := 3) X hP (rfl : kc 1 = 1) rfl cv1_3 rfl cinX8 (by decide) rfl tw87 dX8_advance_16 ?_
  obtain ⟨g1, hf⟩ := gd hf
  refine cr_bald X hP (rfl : kc 2 = 2) rfl (fun _ => rfl) g1 dX8_advance_19 ?_
  obtain ⟨q, hc, hf⟩ := bd hf
  refine gCallSR X rfl (vX8_kindOf hc) gRX8_X8_kindOf hdX8_kindOf rfl ⟨by decide, by decide⟩ (gB_blind cOK) (gB_at cOK X hP) hl.1 (Nat.le_of_ble_eq_true rfl) ⟨Nat.zero_le _, Nat.zero_le _⟩ dX8_advance_20 (As := [.int (M.1 2 (M.1 1 3).toNatClampNeg)]) (rest := []) rfl ?_
  exact kX8_advance_23 X hret hK0 hf hP hS (lv_sub hl [0] rfl)
set_option maxRecDepth 10000 in
theorem kX8_advance_0 {r : Int32} {S1 : CS} (X : gX p s m args c cX8_advance 2 RX8 (kR kTab kA)) (hret : gRetI p l e (rmL 2 0 0) s m args below meth c cX8_advance (cΩ ca) (cP dC dI cg kA ca) Q r S1) : ∀ (n : Nat) (M : CS) (H : Heap) (locs : List Loc) (ls : Array Slot), fX8_advance_0 n M = some (r, S1) → (cP dC dI cg kA ca) M s H → va_S (Fr (cΩ ca) s.heap.size) s.heap H locs → lv_has ls 2 [(0, .ref (ca 1))] → W p l e (rmL 2 0 0) s m args below meth c H locs 0 0 Q (F0 m 0 ls []) := by
  intro n
  induction n with
  | zero => intro M H locs ls hf; cases hf
  | succ k ih =>
    intro M H locs ls hf hP hS hl
    have hx := X.hx
    have hb := X.hb
    have hown := X.hown
    have hts := X.hts
    rw [fX8_advance_0] at hf
    try dsimp only at hf
    refine lv_aload_n hx hb dX8_advance_0 rfl (lv_at hl 0 rfl) ?_
    refine cr_get (k := 3) X hP (rfl : kc 1 = 1) rfl cv1_3 rfl cinX8 (by decide) rfl tw87 dX8_advance_1 ?_
    refine lv_aload_n hx hb dX8_advance_4 rfl (lv_at hl 0 rfl) ?_
    refine cr_get (k := 2) X hP (rfl : kc 1 = 1) rfl cv1_2 rfl cinX8 (by decide) rfl tw86 dX8_advance_5 ?_
    refine lv_icmp_ge (tgt := 40) hx hb dX8_advance_8 (by decide) (fun c1 => ?_) (fun c1 => ?_)
    · exact kX8_advance_40 X hret (ifp c1 hf) hP hS (lv_sub hl [0] rfl)
    · exact kX8_advance_11 X hret ih (ifn c1 hf) hP hS (lv_sub hl [0] rfl)
theorem vX8_advance {l : Launch} {dC : Nat → ClassId} {dI : Nat → Nat → Nat} {cg : Nat → ClassId} {kA : String → Nat → Nat} {ca : Nat → Nat} {M S1 : CS} {r : Int32} (hf : fX8_advance M  = some (r, S1)) : gMetI l yX8_advance cX8_advance 2 (some .boolean) 2 (cΩ ca) (cP dC dI cg kA ca) (kR kTab kA) [.ref (ca 1)] M r S1 := gEntryI (ty := .boolean) (by decide) rfl (bz_n hf) cOK (Nat.le_of_ble_eq_true rfl) (fun p e s m args below meth c Q ls X hP hS hret hl => 
  kX8_advance_0 X hret FU _ _ _ _ (bz_f hf) hP hS (lv_sub hl [0] rfl))
set_option maxRecDepth 10000 in
theorem kX10_speedOf_5 {r : Int32} {M : CS} {z0 : Nat} (X : gX p s m args c cX10_speedOf 2 RX10 (kR kTab kA)) (hret : gRetR p l e (rmL 2 0 0) s m args below meth c cX10_speedOf Q r) (hkz0 : kc z0 = 18) (hf : fX10_speedOf_5 M z0 = some r) {ls : Array Slot} (hP : (cP dC dI cg kA ca) M s s.heap) (hl : lv_has ls 2 [(0, .ref (ca 0))]) : W p l e (rmL 2 0 0) s m args below meth c s.heap [] 0 0 Q (F0 m 5 ls [.ref (ca z0)]) := by
  have hx := X.hx
  have hb := X.hb
  have hown := X.hown
  have hts := X.hts
  rw [fX10_speedOf_5] at hf
  refine cr_get (k := 1) X hP hkz0 rfl cv18_1 rfl cinX0 (by decide) rfl tw227 dX10_speedOf_5 ?_
  cases hf
  exact hret _ _ dX10_speedOf_8
set_option maxRecDepth 10000 in
theorem kX10_speedOf_0 {r : Int32} {M : CS} {a1 : Int32} (X : gX p s m args c cX10_speedOf 2 RX10 (kR kTab kA)) (hret : gRetR p l e (rmL 2 0 0) s m args below meth c cX10_speedOf Q r) (hf : fX10_speedOf_0 M a1 = some r) {ls : Array Slot} (hP : (cP dC dI cg kA ca) M s s.heap) (hl : lv_has ls 2 [(0, .ref (ca 0)), (1, .int a1)]) : W p l e (rmL 2 0 0) s m args below meth c s.heap [] 0 0 Q (F0 m 0 ls []) := by
  have hx := X.hx
  have hb := X.hb
  have hown := X.hown
  have hts := X.hts
  rw [fX10_speedOf_0] at hf
  refine lv_aload_n hx hb dX10_speedOf_0 rfl (lv_at hl 0 rfl) ?_
  refine lv_iload_n hx hb dX10_speedOf_1 rfl (lv_at hl 1 rfl) ?_
  obtain ⟨q, hc, hf⟩ := bd hf
  refine gCallVP X rfl (vX10_catAt hc) gRX10_X10_catAt hdX10_catAt rfl ⟨by decide, by decide⟩ (gB_blind cOK) (gB_at cOK X hP) (cr_rec hP (rfl : kc 0 = 0) rfl cw0 rfl) hl.1 (Nat.le_of_ble_eq_true rfl) ⟨Nat.zero_le _, Nat.zero_le _⟩ dX10_speedOf_2 (As := [.int a1]) (rest := []) rfl ?_
  exact kX10_speedOf_5 X hret (kkX10_catAt hc) hf hP (lv_sub hl [0] rfl)
theorem vX10_speedOf {l : Launch} {dC : Nat → ClassId} {dI : Nat → Nat → Nat} {cg : Nat → ClassId} {kA : String → Nat → Nat} {ca : Nat → Nat} {M : CS} {r : Int32} {a1 : Int32} (hf : fX10_speedOf M a1 = some r) : gMetR l yX10_speedOf cX10_speedOf 2 (some .int) 2 (gB (cP dC dI cg kA ca) (kR kTab kA) M) [.ref (ca 0), .int a1] r := gEntryR (ty := .int) (by decide) rfl rfl (Nat.le_of_ble_eq_true rfl) (fun _ h => h.2) (fun p e s m args below meth c Q ls X hB hret hl => 
  kX10_speedOf_0 X hret hf hB.1 (lv_sub hl [0, 1] rfl))
set_option maxRecDepth 10000 in
theorem kX10_isLeftPawed_5 {r : Int32} {M : CS} {z0 : Nat} (X : gX p s m args c cX10_isLeftPawed 2 RX10 (kR kTab kA)) (hret : gRetR p l e (rmL 2 0 0) s m args below meth c cX10_isLeftPawed Q r) (hkz0 : kc z0 = 18) (hf : fX10_isLeftPawed_5 M z0 = some r) {ls : Array Slot} (hP : (cP dC dI cg kA ca) M s s.heap) (hl : lv_has ls 2 [(0, .ref (ca 0))]) : W p l e (rmL 2 0 0) s m args below meth c s.heap [] 0 0 Q (F0 m 5 ls [.ref (ca z0)]) := by
  have hx := X.hx
  have hb := X.hb
  have hown := X.hown
  have hts := X.hts
  rw [fX10_isLeftPawed_5] at hf
  refine cr_get (k := 2) X hP hkz0 rfl cv18_2 rfl cinX0 (by decide) rfl tw230 dX10_isLeftPawed_5 ?_
  cases hf
  exact hret _ _ dX10_isLeftPawed_8
set_option maxRecDepth 10000 in
theorem kX10_isLeftPawed_0 {r : Int32} {M : CS} {a1 : Int32} (X : gX p s m args c cX10_isLeftPawed 2 RX10 (kR kTab kA)) (hret : gRetR p l e (rmL 2 0 0) s m args below meth c cX10_isLeftPawed Q r) (hf : fX10_isLeftPawed_0 M a1 = some r) {ls : Array Slot} (hP : (cP dC dI cg kA ca) M s s.heap) (hl : lv_has ls 2 [(0, .ref (ca 0)), (1, .int a1)]) : W p l e (rmL 2 0 0) s m args below meth c s.heap [] 0 0 Q (F0 m 0 ls []) := by
  have hx := X.hx
  have hb := X.hb
  have hown := X.hown
  have hts := X.hts
  rw [fX10_isLeftPawed_0] at hf
  refine lv_aload_n hx hb dX10_isLeftPawed_0 rfl (lv_at hl 0 rfl) ?_
  refine lv_iload_n hx hb dX10_isLeftPawed_1 rfl (lv_at hl 1 rfl) ?_
  obtain ⟨q, hc, hf⟩ := bd hf
  refine gCallVP X rfl (vX10_catAt hc) gRX10_X10_catAt hdX10_catAt rfl ⟨by decide, by decide⟩ (gB_blind cOK) (gB_at cOK X hP) (cr_rec hP (rfl : kc 0 = 0) rfl cw0 rfl) hl.1 (Nat.le_of_ble_eq_true rfl) ⟨Nat.zero_le _, Nat.zero_le _⟩ dX10_isLeftPawed_2 (As := [.int a1]) (rest := []) rfl ?_
  exact kX10_isLeftPawed_5 X hret (kkX10_catAt hc) hf hP (lv_sub hl [0] rfl)
theorem vX10_isLeftPawed {l : Launch} {dC : Nat → ClassId} {dI : Nat → Nat → Nat} {cg : Nat → ClassId} {kA : String → Nat → Nat} {ca : Nat → Nat} {M : CS} {r : Int32} {a1 : Int32} (hf : fX10_isLeftPawed M a1 = some r) : gMetR l yX10_isLeftPawed cX10_isLeftPawed 2 (some .boolean) 2 (gB (cP dC dI cg kA ca) (kR kTab kA) M) [.ref (ca 0), .int a1] r := gEntryR (ty := .boolean) (by decide) rfl (bq_n hf) (Nat.le_of_ble_eq_true rfl) (fun _ h => h.2) (fun p e s m args below meth c Q ls X hB hret hl => 
  kX10_isLeftPawed_0 X hret (bq_f hf) hB.1 (lv_sub hl [0, 1] rfl))
set_option maxRecDepth 10000 in
theorem kX10_tirednessOf_5 {r : Int32} {M : CS} {z0 : Nat} (X : gX p s m args c cX10_tirednessOf 2 RX10 (kR kTab kA)) (hret : gRetR p l e (rmL 2 0 0) s m args below meth c cX10_tirednessOf Q r) (hkz0 : kc z0 = 18) (hf : fX10_tirednessOf_5 M z0 = some r) {ls : Array Slot} (hP : (cP dC dI cg kA ca) M s s.heap) (hl : lv_has ls 2 [(0, .ref (ca 0))]) : W p l e (rmL 2 0 0) s m args below meth c s.heap [] 0 0 Q (F0 m 5 ls [.ref (ca z0)]) := by
  have hx := X.hx
  have hb := X.hb
  have hown := X.hown
  have hts := X.hts
  rw [fX10_tirednessOf_5] at hf
  refine cr_get (k := 3) X hP hkz0 rfl cv18_3 rfl cinX0 (by decide) rfl tw233 dX10_tirednessOf_5 ?_
  cases hf
  exact hret _ _ dX10_tirednessOf_8
set_option maxRecDepth 10000 in
theorem kX10_tirednessOf_0 {r : Int32} {M : CS} {a1 : Int32} (X : gX p s m args c cX10_tirednessOf 2 RX10 (kR kTab kA)) (hret : gRetR p l e (rmL 2 0 0) s m args below meth c cX10_tirednessOf Q r) (hf : fX10_tirednessOf_0 M a1 = some r) {ls : Array Slot} (hP : (cP dC dI cg kA ca) M s s.heap) (hl : lv_has ls 2 [(0, .ref (ca 0)), (1, .int a1)]) : W p l e (rmL 2 0 0) s m args below meth c s.heap [] 0 0 Q (F0 m 0 ls []) := by
  have hx := X.hx
  have hb := X.hb
  have hown := X.hown
  have hts := X.hts
  rw [fX10_tirednessOf_0] at hf
  refine lv_aload_n hx hb dX10_tirednessOf_0 rfl (lv_at hl 0 rfl) ?_
  refine lv_iload_n hx hb dX10_tirednessOf_1 rfl (lv_at hl 1 rfl) ?_
  obtain ⟨q, hc, hf⟩ := bd hf
  refine gCallVP X rfl (vX10_catAt hc) gRX10_X10_catAt hdX10_catAt rfl ⟨by decide, by decide⟩ (gB_blind cOK) (gB_at cOK X hP) (cr_rec hP (rfl : kc 0 = 0) rfl cw0 rfl) hl.1 (Nat.le_of_ble_eq_true rfl) ⟨Nat.zero_le _, Nat.zero_le _⟩ dX10_tirednessOf_2 (As := [.int a1]) (rest := []) rfl ?_
  exact kX10_tirednessOf_5 X hret (kkX10_catAt hc) hf hP (lv_sub hl [0] rfl)
theorem vX10_tirednessOf {l : Launch} {dC : Nat → ClassId} {dI : Nat → Nat → Nat} {cg : Nat → ClassId} {kA : String → Nat → Nat} {ca : Nat → Nat} {M : CS} {r : Int32} {a1 : Int32} (hf : fX10_tirednessOf M a1 = some r) : gMetR l yX10_tirednessOf cX10_tirednessOf 2 (some .int) 2 (gB (cP dC dI cg kA ca) (kR kTab kA) M) [.ref (ca 0), .int a1] r := gEntryR (ty := .int) (by decide) rfl rfl (Nat.le_of_ble_eq_true rfl) (fun _ h => h.2) (fun p e s m args below meth c Q ls X hB hret hl => 
  kX10_tirednessOf_0 X hret hf hB.1 (lv_sub hl [0, 1] rfl))
set_option maxRecDepth 10000 in
theorem kX10_caughtBy_5 {r : Int32} {M : CS} {z0 : Nat} (X : gX p s m args c cX10_caughtBy 2 RX10 (kR kTab kA)) (hret : gRetR p l e (rmL 2 0 0) s m args below meth c cX10_caughtBy Q r) (hkz0 : kc z0 = 18) (hf : fX10_caughtBy_5 M z0 = some r) {ls : Array Slot} (hP : (cP dC dI cg kA ca) M s s.heap) (hl : lv_has ls 2 [(0, .ref (ca 0))]) : W p l e (rmL 2 0 0) s m args below meth c s.heap [] 0 0 Q (F0 m 5 ls [.ref (ca z0)]) := by
  have hx := X.hx
  have hb := X.hb
  have hown := X.hown
  have hts := X.hts
  rw [fX10_caughtBy_5] at hf
  refine cr_get (k := 4) X hP hkz0 rfl cv18_4 rfl cinX0 (by decide) rfl tw237 dX10_caughtBy_5 ?_
  cases hf
  exact hret _ _ dX10_caughtBy_8
set_option maxRecDepth 10000 in
theorem kX10_caughtBy_0 {r : Int32} {M : CS} {a1 : Int32} (X : gX p s m args c cX10_caughtBy 2 RX10 (kR kTab kA)) (hret : gRetR p l e (rmL 2 0 0) s m args below meth c cX10_caughtBy Q r) (hf : fX10_caughtBy_0 M a1 = some r) {ls : Array Slot} (hP : (cP dC dI cg kA ca) M s s.heap) (hl : lv_has ls 2 [(0, .ref (ca 0)), (1, .int a1)]) : W p l e (rmL 2 0 0) s m args below meth c s.heap [] 0 0 Q (F0 m 0 ls []) := by
  have hx := X.hx
  have hb := X.hb
  have hown := X.hown
  have hts := X.hts
  rw [fX10_caughtBy_0] at hf
  refine lv_aload_n hx hb dX10_caughtBy_0 rfl (lv_at hl 0 rfl) ?_
  refine lv_iload_n hx hb dX10_caughtBy_1 rfl (lv_at hl 1 rfl) ?_
  obtain ⟨q, hc, hf⟩ := bd hf
  refine gCallVP X rfl (vX10_catAt hc) gRX10_X10_catAt hdX10_catAt rfl ⟨by decide, by decide⟩ (gB_blind cOK) (gB_at cOK X hP) (cr_rec hP (rfl : kc 0 = 0) rfl cw0 rfl) hl.1 (Nat.le_of_ble_eq_true rfl) ⟨Nat.zero_le _, Nat.zero_le _⟩ dX10_caughtBy_2 (As := [.int a1]) (rest := []) rfl ?_
  exact kX10_caughtBy_5 X hret (kkX10_catAt hc) hf hP (lv_sub hl [0] rfl)
theorem vX10_caughtBy {l : Launch} {dC : Nat → ClassId} {dI : Nat → Nat → Nat} {cg : Nat → ClassId} {kA : String → Nat → Nat} {ca : Nat → Nat} {M : CS} {r : Int32} {a1 : Int32} (hf : fX10_caughtBy M a1 = some r) : gMetR l yX10_caughtBy cX10_caughtBy 2 (some .int) 2 (gB (cP dC dI cg kA ca) (kR kTab kA) M) [.ref (ca 0), .int a1] r := gEntryR (ty := .int) (by decide) rfl rfl (Nat.le_of_ble_eq_true rfl) (fun _ h => h.2) (fun p e s m args below meth c Q ls X hB hret hl => 
  kX10_caughtBy_0 X hret hf hB.1 (lv_sub hl [0, 1] rfl))
set_option maxRecDepth 10000 in
theorem kX10_oathsOf_5 {r : Int32} {M : CS} {z0 : Nat} (X : gX p s m args c cX10_oathsOf 2 RX10 (kR kTab kA)) (hret : gRetR p l e (rmL 2 0 0) s m args below meth c cX10_oathsOf Q r) (hkz0 : kc z0 = 18) (hf : fX10_oathsOf_5 M z0 = some r) {ls : Array Slot} (hP : (cP dC dI cg kA ca) M s s.heap) (hl : lv_has ls 2 [(0, .ref (ca 0))]) : W p l e (rmL 2 0 0) s m args below meth c s.heap [] 0 0 Q (F0 m 5 ls [.ref (ca z0)]) := by
  have hx := X.hx
  have hb := X.hb
  have hown := X.hown
  have hts := X.hts
  rw [fX10_oathsOf_5] at hf
  refine cr_get (k := 5) X hP hkz0 rfl cv18_5 rfl cinX0 (by decide) rfl tw240 dX10_oathsOf_5 ?_
  cases hf
  exact hret _ _ dX10_oathsOf_8
set_option maxRecDepth 10000 in
theorem kX10_oathsOf_0 {r : Int32} {M : CS} {a1 : Int32} (X : gX p s m args c cX10_oathsOf 2 RX10 (kR kTab kA)) (hret : gRetR p l e (rmL 2 0 0) s m args below meth c cX10_oathsOf Q r) (hf : fX10_oathsOf_0 M a1 = some r) {ls : Array Slot} (hP : (cP dC dI cg kA ca) M s s.heap) (hl : lv_has ls 2 [(0, .ref (ca 0)), (1, .int a1)]) : W p l e (rmL 2 0 0) s m args below meth c s.heap [] 0 0 Q (F0 m 0 ls []) := by
  have hx := X.hx
  have hb := X.hb
  have hown := X.hown
  have hts := X.hts
  rw [fX10_oathsOf_0] at hf
  refine lv_aload_n hx hb dX10_oathsOf_0 rfl (lv_at hl 0 rfl) ?_
  refine lv_iload_n hx hb dX10_oathsOf_1 rfl (lv_at hl 1 rfl) ?_
  obtain ⟨q, hc, hf⟩ := bd hf
  refine gCallVP X rfl (vX10_catAt hc) gRX10_X10_catAt hdX10_catAt rfl ⟨by decide, by decide⟩ (gB_blind cOK) (gB_at cOK X hP) (cr_rec hP (rfl : kc 0 = 0) rfl cw0 rfl) hl.1 (Nat.le_of_ble_eq_true rfl) ⟨Nat.zero_le _, Nat.zero_le _⟩ dX10_oathsOf_2 (As := [.int a1]) (rest := []) rfl ?_
  exact kX10_oathsOf_5 X hret (kkX10_catAt hc) hf hP (lv_sub hl [0] rfl)
theorem vX10_oathsOf {l : Launch} {dC : Nat → ClassId} {dI : Nat → Nat → Nat} {cg : Nat → ClassId} {kA : String → Nat → Nat} {ca : Nat → Nat} {M : CS} {r : Int32} {a1 : Int32} (hf : fX10_oathsOf M a1 = some r) : gMetR l yX10_oathsOf cX10_oathsOf 2 (some .int) 2 (gB (cP dC dI cg kA ca) (kR kTab kA) M) [.ref (ca 0), .int a1] r := gEntryR (ty := .int) (by decide) rfl rfl (Nat.le_of_ble_eq_true rfl) (fun _ h => h.2) (fun p e s m args below meth c Q ls X hB hret hl => 
  kX10_oathsOf_0 X hret hf hB.1 (lv_sub hl [0, 1] rfl))
set_option maxRecDepth 10000 in
theorem kX10_grainIn_5 {r : Int32} {M : CS} {z0 : Nat} (X : gX p s m args c cX10_grainIn 2 RX10 (kR kTab kA)) (hret : gRetR p l e (rmL 2 0 0) s m args below meth c cX10_grainIn Q r) (hkz0 : kc z0 = 19) (hf : fX10_grainIn_5 M z0 = some r) {ls : Array Slot} (hP : (cP dC dI cg kA ca) M s s.heap) (hl : lv_has ls 2 [(0, .ref (ca 0))]) : W p l e (rmL 2 0 0) s m args below meth c s.heap [] 0 0 Q (F0 m 5 ls [.ref (ca z0)]) := by
  have hx := X.hx
  have hb := X.hb
  have hown := X.hown
  have hts := X.hts
  rw [fX10_grainIn_5] at hf
  refine cr_get (k := 1) X hP hkz0 rfl cv19_1 rfl cinX4 (by decide) rfl tw269 dX10_grainIn_5 ?_
  cases hf
  exact hret _ _ dX10_grainIn_8
set_option maxRecDepth 10000 in
theorem kX10_grainIn_0 {r : Int32} {M : CS} {a1 : Int32} (X : gX p s m args c cX10_grainIn 2 RX10 (kR kTab kA)) (hret : gRetR p l e (rmL 2 0 0) s m args below meth c cX10_grainIn Q r) (hf : fX10_grainIn_0 M a1 = some r) {ls : Array Slot} (hP : (cP dC dI cg kA ca) M s s.heap) (hl : lv_has ls 2 [(0, .ref (ca 0)), (1, .int a1)]) : W p l e (rmL 2 0 0) s m args below meth c s.heap [] 0 0 Q (F0 m 0 ls []) := by
  have hx := X.hx
  have hb := X.hb
  have hown := X.hown
  have hts := X.hts
  rw [fX10_grainIn_0] at hf
  refine lv_aload_n hx hb dX10_grainIn_0 rfl (lv_at hl 0 rfl) ?_
  refine lv_iload_n hx hb dX10_grainIn_1 rfl (lv_at hl 1 rfl) ?_
  obtain ⟨q, hc, hf⟩ := bd hf
  refine gCallVP X rfl (vX10_sackAt hc) gRX10_X10_sackAt hdX10_sackAt rfl ⟨by decide, by decide⟩ (gB_blind cOK) (gB_at cOK X hP) (cr_rec hP (rfl : kc 0 = 0) rfl cw0 rfl) hl.1 (Nat.le_of_ble_eq_true rfl) ⟨Nat.zero_le _, Nat.zero_le _⟩ dX10_grainIn_2 (As := [.int a1]) (rest := []) rfl ?_
  exact kX10_grainIn_5 X hret (kkX10_sackAt hc) hf hP (lv_sub hl [0] rfl)
theorem vX10_grainIn {l : Launch} {dC : Nat → ClassId} {dI : Nat → Nat → Nat} {cg : Nat → ClassId} {kA : String → Nat → Nat} {ca : Nat → Nat} {M : CS} {r : Int32} {a1 : Int32} (hf : fX10_grainIn M a1 = some r) : gMetR l yX10_grainIn cX10_grainIn 2 (some .int) 2 (gB (cP dC dI cg kA ca) (kR kTab kA) M) [.ref (ca 0), .int a1] r := gEntryR (ty := .int) (by decide) rfl rfl (Nat.le_of_ble_eq_true rfl) (fun _ h => h.2) (fun p e s m args below meth c Q ls X hB hret hl => 
  kX10_grainIn_0 X hret hf hB.1 (lv_sub hl [0, 1] rfl))
set_option maxRecDepth 10000 in
theorem kX10_miceIn_5 {r : Int32} {M : CS} {z0 : Nat} (X : gX p s m args c cX10_miceIn 2 RX10 (kR kTab kA)) (hret : gRetR p l e (rmL 2 0 0) s m args below meth c cX10_miceIn Q r) (hkz0 : kc z0 = 19) (hf : fX10_miceIn_5 M z0 = some r) {ls : Array Slot} (hP : (cP dC dI cg kA ca) M s s.heap) (hl : lv_has ls 2 [(0, .ref (ca 0))]) : W p l e (rmL 2 0 0) s m args below meth c s.heap [] 0 0 Q (F0 m 5 ls [.ref (ca z0)]) := by
  have hx := X.hx
  have hb := X.hb
  have hown := X.hown
  have hts := X.hts
  rw [fX10_miceIn_5] at hf
  refine cr_get (k := 2) X hP hkz0 rfl cv19_2 rfl cinX4 (by decide) rfl tw274 dX10_miceIn_5 ?_
  cases hf
  exact hret _ _ dX10_miceIn_8
set_option maxRecDepth 10000 in
theorem kX10_miceIn_0 {r : Int32} {M : CS} {a1 : Int32} (X : gX p s m args c cX10_miceIn 2 RX10 (kR kTab kA)) (hret : gRetR p l e (rmL 2 0 0) s m args below meth c cX10_miceIn Q r) (hf : fX10_miceIn_0 M a1 = some r) {ls : Array Slot} (hP : (cP dC dI cg kA ca) M s s.heap) (hl : lv_has ls 2 [(0, .ref (ca 0)), (1, .int a1)]) : W p l e (rmL 2 0 0) s m args below meth c s.heap [] 0 0 Q (F0 m 0 ls []) := by
  have hx := X.hx
  have hb := X.hb
  have hown := X.hown
  have hts := X.hts
  rw [fX10_miceIn_0] at hf
  refine lv_aload_n hx hb dX10_miceIn_0 rfl (lv_at hl 0 rfl) ?_
  refine lv_iload_n hx hb dX10_miceIn_1 rfl (lv_at hl 1 rfl) ?_
  obtain ⟨q, hc, hf⟩ := bd hf
  refine gCallVP X rfl (vX10_sackAt hc) gRX10_X10_sackAt hdX10_sackAt rfl ⟨by decide, by decide⟩ (gB_blind cOK) (gB_at cOK X hP) (cr_rec hP (rfl : kc 0 = 0) rfl cw0 rfl) hl.1 (Nat.le_of_ble_eq_true rfl) ⟨Nat.zero_le _, Nat.zero_le _⟩ dX10_miceIn_2 (As := [.int a1]) (rest := []) rfl ?_
  exact kX10_miceIn_5 X hret (kkX10_sackAt hc) hf hP (lv_sub hl [0] rfl)
theorem vX10_miceIn {l : Launch} {dC : Nat → ClassId} {dI : Nat → Nat → Nat} {cg : Nat → ClassId} {kA : String → Nat → Nat} {ca : Nat → Nat} {M : CS} {r : Int32} {a1 : Int32} (hf : fX10_miceIn M a1 = some r) : gMetR l yX10_miceIn cX10_miceIn 2 (some .int) 2 (gB (cP dC dI cg kA ca) (kR kTab kA) M) [.ref (ca 0), .int a1] r := gEntryR (ty := .int) (by decide) rfl rfl (Nat.le_of_ble_eq_true rfl) (fun _ h => h.2) (fun p e s m args below meth c Q ls X hB hret hl => 
  kX10_miceIn_0 X hret hf hB.1 (lv_sub hl [0, 1] rfl))
set_option maxRecDepth 10000 in
theorem kX10_isOpen_5 {r : Int32} {M : CS} {z0 : Nat} (X : gX p s m args c cX10_isOpen 2 RX10 (kR kTab kA)) (hret : gRetR p l e (rmL 2 0 0) s m args below meth c cX10_isOpen Q r) (hkz0 : kc z0 = 19) (hf : fX10_isOpen_5 M z0 = some r) {ls : Array Slot} (hP : (cP dC dI cg kA ca) M s s.heap) (hl : lv_has ls 2 [(0, .ref (ca 0))]) : W p l e (rmL 2 0 0) s m args below meth c s.heap [] 0 0 Q (F0 m 5 ls [.ref (ca z0)]) := by
  have hx := X.hx
  have hb := X.hb
  have hown := X.hown
  have hts := X.hts
  rw [fX10_isOpen_5] at hf
  refine cr_get (k := 3) X hP hkz0 rfl cv19_3 rfl cinX4 (by decide) rfl tw279 dX10_isOpen_5 ?_
  cases hf
  exact hret _ _ dX10_isOpen_8
set_option maxRecDepth 10000 in
theorem kX10_isOpen_0 {r : Int32} {M : CS} {a1 : Int32} (X : gX p s m args c cX10_isOpen 2 RX10 (kR kTab kA)) (hret : gRetR p l e (rmL 2 0 0) s m args below meth c cX10_isOpen Q r) (hf : fX10_isOpen_0 M a1 = some r) {ls : Array Slot} (hP : (cP dC dI cg kA ca) M s s.heap) (hl : lv_has ls 2 [(0, .ref (ca 0)), (1, .int a1)]) : W p l e (rmL 2 0 0) s m args below meth c s.heap [] 0 0 Q (F0 m 0 ls []) := by
  have hx := X.hx
  have hb := X.hb
  have hown := X.hown
  have hts := X.hts
  rw [fX10_isOpen_0] at hf
  refine lv_aload_n hx hb dX10_isOpen_0 rfl (lv_at hl 0 rfl) ?_
  refine lv_iload_n hx hb dX10_isOpen_1 rfl (lv_at hl 1 rfl) ?_
  obtain ⟨q, hc, hf⟩ := bd hf
  refine gCallVP X rfl (vX10_sackAt hc) gRX10_X10_sackAt hdX10_sackAt rfl ⟨by decide, by decide⟩ (gB_blind cOK) (gB_at cOK X hP) (cr_rec hP (rfl : kc 0 = 0) rfl cw0 rfl) hl.1 (Nat.le_of_ble_eq_true rfl) ⟨Nat.zero_le _, Nat.zero_le _⟩ dX10_isOpen_2 (As := [.int a1]) (rest := []) rfl ?_
  exact kX10_isOpen_5 X hret (kkX10_sackAt hc) hf hP (lv_sub hl [0] rfl)
theorem vX10_isOpen {l : Launch} {dC : Nat → ClassId} {dI : Nat → Nat → Nat} {cg : Nat → ClassId} {kA : String → Nat → Nat} {ca : Nat → Nat} {M : CS} {r : Int32} {a1 : Int32} (hf : fX10_isOpen M a1 = some r) : gMetR l yX10_isOpen cX10_isOpen 2 (some .boolean) 2 (gB (cP dC dI cg kA ca) (kR kTab kA) M) [.ref (ca 0), .int a1] r := gEntryR (ty := .boolean) (by decide) rfl (bq_n hf) (Nat.le_of_ble_eq_true rfl) (fun _ h => h.2) (fun p e s m args below meth c Q ls X hB hret hl => 
  kX10_isOpen_0 X hret (bq_f hf) hB.1 (lv_sub hl [0, 1] rfl))
set_option maxRecDepth 10000 in
theorem kX10_eatenFrom_5 {r : Int32} {M : CS} {z0 : Nat} (X : gX p s m args c cX10_eatenFrom 2 RX10 (kR kTab kA)) (hret : gRetR p l e (rmL 2 0 0) s m args below meth c cX10_eatenFrom Q r) (hkz0 : kc z0 = 19) (hf : fX10_eatenFrom_5 M z0 = some r) {ls : Array Slot} (hP : (cP dC dI cg kA ca) M s s.heap) (hl : lv_has ls 2 [(0, .ref (ca 0))]) : W p l e (rmL 2 0 0) s m args below meth c s.heap [] 0 0 Q (F0 m 5 ls [.ref (ca z0)]) := by
  have hx := X.hx
  have hb := X.hb
  have hown := X.hown
  have hts := X.hts
  rw [fX10_eatenFrom_5] at hf
  refine cr_get (k := 4) X hP hkz0 rfl cv19_4 rfl cinX4 (by decide) rfl tw283 dX10_eatenFrom_5 ?_
  cases hf
  exact hret _ _ dX10_eatenFrom_8
set_option maxRecDepth 10000 in
theorem kX10_eatenFrom_0 {r : Int32} {M : CS} {a1 : Int32} (X : gX p s m args c cX10_eatenFrom 2 RX10 (kR kTab kA)) (hret : gRetR p l e (rmL 2 0 0) s m args below meth c cX10_eatenFrom Q r) (hf : fX10_eatenFrom_0 M a1 = some r) {ls : Array Slot} (hP : (cP dC dI cg kA ca) M s s.heap) (hl : lv_has ls 2 [(0, .ref (ca 0)), (1, .int a1)]) : W p l e (rmL 2 0 0) s m args below meth c s.heap [] 0 0 Q (F0 m 0 ls []) := by
  have hx := X.hx
  have hb := X.hb
  have hown := X.hown
  have hts := X.hts
  rw [fX10_eatenFrom_0] at hf
  refine lv_aload_n hx hb dX10_eatenFrom_0 rfl (lv_at hl 0 rfl) ?_
  refine lv_iload_n hx hb dX10_eatenFrom_1 rfl (lv_at hl 1 rfl) ?_
  obtain ⟨q, hc, hf⟩ := bd hf
  refine gCallVP X rfl (vX10_sackAt hc) gRX10_X10_sackAt hdX10_sackAt rfl ⟨by decide, by decide⟩ (gB_blind cOK) (gB_at cOK X hP) (cr_rec hP (rfl : kc 0 = 0) rfl cw0 rfl) hl.1 (Nat.le_of_ble_eq_true rfl) ⟨Nat.zero_le _, Nat.zero_le _⟩ dX10_eatenFrom_2 (As := [.int a1]) (rest := []) rfl ?_
  exact kX10_eatenFrom_5 X hret (kkX10_sackAt hc) hf hP (lv_sub hl [0] rfl)
theorem vX10_eatenFrom {l : Launch} {dC : Nat → ClassId} {dI : Nat → Nat → Nat} {cg : Nat → ClassId} {kA : String → Nat → Nat} {ca : Nat → Nat} {M : CS} {r : Int32} {a1 : Int32} (hf : fX10_eatenFrom M a1 = some r) : gMetR l yX10_eatenFrom cX10_eatenFrom 2 (some .int) 2 (gB (cP dC dI cg kA ca) (kR kTab kA) M) [.ref (ca 0), .int a1] r := gEntryR (ty := .int) (by decide) rfl rfl (Nat.le_of_ble_eq_true rfl) (fun _ h => h.2) (fun p e s m args below meth c Q ls X hB hret hl => 
  kX10_eatenFrom_0 X hret hf hB.1 (lv_sub hl [0, 1] rfl))
set_option maxRecDepth 10000 in
theorem kX10_catOfShift_5 {r : Int32} {M : CS} {z0 : Nat} (X : gX p s m args c cX10_catOfShift 2 RX10 (kR kTab kA)) (hret : gRetR p l e (rmL 2 0 0) s m args below meth c cX10_catOfShift Q r) (hkz0 : kc z0 = 20) (hf : fX10_catOfShift_5 M z0 = some r) {ls : Array Slot} (hP : (cP dC dI cg kA ca) M s s.heap) (hl : lv_has ls 2 [(0, .ref (ca 0))]) : W p l e (rmL 2 0 0) s m args below meth c s.heap [] 0 0 Q (F0 m 5 ls [.ref (ca z0)]) := by
  have hx := X.hx
  have hb := X.hb
  have hown := X.hown
  have hts := X.hts
  rw [fX10_catOfShift_5] at hf
  refine cr_get (k := 0) X hP hkz0 rfl cv20_0 rfl cinX7 (by decide) rfl tw303 dX10_catOfShift_5 ?_
  cases hf
  exact hret _ _ dX10_catOfShift_8
set_option maxRecDepth 10000 in
theorem kX10_catOfShift_0 {r : Int32} {M : CS} {a1 : Int32} (X : gX p s m args c cX10_catOfShift 2 RX10 (kR kTab kA)) (hret : gRetR p l e (rmL 2 0 0) s m args below meth c cX10_catOfShift Q r) (hf : fX10_catOfShift_0 M a1 = some r) {ls : Array Slot} (hP : (cP dC dI cg kA ca) M s s.heap) (hl : lv_has ls 2 [(0, .ref (ca 0)), (1, .int a1)]) : W p l e (rmL 2 0 0) s m args below meth c s.heap [] 0 0 Q (F0 m 0 ls []) := by
  have hx := X.hx
  have hb := X.hb
  have hown := X.hown
  have hts := X.hts
  rw [fX10_catOfShift_0] at hf
  refine lv_aload_n hx hb dX10_catOfShift_0 rfl (lv_at hl 0 rfl) ?_
  refine lv_iload_n hx hb dX10_catOfShift_1 rfl (lv_at hl 1 rfl) ?_
  obtain ⟨q, hc, hf⟩ := bd hf
  refine gCallVP X rfl (vX10_shiftAt hc) gRX10_X10_shiftAt hdX10_shiftAt rfl ⟨by decide, by decide⟩ (gB_blind cOK) (gB_at cOK X hP) (cr_rec hP (rfl : kc 0 = 0) rfl cw0 rfl) hl.1 (Nat.le_of_ble_eq_true rfl) ⟨Nat.zero_le _, Nat.zero_le _⟩ dX10_catOfShift_2 (As := [.int a1]) (rest := []) rfl ?_
  exact kX10_catOfShift_5 X hret (kkX10_shiftAt hc) hf hP (lv_sub hl [0] rfl)
theorem vX10_catOfShift {l : Launch} {dC : Nat → ClassId} {dI : Nat → Nat → Nat} {cg : Nat → ClassId} {kA : String → Nat → Nat} {ca : Nat → Nat} {M : CS} {r : Int32} {a1 : Int32} (hf : fX10_catOfShift M a1 = some r) : gMetR l yX10_catOfShift cX10_catOfShift 2 (some .int) 2 (gB (cP dC dI cg kA ca) (kR kTab kA) M) [.ref (ca 0), .int a1] r := gEntryR (ty := .int) (by decide) rfl rfl (Nat.le_of_ble_eq_true rfl) (fun _ h => h.2) (fun p e s m args below meth c Q ls X hB hret hl => 
  kX10_catOfShift_0 X hret hf hB.1 (lv_sub hl [0, 1] rfl))
set_option maxRecDepth 10000 in
theorem kX10_hoursOfShift_5 {r : Int32} {M : CS} {z0 : Nat} (X : gX p s m args c cX10_hoursOfShift 2 RX10 (kR kTab kA)) (hret : gRetR p l e (rmL 2 0 0) s m args below meth c cX10_hoursOfShift Q r) (hkz0 : kc z0 = 20) (hf : fX10_hoursOfShift_5 M z0 = some r) {ls : Array Slot} (hP : (cP dC dI cg kA ca) M s s.heap) (hl : lv_has ls 2 [(0, .ref (ca 0))]) : W p l e (rmL 2 0 0) s m args below meth c s.heap [] 0 0 Q (F0 m 5 ls [.ref (ca z0)]) := by
  have hx := X.hx
  have hb := X.hb
  have hown := X.hown
  have hts := X.hts
  rw [fX10_hoursOfShift_5] at hf
  refine cr_get (k := 1) X hP hkz0 rfl cv20_1 rfl cinX7 (by decide) rfl tw307 dX10_hoursOfShift_5 ?_
  cases hf
  exact hret _ _ dX10_hoursOfShift_8
set_option maxRecDepth 10000 in
theorem kX10_hoursOfShift_0 {r : Int32} {M : CS} {a1 : Int32} (X : gX p s m args c cX10_hoursOfShift 2 RX10 (kR kTab kA)) (hret : gRetR p l e (rmL 2 0 0) s m args below meth c cX10_hoursOfShift Q r) (hf : fX10_hoursOfShift_0 M a1 = some r) {ls : Array Slot} (hP : (cP dC dI cg kA ca) M s s.heap) (hl : lv_has ls 2 [(0, .ref (ca 0)), (1, .int a1)]) : W p l e (rmL 2 0 0) s m args below meth c s.heap [] 0 0 Q (F0 m 0 ls []) := by
  have hx := X.hx
  have hb := X.hb
  have hown := X.hown
  have hts := X.hts
  rw [fX10_hoursOfShift_0] at hf
  refine lv_aload_n hx hb dX10_hoursOfShift_0 rfl (lv_at hl 0 rfl) ?_
  refine lv_iload_n hx hb dX10_hoursOfShift_1 rfl (lv_at hl 1 rfl) ?_
  obtain ⟨q, hc, hf⟩ := bd hf
  refine gCallVP X rfl (vX10_shiftAt hc) gRX10_X10_shiftAt hdX10_shiftAt rfl ⟨by decide, by decide⟩ (gB_blind cOK) (gB_at cOK X hP) (cr_rec hP (rfl : kc 0 = 0) rfl cw0 rfl) hl.1 (Nat.le_of_ble_eq_true rfl) ⟨Nat.zero_le _, Nat.zero_le _⟩ dX10_hoursOfShift_2 (As := [.int a1]) (rest := []) rfl ?_
  exact kX10_hoursOfShift_5 X hret (kkX10_shiftAt hc) hf hP (lv_sub hl [0] rfl)
theorem vX10_hoursOfShift {l : Launch} {dC : Nat → ClassId} {dI : Nat → Nat → Nat} {cg : Nat → ClassId} {kA : String → Nat → Nat} {ca : Nat → Nat} {M : CS} {r : Int32} {a1 : Int32} (hf : fX10_hoursOfShift M a1 = some r) : gMetR l yX10_hoursOfShift cX10_hoursOfShift 2 (some .int) 2 (gB (cP dC dI cg kA ca) (kR kTab kA) M) [.ref (ca 0), .int a1] r := gEntryR (ty := .int) (by decide) rfl rfl (Nat.le_of_ble_eq_true rfl) (fun _ h => h.2) (fun p e s m args below meth c Q ls X hB hret hl => 
  kX10_hoursOfShift_0 X hret hf hB.1 (lv_sub hl [0, 1] rfl))
set_option maxRecDepth 10000 in
theorem kX10_oathReason_14 {r : Int32} {M : CS} {s0 : Int32} (X : gX p s m args c cX10_oathReason 2 RX10 (kR kTab kA)) (hret : gRetR p l e (rmL 2 0 0) s m args below meth c cX10_oathReason Q r) (hf : fX10_oathReason_14 M s0 = some r) {ls : Array Slot} (hP : (cP dC dI cg kA ca) M s s.heap) (hl : lv_has ls 2 [(0, .ref (ca 0))]) : W p l e (rmL 2 0 0) s m args below meth c s.heap [] 0 0 Q (F0 m 14 ls [.int s0]) := by
  have hx := X.hx
  have hb := X.hb
  have hown := X.hown
  have hts := X.hts
  rw [fX10_oathReason_14] at hf
  cases hf
  exact hret _ _ dX10_oathReason_14
set_option maxRecDepth 10000 in
theorem kX10_oathReason_5 {r : Int32} {M : CS} {z0 : Nat} {x1 : Int32} (X : gX p s m args c cX10_oathReason 2 RX10 (kR kTab kA)) (hret : gRetR p l e (rmL 2 0 0) s m args below meth c cX10_oathReason Q r) (hkz0 : kc z0 = 18) (hf : fX10_oathReason_5 M z0 x1 = some r) {ls : Array Slot} (hP : (cP dC dI cg kA ca) M s s.heap) (hl : lv_has ls 2 [(0, .ref (ca 0)), (1, .int x1)]) : W p l e (rmL 2 0 0) s m args below meth c s.heap [] 0 0 Q (F0 m 5 ls [.ref (ca z0)]) := by
  have hx := X.hx
  have hb := X.hb
  have hown := X.hown
  have hts := X.hts
  rw [fX10_oathReason_5] at hf
  refine lv_pop hx hb dX10_oathReason_5 rfl ?_
  refine lv_aload_n hx hb dX10_oathReason_6 rfl (lv_at hl 0 rfl) ?_
  refine cr_get (k := 2) X hP (rfl : kc 0 = 0) rfl cv0_2 rfl cinX10 (by decide) rfl tw957 dX10_oathReason_7 ?_
  refine lv_iload_n hx hb dX10_oathReason_10 rfl (lv_at hl 1 rfl) ?_
  obtain ⟨q, hc, hf⟩ := bd hf
  refine gCallVR X rfl (vX2_reasonAgainst (rfl : kc 13 = 11) hc) gRX10_X2_reasonAgainst hdX2_reasonAgainst rfl ⟨by decide, by decide⟩ (gB_blind cOK) (gB_at cOK X hP) (cr_rec hP (rfl : kc 13 = 11) rfl cw11 rfl) hl.1 (Nat.le_of_ble_eq_true rfl) ⟨Nat.zero_le _, Nat.zero_le _⟩ dX10_oathReason_11 (As := [.int x1]) (rest := []) rfl ?_
  exact kX10_oathReason_14 X hret hf hP (lv_sub hl [0] rfl)
set_option maxRecDepth 10000 in
theorem kX10_oathReason_0 {r : Int32} {M : CS} {a1 : Int32} (X : gX p s m args c cX10_oathReason 2 RX10 (kR kTab kA)) (hret : gRetR p l e (rmL 2 0 0) s m args below meth c cX10_oathReason Q r) (hf : fX10_oathReason_0 M a1 = some r) {ls : Array Slot} (hP : (cP dC dI cg kA ca) M s s.heap) (hl : lv_has ls 2 [(0, .ref (ca 0)), (1, .int a1)]) : W p l e (rmL 2 0 0) s m args below meth c s.heap [] 0 0 Q (F0 m 0 ls []) := by
  have hx := X.hx
  have hb := X.hb
  have hown := X.hown
  have hts := X.hts
  rw [fX10_oathReason_0] at hf
  refine lv_aload_n hx hb dX10_oathReason_0 rfl (lv_at hl 0 rfl) ?_
  refine lv_iload_n hx hb dX10_oathReason_1 rfl (lv_at hl 1 rfl) ?_
  obtain ⟨q, hc, hf⟩ := bd hf
  refine gCallVP X rfl (vX10_catAt hc) gRX10_X10_catAt hdX10_catAt rfl ⟨by decide, by decide⟩ (gB_blind cOK) (gB_at cOK X hP) (cr_rec hP (rfl : kc 0 = 0) rfl cw0 rfl) hl.1 (Nat.le_of_ble_eq_true rfl) ⟨Nat.zero_le _, Nat.zero_le _⟩ dX10_oathReason_2 (As := [.int a1]) (rest := []) rfl ?_
  exact kX10_oathReason_5 X hret (kkX10_catAt hc) hf hP (lv_sub hl [0, 1] rfl)
theorem vX10_oathReason {l : Launch} {dC : Nat → ClassId} {dI : Nat → Nat → Nat} {cg : Nat → ClassId} {kA : String → Nat → Nat} {ca : Nat → Nat} {M : CS} {r : Int32} {a1 : Int32} (hf : fX10_oathReason M a1 = some r) : gMetR l yX10_oathReason cX10_oathReason 2 (some .int) 2 (gB (cP dC dI cg kA ca) (kR kTab kA) M) [.ref (ca 0), .int a1] r := gEntryR (ty := .int) (by decide) rfl rfl (Nat.le_of_ble_eq_true rfl) (fun _ h => h.2) (fun p e s m args below meth c Q ls X hB hret hl => 
  kX10_oathReason_0 X hret hf hB.1 (lv_sub hl [0, 1] rfl))
set_option maxRecDepth 10000 in
theorem kX10_huntingSack_7 {r : Int32} {M : CS} {s0 : Int32} (X : gX p s m args c cX10_huntingSack 1 RX10 (kR kTab kA)) (hret : gRetR p l e (rmL 2 0 0) s m args below meth c cX10_huntingSack Q r) (hf : fX10_huntingSack_7 M s0 = some r) {ls : Array Slot} (hP : (cP dC dI cg kA ca) M s s.heap) (hl : lv_has ls 1 [(0, .ref (ca 0))]) : W p l e (rmL 2 0 0) s m args below meth c s.heap [] 0 0 Q (F0 m 7 ls [.int s0]) := by
  have hx := X.hx
  have hb := X.hb
  have hown := X.hown
  have hts := X.hts
  rw [fX10_huntingSack_7] at hf
  cases hf
  exact hret _ _ dX10_huntingSack_7
set_option maxRecDepth 10000 in
theorem kX10_huntingSack_0 {r : Int32} {M : CS} (X : gX p s m args c cX10_huntingSack 1 RX10 (kR kTab kA)) (hret : gRetR p l e (rmL 2 0 0) s m args below meth c cX10_huntingSack Q r) (hf : fX10_huntingSack_0 M = some r) {ls : Array Slot} (hP : (cP dC dI cg kA ca) M s s.heap) (hl : lv_has ls 1 [(0, .ref (ca 0))]) : W p l e (rmL 2 0 0) s m args below meth c s.heap [] 0 0 Q (F0 m 0 ls []) := by
  have hx := X.hx
  have hb := X.hb
  have hown := X.hown
  have hts := X.hts
  rw [fX10_huntingSack_0] at hf
  refine lv_aload_n hx hb dX10_huntingSack_0 rfl (lv_at hl 0 rfl) ?_
  refine cr_get (k := 2) X hP (rfl : kc 0 = 0) rfl cv0_2 rfl cinX10 (by decide) rfl tw957 dX10_huntingSack_1 ?_
  obtain ⟨q, hc, hf⟩ := bd hf
  refine gCallVR X rfl (vX2_busiestOpenSack (rfl : kc 13 = 11) hc) gRX10_X2_busiestOpenSack hdX2_busiestOpenSack rfl ⟨by decide, by decide⟩ (gB_blind cOK) (gB_at cOK X hP) (cr_rec hP (rfl : kc 13 = 11) rfl cw11 rfl) hl.1 (Nat.le_of_ble_eq_true rfl) ⟨Nat.zero_le _, Nat.zero_le _⟩ dX10_huntingSack_4 (As := []) (rest := []) rfl ?_
  exact kX10_huntingSack_7 X hret hf hP (lv_sub hl [0] rfl)
theorem vX10_huntingSack {l : Launch} {dC : Nat → ClassId} {dI : Nat → Nat → Nat} {cg : Nat → ClassId} {kA : String → Nat → Nat} {ca : Nat → Nat} {M : CS} {r : Int32} (hf : fX10_huntingSack M  = some r) : gMetR l yX10_huntingSack cX10_huntingSack 1 (some .int) 2 (gB (cP dC dI cg kA ca) (kR kTab kA) M) [.ref (ca 0)] r := gEntryR (ty := .int) (by decide) rfl rfl (Nat.le_of_ble_eq_true rfl) (fun _ h => h.2) (fun p e s m args below meth c Q ls X hB hret hl => 
  kX10_huntingSack_0 X hret hf hB.1 (lv_sub hl [0] rfl))
set_option maxRecDepth 10000 in
theorem kX2_copyFrom_179 {S1 : CS} {t : Nat} {b1 : Nat} {M : CS} {H : Heap} {locs : List Loc} {ls : Array Slot} (X : gX p s m args c cX2_copyFrom 3 RX2 (kR kTab kA)) (hret : gRetV p l e (rmL 3 0 0) s m args below meth c cX2_copyFrom (cΩ ca) (cP dC dI cg kA ca) Q S1) (hkt : kc t = 11) (hkb1 : kc b1 = 11) (hf : fX2_copyFrom_179 t b1 M = some S1) (hP : (cP dC dI cg kA ca) M s H) (hS : va_S (Fr (cΩ ca) s.heap.size) s.heap H locs) (hl : lv_has ls 3 [(0, .ref (ca t))]) : W p l e (rmL 3 0 0) s m args below meth c H locs 0 0 Q (F0 m 179 ls []) := by
  have hx := X.hx
  have hb := X.hb
  have hown := X.hown
  have hts := X.hts
  rw [fX2_copyFrom_179] at hf
  cases hf
  exact hret _ _ _ _ dX2_copyFrom_179 hP hS
set_option maxRecDepth 10000 in
theorem kX2_copyFrom_173 {S1 : CS} {t : Nat} {b1 : Nat} {K150 : CS → Int32 → Option (CS)} {M : CS} {x2 : Int32} {H : Heap} {locs : List Loc} {ls : Array Slot} (X : gX p s m args c cX2_copyFrom 3 RX2 (kR kTab kA)) (hret : gRetV p l e (rmL 3 0 0) s m args below meth c cX2_copyFrom (cΩ ca) (cP dC dI cg kA ca) Q S1) (hkt : kc t = 11) (hkb1 : kc b1 = 11) (hK150 : ∀ (M : CS) (x2 : Int32) (H : Heap) (locs : List Loc) (ls : Array Slot), K150 M x2 = some S1 → (cP dC dI cg kA ca) M s H → va_S (Fr (cΩ ca) s.heap.size) s.heap H locs → lv_has ls 3 [(0, .ref (ca t)), (1, .ref (ca b1)), (2, .int x2)] → W p l e (rmL 3 0 0) s m args below meth c H locs 0 0 Q (F0 m 150 ls [])) (hf : fX2_copyFrom_173 t b1 K150 M x2 = some S1) (hP : (cP dC dI cg kA ca) M s H) (hS : va_S (Fr (cΩ ca) s.heap.size) s.heap H locs) (hl : lv_has ls 3 [(0, .ref (ca t)), (1, .ref (ca b1)), (2, .int x2)]) : W p l e (rmL 3 0 0) s m args below meth c H locs 0 0 Q (F0 m 173 ls []) := by
  have hx := X.hx
  have hb := X.hb
  have hown := X.hown
  have hts := X.hts
  rw [fX2_copyFrom_173] at hf
  refine lv_iinc (v := (x2 + 1)) (lv' := [(2, .int (x2 + 1)), (0, .ref (ca t)), (1, .ref (ca b1))]) hx hb dX2_copyFrom_173 hl (k := 2) rfl (by rfl) (by decide) rfl (fun ls hl => ?_)
  refine lv_goto (tgt := 150) hx hb dX2_copyFrom_176 (by decide) ?_
  exact hK150 _ _ _ _ _ hf hP hS (lv_sub hl [1, 2, 0] rfl)
set_option maxRecDepth 10000 in
theorem kX2_copyFrom_158 {S1 : CS} {t : Nat} {b1 : Nat} {K150 : CS → Int32 → Option (CS)} {M : CS} {x2 : Int32} {H : Heap} {locs : List Loc} {ls : Array Slot} (X : gX p s m args c cX2_copyFrom 3 RX2 (kR kTab kA)) (hret : gRetV p l e (rmL 3 0 0) s m args below meth c cX2_copyFrom (cΩ ca) (cP dC dI cg kA ca) Q S1) (hkt : kc t = 11) (hkb1 : kc b1 = 11) (hK150 : ∀ (M : CS) (x2 : Int32) (H : Heap) (locs : List Loc) (ls : Array Slot), K150 M x2 = some S1 → (cP dC dI cg kA ca) M s H → va_S (Fr (cΩ ca) s.heap.size) s.heap H locs → lv_has ls 3 [(0, .ref (ca t)), (1, .ref (ca b1)), (2, .int x2)] → W p l e (rmL 3 0 0) s m args below meth c H locs 0 0 Q (F0 m 150 ls [])) (hf : fX2_copyFrom_158 t b1 K150 M x2 = some S1) (hP : (cP dC dI cg kA ca) M s H) (hS : va_S (Fr (cΩ ca) s.heap.size) s.heap H locs) (hl : lv_has ls 3 [(0, .ref (ca t)), (1, .ref (ca b1)), (2, .int x2)]) : W p l e (rmL 3 0 0) s m args below meth c H locs 0 0 Q (F0 m 158 ls []) := by
  have hx := X.hx
  have hb := X.hb
  have hown := X.hown
  have hts := X.hts
  rw [fX2_copyFrom_158] at hf
  refine lv_aload_n hx hb dX2_copyFrom_158 rfl (lv_at hl 0 rfl) ?_
  refine cr_get (k := 2) X hP hkt rfl cv11_2 rfl cinX2 (by decide) rfl tw319 dX2_copyFrom_159 ?_
  refine lv_iload_n hx hb dX2_copyFrom_162 rfl (lv_at hl 2 rfl) ?_
  obtain ⟨g1, hf⟩ := gd hf
  refine cr_aald (f := fun i => (t + 3) + 20 + i) X hP (kc_shifts hkt) rfl (fun _ => rfl) rfl g1 dX2_copyFrom_163 ?_
  refine lv_aload_n hx hb dX2_copyFrom_164 rfl (lv_at hl 1 rfl) ?_
  refine cr_get (k := 2) X hP hkb1 rfl cv11_2 rfl cinX2 (by decide) rfl tw319 dX2_copyFrom_165 ?_
  refine lv_iload_n hx hb dX2_copyFrom_168 rfl (lv_at hl 2 rfl) ?_
  obtain ⟨g2, hf⟩ := gd hf
  refine cr_aald (f := fun i => (b1 + 3) + 20 + i) X hP (kc_shifts hkb1) rfl (fun _ => rfl) rfl g2 dX2_copyFrom_169 ?_
  obtain ⟨q, hc, hf⟩ := bd hf
  refine gCallVV X cOK rfl (vX7_copyFrom (kc_shift (kc_shifts hkt) g1) (kc_shift (kc_shifts hkb1) g2) hc) gRX2_X7_copyFrom hdX7_copyFrom rfl ⟨by decide, by decide⟩ hP hS (cr_rec hP (kc_shift (kc_shifts hkt) g1) rfl cw20 rfl) hl.1 (Nat.le_of_ble_eq_true rfl) ⟨Nat.zero_le _, Nat.zero_le _⟩ dX2_copyFrom_170 (As := [.ref (ca ((b1 + 3) + 20 + x2.toNatClampNeg))]) (rest := []) rfl (fun H locs hP hS => ?_)
  exact kX2_copyFrom_173 X hret hkt hkb1 hK150 hf hP hS (lv_sub hl [0, 1, 2] rfl)
set_option maxRecDepth 10000 in
theorem kX2_copyFrom_150 {S1 : CS} {t : Nat} {b1 : Nat} (X : gX p s m args c cX2_copyFrom 3 RX2 (kR kTab kA)) (hret : gRetV p l e (rmL 3 0 0) s m args below meth c cX2_copyFrom (cΩ ca) (cP dC dI cg kA ca) Q S1) (hkt : kc t = 11) (hkb1 : kc b1 = 11) : ∀ (n : Nat) (M : CS) (x2 : Int32) (H : Heap) (locs : List Loc) (ls : Array Slot), fX2_copyFrom_150 t b1 n M x2 = some S1 → (cP dC dI cg kA ca) M s H → va_S (Fr (cΩ ca) s.heap.size) s.heap H locs → lv_has ls 3 [(0, .ref (ca t)), (1, .ref (ca b1)), (2, .int x2)] → W p l e (rmL 3 0 0) s m args below meth c H locs 0 0 Q (F0 m 150 ls []) := by
  intro n
  induction n with
  | zero => intro M x2 H locs ls hf; cases hf
  | succ k ih =>
    intro M x2 H locs ls hf hP hS hl
    have hx := X.hx
    have hb := X.hb
    have hown := X.hown
    have hts := X.hts
    rw [fX2_copyFrom_150] at hf
    try dsimp only at hf
    refine lv_iload_n hx hb dX2_copyFrom_150 rfl (lv_at hl 2 rfl) ?_
    refine lv_aload_n hx hb dX2_copyFrom_151 rfl (lv_at hl 0 rfl) ?_
    refine cr_get (k := 7) X hP hkt rfl cv11_7 rfl cinX2 (by decide) rfl tw332 dX2_copyFrom_152 ?_
    refine lv_icmp_ge (tgt := 179) hx hb dX2_copyFrom_155 (by decide) (fun c1 => ?_) (fun c1 => ?_)
    · exact kX2_copyFrom_179 X hret hkt hkb1 (ifp c1 hf) hP hS (lv_sub hl [0] rfl)
    · exact kX2_copyFrom_158 X hret hkt hkb1 ih (ifn c1 hf) hP hS (lv_sub hl [0, 1, 2] rfl)
set_option maxRecDepth 10000 in
theorem kX2_copyFrom_148 {S1 : CS} {t : Nat} {b1 : Nat} {M : CS} {H : Heap} {locs : List Loc} {ls : Array Slot} (X : gX p s m args c cX2_copyFrom 3 RX2 (kR kTab kA)) (hret : gRetV p l e (rmL 3 0 0) s m args below meth c cX2_copyFrom (cΩ ca) (cP dC dI cg kA ca) Q S1) (hkt : kc t = 11) (hkb1 : kc b1 = 11) (hf : fX2_copyFrom_148 t b1 M = some S1) (hP : (cP dC dI cg kA ca) M s H) (hS : va_S (Fr (cΩ ca) s.heap.size) s.heap H locs) (hl : lv_has ls 3 [(0, .ref (ca t)), (1, .ref (ca b1))]) : W p l e (rmL 3 0 0) s m args below meth c H locs 0 0 Q (F0 m 148 ls []) := by
  have hx := X.hx
  have hb := X.hb
  have hown := X.hown
  have hts := X.hts
  rw [fX2_copyFrom_148] at hf
  refine lv_iconst (v := 0) hx hb dX2_copyFrom_148 (by decide) ?_
  refine lv_istore_n (lv' := [(2, .int 0), (0, .ref (ca t)), (1, .ref (ca b1))]) hx hb dX2_copyFrom_149 rfl hl (by decide) rfl (fun ls hl => ?_)
  exact kX2_copyFrom_150 X hret hkt hkb1 FU _ _ _ _ _ hf hP hS (lv_sub hl [1, 2, 0] rfl)
set_option maxRecDepth 10000 in
theorem kX2_copyFrom_142 {S1 : CS} {t : Nat} {b1 : Nat} {K119 : CS → Int32 → Option (CS)} {M : CS} {x2 : Int32} {H : Heap} {locs : List Loc} {ls : Array Slot} (X : gX p s m args c cX2_copyFrom 3 RX2 (kR kTab kA)) (hret : gRetV p l e (rmL 3 0 0) s m args below meth c cX2_copyFrom (cΩ ca) (cP dC dI cg kA ca) Q S1) (hkt : kc t = 11) (hkb1 : kc b1 = 11) (hK119 : ∀ (M : CS) (x2 : Int32) (H : Heap) (locs : List Loc) (ls : Array Slot), K119 M x2 = some S1 → (cP dC dI cg kA ca) M s H → va_S (Fr (cΩ ca) s.heap.size) s.heap H locs → lv_has ls 3 [(0, .ref (ca t)), (1, .ref (ca b1)), (2, .int x2)] → W p l e (rmL 3 0 0) s m args below meth c H locs 0 0 Q (F0 m 119 ls [])) (hf : fX2_copyFrom_142 t b1 K119 M x2 = some S1) (hP : (cP dC dI cg kA ca) M s H) (hS : va_S (Fr (cΩ ca) s.heap.size) s.heap H locs) (hl : lv_has ls 3 [(0, .ref (ca t)), (1, .ref (ca b1)), (2, .int x2)]) : W p l e (rmL 3 0 0) s m args below meth c H locs 0 0 Q (F0 m 142 ls []) := by
  have hx := X.hx
  have hb := X.hb
  have hown := X.hown
  have hts := X.hts
  rw [fX2_copyFrom_142] at hf
  refine lv_iinc (v := (x2 + 1)) (lv' := [(2, .int (x2 + 1)), (0, .ref (ca t)), (1, .ref (ca b1))]) hx hb dX2_copyFrom_142 hl (k := 2) rfl (by rfl) (by decide) rfl (fun ls hl => ?_)
  refine lv_goto (tgt := 119) hx hb dX2_copyFrom_145 (by decide) ?_
  exact hK119 _ _ _ _ _ hf hP hS (lv_sub hl [1, 2, 0] rfl)
set_option maxRecDepth 10000 in
theorem kX2_copyFrom_127 {S1 : CS} {t : Nat} {b1 : Nat} {K119 : CS → Int32 → Option (CS)} {M : CS} {x2 : Int32} {H : Heap} {locs : List Loc} {ls : Array Slot} (X : gX p s m args c cX2_copyFrom 3 RX2 (kR kTab kA)) (hret : gRetV p l e (rmL 3 0 0) s m args below meth c cX2_copyFrom (cΩ ca) (cP dC dI cg kA ca) Q S1) (hkt : kc t = 11) (hkb1 : kc b1 = 11) (hK119 : ∀ (M : CS) (x2 : Int32) (H : Heap) (locs : List Loc) (ls : Array Slot), K119 M x2 = some S1 → (cP dC dI cg kA ca) M s H → va_S (Fr (cΩ ca) s.heap.size) s.heap H locs → lv_has ls 3 [(0, .ref (ca t)), (1, .ref (ca b1)), (2, .int x2)] → W p l e (rmL 3 0 0) s m args below meth c H locs 0 0 Q (F0 m 119 ls [])) (hf : fX2_copyFrom_127 t b1 K119 M x2 = some S1) (hP : (cP dC dI cg kA ca) M s H) (hS : va_S (Fr (cΩ ca) s.heap.size) s.heap H locs) (hl : lv_has ls 3 [(0, .ref (ca t)), (1, .ref (ca b1)), (2, .int x2)]) : W p l e (rmL 3 0 0) s m args below meth c H locs 0 0 Q (F0 m 127 ls []) := by
  have hx := X.hx
  have hb := X.hb
  have hown := X.hown
  have hts := X.hts
  rw [fX2_copyFrom_127] at hf
  refine lv_aload_n hx hb dX2_copyFrom_127 rfl (lv_at hl 0 rfl) ?_
  refine cr_get (k := 1) X hP hkt rfl cv11_1 rfl cinX2 (by decide) rfl tw316 dX2_copyFrom_128 ?_
  refine lv_iload_n hx hb dX2_copyFrom_131 rfl (lv_at hl 2 rfl) ?_
  obtain ⟨g1, hf⟩ := gd hf
  refine cr_aald (f := fun i => (t + 2) + 15 + i) X hP (kc_sacks hkt) rfl (fun _ => rfl) rfl g1 dX2_copyFrom_132 ?_
  refine lv_aload_n hx hb dX2_copyFrom_133 rfl (lv_at hl 1 rfl) ?_
  refine cr_get (k := 1) X hP hkb1 rfl cv11_1 rfl cinX2 (by decide) rfl tw316 dX2_copyFrom_134 ?_
  refine lv_iload_n hx hb dX2_copyFrom_137 rfl (lv_at hl 2 rfl) ?_
  obtain ⟨g2, hf⟩ := gd hf
  refine cr_aald (f := fun i => (b1 + 2) + 15 + i) X hP (kc_sacks hkb1) rfl (fun _ => rfl) rfl g2 dX2_copyFrom_138 ?_
  obtain ⟨q, hc, hf⟩ := bd hf
  refine gCallVV X cOK rfl (vX4_copyFrom (kc_sack (kc_sacks hkt) g1) (kc_sack (kc_sacks hkb1) g2) hc) gRX2_X4_copyFrom hdX4_copyFrom rfl ⟨by decide, by decide⟩ hP hS (cr_rec hP (kc_sack (kc_sacks hkt) g1) rfl cw19 rfl) hl.1 (Nat.le_of_ble_eq_true rfl) ⟨Nat.zero_le _, Nat.zero_le _⟩ dX2_copyFrom_139 (As := [.ref (ca ((b1 + 2) + 15 + x2.toNatClampNeg))]) (rest := []) rfl (fun H locs hP hS => ?_)
  exact kX2_copyFrom_142 X hret hkt hkb1 hK119 hf hP hS (lv_sub hl [0, 1, 2] rfl)
set_option maxRecDepth 10000 in
theorem kX2_copyFrom_119 {S1 : CS} {t : Nat} {b1 : Nat} (X : gX p s m args c cX2_copyFrom 3 RX2 (kR kTab kA)) (hret : gRetV p l e (rmL 3 0 0) s m args below meth c cX2_copyFrom (cΩ ca) (cP dC dI cg kA ca) Q S1) (hkt : kc t = 11) (hkb1 : kc b1 = 11) : ∀ (n : Nat) (M : CS) (x2 : Int32) (H : Heap) (locs : List Loc) (ls : Array Slot), fX2_copyFrom_119 t b1 n M x2 = some S1 → (cP dC dI cg kA ca) M s H → va_S (Fr (cΩ ca) s.heap.size) s.heap H locs → lv_has ls 3 [(0, .ref (ca t)), (1, .ref (ca b1)), (2, .int x2)] → W p l e (rmL 3 0 0) s m args below meth c H locs 0 0 Q (F0 m 119 ls []) := by
  intro n
  induction n with
  | zero => intro M x2 H locs ls hf; cases hf
  | succ k ih =>
    intro M x2 H locs ls hf hP hS hl
    have hx := X.hx
    have hb := X.hb
    have hown := X.hown
    have hts := X.hts
    rw [fX2_copyFrom_119] at hf
    try dsimp only at hf
    refine lv_iload_n hx hb dX2_copyFrom_119 rfl (lv_at hl 2 rfl) ?_
    refine lv_aload_n hx hb dX2_copyFrom_120 rfl (lv_at hl 0 rfl) ?_
    refine cr_get (k := 6) X hP hkt rfl cv11_6 rfl cinX2 (by decide) rfl tw329 dX2_copyFrom_121 ?_
    refine lv_icmp_ge (tgt := 148) hx hb dX2_copyFrom_124 (by decide) (fun c1 => ?_) (fun c1 => ?_)
    · exact kX2_copyFrom_148 X hret hkt hkb1 (ifp c1 hf) hP hS (lv_sub hl [0, 1] rfl)
    · exact kX2_copyFrom_127 X hret hkt hkb1 ih (ifn c1 hf) hP hS (lv_sub hl [0, 1, 2] rfl)
set_option maxRecDepth 10000 in
theorem kX2_copyFrom_117 {S1 : CS} {t : Nat} {b1 : Nat} {M : CS} {H : Heap} {locs : List Loc} {ls : Array Slot} (X : gX p s m args c cX2_copyFrom 3 RX2 (kR kTab kA)) (hret : gRetV p l e (rmL 3 0 0) s m args below meth c cX2_copyFrom (cΩ ca) (cP dC dI cg kA ca) Q S1) (hkt : kc t = 11) (hkb1 : kc b1 = 11) (hf : fX2_copyFrom_117 t b1 M = some S1) (hP : (cP dC dI cg kA ca) M s H) (hS : va_S (Fr (cΩ ca) s.heap.size) s.heap H locs) (hl : lv_has ls 3 [(0, .ref (ca t)), (1, .ref (ca b1))]) : W p l e (rmL 3 0 0) s m args below meth c H locs 0 0 Q (F0 m 117 ls []) := by
  have hx := X.hx
  have hb := X.hb
  have hown := X.hown
  have hts := X.hts
  rw [fX2_copyFrom_117] at hf
  refine lv_iconst (v := 0) hx hb dX2_copyFrom_117 (by decide) ?_
  refine lv_istore_n (lv' := [(2, .int 0), (0, .ref (ca t)), (1, .ref (ca b1))]) hx hb dX2_copyFrom_118 rfl hl (by decide) rfl (fun ls hl => ?_)
  exact kX2_copyFrom_119 X hret hkt hkb1 FU _ _ _ _ _ hf hP hS (lv_sub hl [1, 2, 0] rfl)
set_option maxRecDepth 10000 in
theorem kX2_copyFrom_111 {S1 : CS} {t : Nat} {b1 : Nat} {K88 : CS → Int32 → Option (CS)} {M : CS} {x2 : Int32} {H : Heap} {locs : List Loc} {ls : Array Slot} (X : gX p s m args c cX2_copyFrom 3 RX2 (kR kTab kA)) (hret : gRetV p l e (rmL 3 0 0) s m args below meth c cX2_copyFrom (cΩ ca) (cP dC dI cg kA ca) Q S1) (hkt : kc t = 11) (hkb1 : kc b1 = 11) (hK88 : ∀ (M : CS) (x2 : Int32) (H : Heap) (locs : List Loc) (ls : Array Slot), K88 M x2 = some S1 → (cP dC dI cg kA ca) M s H → va_S (Fr (cΩ ca) s.heap.size) s.heap H locs → lv_has ls 3 [(0, .ref (ca t)), (1, .ref (ca b1)), (2, .int x2)] → W p l e (rmL 3 0 0) s m args below meth c H locs 0 0 Q (F0 m 88 ls [])) (hf : fX2_copyFrom_111 t b1 K88 M x2 = some S1) (hP : (cP dC dI cg kA ca) M s H) (hS : va_S (Fr (cΩ ca) s.heap.size) s.heap H locs) (hl : lv_has ls 3 [(0, .ref (ca t)), (1, .ref (ca b1)), (2, .int x2)]) : W p l e (rmL 3 0 0) s m args below meth c H locs 0 0 Q (F0 m 111 ls []) := by
  have hx := X.hx
  have hb := X.hb
  have hown := X.hown
  have hts := X.hts
  rw [fX2_copyFrom_111] at hf
  refine lv_iinc (v := (x2 + 1)) (lv' := [(2, .int (x2 + 1)), (0, .ref (ca t)), (1, .ref (ca b1))]) hx hb dX2_copyFrom_111 hl (k := 2) rfl (by rfl) (by decide) rfl (fun ls hl => ?_)
  refine lv_goto (tgt := 88) hx hb dX2_copyFrom_114 (by decide) ?_
  exact hK88 _ _ _ _ _ hf hP hS (lv_sub hl [1, 2, 0] rfl)
set_option maxRecDepth 10000 in
theorem kX2_copyFrom_96 {S1 : CS} {t : Nat} {b1 : Nat} {K88 : CS → Int32 → Option (CS)} {M : CS} {x2 : Int32} {H : Heap} {locs : List Loc} {ls : Array Slot} (X : gX p s m args c cX2_copyFrom 3 RX2 (kR kTab kA)) (hret : gRetV p l e (rmL 3 0 0) s m args below meth c cX2_copyFrom (cΩ ca) (cP dC dI cg kA ca) Q S1) (hkt : kc t = 11) (hkb1 : kc b1 = 11) (hK88 : ∀ (M : CS) (x2 : Int32) (H : Heap) (locs : List Loc) (ls : Array Slot), K88 M x2 = some S1 → (cP dC dI cg kA ca) M s H → va_S (Fr (cΩ ca) s.heap.size) s.heap H locs → lv_has ls 3 [(0, .ref (ca t)), (1, .ref (ca b1)), (2, .int x2)] → W p l e (rmL 3 0 0) s m args below meth c H locs 0 0 Q (F0 m 88 ls [])) (hf : fX2_copyFrom_96 t b1 K88 M x2 = some S1) (hP : (cP dC dI cg kA ca) M s H) (hS : va_S (Fr (cΩ ca) s.heap.size) s.heap H locs) (hl : lv_has ls 3 [(0, .ref (ca t)), (1, .ref (ca b1)), (2, .int x2)]) : W p l e (rmL 3 0 0) s m args below meth c H locs 0 0 Q (F0 m 96 ls []) := by
  have hx := X.hx
  have hb := X.hb
  have hown := X.hown
  have hts := X.hts
  rw [fX2_copyFrom_96] at hf
  refine lv_aload_n hx hb dX2_copyFrom_96 rfl (lv_at hl 0 rfl) ?_
  refine cr_get (k := 0) X hP hkt rfl cv11_0 rfl cinX2 (by decide) rfl tw313 dX2_copyFrom_97 ?_
  refine lv_iload_n hx hb dX2_copyFrom_100 rfl (lv_at hl 2 rfl) ?_
  obtain ⟨g1, hf⟩ := gd hf
  refine cr_aald (f := fun i => (t + 1) + 8 + i) X hP (kc_cats hkt) rfl (fun _ => rfl) rfl g1 dX2_copyFrom_101 ?_
  refine lv_aload_n hx hb dX2_copyFrom_102 rfl (lv_at hl 1 rfl) ?_
  refine cr_get (k := 0) X hP hkb1 rfl cv11_0 rfl cinX2 (by decide) rfl tw313 dX2_copyFrom_103 ?_
  refine lv_iload_n hx hb dX2_copyFrom_106 rfl (lv_at hl 2 rfl) ?_
  obtain ⟨g2, hf⟩ := gd hf
  refine cr_aald (f := fun i => (b1 + 1) + 8 + i) X hP (kc_cats hkb1) rfl (fun _ => rfl) rfl g2 dX2_copyFrom_107 ?_
  obtain ⟨q, hc, hf⟩ := bd hf
  refine gCallVV X cOK rfl (vX0_copyFrom (kc_cat (kc_cats hkt) g1) (kc_cat (kc_cats hkb1) g2) hc) gRX2_X0_copyFrom hdX0_copyFrom rfl ⟨by decide, by decide⟩ hP hS (cr_rec hP (kc_cat (kc_cats hkt) g1) rfl cw18 rfl) hl.1 (Nat.le_of_ble_eq_true rfl) ⟨Nat.zero_le _, Nat.zero_le _⟩ dX2_copyFrom_108 (As := [.ref (ca ((b1 + 1) + 8 + x2.toNatClampNeg))]) (rest := []) rfl (fun H locs hP hS => ?_)
  exact kX2_copyFrom_111 X hret hkt hkb1 hK88 hf hP hS (lv_sub hl [0, 1, 2] rfl)
set_option maxRecDepth 10000 in
theorem kX2_copyFrom_88 {S1 : CS} {t : Nat} {b1 : Nat} (X : gX p s m args c cX2_copyFrom 3 RX2 (kR kTab kA)) (hret : gRetV p l e (rmL 3 0 0) s m args below meth c cX2_copyFrom (cΩ ca) (cP dC dI cg kA ca) Q S1) (hkt : kc t = 11) (hkb1 : kc b1 = 11) : ∀ (n : Nat) (M : CS) (x2 : Int32) (H : Heap) (locs : List Loc) (ls : Array Slot), fX2_copyFrom_88 t b1 n M x2 = some S1 → (cP dC dI cg kA ca) M s H → va_S (Fr (cΩ ca) s.heap.size) s.heap H locs → lv_has ls 3 [(0, .ref (ca t)), (1, .ref (ca b1)), (2, .int x2)] → W p l e (rmL 3 0 0) s m args below meth c H locs 0 0 Q (F0 m 88 ls []) := by
  intro n
  induction n with
  | zero => intro M x2 H locs ls hf; cases hf
  | succ k ih =>
    intro M x2 H locs ls hf hP hS hl
    have hx := X.hx
    have hb := X.hb
    have hown := X.hown
    have hts := X.hts
    rw [fX2_copyFrom_88] at hf
    try dsimp only at hf
    refine lv_iload_n hx hb dX2_copyFrom_88 rfl (lv_at hl 2 rfl) ?_
    refine lv_aload_n hx hb dX2_copyFrom_89 rfl (lv_at hl 0 rfl) ?_
    refine cr_get (k := 5) X hP hkt rfl cv11_5 rfl cinX2 (by decide) rfl tw326 dX2_copyFrom_90 ?_
    refine lv_icmp_ge (tgt := 117) hx hb dX2_copyFrom_93 (by decide) (fun c1 => ?_) (fun c1 => ?_)
    · exact kX2_copyFrom_117 X hret hkt hkb1 (ifp c1 hf) hP hS (lv_sub hl [0, 1] rfl)
    · exact kX2_copyFrom_96 X hret hkt hkb1 ih (ifn c1 hf) hP hS (lv_sub hl [0, 1, 2] rfl)
set_option maxRecDepth 10000 in
theorem kX2_copyFrom_86 {S1 : CS} {t : Nat} {b1 : Nat} {M : CS} {H : Heap} {locs : List Loc} {ls : Array Slot} (X : gX p s m args c cX2_copyFrom 3 RX2 (kR kTab kA)) (hret : gRetV p l e (rmL 3 0 0) s m args below meth c cX2_copyFrom (cΩ ca) (cP dC dI cg kA ca) Q S1) (hkt : kc t = 11) (hkb1 : kc b1 = 11) (hf : fX2_copyFrom_86 t b1 M = some S1) (hP : (cP dC dI cg kA ca) M s H) (hS : va_S (Fr (cΩ ca) s.heap.size) s.heap H locs) (hl : lv_has ls 3 [(0, .ref (ca t)), (1, .ref (ca b1))]) : W p l e (rmL 3 0 0) s m args below meth c H locs 0 0 Q (F0 m 86 ls []) := by
  have hx := X.hx
  have hb := X.hb
  have hown := X.hown
  have hts := X.hts
  rw [fX2_copyFrom_86] at hf
  refine lv_iconst (v := 0) hx hb dX2_copyFrom_86 (by decide) ?_
  refine lv_istore_n (lv' := [(2, .int 0), (0, .ref (ca t)), (1, .ref (ca b1))]) hx hb dX2_copyFrom_87 rfl hl (by decide) rfl (fun ls hl => ?_)
  exact kX2_copyFrom_88 X hret hkt hkb1 FU _ _ _ _ _ hf hP hS (lv_sub hl [1, 2, 0] rfl)
set_option maxRecDepth 10000 in
theorem kX2_copyFrom_75 {S1 : CS} {t : Nat} {b1 : Nat} {M : CS} {H : Heap} {locs : List Loc} {ls : Array Slot} (X : gX p s m args c cX2_copyFrom 3 RX2 (kR kTab kA)) (hret : gRetV p l e (rmL 3 0 0) s m args below meth c cX2_copyFrom (cΩ ca) (cP dC dI cg kA ca) Q S1) (hkt : kc t = 11) (hkb1 : kc b1 = 11) (hf : fX2_copyFrom_75 t b1 M = some S1) (hP : (cP dC dI cg kA ca) M s H) (hS : va_S (Fr (cΩ ca) s.heap.size) s.heap H locs) (hl : lv_has ls 3 [(0, .ref (ca t)), (1, .ref (ca b1))]) : W p l e (rmL 3 0 0) s m args below meth c H locs 0 0 Q (F0 m 75 ls []) := by
  have hx := X.hx
  have hb := X.hb
  have hown := X.hown
  have hts := X.hts
  rw [fX2_copyFrom_75] at hf
  refine lv_aload_n hx hb dX2_copyFrom_75 rfl (lv_at hl 0 rfl) ?_
  refine cr_get (k := 4) X hP hkt rfl cv11_4 rfl cinX2 (by decide) rfl tw324 dX2_copyFrom_76 ?_
  refine lv_aload_n hx hb dX2_copyFrom_79 rfl (lv_at hl 1 rfl) ?_
  refine cr_get (k := 4) X hP hkb1 rfl cv11_4 rfl cinX2 (by decide) rfl tw324 dX2_copyFrom_80 ?_
  obtain ⟨q, hc, hf⟩ := bd hf
  refine gCallVV X cOK rfl (vX9_copyFrom (kc_totals hkt) (kc_totals hkb1) hc) gRX2_X9_copyFrom hdX9_copyFrom rfl ⟨by decide, by decide⟩ hP hS (cr_rec hP (kc_totals hkt) rfl cw17 rfl) hl.1 (Nat.le_of_ble_eq_true rfl) ⟨Nat.zero_le _, Nat.zero_le _⟩ dX2_copyFrom_83 (As := [.ref (ca (b1 + 8))]) (rest := []) rfl (fun H locs hP hS => ?_)
  exact kX2_copyFrom_86 X hret hkt hkb1 hf hP hS (lv_sub hl [0, 1] rfl)
set_option maxRecDepth 10000 in
theorem kX2_copyFrom_64 {S1 : CS} {t : Nat} {b1 : Nat} {M : CS} {H : Heap} {locs : List Loc} {ls : Array Slot} (X : gX p s m args c cX2_copyFrom 3 RX2 (kR kTab kA)) (hret : gRetV p l e (rmL 3 0 0) s m args below meth c cX2_copyFrom (cΩ ca) (cP dC dI cg kA ca) Q S1) (hkt : kc t = 11) (hkb1 : kc b1 = 11) (hf : fX2_copyFrom_64 t b1 M = some S1) (hP : (cP dC dI cg kA ca) M s H) (hS : va_S (Fr (cΩ ca) s.heap.size) s.heap H locs) (hl : lv_has ls 3 [(0, .ref (ca t)), (1, .ref (ca b1))]) : W p l e (rmL 3 0 0) s m args below meth c H locs 0 0 Q (F0 m 64 ls []) := by
  have hx := X.hx
  have hb := X.hb
  have hown := X.hown
  have hts := X.hts
  rw [fX2_copyFrom_64] at hf
  refine lv_aload_n hx hb dX2_copyFrom_64 rfl (lv_at hl 0 rfl) ?_
  refine cr_get (k := 3) X hP hkt rfl cv11_3 rfl cinX2 (by decide) rfl tw322 dX2_copyFrom_65 ?_
  refine lv_aload_n hx hb dX2_copyFrom_68 rfl (lv_at hl 1 rfl) ?_
  refine cr_get (k := 3) X hP hkb1 rfl cv11_3 rfl cinX2 (by decide) rfl tw322 dX2_copyFrom_69 ?_
  obtain ⟨q, hc, hf⟩ := bd hf
  refine gCallVV X cOK rfl (vX1_copyFrom (kc_events hkt) (kc_events hkb1) hc) gRX2_X1_copyFrom hdX1_copyFrom rfl ⟨by decide, by decide⟩ hP hS (cr_rec hP (kc_events hkt) rfl cw15 rfl) hl.1 (Nat.le_of_ble_eq_true rfl) ⟨Nat.zero_le _, Nat.zero_le _⟩ dX2_copyFrom_72 (As := [.ref (ca (b1 + 4))]) (rest := []) rfl (fun H locs hP hS => ?_)
  exact kX2_copyFrom_75 X hret hkt hkb1 hf hP hS (lv_sub hl [0, 1] rfl)
set_option maxRecDepth 10000 in
theorem kX2_copyFrom_56 {S1 : CS} {t : Nat} {b1 : Nat} {M : CS} {H : Heap} {locs : List Loc} {ls : Array Slot} (X : gX p s m args c cX2_copyFrom 3 RX2 (kR kTab kA)) (hret : gRetV p l e (rmL 3 0 0) s m args below meth c cX2_copyFrom (cΩ ca) (cP dC dI cg kA ca) Q S1) (hkt : kc t = 11) (hkb1 : kc b1 = 11) (hf : fX2_copyFrom_56 t b1 M = some S1) (hP : (cP dC dI cg kA ca) M s H) (hS : va_S (Fr (cΩ ca) s.heap.size) s.heap H locs) (hl : lv_has ls 3 [(0, .ref (ca t)), (1, .ref (ca b1))]) : W p l e (rmL 3 0 0) s m args below meth c H locs 0 0 Q (F0 m 56 ls []) := by
  have hx := X.hx
  have hb := X.hb
  have hown := X.hown
  have hts := X.hts
  rw [fX2_copyFrom_56] at hf
  refine lv_aload_n hx hb dX2_copyFrom_56 rfl (lv_at hl 0 rfl) ?_
  refine lv_aload_n hx hb dX2_copyFrom_57 rfl (lv_at hl 1 rfl) ?_
  refine cr_get (k := 12) X hP hkb1 rfl cv11_12 rfl cinX2 (by decide) rfl tw344 dX2_copyFrom_58 ?_
  refine cr_put (k := 12) X hP hS hkt rfl cs11_12 rfl cinX2 tyX2_ok nmX2 (by decide) rfl rfl rfl rfl tw344 dX2_copyFrom_61 (fun H locs hP hS => ?_)
  exact kX2_copyFrom_64 X hret hkt hkb1 hf hP hS (lv_sub hl [0, 1] rfl)
set_option maxRecDepth 10000 in
theorem kX2_copyFrom_48 {S1 : CS} {t : Nat} {b1 : Nat} {M : CS} {H : Heap} {locs : List Loc} {ls : Array Slot} (X : gX p s m args c cX2_copyFrom 3 RX2 (kR kTab kA)) (hret : gRetV p l e (rmL 3 0 0) s m args below meth c cX2_copyFrom (cΩ ca) (cP dC dI cg kA ca) Q S1) (hkt : kc t = 11) (hkb1 : kc b1 = 11) (hf : fX2_copyFrom_48 t b1 M = some S1) (hP : (cP dC dI cg kA ca) M s H) (hS : va_S (Fr (cΩ ca) s.heap.size) s.heap H locs) (hl : lv_has ls 3 [(0, .ref (ca t)), (1, .ref (ca b1))]) : W p l e (rmL 3 0 0) s m args below meth c H locs 0 0 Q (F0 m 48 ls []) := by
  have hx := X.hx
  have hb := X.hb
  have hown := X.hown
  have hts := X.hts
  rw [fX2_copyFrom_48] at hf
  refine lv_aload_n hx hb dX2_copyFrom_48 rfl (lv_at hl 0 rfl) ?_
  refine lv_aload_n hx hb dX2_copyFrom_49 rfl (lv_at hl 1 rfl) ?_
  refine cr_get (k := 11) X hP hkb1 rfl cv11_11 rfl cinX2 (by decide) rfl tw341 dX2_copyFrom_50 ?_
  refine cr_put (k := 11) X hP hS hkt rfl cs11_11 rfl cinX2 tyX2_ok nmX2 (by decide) rfl rfl rfl rfl tw341 dX2_copyFrom_53 (fun H locs hP hS => ?_)
  exact kX2_copyFrom_56 X hret hkt hkb1 hf hP hS (lv_sub hl [0, 1] rfl)
set_option maxRecDepth 10000 in
theorem kX2_copyFrom_40 {S1 : CS} {t : Nat} {b1 : Nat} {M : CS} {H : Heap} {locs : List Loc} {ls : Array Slot} (X : gX p s m args c cX2_copyFrom 3 RX2 (kR kTab kA)) (hret : gRetV p l e (rmL 3 0 0) s m args below meth c cX2_copyFrom (cΩ ca) (cP dC dI cg kA ca) Q S1) (hkt : kc t = 11) (hkb1 : kc b1 = 11) (hf : fX2_copyFrom_40 t b1 M = some S1) (hP : (cP dC dI cg kA ca) M s H) (hS : va_S (Fr (cΩ ca) s.heap.size) s.heap H locs) (hl : lv_has ls 3 [(0, .ref (ca t)), (1, .ref (ca b1))]) : W p l e (rmL 3 0 0) s m args below meth c H locs 0 0 Q (F0 m 40 ls []) := by
  have hx := X.hx
  have hb := X.hb
  have hown := X.hown
  have hts := X.hts
  rw [fX2_copyFrom_40] at hf
  refine lv_aload_n hx hb dX2_copyFrom_40 rfl (lv_at hl 0 rfl) ?_
  refine lv_aload_n hx hb dX2_copyFrom_41 rfl (lv_at hl 1 rfl) ?_
  refine cr_get (k := 10) X hP hkb1 rfl cv11_10 rfl cinX2 (by decide) rfl tw339 dX2_copyFrom_42 ?_
  refine cr_put (k := 10) X hP hS hkt rfl cs11_10 rfl cinX2 tyX2_ok nmX2 (by decide) rfl rfl rfl rfl tw339 dX2_copyFrom_45 (fun H locs hP hS => ?_)
  exact kX2_copyFrom_48 X hret hkt hkb1 hf hP hS (lv_sub hl [0, 1] rfl)
set_option maxRecDepth 10000 in
theorem kX2_copyFrom_32 {S1 : CS} {t : Nat} {b1 : Nat} {M : CS} {H : Heap} {locs : List Loc} {ls : Array Slot} (X : gX p s m args c cX2_copyFrom 3 RX2 (kR kTab kA)) (hret : gRetV p l e (rmL 3 0 0) s m args below meth c cX2_copyFrom (cΩ ca) (cP dC dI cg kA ca) Q S1) (hkt : kc t = 11) (hkb1 : kc b1 = 11) (hf : fX2_copyFrom_32 t b1 M = some S1) (hP : (cP dC dI cg kA ca) M s H) (hS : va_S (Fr (cΩ ca) s.heap.size) s.heap H locs) (hl : lv_has ls 3 [(0, .ref (ca t)), (1, .ref (ca b1))]) : W p l e (rmL 3 0 0) s m args below meth c H locs 0 0 Q (F0 m 32 ls []) := by
  have hx := X.hx
  have hb := X.hb
  have hown := X.hown
  have hts := X.hts
  rw [fX2_copyFrom_32] at hf
  refine lv_aload_n hx hb dX2_copyFrom_32 rfl (lv_at hl 0 rfl) ?_
  refine lv_aload_n hx hb dX2_copyFrom_33 rfl (lv_at hl 1 rfl) ?_
  refine cr_get (k := 9) X hP hkb1 rfl cv11_9 rfl cinX2 (by decide) rfl tw337 dX2_copyFrom_34 ?_
  refine cr_put (k := 9) X hP hS hkt rfl cs11_9 rfl cinX2 tyX2_ok nmX2 (by decide) rfl rfl rfl rfl tw337 dX2_copyFrom_37 (fun H locs hP hS => ?_)
  exact kX2_copyFrom_40 X hret hkt hkb1 hf hP hS (lv_sub hl [0, 1] rfl)
set_option maxRecDepth 10000 in
theorem kX2_copyFrom_24 {S1 : CS} {t : Nat} {b1 : Nat} {M : CS} {H : Heap} {locs : List Loc} {ls : Array Slot} (X : gX p s m args c cX2_copyFrom 3 RX2 (kR kTab kA)) (hret : gRetV p l e (rmL 3 0 0) s m args below meth c cX2_copyFrom (cΩ ca) (cP dC dI cg kA ca) Q S1) (hkt : kc t = 11) (hkb1 : kc b1 = 11) (hf : fX2_copyFrom_24 t b1 M = some S1) (hP : (cP dC dI cg kA ca) M s H) (hS : va_S (Fr (cΩ ca) s.heap.size) s.heap H locs) (hl : lv_has ls 3 [(0, .ref (ca t)), (1, .ref (ca b1))]) : W p l e (rmL 3 0 0) s m args below meth c H locs 0 0 Q (F0 m 24 ls []) := by
  have hx := X.hx
  have hb := X.hb
  have hown := X.hown
  have hts := X.hts
  rw [fX2_copyFrom_24] at hf
  refine lv_aload_n hx hb dX2_copyFrom_24 rfl (lv_at hl 0 rfl) ?_
  refine lv_aload_n hx hb dX2_copyFrom_25 rfl (lv_at hl 1 rfl) ?_
  refine cr_get (k := 8) X hP hkb1 rfl cv11_8 rfl cinX2 (by decide) rfl tw335 dX2_copyFrom_26 ?_
  refine cr_put (k := 8) X hP hS hkt rfl cs11_8 rfl cinX2 tyX2_ok nmX2 (by decide) rfl rfl rfl rfl tw335 dX2_copyFrom_29 (fun H locs hP hS => ?_)
  exact kX2_copyFrom_32 X hret hkt hkb1 hf hP hS (lv_sub hl [0, 1] rfl)
set_option maxRecDepth 10000 in
theorem kX2_copyFrom_16 {S1 : CS} {t : Nat} {b1 : Nat} {M : CS} {H : Heap} {locs : List Loc} {ls : Array Slot} (X : gX p s m args c cX2_copyFrom 3 RX2 (kR kTab kA)) (hret : gRetV p l e (rmL 3 0 0) s m args below meth c cX2_copyFrom (cΩ ca) (cP dC dI cg kA ca) Q S1) (hkt : kc t = 11) (hkb1 : kc b1 = 11) (hf : fX2_copyFrom_16 t b1 M = some S1) (hP : (cP dC dI cg kA ca) M s H) (hS : va_S (Fr (cΩ ca) s.heap.size) s.heap H locs) (hl : lv_has ls 3 [(0, .ref (ca t)), (1, .ref (ca b1))]) : W p l e (rmL 3 0 0) s m args below meth c H locs 0 0 Q (F0 m 16 ls []) := by
  have hx := X.hx
  have hb := X.hb
  have hown := X.hown
  have hts := X.hts
  rw [fX2_copyFrom_16] at hf
  refine lv_aload_n hx hb dX2_copyFrom_16 rfl (lv_at hl 0 rfl) ?_
  refine lv_aload_n hx hb dX2_copyFrom_17 rfl (lv_at hl 1 rfl) ?_
  refine cr_get (k := 7) X hP hkb1 rfl cv11_7 rfl cinX2 (by decide) rfl tw332 dX2_copyFrom_18 ?_
  refine cr_put (k := 7) X hP hS hkt rfl cs11_7 rfl cinX2 tyX2_ok nmX2 (by decide) rfl rfl rfl rfl tw332 dX2_copyFrom_21 (fun H locs hP hS => ?_)
  exact kX2_copyFrom_24 X hret hkt hkb1 hf hP hS (lv_sub hl [0, 1] rfl)
set_option maxRecDepth 10000 in
theorem kX2_copyFrom_8 {S1 : CS} {t : Nat} {b1 : Nat} {M : CS} {H : Heap} {locs : List Loc} {ls : Array Slot} (X : gX p s m args c cX2_copyFrom 3 RX2 (kR kTab kA)) (hret : gRetV p l e (rmL 3 0 0) s m args below meth c cX2_copyFrom (cΩ ca) (cP dC dI cg kA ca) Q S1) (hkt : kc t = 11) (hkb1 : kc b1 = 11) (hf : fX2_copyFrom_8 t b1 M = some S1) (hP : (cP dC dI cg kA ca) M s H) (hS : va_S (Fr (cΩ ca) s.heap.size) s.heap H locs) (hl : lv_has ls 3 [(0, .ref (ca t)), (1, .ref (ca b1))]) : W p l e (rmL 3 0 0) s m args below meth c H locs 0 0 Q (F0 m 8 ls []) := by
  have hx := X.hx
  have hb := X.hb
  have hown := X.hown
  have hts := X.hts
  rw [fX2_copyFrom_8] at hf
  refine lv_aload_n hx hb dX2_copyFrom_8 rfl (lv_at hl 0 rfl) ?_
  refine lv_aload_n hx hb dX2_copyFrom_9 rfl (lv_at hl 1 rfl) ?_
  refine cr_get (k := 6) X hP hkb1 rfl cv11_6 rfl cinX2 (by decide) rfl tw329 dX2_copyFrom_10 ?_
  refine cr_put (k := 6) X hP hS hkt rfl cs11_6 rfl cinX2 tyX2_ok nmX2 (by decide) rfl rfl rfl rfl tw329 dX2_copyFrom_13 (fun H locs hP hS => ?_)
  exact kX2_copyFrom_16 X hret hkt hkb1 hf hP hS (lv_sub hl [0, 1] rfl)
set_option maxRecDepth 10000 in
theorem kX2_copyFrom_0 {S1 : CS} {t : Nat} {b1 : Nat} {M : CS} {H : Heap} {locs : List Loc} {ls : Array Slot} (X : gX p s m args c cX2_copyFrom 3 RX2 (kR kTab kA)) (hret : gRetV p l e (rmL 3 0 0) s m args below meth c cX2_copyFrom (cΩ ca) (cP dC dI cg kA ca) Q S1) (hkt : kc t = 11) (hkb1 : kc b1 = 11) (hf : fX2_copyFrom_0 t b1 M = some S1) (hP : (cP dC dI cg kA ca) M s H) (hS : va_S (Fr (cΩ ca) s.heap.size) s.heap H locs) (hl : lv_has ls 3 [(0, .ref (ca t)), (1, .ref (ca b1))]) : W p l e (rmL 3 0 0) s m args below meth c H locs 0 0 Q (F0 m 0 ls []) := by
  have hx := X.hx
  have hb := X.hb
  have hown := X.hown
  have hts := X.hts
  rw [fX2_copyFrom_0] at hf
  refine lv_aload_n hx hb dX2_copyFrom_0 rfl (lv_at hl 0 rfl) ?_
  refine lv_aload_n hx hb dX2_copyFrom_1 rfl (lv_at hl 1 rfl) ?_
  refine cr_get (k := 5) X hP hkb1 rfl cv11_5 rfl cinX2 (by decide) rfl tw326 dX2_copyFrom_2 ?_
  refine cr_put (k := 5) X hP hS hkt rfl cs11_5 rfl cinX2 tyX2_ok nmX2 (by decide) rfl rfl rfl rfl tw326 dX2_copyFrom_5 (fun H locs hP hS => ?_)
  exact kX2_copyFrom_8 X hret hkt hkb1 hf hP hS (lv_sub hl [0, 1] rfl)
theorem vX2_copyFrom {l : Launch} {dC : Nat → ClassId} {dI : Nat → Nat → Nat} {cg : Nat → ClassId} {kA : String → Nat → Nat} {ca : Nat → Nat} {M S1 : CS} {t : Nat} {b1 : Nat} (hkt : kc t = 11) (hkb1 : kc b1 = 11) (hf : fX2_copyFrom M t b1 = some S1) : gMetV l yX2_copyFrom cX2_copyFrom 3 3 (cΩ ca) (cP dC dI cg kA ca) (kR kTab kA) [.ref (ca t), .ref (ca b1)] M S1 := gEntryV (by decide) cOK (Nat.le_of_ble_eq_true rfl) (fun p e s m args below meth c Q ls X hP hS hret hl => 
  kX2_copyFrom_0 X hret hkt hkb1 hf hP hS (lv_sub hl [0, 1] rfl))
set_option maxRecDepth 10000 in
theorem kX2_hunt_18 {r : Int32} {S1 : CS} {t : Nat} {M : CS} {H : Heap} {locs : List Loc} {ls : Array Slot} (X : gX p s m args c cX2_hunt 5 RX2 (kR kTab kA)) (hret : gRetI p l e (rmL 3 0 0) s m args below meth c cX2_hunt (cΩ ca) (cP dC dI cg kA ca) Q r S1) (hkt : kc t = 11) (hf : fX2_hunt_18 t M = some (r, S1)) (hP : (cP dC dI cg kA ca) M s H) (hS : va_S (Fr (cΩ ca) s.heap.size) s.heap H locs) (hl : lv_has ls 5 [(0, .ref (ca t))]) : W p l e (rmL 3 0 0) s m args below meth c H locs 0 0 Q (F0 m 18 ls []) := by
  have hx := X.hx
  have hb := X.hb
  have hown := X.hown
  have hts := X.hts
  rw [fX2_hunt_18] at hf
  refine lv_iconst (v := (-1)) hx hb dX2_hunt_18 (by decide) ?_
  cases hf
  exact hret _ _ _ _ dX2_hunt_19 hP hS
set_option maxRecDepth 10000 in
theorem kX2_hunt_104 {r : Int32} {S1 : CS} {t : Nat} {M : CS} {H : Heap} {locs : List Loc} {ls : Array Slot} (X : gX p s m args c cX2_hunt 5 RX2 (kR kTab kA)) (hret : gRetI p l e (rmL 3 0 0) s m args below meth c cX2_hunt (cΩ ca) (cP dC dI cg kA ca) Q r S1) (hkt : kc t = 11) (hf : fX2_hunt_104 t M = some (r, S1)) (hP : (cP dC dI cg kA ca) M s H) (hS : va_S (Fr (cΩ ca) s.heap.size) s.heap H locs) (hl : lv_has ls 5 [(0, .ref (ca t))]) : W p l e (rmL 3 0 0) s m args below meth c H locs 0 0 Q (F0 m 104 ls []) := by
  have hx := X.hx
  have hb := X.hb
  have hown := X.hown
  have hts := X.hts
  rw [fX2_hunt_104] at hf
  refine lv_aload_n hx hb dX2_hunt_104 rfl (lv_at hl 0 rfl) ?_
  refine cr_get (k := 8) X hP hkt rfl cv11_8 rfl cinX2 (by decide) rfl tw335 dX2_hunt_105 ?_
  cases hf
  exact hret _ _ _ _ dX2_hunt_108 hP hS
set_option maxRecDepth 10000 in
theorem kX2_hunt_90 {r : Int32} {S1 : CS} {t : Nat} {M : CS} {x4 : Int32} {H : Heap} {locs : List Loc} {ls : Array Slot} (X : gX p s m args c cX2_hunt 5 RX2 (kR kTab kA)) (hret : gRetI p l e (rmL 3 0 0) s m args below meth c cX2_hunt (cΩ ca) (cP dC dI cg kA ca) Q r S1) (hkt : kc t = 11) (hf : fX2_hunt_90 t M x4 = some (r, S1)) (hP : (cP dC dI cg kA ca) M s H) (hS : va_S (Fr (cΩ ca) s.heap.size) s.heap H locs) (hl : lv_has ls 5 [(0, .ref (ca t)), (4, .int x4)]) : W p l e (rmL 3 0 0) s m args below meth c H locs 0 0 Q (F0 m 90 ls []) := by
  have hx := X.hx
  have hb := X.hb
  have hown := X.hown
  have hts := X.hts
  rw [fX2_hunt_90] at hf
  refine lv_aload_n hx hb dX2_hunt_90 rfl (lv_at hl 0 rfl) ?_
  refine cr_get (k := 3) X hP hkt rfl cv11_3 rfl cinX2 (by decide) rfl tw322 dX2_hunt_91 ?_
  refine lv_iconst (v := 1) hx hb dX2_hunt_94 (by decide) ?_
  refine lv_aload_n hx hb dX2_hunt_95 rfl (lv_at hl 0 rfl) ?_
  refine cr_get (k := 8) X hP hkt rfl cv11_8 rfl cinX2 (by decide) rfl tw335 dX2_hunt_96 ?_
  refine lv_iload hx hb dX2_hunt_99 (lv_at hl 1 rfl) ?_
  obtain ⟨q, hc, hf⟩ := bd hf
  refine gCallVV X cOK rfl (vX1_add (kc_events hkt) hc) gRX2_X1_add hdX1_add rfl ⟨by decide, by decide⟩ hP hS (cr_rec hP (kc_events hkt) rfl cw15 rfl) hl.1 (Nat.le_of_ble_eq_true rfl) ⟨Nat.zero_le _, Nat.zero_le _⟩ dX2_hunt_101 (As := [.int 1, .int (M.1 t 8), .int x4]) (rest := []) rfl (fun H locs hP hS => ?_)
  exact kX2_hunt_104 X hret hkt hf hP hS (lv_sub hl [0] rfl)
set_option maxRecDepth 10000 in
theorem kX2_hunt_86 {r : Int32} {S1 : CS} {t : Nat} {M : CS} {p2 : Nat} {x4 : Int32} {H : Heap} {locs : List Loc} {ls : Array Slot} (X : gX p s m args c cX2_hunt 5 RX2 (kR kTab kA)) (hret : gRetI p l e (rmL 3 0 0) s m args below meth c cX2_hunt (cΩ ca) (cP dC dI cg kA ca) Q r S1) (hkt : kc t = 11) (hkp2 : kc p2 = 18) (hf : fX2_hunt_86 t M p2 x4 = some (r, S1)) (hP : (cP dC dI cg kA ca) M s H) (hS : va_S (Fr (cΩ ca) s.heap.size) s.heap H locs) (hl : lv_has ls 5 [(0, .ref (ca t)), (2, .ref (ca p2)), (4, .int x4)]) : W p l e (rmL 3 0 0) s m args below meth c H locs 0 0 Q (F0 m 86 ls []) := by
  have hx := X.hx
  have hb := X.hb
  have hown := X.hown
  have hts := X.hts
  rw [fX2_hunt_86] at hf
  refine lv_aload_n hx hb dX2_hunt_86 rfl (lv_at hl 1 rfl) ?_
  obtain ⟨q, hc, hf⟩ := bd hf
  refine gCallVV X cOK rfl (vX0_tire hkp2 hc) gRX2_X0_tire hdX0_tire rfl ⟨by decide, by decide⟩ hP hS (cr_rec hP hkp2 rfl cw18 rfl) hl.1 (Nat.le_of_ble_eq_true rfl) ⟨Nat.zero_le _, Nat.zero_le _⟩ dX2_hunt_87 (As := []) (rest := []) rfl (fun H locs hP hS => ?_)
  exact kX2_hunt_90 X hret hkt hf hP hS (lv_sub hl [0, 2] rfl)
set_option maxRecDepth 10000 in
theorem kX2_hunt_72 {r : Int32} {S1 : CS} {t : Nat} {M : CS} {p2 : Nat} {x4 : Int32} {H : Heap} {locs : List Loc} {ls : Array Slot} (X : gX p s m args c cX2_hunt 5 RX2 (kR kTab kA)) (hret : gRetI p l e (rmL 3 0 0) s m args below meth c cX2_hunt (cΩ ca) (cP dC dI cg kA ca) Q r S1) (hkt : kc t = 11) (hkp2 : kc p2 = 18) (hf : fX2_hunt_72 t M p2 x4 = some (r, S1)) (hP : (cP dC dI cg kA ca) M s H) (hS : va_S (Fr (cΩ ca) s.heap.size) s.heap H locs) (hl : lv_has ls 5 [(0, .ref (ca t)), (2, .ref (ca p2)), (4, .int x4)]) : W p l e (rmL 3 0 0) s m args below meth c H locs 0 0 Q (F0 m 72 ls []) := by
  have hx := X.hx
  have hb := X.hb
  have hown := X.hown
  have hts := X.hts
  rw [fX2_hunt_72] at hf
  refine lv_aload_n hx hb dX2_hunt_72 rfl (lv_at hl 0 rfl) ?_
  refine cr_get (k := 4) X hP hkt rfl cv11_4 rfl cinX2 (by decide) rfl tw324 dX2_hunt_73 ?_
  refine lv_dup hx hb dX2_hunt_76 rfl ?_
  refine cr_get (k := 0) X hP (kc_totals hkt) rfl cv17_0 rfl cinX9 (by decide) rfl tw177 dX2_hunt_77 ?_
  refine lv_iload hx hb dX2_hunt_80 (lv_at hl 2 rfl) ?_
  refine lv_iadd hx hb dX2_hunt_82 ?_
  refine cr_put (k := 0) X hP hS (kc_totals hkt) rfl cs17_0 rfl cinX9 tyX9_ok nmX9 (by decide) rfl rfl rfl rfl tw177 dX2_hunt_83 (fun H locs hP hS => ?_)
  exact kX2_hunt_86 X hret hkt hkp2 hf hP hS (lv_sub hl [0, 1, 2] rfl)
set_option maxRecDepth 10000 in
theorem kX2_hunt_61 {r : Int32} {S1 : CS} {t : Nat} {M : CS} {p2 : Nat} {x4 : Int32} {H : Heap} {locs : List Loc} {ls : Array Slot} (X : gX p s m args c cX2_hunt 5 RX2 (kR kTab kA)) (hret : gRetI p l e (rmL 3 0 0) s m args below meth c cX2_hunt (cΩ ca) (cP dC dI cg kA ca) Q r S1) (hkt : kc t = 11) (hkp2 : kc p2 = 18) (hf : fX2_hunt_61 t M p2 x4 = some (r, S1)) (hP : (cP dC dI cg kA ca) M s H) (hS : va_S (Fr (cΩ ca) s.heap.size) s.heap H locs) (hl : lv_has ls 5 [(0, .ref (ca t)), (2, .ref (ca p2)), (4, .int x4)]) : W p l e (rmL 3 0 0) s m args below meth c H locs 0 0 Q (F0 m 61 ls []) := by
  have hx := X.hx
  have hb := X.hb
  have hown := X.hown
  have hts := X.hts
  rw [fX2_hunt_61] at hf
  refine lv_aload_n hx hb dX2_hunt_61 rfl (lv_at hl 1 rfl) ?_
  refine lv_dup hx hb dX2_hunt_62 rfl ?_
  refine cr_get (k := 4) X hP hkp2 rfl cv18_4 rfl cinX0 (by decide) rfl tw236 dX2_hunt_63 ?_
  refine lv_iload hx hb dX2_hunt_66 (lv_at hl 2 rfl) ?_
  refine lv_iadd hx hb dX2_hunt_68 ?_
  refine cr_put (k := 4) X hP hS hkp2 rfl cs18_4 rfl cinX0 tyX0_ok nmX0 (by decide) rfl rfl rfl rfl tw236 dX2_hunt_69 (fun H locs hP hS => ?_)
  exact kX2_hunt_72 X hret hkt hkp2 hf hP hS (lv_sub hl [0, 1, 2] rfl)
set_option maxRecDepth 10000 in
theorem kX2_hunt_41 {r : Int32} {S1 : CS} {t : Nat} {M : CS} {p2 : Nat} {p3 : Nat} {s0 : Int32} {H : Heap} {locs : List Loc} {ls : Array Slot} (X : gX p s m args c cX2_hunt 5 RX2 (kR kTab kA)) (hret : gRetI p l e (rmL 3 0 0) s m args below meth c cX2_hunt (cΩ ca) (cP dC dI cg kA ca) Q r S1) (hkt : kc t = 11) (hkp2 : kc p2 = 18) (hkp3 : kc p3 = 19) (hf : fX2_hunt_41 t M p2 p3 s0 = some (r, S1)) (hP : (cP dC dI cg kA ca) M s H) (hS : va_S (Fr (cΩ ca) s.heap.size) s.heap H locs) (hl : lv_has ls 5 [(0, .ref (ca t)), (2, .ref (ca p2)), (3, .ref (ca p3))]) : W p l e (rmL 3 0 0) s m args below meth c H locs 0 0 Q (F0 m 41 ls [.int s0]) := by
  have hx := X.hx
  have hb := X.hb
  have hown := X.hown
  have hts := X.hts
  rw [fX2_hunt_41] at hf
  refine lv_aload_n hx hb dX2_hunt_41 rfl (lv_at hl 2 rfl) ?_
  refine cr_get (k := 2) X hP hkp3 rfl cv19_2 rfl cinX4 (by decide) rfl tw272 dX2_hunt_42 ?_
  refine gMin X rfl tw1079 tw592 tw24 tw593 (by decide) hl.1 (Nat.le_of_ble_eq_true rfl) ⟨Nat.zero_le _, Nat.zero_le _⟩ dX2_hunt_45 ?_
  refine lv_istore (lv' := [(4, .int (if (M.1 p3 2) < s0 then (M.1 p3 2) else s0)), (0, .ref (ca t)), (2, .ref (ca p2)), (3, .ref (ca p3))]) hx hb dX2_hunt_48 hl (by decide) rfl (fun ls hl => ?_)
  refine lv_aload_n hx hb dX2_hunt_50 rfl (lv_at hl 3 rfl) ?_
  refine lv_dup hx hb dX2_hunt_51 rfl ?_
  refine cr_get (k := 2) X hP hkp3 rfl cv19_2 rfl cinX4 (by decide) rfl tw272 dX2_hunt_52 ?_
  refine lv_iload hx hb dX2_hunt_55 (lv_at hl 0 rfl) ?_
  refine lv_isub hx hb dX2_hunt_57 ?_
  refine cr_put (k := 2) X hP hS hkp3 rfl cs19_2 rfl cinX4 tyX4_ok nmX4 (by decide) rfl rfl rfl rfl tw272 dX2_hunt_58 (fun H locs hP hS => ?_)
  exact kX2_hunt_61 X hret hkt hkp2 hf hP hS (lv_sub hl [1, 2, 0] rfl)
set_option maxRecDepth 10000 in
theorem kX2_hunt_20 {r : Int32} {S1 : CS} {t : Nat} {M : CS} {x1 : Int32} {H : Heap} {locs : List Loc} {ls : Array Slot} (X : gX p s m args c cX2_hunt 5 RX2 (kR kTab kA)) (hret : gRetI p l e (rmL 3 0 0) s m args below meth c cX2_hunt (cΩ ca) (cP dC dI cg kA ca) Q r S1) (hkt : kc t = 11) (hf : fX2_hunt_20 t M x1 = some (r, S1)) (hP : (cP dC dI cg kA ca) M s H) (hS : va_S (Fr (cΩ ca) s.heap.size) s.heap H locs) (hl : lv_has ls 5 [(0, .ref (ca t)), (1, .int x1)]) : W p l e (rmL 3 0 0) s m args below meth c H locs 0 0 Q (F0 m 20 ls []) := by
  have hx := X.hx
  have hb := X.hb
  have hown := X.hown
  have hts := X.hts
  rw [fX2_hunt_20] at hf
  refine lv_aload_n hx hb dX2_hunt_20 rfl (lv_at hl 0 rfl) ?_
  refine cr_get (k := 0) X hP hkt rfl cv11_0 rfl cinX2 (by decide) rfl tw313 dX2_hunt_21 ?_
  refine lv_aload_n hx hb dX2_hunt_24 rfl (lv_at hl 0 rfl) ?_
  refine cr_get (k := 8) X hP hkt rfl cv11_8 rfl cinX2 (by decide) rfl tw335 dX2_hunt_25 ?_
  obtain ⟨g1, hf⟩ := gd hf
  refine cr_aald (f := fun i => (t + 1) + 8 + i) X hP (kc_cats hkt) rfl (fun _ => rfl) rfl g1 dX2_hunt_28 ?_
  refine lv_astore_n (lv' := [(2, .ref (ca ((t + 1) + 8 + (M.1 t 8).toNatClampNeg))), (0, .ref (ca t)), (1, .int x1)]) hx hb dX2_hunt_29 rfl hl (by decide) rfl (fun ls hl => ?_)
  refine lv_aload_n hx hb dX2_hunt_30 rfl (lv_at hl 1 rfl) ?_
  refine cr_get (k := 1) X hP hkt rfl cv11_1 rfl cinX2 (by decide) rfl tw316 dX2_hunt_31 ?_
  refine lv_iload_n hx hb dX2_hunt_34 rfl (lv_at hl 2 rfl) ?_
  obtain ⟨g2, hf⟩ := gd hf
  refine cr_aald (f := fun i => (t + 2) + 15 + i) X hP (kc_sacks hkt) rfl (fun _ => rfl) rfl g2 dX2_hunt_35 ?_
  refine lv_astore_n (lv' := [(3, .ref (ca ((t + 2) + 15 + x1.toNatClampNeg))), (2, .ref (ca ((t + 1) + 8 + (M.1 t 8).toNatClampNeg))), (0, .ref (ca t)), (1, .int x1)]) hx hb dX2_hunt_36 rfl hl (by decide) rfl (fun ls hl => ?_)
  refine lv_aload_n hx hb dX2_hunt_37 rfl (lv_at hl 1 rfl) ?_
  obtain ⟨q, hc, hf⟩ := bd hf
  refine gCallVR X rfl (vX0_strength (kc_cat (kc_cats hkt) g1) hc) gRX2_X0_strength hdX0_strength rfl ⟨by decide, by decide⟩ (gB_blind cOK) (gB_at cOK X hP) (cr_rec hP (kc_cat (kc_cats hkt) g1) rfl cw18 rfl) hl.1 (Nat.le_of_ble_eq_true rfl) ⟨Nat.zero_le _, Nat.zero_le _⟩ dX2_hunt_38 (As := []) (rest := []) rfl ?_
  exact kX2_hunt_41 X hret hkt (kc_cat (kc_cats hkt) g1) (kc_sack (kc_sacks hkt) g2) hf hP hS (lv_sub hl [2, 1, 0] rfl)
set_option maxRecDepth 10000 in
theorem kX2_hunt_13 {r : Int32} {S1 : CS} {t : Nat} {M : CS} {x1 : Int32} {H : Heap} {locs : List Loc} {ls : Array Slot} (X : gX p s m args c cX2_hunt 5 RX2 (kR kTab kA)) (hret : gRetI p l e (rmL 3 0 0) s m args below meth c cX2_hunt (cΩ ca) (cP dC dI cg kA ca) Q r S1) (hkt : kc t = 11) (hf : fX2_hunt_13 t M x1 = some (r, S1)) (hP : (cP dC dI cg kA ca) M s H) (hS : va_S (Fr (cΩ ca) s.heap.size) s.heap H locs) (hl : lv_has ls 5 [(0, .ref (ca t)), (1, .int x1)]) : W p l e (rmL 3 0 0) s m args below meth c H locs 0 0 Q (F0 m 13 ls []) := by
  have hx := X.hx
  have hb := X.hb
  have hown := X.hown
  have hts := X.hts
  rw [fX2_hunt_13] at hf
  refine lv_iload_n hx hb dX2_hunt_13 rfl (lv_at hl 1 rfl) ?_
  refine lv_iconst (v := (-1)) hx hb dX2_hunt_14 (by decide) ?_
  refine lv_icmp_ne (tgt := 20) hx hb dX2_hunt_15 (by decide) (fun c1 => ?_) (fun c1 => ?_)
  · exact kX2_hunt_20 X hret hkt (ifn c1 hf) hP hS (lv_sub hl [0, 1] rfl)
  · exact kX2_hunt_18 X hret hkt (ifp c1 hf) hP hS (lv_sub hl [0] rfl)
set_option maxRecDepth 10000 in
theorem kX2_hunt_4 {r : Int32} {S1 : CS} {t : Nat} {M : CS} {s0 : Int32} {H : Heap} {locs : List Loc} {ls : Array Slot} (X : gX p s m args c cX2_hunt 5 RX2 (kR kTab kA)) (hret : gRetI p l e (rmL 3 0 0) s m args below meth c cX2_hunt (cΩ ca) (cP dC dI cg kA ca) Q r S1) (hkt : kc t = 11) (hf : fX2_hunt_4 t M s0 = some (r, S1)) (hP : (cP dC dI cg kA ca) M s H) (hS : va_S (Fr (cΩ ca) s.heap.size) s.heap H locs) (hl : lv_has ls 5 [(0, .ref (ca t))]) : W p l e (rmL 3 0 0) s m args below meth c H locs 0 0 Q (F0 m 4 ls [.int s0]) := by
  have hx := X.hx
  have hb := X.hb
  have hown := X.hown
  have hts := X.hts
  rw [fX2_hunt_4] at hf
  refine lv_istore_n (lv' := [(1, .int s0), (0, .ref (ca t))]) hx hb dX2_hunt_4 rfl hl (by decide) rfl (fun ls hl => ?_)
  refine lv_aload_n hx hb dX2_hunt_5 rfl (lv_at hl 1 rfl) ?_
  refine cr_get (k := 8) X hP hkt rfl cv11_8 rfl cinX2 (by decide) rfl tw335 dX2_hunt_6 ?_
  refine lv_iconst (v := (-1)) hx hb dX2_hunt_9 (by decide) ?_
  refine lv_icmp_eq (tgt := 18) hx hb dX2_hunt_10 (by decide) (fun c1 => ?_) (fun c1 => ?_)
  · exact kX2_hunt_18 X hret hkt (ifp c1 hf) hP hS (lv_sub hl [1] rfl)
  · exact kX2_hunt_13 X hret hkt (ifn c1 hf) hP hS (lv_sub hl [1, 0] rfl)
set_option maxRecDepth 10000 in
theorem kX2_hunt_0 {r : Int32} {S1 : CS} {t : Nat} {M : CS} {H : Heap} {locs : List Loc} {ls : Array Slot} (X : gX p s m args c cX2_hunt 5 RX2 (kR kTab kA)) (hret : gRetI p l e (rmL 3 0 0) s m args below meth c cX2_hunt (cΩ ca) (cP dC dI cg kA ca) Q r S1) (hkt : kc t = 11) (hf : fX2_hunt_0 t M = some (r, S1)) (hP : (cP dC dI cg kA ca) M s H) (hS : va_S (Fr (cΩ ca) s.heap.size) s.heap H locs) (hl : lv_has ls 5 [(0, .ref (ca t))]) : W p l e (rmL 3 0 0) s m args below meth c H locs 0 0 Q (F0 m 0 ls []) := by
  have hx := X.hx
  have hb := X.hb
  have hown := X.hown
  have hts := X.hts
  rw [fX2_hunt_0] at hf
  refine lv_aload_n hx hb dX2_hunt_0 rfl (lv_at hl 0 rfl) ?_
  obtain ⟨q, hc, hf⟩ := bd hf
  refine gCallVR X rfl (vX2_busiestOpenSack hkt hc) gRX2_X2_busiestOpenSack hdX2_busiestOpenSack rfl ⟨by decide, by decide⟩ (gB_blind cOK) (gB_at cOK X hP) (cr_rec hP hkt rfl cw11 rfl) hl.1 (Nat.le_of_ble_eq_true rfl) ⟨Nat.zero_le _, Nat.zero_le _⟩ dX2_hunt_1 (As := []) (rest := []) rfl ?_
  exact kX2_hunt_4 X hret hkt hf hP hS (lv_sub hl [0] rfl)
theorem vX2_hunt {l : Launch} {dC : Nat → ClassId} {dI : Nat → Nat → Nat} {cg : Nat → ClassId} {kA : String → Nat → Nat} {ca : Nat → Nat} {M S1 : CS} {r : Int32} {t : Nat} (hkt : kc t = 11) (hf : fX2_hunt M t  = some (r, S1)) : gMetI l yX2_hunt cX2_hunt 5 (some .int) 3 (cΩ ca) (cP dC dI cg kA ca) (kR kTab kA) [.ref (ca t)] M r S1 := gEntryI (ty := .int) (by decide) rfl rfl cOK (Nat.le_of_ble_eq_true rfl) (fun p e s m args below meth c Q ls X hP hS hret hl => 
  kX2_hunt_0 X hret hkt hf hP hS (lv_sub hl [0] rfl))
set_option maxRecDepth 10000 in
theorem kX2_restAllBut_31 {S1 : CS} {t : Nat} {M : CS} {H : Heap} {locs : List Loc} {ls : Array Slot} (X : gX p s m args c cX2_restAllBut 3 RX2 (kR kTab kA)) (hret : gRetV p l e (rmL 3 0 0) s m args below meth c cX2_restAllBut (cΩ ca) (cP dC dI cg kA ca) Q S1) (hkt : kc t = 11) (hf : fX2_restAllBut_31 t M = some S1) (hP : (cP dC dI cg kA ca) M s H) (hS : va_S (Fr (cΩ ca) s.heap.size) s.heap H locs) (hl : lv_has ls 3 [(0, .ref (ca t))]) : W p l e (rmL 3 0 0) s m args below meth c H locs 0 0 Q (F0 m 31 ls []) := by
  have hx := X.hx
  have hb := X.hb
  have hown := X.hown
  have hts := X.hts
  rw [fX2_restAllBut_31] at hf
  cases hf
  exact hret _ _ _ _ dX2_restAllBut_31 hP hS
set_option maxRecDepth 10000 in
theorem kX2_restAllBut_25 {S1 : CS} {t : Nat} {K2 : CS → Int32 → Int32 → Option (CS)} {M : CS} {x1 : Int32} {x2 : Int32} {H : Heap} {locs : List Loc} {ls : Array Slot} (X : gX p s m args c cX2_restAllBut 3 RX2 (kR kTab kA)) (hret : gRetV p l e (rmL 3 0 0) s m args below meth c cX2_restAllBut (cΩ ca) (cP dC dI cg kA ca) Q S1) (hkt : kc t = 11) (hK2 : ∀ (M : CS) (x1 : Int32) (x2 : Int32) (H : Heap) (locs : List Loc) (ls : Array Slot), K2 M x1 x2 = some S1 → (cP dC dI cg kA ca) M s H → va_S (Fr (cΩ ca) s.heap.size) s.heap H locs → lv_has ls 3 [(0, .ref (ca t)), (1, .int x1), (2, .int x2)] → W p l e (rmL 3 0 0) s m args below meth c H locs 0 0 Q (F0 m 2 ls [])) (hf : fX2_restAllBut_25 t K2 M x1 x2 = some S1) (hP : (cP dC dI cg kA ca) M s H) (hS : va_S (Fr (cΩ ca) s.heap.size) s.heap H locs) (hl : lv_has ls 3 [(0, .ref (ca t)), (1, .int x1), (2, .int x2)]) : W p l e (rmL 3 0 0) s m args below meth c H locs 0 0 Q (F0 m 25 ls []) := by
  have hx := X.hx
  have hb := X.hb
  have hown := X.hown
  have hts := X.hts
  rw [fX2_restAllBut_25] at hf
  refine lv_iinc (v := (x2 + 1)) (lv' := [(2, .int (x2 + 1)), (0, .ref (ca t)), (1, .int x1)]) hx hb dX2_restAllBut_25 hl (k := 2) rfl (by rfl) (by decide) rfl (fun ls hl => ?_)
  refine lv_goto (tgt := 2) hx hb dX2_restAllBut_28 (by decide) ?_
  exact hK2 _ _ _ _ _ _ hf hP hS (lv_sub hl [1, 2, 0] rfl)
set_option maxRecDepth 10000 in
theorem kX2_restAllBut_15 {S1 : CS} {t : Nat} {K2 : CS → Int32 → Int32 → Option (CS)} {M : CS} {x1 : Int32} {x2 : Int32} {H : Heap} {locs : List Loc} {ls : Array Slot} (X : gX p s m args c cX2_restAllBut 3 RX2 (kR kTab kA)) (hret : gRetV p l e (rmL 3 0 0) s m args below meth c cX2_restAllBut (cΩ ca) (cP dC dI cg kA ca) Q S1) (hkt : kc t = 11) (hK2 : ∀ (M : CS) (x1 : Int32) (x2 : Int32) (H : Heap) (locs : List Loc) (ls : Array Slot), K2 M x1 x2 = some S1 → (cP dC dI cg kA ca) M s H → va_S (Fr (cΩ ca) s.heap.size) s.heap H locs → lv_has ls 3 [(0, .ref (ca t)), (1, .int x1), (2, .int x2)] → W p l e (rmL 3 0 0) s m args below meth c H locs 0 0 Q (F0 m 2 ls [])) (hf : fX2_restAllBut_15 t K2 M x1 x2 = some S1) (hP : (cP dC dI cg kA ca) M s H) (hS : va_S (Fr (cΩ ca) s.heap.size) s.heap H locs) (hl : lv_has ls 3 [(0, .ref (ca t)), (1, .int x1), (2, .int x2)]) : W p l e (rmL 3 0 0) s m args below meth c H locs 0 0 Q (F0 m 15 ls []) := by
  have hx := X.hx
  have hb := X.hb
  have hown := X.hown
  have hts := X.hts
  rw [fX2_restAllBut_15] at hf
  refine lv_aload_n hx hb dX2_restAllBut_15 rfl (lv_at hl 0 rfl) ?_
  refine cr_get (k := 0) X hP hkt rfl cv11_0 rfl cinX2 (by decide) rfl tw313 dX2_restAllBut_16 ?_
  refine lv_iload_n hx hb dX2_restAllBut_19 rfl (lv_at hl 2 rfl) ?_
  obtain ⟨g1, hf⟩ := gd hf
  refine cr_aald (f := fun i => (t + 1) + 8 + i) X hP (kc_cats hkt) rfl (fun _ => rfl) rfl g1 dX2_restAllBut_20 ?_
  refine lv_iconst (v := 1) hx hb dX2_restAllBut_21 (by decide) ?_
  obtain ⟨q, hc, hf⟩ := bd hf
  refine gCallVV X cOK rfl (vX0_recover (kc_cat (kc_cats hkt) g1) hc) gRX2_X0_recover hdX0_recover rfl ⟨by decide, by decide⟩ hP hS (cr_rec hP (kc_cat (kc_cats hkt) g1) rfl cw18 rfl) hl.1 (Nat.le_of_ble_eq_true rfl) ⟨Nat.zero_le _, Nat.zero_le _⟩ dX2_restAllBut_22 (As := [.int 1]) (rest := []) rfl (fun H locs hP hS => ?_)
  exact kX2_restAllBut_25 X hret hkt hK2 hf hP hS (lv_sub hl [0, 1, 2] rfl)
set_option maxRecDepth 10000 in
theorem kX2_restAllBut_10 {S1 : CS} {t : Nat} {K2 : CS → Int32 → Int32 → Option (CS)} {M : CS} {x1 : Int32} {x2 : Int32} {H : Heap} {locs : List Loc} {ls : Array Slot} (X : gX p s m args c cX2_restAllBut 3 RX2 (kR kTab kA)) (hret : gRetV p l e (rmL 3 0 0) s m args below meth c cX2_restAllBut (cΩ ca) (cP dC dI cg kA ca) Q S1) (hkt : kc t = 11) (hK2 : ∀ (M : CS) (x1 : Int32) (x2 : Int32) (H : Heap) (locs : List Loc) (ls : Array Slot), K2 M x1 x2 = some S1 → (cP dC dI cg kA ca) M s H → va_S (Fr (cΩ ca) s.heap.size) s.heap H locs → lv_has ls 3 [(0, .ref (ca t)), (1, .int x1), (2, .int x2)] → W p l e (rmL 3 0 0) s m args below meth c H locs 0 0 Q (F0 m 2 ls [])) (hf : fX2_restAllBut_10 t K2 M x1 x2 = some S1) (hP : (cP dC dI cg kA ca) M s H) (hS : va_S (Fr (cΩ ca) s.heap.size) s.heap H locs) (hl : lv_has ls 3 [(0, .ref (ca t)), (1, .int x1), (2, .int x2)]) : W p l e (rmL 3 0 0) s m args below meth c H locs 0 0 Q (F0 m 10 ls []) := by
  have hx := X.hx
  have hb := X.hb
  have hown := X.hown
  have hts := X.hts
  rw [fX2_restAllBut_10] at hf
  refine lv_iload_n hx hb dX2_restAllBut_10 rfl (lv_at hl 2 rfl) ?_
  refine lv_iload_n hx hb dX2_restAllBut_11 rfl (lv_at hl 1 rfl) ?_
  refine lv_icmp_eq (tgt := 25) hx hb dX2_restAllBut_12 (by decide) (fun c1 => ?_) (fun c1 => ?_)
  · exact kX2_restAllBut_25 X hret hkt hK2 (ifp c1 hf) hP hS (lv_sub hl [0, 1, 2] rfl)
  · exact kX2_restAllBut_15 X hret hkt hK2 (ifn c1 hf) hP hS (lv_sub hl [0, 1, 2] rfl)
set_option maxRecDepth 10000 in
theorem kX2_restAllBut_2 {S1 : CS} {t : Nat} (X : gX p s m args c cX2_restAllBut 3 RX2 (kR kTab kA)) (hret : gRetV p l e (rmL 3 0 0) s m args below meth c cX2_restAllBut (cΩ ca) (cP dC dI cg kA ca) Q S1) (hkt : kc t = 11) : ∀ (n : Nat) (M : CS) (x1 : Int32) (x2 : Int32) (H : Heap) (locs : List Loc) (ls : Array Slot), fX2_restAllBut_2 t n M x1 x2 = some S1 → (cP dC dI cg kA ca) M s H → va_S (Fr (cΩ ca) s.heap.size) s.heap H locs → lv_has ls 3 [(0, .ref (ca t)), (1, .int x1), (2, .int x2)] → W p l e (rmL 3 0 0) s m args below meth c H locs 0 0 Q (F0 m 2 ls []) := by
  intro n
  induction n with
  | zero => intro M x1 x2 H locs ls hf; cases hf
  | succ k ih =>
    intro M x1 x2 H locs ls hf hP hS hl
    have hx := X.hx
    have hb := X.hb
    have hown := X.hown
    have hts := X.hts
    rw [fX2_restAllBut_2] at hf
    try dsimp only at hf
    refine lv_iload_n hx hb dX2_restAllBut_2 rfl (lv_at hl 2 rfl) ?_
    refine lv_aload_n hx hb dX2_restAllBut_3 rfl (lv_at hl 0 rfl) ?_
    refine cr_get (k := 5) X hP hkt rfl cv11_5 rfl cinX2 (by decide) rfl tw326 dX2_restAllBut_4 ?_
    refine lv_icmp_ge (tgt := 31) hx hb dX2_restAllBut_7 (by decide) (fun c1 => ?_) (fun c1 => ?_)
    · exact kX2_restAllBut_31 X hret hkt (ifp c1 hf) hP hS (lv_sub hl [0] rfl)
    · exact kX2_restAllBut_10 X hret hkt ih (ifn c1 hf) hP hS (lv_sub hl [0, 1, 2] rfl)
set_option maxRecDepth 10000 in
theorem kX2_restAllBut_0 {S1 : CS} {t : Nat} {M : CS} {a1 : Int32} {H : Heap} {locs : List Loc} {ls : Array Slot} (X : gX p s m args c cX2_restAllBut 3 RX2 (kR kTab kA)) (hret : gRetV p l e (rmL 3 0 0) s m args below meth c cX2_restAllBut (cΩ ca) (cP dC dI cg kA ca) Q S1) (hkt : kc t = 11) (hf : fX2_restAllBut_0 t M a1 = some S1) (hP : (cP dC dI cg kA ca) M s H) (hS : va_S (Fr (cΩ ca) s.heap.size) s.heap H locs) (hl : lv_has ls 3 [(0, .ref (ca t)), (1, .int a1)]) : W p l e (rmL 3 0 0) s m args below meth c H locs 0 0 Q (F0 m 0 ls []) := by
  have hx := X.hx
  have hb := X.hb
  have hown := X.hown
  have hts := X.hts
  rw [fX2_restAllBut_0] at hf
  refine lv_iconst (v := 0) hx hb dX2_restAllBut_0 (by decide) ?_
  refine lv_istore_n (lv' := [(2, .int 0), (0, .ref (ca t)), (1, .int a1)]) hx hb dX2_restAllBut_1 rfl hl (by decide) rfl (fun ls hl => ?_)
  exact kX2_restAllBut_2 X hret hkt FU _ _ _ _ _ _ hf hP hS (lv_sub hl [1, 2, 0] rfl)
theorem vX2_restAllBut {l : Launch} {dC : Nat → ClassId} {dI : Nat → Nat → Nat} {cg : Nat → ClassId} {kA : String → Nat → Nat} {ca : Nat → Nat} {M S1 : CS} {t : Nat} {a1 : Int32} (hkt : kc t = 11) (hf : fX2_restAllBut M t a1 = some S1) : gMetV l yX2_restAllBut cX2_restAllBut 3 3 (cΩ ca) (cP dC dI cg kA ca) (kR kTab kA) [.ref (ca t), .int a1] M S1 := gEntryV (by decide) cOK (Nat.le_of_ble_eq_true rfl) (fun p e s m args below meth c Q ls X hP hS hret hl => 
  kX2_restAllBut_0 X hret hkt hf hP hS (lv_sub hl [0, 1] rfl))
set_option maxRecDepth 10000 in
theorem kX2_changeShift_124 {S1 : CS} {t : Nat} {M : CS} {H : Heap} {locs : List Loc} {ls : Array Slot} (X : gX p s m args c cX2_changeShift 3 RX2 (kR kTab kA)) (hret : gRetV p l e (rmL 3 0 0) s m args below meth c cX2_changeShift (cΩ ca) (cP dC dI cg kA ca) Q S1) (hkt : kc t = 11) (hf : fX2_changeShift_124 t M = some S1) (hP : (cP dC dI cg kA ca) M s H) (hS : va_S (Fr (cΩ ca) s.heap.size) s.heap H locs) (hl : lv_has ls 3 [(0, .ref (ca t))]) : W p l e (rmL 3 0 0) s m args below meth c H locs 0 0 Q (F0 m 124 ls []) := by
  have hx := X.hx
  have hb := X.hb
  have hown := X.hown
  have hts := X.hts
  rw [fX2_changeShift_124] at hf
  cases hf
  exact hret _ _ _ _ dX2_changeShift_124 hP hS
set_option maxRecDepth 10000 in
theorem kX2_changeShift_114 {S1 : CS} {t : Nat} {M : CS} {x1 : Int32} {x2 : Int32} {H : Heap} {locs : List Loc} {ls : Array Slot} (X : gX p s m args c cX2_changeShift 3 RX2 (kR kTab kA)) (hret : gRetV p l e (rmL 3 0 0) s m args below meth c cX2_changeShift (cΩ ca) (cP dC dI cg kA ca) Q S1) (hkt : kc t = 11) (hf : fX2_changeShift_114 t M x1 x2 = some S1) (hP : (cP dC dI cg kA ca) M s H) (hS : va_S (Fr (cΩ ca) s.heap.size) s.heap H locs) (hl : lv_has ls 3 [(0, .ref (ca t)), (1, .int x1), (2, .int x2)]) : W p l e (rmL 3 0 0) s m args below meth c H locs 0 0 Q (F0 m 114 ls []) := by
  have hx := X.hx
  have hb := X.hb
  have hown := X.hown
  have hts := X.hts
  rw [fX2_changeShift_114] at hf
  refine lv_aload_n hx hb dX2_changeShift_114 rfl (lv_at hl 0 rfl) ?_
  refine cr_get (k := 3) X hP hkt rfl cv11_3 rfl cinX2 (by decide) rfl tw322 dX2_changeShift_115 ?_
  refine lv_iconst (v := 3) hx hb dX2_changeShift_118 (by decide) ?_
  refine lv_iload_n hx hb dX2_changeShift_119 rfl (lv_at hl 2 rfl) ?_
  refine lv_iload_n hx hb dX2_changeShift_120 rfl (lv_at hl 1 rfl) ?_
  obtain ⟨q, hc, hf⟩ := bd hf
  refine gCallVV X cOK rfl (vX1_add (kc_events hkt) hc) gRX2_X1_add hdX1_add rfl ⟨by decide, by decide⟩ hP hS (cr_rec hP (kc_events hkt) rfl cw15 rfl) hl.1 (Nat.le_of_ble_eq_true rfl) ⟨Nat.zero_le _, Nat.zero_le _⟩ dX2_changeShift_121 (As := [.int 3, .int x2, .int x1]) (rest := []) rfl (fun H locs hP hS => ?_)
  exact kX2_changeShift_124 X hret hkt hf hP hS (lv_sub hl [0] rfl)
set_option maxRecDepth 10000 in
theorem kX2_changeShift_101 {S1 : CS} {t : Nat} {M : CS} {x1 : Int32} {x2 : Int32} {H : Heap} {locs : List Loc} {ls : Array Slot} (X : gX p s m args c cX2_changeShift 3 RX2 (kR kTab kA)) (hret : gRetV p l e (rmL 3 0 0) s m args below meth c cX2_changeShift (cΩ ca) (cP dC dI cg kA ca) Q S1) (hkt : kc t = 11) (hf : fX2_changeShift_101 t M x1 x2 = some S1) (hP : (cP dC dI cg kA ca) M s H) (hS : va_S (Fr (cΩ ca) s.heap.size) s.heap H locs) (hl : lv_has ls 3 [(0, .ref (ca t)), (1, .int x1), (2, .int x2)]) : W p l e (rmL 3 0 0) s m args below meth c H locs 0 0 Q (F0 m 101 ls []) := by
  have hx := X.hx
  have hb := X.hb
  have hown := X.hown
  have hts := X.hts
  rw [fX2_changeShift_101] at hf
  refine lv_aload_n hx hb dX2_changeShift_101 rfl (lv_at hl 0 rfl) ?_
  refine cr_get (k := 4) X hP hkt rfl cv11_4 rfl cinX2 (by decide) rfl tw324 dX2_changeShift_102 ?_
  refine lv_dup hx hb dX2_changeShift_105 rfl ?_
  refine cr_get (k := 5) X hP (kc_totals hkt) rfl cv17_5 rfl cinX9 (by decide) rfl tw192 dX2_changeShift_106 ?_
  refine lv_iconst (v := 1) hx hb dX2_changeShift_109 (by decide) ?_
  refine lv_iadd hx hb dX2_changeShift_110 ?_
  refine cr_put (k := 5) X hP hS (kc_totals hkt) rfl cs17_5 rfl cinX9 tyX9_ok nmX9 (by decide) rfl rfl rfl rfl tw192 dX2_changeShift_111 (fun H locs hP hS => ?_)
  exact kX2_changeShift_114 X hret hkt hf hP hS (lv_sub hl [0, 1, 2] rfl)
set_option maxRecDepth 10000 in
theorem kX2_changeShift_96 {S1 : CS} {t : Nat} {M : CS} {x1 : Int32} {x2 : Int32} {H : Heap} {locs : List Loc} {ls : Array Slot} (X : gX p s m args c cX2_changeShift 3 RX2 (kR kTab kA)) (hret : gRetV p l e (rmL 3 0 0) s m args below meth c cX2_changeShift (cΩ ca) (cP dC dI cg kA ca) Q S1) (hkt : kc t = 11) (hf : fX2_changeShift_96 t M x1 x2 = some S1) (hP : (cP dC dI cg kA ca) M s H) (hS : va_S (Fr (cΩ ca) s.heap.size) s.heap H locs) (hl : lv_has ls 3 [(0, .ref (ca t)), (1, .int x1), (2, .int x2)]) : W p l e (rmL 3 0 0) s m args below meth c H locs 0 0 Q (F0 m 96 ls []) := by
  have hx := X.hx
  have hb := X.hb
  have hown := X.hown
  have hts := X.hts
  rw [fX2_changeShift_96] at hf
  refine lv_aload_n hx hb dX2_changeShift_96 rfl (lv_at hl 0 rfl) ?_
  refine lv_iconst (v := (-1)) hx hb dX2_changeShift_97 (by decide) ?_
  refine cr_put (k := 8) X hP hS hkt rfl cs11_8 rfl cinX2 tyX2_ok nmX2 (by decide) rfl rfl rfl rfl tw335 dX2_changeShift_98 (fun H locs hP hS => ?_)
  exact kX2_changeShift_101 X hret hkt hf hP hS (lv_sub hl [0, 1, 2] rfl)
set_option maxRecDepth 10000 in
theorem kX2_changeShift_93 {S1 : CS} {t : Nat} {M : CS} {H : Heap} {locs : List Loc} {ls : Array Slot} (X : gX p s m args c cX2_changeShift 3 RX2 (kR kTab kA)) (hret : gRetV p l e (rmL 3 0 0) s m args below meth c cX2_changeShift (cΩ ca) (cP dC dI cg kA ca) Q S1) (hkt : kc t = 11) (hf : fX2_changeShift_93 t M = some S1) (hP : (cP dC dI cg kA ca) M s H) (hS : va_S (Fr (cΩ ca) s.heap.size) s.heap H locs) (hl : lv_has ls 3 [(0, .ref (ca t))]) : W p l e (rmL 3 0 0) s m args below meth c H locs 0 0 Q (F0 m 93 ls []) := by
  have hx := X.hx
  have hb := X.hb
  have hown := X.hown
  have hts := X.hts
  rw [fX2_changeShift_93] at hf
  refine lv_goto (tgt := 124) hx hb dX2_changeShift_93 (by decide) ?_
  exact kX2_changeShift_124 X hret hkt hf hP hS (lv_sub hl [0] rfl)
set_option maxRecDepth 10000 in
theorem kX2_changeShift_83 {S1 : CS} {t : Nat} {M : CS} {x1 : Int32} {x2 : Int32} {H : Heap} {locs : List Loc} {ls : Array Slot} (X : gX p s m args c cX2_changeShift 3 RX2 (kR kTab kA)) (hret : gRetV p l e (rmL 3 0 0) s m args below meth c cX2_changeShift (cΩ ca) (cP dC dI cg kA ca) Q S1) (hkt : kc t = 11) (hf : fX2_changeShift_83 t M x1 x2 = some S1) (hP : (cP dC dI cg kA ca) M s H) (hS : va_S (Fr (cΩ ca) s.heap.size) s.heap H locs) (hl : lv_has ls 3 [(0, .ref (ca t)), (1, .int x1), (2, .int x2)]) : W p l e (rmL 3 0 0) s m args below meth c H locs 0 0 Q (F0 m 83 ls []) := by
  have hx := X.hx
  have hb := X.hb
  have hown := X.hown
  have hts := X.hts
  rw [fX2_changeShift_83] at hf
  refine lv_aload_n hx hb dX2_changeShift_83 rfl (lv_at hl 0 rfl) ?_
  refine cr_get (k := 3) X hP hkt rfl cv11_3 rfl cinX2 (by decide) rfl tw322 dX2_changeShift_84 ?_
  refine lv_iconst (v := 2) hx hb dX2_changeShift_87 (by decide) ?_
  refine lv_iload_n hx hb dX2_changeShift_88 rfl (lv_at hl 2 rfl) ?_
  refine lv_iload_n hx hb dX2_changeShift_89 rfl (lv_at hl 1 rfl) ?_
  obtain ⟨q, hc, hf⟩ := bd hf
  refine gCallVV X cOK rfl (vX1_add (kc_events hkt) hc) gRX2_X1_add hdX1_add rfl ⟨by decide, by decide⟩ hP hS (cr_rec hP (kc_events hkt) rfl cw15 rfl) hl.1 (Nat.le_of_ble_eq_true rfl) ⟨Nat.zero_le _, Nat.zero_le _⟩ dX2_changeShift_90 (As := [.int 2, .int x2, .int x1]) (rest := []) rfl (fun H locs hP hS => ?_)
  exact kX2_changeShift_93 X hret hkt hf hP hS (lv_sub hl [0] rfl)
set_option maxRecDepth 10000 in
theorem kX2_changeShift_78 {S1 : CS} {t : Nat} {M : CS} {x1 : Int32} {x2 : Int32} {H : Heap} {locs : List Loc} {ls : Array Slot} (X : gX p s m args c cX2_changeShift 3 RX2 (kR kTab kA)) (hret : gRetV p l e (rmL 3 0 0) s m args below meth c cX2_changeShift (cΩ ca) (cP dC dI cg kA ca) Q S1) (hkt : kc t = 11) (hf : fX2_changeShift_78 t M x1 x2 = some S1) (hP : (cP dC dI cg kA ca) M s H) (hS : va_S (Fr (cΩ ca) s.heap.size) s.heap H locs) (hl : lv_has ls 3 [(0, .ref (ca t)), (1, .int x1), (2, .int x2)]) : W p l e (rmL 3 0 0) s m args below meth c H locs 0 0 Q (F0 m 78 ls []) := by
  have hx := X.hx
  have hb := X.hb
  have hown := X.hown
  have hts := X.hts
  rw [fX2_changeShift_78] at hf
  refine lv_aload_n hx hb dX2_changeShift_78 rfl (lv_at hl 0 rfl) ?_
  refine lv_iload_n hx hb dX2_changeShift_79 rfl (lv_at hl 2 rfl) ?_
  obtain ⟨q, hc, hf⟩ := bd hf
  refine gCallVV X cOK rfl (vX2_swearIn hkt hc) gRX2_X2_swearIn hdX2_swearIn rfl ⟨by decide, by decide⟩ hP hS (cr_rec hP hkt rfl cw11 rfl) hl.1 (Nat.le_of_ble_eq_true rfl) ⟨Nat.zero_le _, Nat.zero_le _⟩ dX2_changeShift_80 (As := [.int x2]) (rest := []) rfl (fun H locs hP hS => ?_)
  exact kX2_changeShift_83 X hret hkt hf hP hS (lv_sub hl [0, 1, 2] rfl)
set_option maxRecDepth 10000 in
theorem kX2_changeShift_75 {S1 : CS} {t : Nat} {M : CS} {x1 : Int32} {x2 : Int32} {s0 : Int32} {H : Heap} {locs : List Loc} {ls : Array Slot} (X : gX p s m args c cX2_changeShift 3 RX2 (kR kTab kA)) (hret : gRetV p l e (rmL 3 0 0) s m args below meth c cX2_changeShift (cΩ ca) (cP dC dI cg kA ca) Q S1) (hkt : kc t = 11) (hf : fX2_changeShift_75 t M x1 x2 s0 = some S1) (hP : (cP dC dI cg kA ca) M s H) (hS : va_S (Fr (cΩ ca) s.heap.size) s.heap H locs) (hl : lv_has ls 3 [(0, .ref (ca t)), (1, .int x1), (2, .int x2)]) : W p l e (rmL 3 0 0) s m args below meth c H locs 0 0 Q (F0 m 75 ls [.int s0]) := by
  have hx := X.hx
  have hb := X.hb
  have hown := X.hown
  have hts := X.hts
  rw [fX2_changeShift_75] at hf
  refine lv_if_ne (tgt := 96) hx hb dX2_changeShift_75 (by decide) (fun c1 => ?_) (fun c1 => ?_)
  · exact kX2_changeShift_96 X hret hkt (ifn c1 hf) hP hS (lv_sub hl [0, 1, 2] rfl)
  · exact kX2_changeShift_78 X hret hkt (ifp c1 hf) hP hS (lv_sub hl [0, 1, 2] rfl)
set_option maxRecDepth 10000 in
theorem kX2_changeShift_52 {S1 : CS} {t : Nat} {M : CS} {H : Heap} {locs : List Loc} {ls : Array Slot} (X : gX p s m args c cX2_changeShift 3 RX2 (kR kTab kA)) (hret : gRetV p l e (rmL 3 0 0) s m args below meth c cX2_changeShift (cΩ ca) (cP dC dI cg kA ca) Q S1) (hkt : kc t = 11) (hf : fX2_changeShift_52 t M = some S1) (hP : (cP dC dI cg kA ca) M s H) (hS : va_S (Fr (cΩ ca) s.heap.size) s.heap H locs) (hl : lv_has ls 3 [(0, .ref (ca t))]) : W p l e (rmL 3 0 0) s m args below meth c H locs 0 0 Q (F0 m 52 ls []) := by
  have hx := X.hx
  have hb := X.hb
  have hown := X.hown
  have hts := X.hts
  rw [fX2_changeShift_52] at hf
  refine lv_aload_n hx hb dX2_changeShift_52 rfl (lv_at hl 0 rfl) ?_
  refine cr_get (k := 8) X hP hkt rfl cv11_8 rfl cinX2 (by decide) rfl tw335 dX2_changeShift_53 ?_
  refine lv_istore_n (lv' := [(1, .int (M.1 t 8)), (0, .ref (ca t))]) hx hb dX2_changeShift_56 rfl hl (by decide) rfl (fun ls hl => ?_)
  refine lv_aload_n hx hb dX2_changeShift_57 rfl (lv_at hl 1 rfl) ?_
  refine cr_get (k := 2) X hP hkt rfl cv11_2 rfl cinX2 (by decide) rfl tw319 dX2_changeShift_58 ?_
  refine lv_aload_n hx hb dX2_changeShift_61 rfl (lv_at hl 1 rfl) ?_
  refine cr_get (k := 9) X hP hkt rfl cv11_9 rfl cinX2 (by decide) rfl tw337 dX2_changeShift_62 ?_
  obtain ⟨g1, hf⟩ := gd hf
  refine cr_aald (f := fun i => (t + 3) + 20 + i) X hP (kc_shifts hkt) rfl (fun _ => rfl) rfl g1 dX2_changeShift_65 ?_
  refine cr_get (k := 0) X hP (kc_shift (kc_shifts hkt) g1) rfl cv20_0 rfl cinX7 (by decide) rfl tw301 dX2_changeShift_66 ?_
  refine lv_istore_n (lv' := [(2, .int (M.1 ((t + 3) + 20 + (M.1 t 9).toNatClampNeg) 0)), (1, .int (M.1 t 8)), (0, .ref (ca t))]) hx hb dX2_changeShift_69 rfl hl (by decide) rfl (fun ls hl => ?_)
  refine lv_aload_n hx hb dX2_changeShift_70 rfl (lv_at hl 2 rfl) ?_
  refine lv_iload_n hx hb dX2_changeShift_71 rfl (lv_at hl 0 rfl) ?_
  obtain ⟨q, hc, hf⟩ := bd hf
  refine gCallVR X rfl (vX2_reasonAgainst hkt hc) gRX2_X2_reasonAgainst hdX2_reasonAgainst rfl ⟨by decide, by decide⟩ (gB_blind cOK) (gB_at cOK X hP) (cr_rec hP hkt rfl cw11 rfl) hl.1 (Nat.le_of_ble_eq_true rfl) ⟨Nat.zero_le _, Nat.zero_le _⟩ dX2_changeShift_72 (As := [.int (M.1 ((t + 3) + 20 + (M.1 t 9).toNatClampNeg) 0)]) (rest := []) rfl ?_
  exact kX2_changeShift_75 X hret hkt hf hP hS (lv_sub hl [2, 1, 0] rfl)
set_option maxRecDepth 10000 in
theorem kX2_changeShift_51 {S1 : CS} {t : Nat} {M : CS} {H : Heap} {locs : List Loc} {ls : Array Slot} (X : gX p s m args c cX2_changeShift 3 RX2 (kR kTab kA)) (hret : gRetV p l e (rmL 3 0 0) s m args below meth c cX2_changeShift (cΩ ca) (cP dC dI cg kA ca) Q S1) (hkt : kc t = 11) (hf : fX2_changeShift_51 t M = some S1) (hP : (cP dC dI cg kA ca) M s H) (hS : va_S (Fr (cΩ ca) s.heap.size) s.heap H locs) (hl : lv_has ls 3 [(0, .ref (ca t))]) : W p l e (rmL 3 0 0) s m args below meth c H locs 0 0 Q (F0 m 51 ls []) := by
  have hx := X.hx
  have hb := X.hb
  have hown := X.hown
  have hts := X.hts
  rw [fX2_changeShift_51] at hf
  cases hf
  exact hret _ _ _ _ dX2_changeShift_51 hP hS
set_option maxRecDepth 10000 in
theorem kX2_changeShift_43 {S1 : CS} {t : Nat} {M : CS} {H : Heap} {locs : List Loc} {ls : Array Slot} (X : gX p s m args c cX2_changeShift 3 RX2 (kR kTab kA)) (hret : gRetV p l e (rmL 3 0 0) s m args below meth c cX2_changeShift (cΩ ca) (cP dC dI cg kA ca) Q S1) (hkt : kc t = 11) (hf : fX2_changeShift_43 t M = some S1) (hP : (cP dC dI cg kA ca) M s H) (hS : va_S (Fr (cΩ ca) s.heap.size) s.heap H locs) (hl : lv_has ls 3 [(0, .ref (ca t))]) : W p l e (rmL 3 0 0) s m args below meth c H locs 0 0 Q (F0 m 43 ls []) := by
  have hx := X.hx
  have hb := X.hb
  have hown := X.hown
  have hts := X.hts
  rw [fX2_changeShift_43] at hf
  refine lv_aload_n hx hb dX2_changeShift_43 rfl (lv_at hl 0 rfl) ?_
  refine cr_get (k := 8) X hP hkt rfl cv11_8 rfl cinX2 (by decide) rfl tw335 dX2_changeShift_44 ?_
  refine lv_iconst (v := (-1)) hx hb dX2_changeShift_47 (by decide) ?_
  refine lv_icmp_ne (tgt := 52) hx hb dX2_changeShift_48 (by decide) (fun c1 => ?_) (fun c1 => ?_)
  · exact kX2_changeShift_52 X hret hkt (ifn c1 hf) hP hS (lv_sub hl [0] rfl)
  · exact kX2_changeShift_51 X hret hkt (ifp c1 hf) hP hS (lv_sub hl [0] rfl)
set_option maxRecDepth 10000 in
theorem kX2_changeShift_27 {S1 : CS} {t : Nat} {M : CS} {H : Heap} {locs : List Loc} {ls : Array Slot} (X : gX p s m args c cX2_changeShift 3 RX2 (kR kTab kA)) (hret : gRetV p l e (rmL 3 0 0) s m args below meth c cX2_changeShift (cΩ ca) (cP dC dI cg kA ca) Q S1) (hkt : kc t = 11) (hf : fX2_changeShift_27 t M = some S1) (hP : (cP dC dI cg kA ca) M s H) (hS : va_S (Fr (cΩ ca) s.heap.size) s.heap H locs) (hl : lv_has ls 3 [(0, .ref (ca t))]) : W p l e (rmL 3 0 0) s m args below meth c H locs 0 0 Q (F0 m 27 ls []) := by
  have hx := X.hx
  have hb := X.hb
  have hown := X.hown
  have hts := X.hts
  rw [fX2_changeShift_27] at hf
  refine lv_aload_n hx hb dX2_changeShift_27 rfl (lv_at hl 0 rfl) ?_
  refine lv_aload_n hx hb dX2_changeShift_28 rfl (lv_at hl 0 rfl) ?_
  refine cr_get (k := 2) X hP hkt rfl cv11_2 rfl cinX2 (by decide) rfl tw319 dX2_changeShift_29 ?_
  refine lv_aload_n hx hb dX2_changeShift_32 rfl (lv_at hl 0 rfl) ?_
  refine cr_get (k := 9) X hP hkt rfl cv11_9 rfl cinX2 (by decide) rfl tw337 dX2_changeShift_33 ?_
  obtain ⟨g1, hf⟩ := gd hf
  refine cr_aald (f := fun i => (t + 3) + 20 + i) X hP (kc_shifts hkt) rfl (fun _ => rfl) rfl g1 dX2_changeShift_36 ?_
  refine cr_get (k := 1) X hP (kc_shift (kc_shifts hkt) g1) rfl cv20_1 rfl cinX7 (by decide) rfl tw305 dX2_changeShift_37 ?_
  refine cr_put (k := 10) X hP hS hkt rfl cs11_10 rfl cinX2 tyX2_ok nmX2 (by decide) rfl rfl rfl rfl tw339 dX2_changeShift_40 (fun H locs hP hS => ?_)
  exact kX2_changeShift_43 X hret hkt hf hP hS (lv_sub hl [0] rfl)
set_option maxRecDepth 10000 in
theorem kX2_changeShift_24 {S1 : CS} {t : Nat} {M : CS} {s0 : Int32} {H : Heap} {locs : List Loc} {ls : Array Slot} (X : gX p s m args c cX2_changeShift 3 RX2 (kR kTab kA)) (hret : gRetV p l e (rmL 3 0 0) s m args below meth c cX2_changeShift (cΩ ca) (cP dC dI cg kA ca) Q S1) (hkt : kc t = 11) (hf : fX2_changeShift_24 t M s0 = some S1) (hP : (cP dC dI cg kA ca) M s H) (hS : va_S (Fr (cΩ ca) s.heap.size) s.heap H locs) (hl : lv_has ls 3 [(0, .ref (ca t))]) : W p l e (rmL 3 0 0) s m args below meth c H locs 0 0 Q (F0 m 24 ls [.int s0, .ref (ca t)]) := by
  have hx := X.hx
  have hb := X.hb
  have hown := X.hown
  have hts := X.hts
  rw [fX2_changeShift_24] at hf
  refine cr_put (k := 9) X hP hS hkt rfl cs11_9 rfl cinX2 tyX2_ok nmX2 (by decide) rfl rfl rfl rfl tw337 dX2_changeShift_24 (fun H locs hP hS => ?_)
  exact kX2_changeShift_27 X hret hkt hf hP hS (lv_sub hl [0] rfl)
set_option maxRecDepth 10000 in
theorem kX2_changeShift_23 {S1 : CS} {t : Nat} {M : CS} {H : Heap} {locs : List Loc} {ls : Array Slot} (X : gX p s m args c cX2_changeShift 3 RX2 (kR kTab kA)) (hret : gRetV p l e (rmL 3 0 0) s m args below meth c cX2_changeShift (cΩ ca) (cP dC dI cg kA ca) Q S1) (hkt : kc t = 11) (hf : fX2_changeShift_23 t M = some S1) (hP : (cP dC dI cg kA ca) M s H) (hS : va_S (Fr (cΩ ca) s.heap.size) s.heap H locs) (hl : lv_has ls 3 [(0, .ref (ca t))]) : W p l e (rmL 3 0 0) s m args below meth c H locs 0 0 Q (F0 m 23 ls [.ref (ca t)]) := by
  have hx := X.hx
  have hb := X.hb
  have hown := X.hown
  have hts := X.hts
  rw [fX2_changeShift_23] at hf
  refine lv_iconst (v := 0) hx hb dX2_changeShift_23 (by decide) ?_
  exact kX2_changeShift_24 X hret hkt hf hP hS (lv_sub hl [0] rfl)
set_option maxRecDepth 10000 in
theorem kX2_changeShift_14 {S1 : CS} {t : Nat} {M : CS} {H : Heap} {locs : List Loc} {ls : Array Slot} (X : gX p s m args c cX2_changeShift 3 RX2 (kR kTab kA)) (hret : gRetV p l e (rmL 3 0 0) s m args below meth c cX2_changeShift (cΩ ca) (cP dC dI cg kA ca) Q S1) (hkt : kc t = 11) (hf : fX2_changeShift_14 t M = some S1) (hP : (cP dC dI cg kA ca) M s H) (hS : va_S (Fr (cΩ ca) s.heap.size) s.heap H locs) (hl : lv_has ls 3 [(0, .ref (ca t))]) : W p l e (rmL 3 0 0) s m args below meth c H locs 0 0 Q (F0 m 14 ls [.ref (ca t)]) := by
  have hx := X.hx
  have hb := X.hb
  have hown := X.hown
  have hts := X.hts
  rw [fX2_changeShift_14] at hf
  refine lv_aload_n hx hb dX2_changeShift_14 rfl (lv_at hl 0 rfl) ?_
  refine cr_get (k := 9) X hP hkt rfl cv11_9 rfl cinX2 (by decide) rfl tw337 dX2_changeShift_15 ?_
  refine lv_iconst (v := 1) hx hb dX2_changeShift_18 (by decide) ?_
  refine lv_iadd hx hb dX2_changeShift_19 ?_
  refine lv_goto (tgt := 24) hx hb dX2_changeShift_20 (by decide) ?_
  exact kX2_changeShift_24 X hret hkt hf hP hS (lv_sub hl [0] rfl)
set_option maxRecDepth 10000 in
theorem kX2_changeShift_0 {S1 : CS} {t : Nat} {M : CS} {H : Heap} {locs : List Loc} {ls : Array Slot} (X : gX p s m args c cX2_changeShift 3 RX2 (kR kTab kA)) (hret : gRetV p l e (rmL 3 0 0) s m args below meth c cX2_changeShift (cΩ ca) (cP dC dI cg kA ca) Q S1) (hkt : kc t = 11) (hf : fX2_changeShift_0 t M = some S1) (hP : (cP dC dI cg kA ca) M s H) (hS : va_S (Fr (cΩ ca) s.heap.size) s.heap H locs) (hl : lv_has ls 3 [(0, .ref (ca t))]) : W p l e (rmL 3 0 0) s m args below meth c H locs 0 0 Q (F0 m 0 ls []) := by
  have hx := X.hx
  have hb := X.hb
  have hown := X.hown
  have hts := X.hts
  rw [fX2_changeShift_0] at hf
  refine lv_aload_n hx hb dX2_changeShift_0 rfl (lv_at hl 0 rfl) ?_
  refine lv_aload_n hx hb dX2_changeShift_1 rfl (lv_at hl 0 rfl) ?_
  refine cr_get (k := 9) X hP hkt rfl cv11_9 rfl cinX2 (by decide) rfl tw337 dX2_changeShift_2 ?_
  refine lv_iconst (v := 1) hx hb dX2_changeShift_5 (by decide) ?_
  refine lv_iadd hx hb dX2_changeShift_6 ?_
  refine lv_aload_n hx hb dX2_changeShift_7 rfl (lv_at hl 0 rfl) ?_
  refine cr_get (k := 7) X hP hkt rfl cv11_7 rfl cinX2 (by decide) rfl tw332 dX2_changeShift_8 ?_
  refine lv_icmp_ge (tgt := 23) hx hb dX2_changeShift_11 (by decide) (fun c1 => ?_) (fun c1 => ?_)
  · exact kX2_changeShift_23 X hret hkt (ifp c1 hf) hP hS (lv_sub hl [0] rfl)
  · exact kX2_changeShift_14 X hret hkt (ifn c1 hf) hP hS (lv_sub hl [0] rfl)
theorem vX2_changeShift {l : Launch} {dC : Nat → ClassId} {dI : Nat → Nat → Nat} {cg : Nat → ClassId} {kA : String → Nat → Nat} {ca : Nat → Nat} {M S1 : CS} {t : Nat} (hkt : kc t = 11) (hf : fX2_changeShift M t  = some S1) : gMetV l yX2_changeShift cX2_changeShift 3 3 (cΩ ca) (cP dC dI cg kA ca) (kR kTab kA) [.ref (ca t)] M S1 := gEntryV (by decide) cOK (Nat.le_of_ble_eq_true rfl) (fun p e s m args below meth c Q ls X hP hS hret hl => 
  kX2_changeShift_0 X hret hkt hf hP hS (lv_sub hl [0] rfl))
