variable {l : Launch} {p : Program} {e : Env} {s : State} {m : MethodId} {args : Array Value} {below : List Frame} {meth : Method} {c : Code} {A : Nat → Prop} {Q : State → Prop}
variable {dC : Nat → ClassId} {dI : Nat → Nat → Nat} {cg : Nat → ClassId} {kA : String → Nat → Nat} {ca : Nat → Nat}
def fX10_truncateInput_15 (M : CS) : Option (Int32 × CS) := some (0, M)
def fX10_truncateInput_25 (M : CS) : Option (Int32 × CS) := some (1, M)
def fX10_truncateInput_17 (M : CS) (x1 : Int32) : Option (Int32 × CS) := fX10_truncateInput_25 (va_up M.1 1 (upd (M.1 1) 2 x1), M.2)
def fX10_truncateInput_4 (M : CS) (x1 : Int32) : Option (Int32 × CS) := if x1 ≤ (M.1 1 2) then fX10_truncateInput_17 M x1 else fX10_truncateInput_15 M
def fX10_truncateInput_0 (M : CS) (a1 : Int32) : Option (Int32 × CS) := if a1 < 0 then fX10_truncateInput_15 M else fX10_truncateInput_4 M a1
def fX10_truncateInput (M : CS) (a1 : Int32) : Option (Int32 × CS) := bz (fX10_truncateInput_0  M a1)
def fX10_clock_0 (M : CS) : Option (Int32) := some (M.1 13 12)
def fX10_clock (M : CS) : Option (Int32) := fX10_clock_0  M
def fX10_swornCat_0 (M : CS) : Option (Int32) := some (M.1 13 8)
def fX10_swornCat (M : CS) : Option (Int32) := fX10_swornCat_0  M
def fX10_currentShift_0 (M : CS) : Option (Int32) := some (M.1 13 9)
def fX10_currentShift (M : CS) : Option (Int32) := fX10_currentShift_0  M
def fX10_hoursLeft_0 (M : CS) : Option (Int32) := some (M.1 13 10)
def fX10_hoursLeft (M : CS) : Option (Int32) := fX10_hoursLeft_0  M
def fX10_milk_0 (M : CS) : Option (Int32) := some (M.1 13 11)
def fX10_milk (M : CS) : Option (Int32) := fX10_milk_0  M
def fX10_totalCaught_0 (M : CS) : Option (Int32) := some (M.1 (13 + 8) 0)
def fX10_totalCaught (M : CS) : Option (Int32) := fX10_totalCaught_0  M
def fX10_totalEaten_0 (M : CS) : Option (Int32) := some (M.1 (13 + 8) 1)
def fX10_totalEaten (M : CS) : Option (Int32) := fX10_totalEaten_0  M
def fX10_totalBorn_0 (M : CS) : Option (Int32) := some (M.1 (13 + 8) 2)
def fX10_totalBorn (M : CS) : Option (Int32) := fX10_totalBorn_0  M
def fX10_totalStarved_0 (M : CS) : Option (Int32) := some (M.1 (13 + 8) 3)
def fX10_totalStarved (M : CS) : Option (Int32) := fX10_totalStarved_0  M
def fX10_totalOaths_0 (M : CS) : Option (Int32) := some (M.1 (13 + 8) 4)
def fX10_totalOaths (M : CS) : Option (Int32) := fX10_totalOaths_0  M
def fX10_totalRefusals_0 (M : CS) : Option (Int32) := some (M.1 (13 + 8) 5)
def fX10_totalRefusals (M : CS) : Option (Int32) := fX10_totalRefusals_0  M
def fX10_catAt_15 (M : CS) : Option (Nat) := none
def fX10_catAt_26 (M : CS) (x1 : Int32) : Option (Nat) := if gIn x1 8 then some ((13 + 1) + 8 + x1.toNatClampNeg) else none
def fX10_catAt_4 (M : CS) (x1 : Int32) : Option (Nat) := if x1 < (M.1 13 5) then fX10_catAt_26 M x1 else fX10_catAt_15 M
def fX10_catAt_0 (M : CS) (a1 : Int32) : Option (Nat) := if a1 < 0 then fX10_catAt_15 M else fX10_catAt_4 M a1
def fX10_catAt (M : CS) (a1 : Int32) : Option (Nat) := fX10_catAt_0  M a1
def fX10_sackAt_15 (M : CS) : Option (Nat) := none
def fX10_sackAt_26 (M : CS) (x1 : Int32) : Option (Nat) := if gIn x1 6 then some ((13 + 2) + 15 + x1.toNatClampNeg) else none
def fX10_sackAt_4 (M : CS) (x1 : Int32) : Option (Nat) := if x1 < (M.1 13 6) then fX10_sackAt_26 M x1 else fX10_sackAt_15 M
def fX10_sackAt_0 (M : CS) (a1 : Int32) : Option (Nat) := if a1 < 0 then fX10_sackAt_15 M else fX10_sackAt_4 M a1
def fX10_sackAt (M : CS) (a1 : Int32) : Option (Nat) := fX10_sackAt_0  M a1
def fX10_requireRange_10 (M : CS) : Option (CS) := none
def fX10_requireRange_21 (M : CS) : Option (CS) := some M
def fX10_requireRange_5 (M : CS) (x0 : Int32) (x2 : Int32) : Option (CS) := if x0 ≤ x2 then fX10_requireRange_21 M else fX10_requireRange_10 M
def fX10_requireRange_0 (M : CS) (a1 : Int32) (a2 : Int32) (a3 : Int32) : Option (CS) := if a1 < a2 then fX10_requireRange_10 M else fX10_requireRange_5 M a1 a3
def fX10_requireRange (M : CS) (a1 : Int32) (a2 : Int32) (a3 : Int32) : Option (CS) := fX10_requireRange_0  M a1 a2 a3
def fX0_strength_0 (t : Nat) (M : CS) : Option (Int32) := some (if ((M.1 t 1) - ((M.1 t 3) / 4)) < 0 then 0 else ((M.1 t 1) - ((M.1 t 3) / 4)))
def fX0_strength (M : CS) (t : Nat) : Option (Int32) := fX0_strength_0 t  M
def fX0_tire_15 (t : Nat) (M : CS) : Option (CS) := some M
def fX0_tire_0 (t : Nat) (M : CS) : Option (CS) := fX0_tire_15 t (va_up M.1 t (upd (M.1 t) 3 (if 20 < ((M.1 t 3) + 1) then 20 else ((M.1 t 3) + 1))), M.2)
def fX0_tire (M : CS) (t : Nat) : Option (CS) := fX0_tire_0 t  M
def fX0_recover_14 (t : Nat) (M : CS) : Option (CS) := some M
def fX0_recover_0 (t : Nat) (M : CS) (a1 : Int32) : Option (CS) := fX0_recover_14 t (va_up M.1 t (upd (M.1 t) 3 (if ((M.1 t 3) - a1) < 0 then 0 else ((M.1 t 3) - a1))), M.2)
def fX0_recover (M : CS) (t : Nat) (a1 : Int32) : Option (CS) := fX0_recover_0 t  M a1
def fX1_copyFrom_61 (t : Nat) (b1 : Nat) (M : CS) : Option (CS) := some M
def fX1_copyFrom_53 (t : Nat) (b1 : Nat) (M : CS) : Option (CS) := fX1_copyFrom_61 t b1 (va_up M.1 t (upd (M.1 t) 4 (M.1 b1 4)), M.2)
def fX1_copyFrom_45 (t : Nat) (b1 : Nat) (M : CS) : Option (CS) := fX1_copyFrom_53 t b1 (va_up M.1 t (upd (M.1 t) 3 (M.1 b1 3)), M.2)
def fX1_copyFrom_30 (t : Nat) (b1 : Nat) (M : CS) : Option (CS) := fX1_copyFrom_45 t b1 (va_up M.1 (t + 3) (va_cpy (M.1 (b1 + 3)) (M.1 (t + 3)) 0 0 (16 : Int32).toNatClampNeg), M.2)
def fX1_copyFrom_15 (t : Nat) (b1 : Nat) (M : CS) : Option (CS) := fX1_copyFrom_30 t b1 (va_up M.1 (t + 2) (va_cpy (M.1 (b1 + 2)) (M.1 (t + 2)) 0 0 (16 : Int32).toNatClampNeg), M.2)
def fX1_copyFrom_0 (t : Nat) (b1 : Nat) (M : CS) : Option (CS) := fX1_copyFrom_15 t b1 (va_up M.1 (t + 1) (va_cpy (M.1 (b1 + 1)) (M.1 (t + 1)) 0 0 (16 : Int32).toNatClampNeg), M.2)
def fX1_copyFrom (M : CS) (t : Nat) (b1 : Nat) : Option (CS) := fX1_copyFrom_0 t b1  M
def fX1_add_58 (t : Nat) (M : CS) : Option (CS) := some M
def fX1_add_43 (t : Nat) (M : CS) : Option (CS) := fX1_add_58 t (va_up M.1 t (upd (M.1 t) 3 (if 16 < ((M.1 t 3) + 1) then 16 else ((M.1 t 3) + 1))), M.2)
def fX1_add_30 (t : Nat) (M : CS) : Option (CS) := fX1_add_43 t (va_up M.1 t (upd (M.1 t) 4 (((M.1 t 4) + 1) - ((M.1 t 4) + 1) / 16 * 16)), M.2)
def fX1_add_20 (t : Nat) (M : CS) (x3 : Int32) : Option (CS) := if gIn (M.1 t 4) 16 then fX1_add_30 t (va_up M.1 (t + 3) (upd (M.1 (t + 3)) (M.1 t 4).toNatClampNeg x3), M.2) else none
def fX1_add_10 (t : Nat) (M : CS) (x2 : Int32) (x3 : Int32) : Option (CS) := if gIn (M.1 t 4) 16 then fX1_add_20 t (va_up M.1 (t + 2) (upd (M.1 (t + 2)) (M.1 t 4).toNatClampNeg x2), M.2) x3 else none
def fX1_add_0 (t : Nat) (M : CS) (a1 : Int32) (a2 : Int32) (a3 : Int32) : Option (CS) := if gIn (M.1 t 4) 16 then fX1_add_10 t (va_up M.1 (t + 1) (upd (M.1 (t + 1)) (M.1 t 4).toNatClampNeg a1), M.2) a2 a3 else none
def fX1_add (M : CS) (t : Nat) (a1 : Int32) (a2 : Int32) (a3 : Int32) : Option (CS) := fX1_add_0 t  M a1 a2 a3
def fX2_clear_55 (t : Nat) (M : CS) : Option (CS) := some M
def fX2_clear_48 (t : Nat) (M : CS) : Option (CS) := (fX9_clear M (t + 8)).bind fun q => fX2_clear_55 t q
def fX2_clear_41 (t : Nat) (M : CS) : Option (CS) := (fX1_clear M (t + 4)).bind fun q => fX2_clear_48 t q
def fX2_clear_35 (t : Nat) (M : CS) : Option (CS) := fX2_clear_41 t (va_up M.1 t (upd (M.1 t) 12 6), M.2)
def fX2_clear_30 (t : Nat) (M : CS) : Option (CS) := fX2_clear_35 t (va_up M.1 t (upd (M.1 t) 11 3), M.2)
def fX2_clear_25 (t : Nat) (M : CS) : Option (CS) := fX2_clear_30 t (va_up M.1 t (upd (M.1 t) 10 0), M.2)
def fX2_clear_20 (t : Nat) (M : CS) : Option (CS) := fX2_clear_25 t (va_up M.1 t (upd (M.1 t) 9 0), M.2)
def fX2_clear_15 (t : Nat) (M : CS) : Option (CS) := fX2_clear_20 t (va_up M.1 t (upd (M.1 t) 8 (-1)), M.2)
def fX2_clear_10 (t : Nat) (M : CS) : Option (CS) := fX2_clear_15 t (va_up M.1 t (upd (M.1 t) 7 0), M.2)
def fX2_clear_5 (t : Nat) (M : CS) : Option (CS) := fX2_clear_10 t (va_up M.1 t (upd (M.1 t) 6 0), M.2)
def fX2_clear_0 (t : Nat) (M : CS) : Option (CS) := fX2_clear_5 t (va_up M.1 t (upd (M.1 t) 5 0), M.2)
def fX2_clear (M : CS) (t : Nat) : Option (CS) := fX2_clear_0 t  M
def fX2_begin_48 (t : Nat) (M : CS) : Option (CS) := some M
def fX2_begin_35 (t : Nat) (M : CS) : Option (CS) := if gIn 0 12 then (fX2_swearIn M t (M.1 ((t + 3) + 20 + (0 : Int32).toNatClampNeg) 0)).bind fun q => fX2_begin_48 t q else none
def fX2_begin_22 (t : Nat) (M : CS) : Option (CS) := if gIn 0 12 then fX2_begin_35 t (va_up M.1 t (upd (M.1 t) 10 (M.1 ((t + 3) + 20 + (0 : Int32).toNatClampNeg) 1)), M.2) else none
def fX2_begin_19 (t : Nat) (M : CS) (s0 : Int32) : Option (CS) := fX2_begin_22 t (va_up M.1 (t + 8) (upd (M.1 (t + 8)) 7 s0), M.2)
def fX2_begin_11 (t : Nat) (M : CS) : Option (CS) := (fX2_grainOfAll M t).bind fun q => fX2_begin_19 t M q
def fX2_begin_8 (t : Nat) (M : CS) (s0 : Int32) : Option (CS) := fX2_begin_11 t (va_up M.1 (t + 8) (upd (M.1 (t + 8)) 6 s0), M.2)
def fX2_begin_0 (t : Nat) (M : CS) : Option (CS) := (fX2_miceOfAll M t).bind fun q => fX2_begin_8 t M q
def fX2_begin (M : CS) (t : Nat) : Option (CS) := fX2_begin_0 t  M
def fX2_feedMice_66 (t : Nat) (M : CS) : Option (CS) := some M
def fX2_feedMice_159 (t : Nat) (M : CS) : Option (CS) := some M
def fX2_feedMice_131 (t : Nat) (M : CS) (x4 : Int32) : Option (CS) := if gIn x4 6 then if gIn x4 6 then (fX2_starve M t ((t + 2) + 15 + x4.toNatClampNeg) (if ((M.1 ((t + 2) + 15 + x4.toNatClampNeg) 2) - 99) < 0 then 0 else ((M.1 ((t + 2) + 15 + x4.toNatClampNeg) 2) - 99))).bind fun q => fX2_feedMice_159 t q else none else none
def fX2_feedMice_126 (t : Nat) (M : CS) (p2 : Nat) (x4 : Int32) : Option (CS) := fX2_feedMice_131 t (va_up M.1 p2 (upd (M.1 p2) 2 0), M.2) x4
def fX2_feedMice_107 (t : Nat) (M : CS) (p2 : Nat) (x4 : Int32) : Option (CS) := if gIn x4 6 then fX2_feedMice_126 t (va_up M.1 ((t + 2) + 15 + x4.toNatClampNeg) (upd (M.1 ((t + 2) + 15 + x4.toNatClampNeg)) 2 ((M.1 ((t + 2) + 15 + x4.toNatClampNeg) 2) + (M.1 p2 2))), M.2) p2 x4 else none
def fX2_feedMice_104 (t : Nat) (M : CS) : Option (CS) := fX2_feedMice_159 t M
def fX2_feedMice_91 (t : Nat) (M : CS) (p2 : Nat) : Option (CS) := (fX2_starve M t p2 (((M.1 p2 2) + 1) / 2)).bind fun q => fX2_feedMice_104 t q
def fX2_feedMice_83 (t : Nat) (M : CS) (p2 : Nat) (s0 : Int32) : Option (CS) := if s0 = (-1) then fX2_feedMice_91 t M p2 else fX2_feedMice_107 t M p2 s0
def fX2_feedMice_82 (t : Nat) (M : CS) (p2 : Nat) : Option (CS) := fX2_feedMice_83 t M p2 (-1)
def fX2_feedMice_79 (t : Nat) (M : CS) (p2 : Nat) (s0 : Int32) : Option (CS) := fX2_feedMice_83 t M p2 s0
def fX2_feedMice_74 (t : Nat) (M : CS) (p2 : Nat) (x1 : Int32) : Option (CS) := (fX2_nextOpenSack M t x1).bind fun q => fX2_feedMice_79 t M p2 q
def fX2_feedMice_67 (t : Nat) (M : CS) (p2 : Nat) (x1 : Int32) : Option (CS) := if (M.1 p2 3) = 0 then fX2_feedMice_82 t M p2 else fX2_feedMice_74 t M p2 x1
def fX2_feedMice_59 (t : Nat) (M : CS) (p2 : Nat) (x1 : Int32) : Option (CS) := if (M.1 p2 1) ≤ 0 then fX2_feedMice_67 t M p2 x1 else fX2_feedMice_66 t M
def fX2_feedMice_52 (t : Nat) (M : CS) (p2 : Nat) (x1 : Int32) : Option (CS) := if (M.1 p2 2) = 0 then fX2_feedMice_66 t M else fX2_feedMice_59 t M p2 x1
def fX2_feedMice_39 (t : Nat) (M : CS) (p2 : Nat) (x1 : Int32) (x3 : Int32) : Option (CS) := fX2_feedMice_52 t (va_up M.1 (t + 8) (upd (M.1 (t + 8)) 1 ((M.1 (t + 8) 1) + x3)), M.2) p2 x1
def fX2_feedMice_29 (t : Nat) (M : CS) (p2 : Nat) (x1 : Int32) (x3 : Int32) : Option (CS) := fX2_feedMice_39 t (va_up M.1 p2 (upd (M.1 p2) 4 ((M.1 p2 4) + x3)), M.2) p2 x1 x3
def fX2_feedMice_0 (t : Nat) (M : CS) (a1 : Int32) : Option (CS) := if gIn a1 6 then fX2_feedMice_29 t (va_up M.1 ((t + 2) + 15 + a1.toNatClampNeg) (upd (M.1 ((t + 2) + 15 + a1.toNatClampNeg)) 1 ((M.1 ((t + 2) + 15 + a1.toNatClampNeg) 1) - (if (M.1 ((t + 2) + 15 + a1.toNatClampNeg) 1) < (M.1 ((t + 2) + 15 + a1.toNatClampNeg) 2) then (M.1 ((t + 2) + 15 + a1.toNatClampNeg) 1) else (M.1 ((t + 2) + 15 + a1.toNatClampNeg) 2)))), M.2) ((t + 2) + 15 + a1.toNatClampNeg) a1 (if (M.1 ((t + 2) + 15 + a1.toNatClampNeg) 1) < (M.1 ((t + 2) + 15 + a1.toNatClampNeg) 2) then (M.1 ((t + 2) + 15 + a1.toNatClampNeg) 1) else (M.1 ((t + 2) + 15 + a1.toNatClampNeg) 2)) else none
def fX2_feedMice (M : CS) (t : Nat) (a1 : Int32) : Option (CS) := fX2_feedMice_0 t  M a1
def fX2_growMice_71 (t : Nat) (M : CS) : Option (CS) := some M
def fX2_growMice_65 (t : Nat) (K2 : CS → Int32 → Option (CS)) (M : CS) (x1 : Int32) : Option (CS) := K2 M (x1 + 1)
def fX2_growMice_52 (t : Nat) (K2 : CS → Int32 → Option (CS)) (M : CS) (x1 : Int32) (x2 : Int32) : Option (CS) := fX2_growMice_65 t K2 (va_up M.1 (t + 8) (upd (M.1 (t + 8)) 2 ((M.1 (t + 8) 2) + x2)), M.2) x1
def fX2_growMice_10 (t : Nat) (K2 : CS → Int32 → Option (CS)) (M : CS) (x1 : Int32) : Option (CS) := if gIn x1 6 then if gIn x1 6 then if gIn x1 6 then fX2_growMice_52 t K2 (va_up M.1 ((t + 2) + 15 + x1.toNatClampNeg) (upd (M.1 ((t + 2) + 15 + x1.toNatClampNeg)) 2 ((M.1 ((t + 2) + 15 + x1.toNatClampNeg) 2) + (if (99 - (M.1 ((t + 2) + 15 + x1.toNatClampNeg) 2)) < ((M.1 ((t + 2) + 15 + x1.toNatClampNeg) 2) / 2) then (99 - (M.1 ((t + 2) + 15 + x1.toNatClampNeg) 2)) else ((M.1 ((t + 2) + 15 + x1.toNatClampNeg) 2) / 2)))), M.2) x1 (if (99 - (M.1 ((t + 2) + 15 + x1.toNatClampNeg) 2)) < ((M.1 ((t + 2) + 15 + x1.toNatClampNeg) 2) / 2) then (99 - (M.1 ((t + 2) + 15 + x1.toNatClampNeg) 2)) else ((M.1 ((t + 2) + 15 + x1.toNatClampNeg) 2) / 2)) else none else none else none
def fX2_growMice_2 (t : Nat) : Nat → CS → Int32 → Option (CS)
  | 0 => fun _ _ => none
  | k + 1 => fun M x1 => if (M.1 t 6) ≤ x1 then fX2_growMice_71 t M else fX2_growMice_10 t (fX2_growMice_2 t k) M x1
def fX2_growMice_0 (t : Nat) (M : CS) : Option (CS) := fX2_growMice_2 t FU M 0
def fX2_growMice (M : CS) (t : Nat) : Option (CS) := fX2_growMice_0 t  M
def fX2_miceAddUp_53 (t : Nat) (M : CS) (s0 : Int32) : Option (Int32) := some s0
def fX2_miceAddUp_52 (t : Nat) (M : CS) : Option (Int32) := fX2_miceAddUp_53 t M 0
def fX2_miceAddUp_48 (t : Nat) (M : CS) : Option (Int32) := fX2_miceAddUp_53 t M 1
def fX2_miceAddUp_44 (t : Nat) (M : CS) (x1 : Int32) (s0 : Int32) : Option (Int32) := if s0 = x1 then fX2_miceAddUp_48 t M else fX2_miceAddUp_52 t M
def fX2_miceAddUp_40 (t : Nat) (M : CS) (x1 : Int32) : Option (Int32) := (fX2_miceOfAllBackwards M t).bind fun q => fX2_miceAddUp_44 t M x1 q
def fX2_miceAddUp_36 (t : Nat) (M : CS) (x1 : Int32) (s0 : Int32) : Option (Int32) := if s0 = x1 then fX2_miceAddUp_40 t M x1 else fX2_miceAddUp_52 t M
def fX2_miceAddUp_0 (t : Nat) (M : CS) : Option (Int32) := (fX2_miceOfAll M t).bind fun q => fX2_miceAddUp_36 t M ((((M.1 (t + 8) 6) + (M.1 (t + 8) 2)) - (M.1 (t + 8) 0)) - (M.1 (t + 8) 3)) q
def fX2_miceAddUp (M : CS) (t : Nat) : Option (Int32) := bq (fX2_miceAddUp_0 t  M)
def fX2_grainAddsUp_68 (t : Nat) (M : CS) (s0 : Int32) : Option (Int32) := some s0
def fX2_grainAddsUp_67 (t : Nat) (M : CS) : Option (Int32) := fX2_grainAddsUp_68 t M 0
def fX2_grainAddsUp_63 (t : Nat) (M : CS) : Option (Int32) := fX2_grainAddsUp_68 t M 1
def fX2_grainAddsUp_45 (t : Nat) (M : CS) (s0 : Int32) : Option (Int32) := if s0 = ((M.1 (t + 8) 7) - (M.1 (t + 8) 1)) then fX2_grainAddsUp_63 t M else fX2_grainAddsUp_67 t M
def fX2_grainAddsUp_41 (t : Nat) (M : CS) : Option (Int32) := (fX2_grainOfAll M t).bind fun q => fX2_grainAddsUp_45 t M q
def fX2_grainAddsUp_30 (t : Nat) (M : CS) (x1 : Int32) : Option (Int32) := if x1 = (M.1 (t + 8) 1) then fX2_grainAddsUp_41 t M else fX2_grainAddsUp_67 t M
def fX2_grainAddsUp_12 (t : Nat) (K4 : CS → Int32 → Int32 → Option (Int32)) (M : CS) (x1 : Int32) (x2 : Int32) : Option (Int32) := if gIn x2 6 then K4 M (x1 + (M.1 ((t + 2) + 15 + x2.toNatClampNeg) 4)) (x2 + 1) else none
def fX2_grainAddsUp_4 (t : Nat) : Nat → CS → Int32 → Int32 → Option (Int32)
  | 0 => fun _ _ _ => none
  | k + 1 => fun M x1 x2 => if (M.1 t 6) ≤ x2 then fX2_grainAddsUp_30 t M x1 else fX2_grainAddsUp_12 t (fX2_grainAddsUp_4 t k) M x1 x2
def fX2_grainAddsUp_0 (t : Nat) (M : CS) : Option (Int32) := fX2_grainAddsUp_4 t FU M 0 0
def fX2_grainAddsUp (M : CS) (t : Nat) : Option (Int32) := bq (fX2_grainAddsUp_0 t  M)
def fX8_appendFour_29 (M : CS) : Option (CS) := some M
def fX8_appendFour_24 (M : CS) (x1 : Int32) : Option (CS) := (fX8_append M x1).bind fun q => fX8_appendFour_29 q
def fX8_appendFour_16 (M : CS) (x1 : Int32) : Option (CS) := (fX8_append M (x1 >>> (8 &&& 31))).bind fun q => fX8_appendFour_24 q x1
def fX8_appendFour_8 (M : CS) (x1 : Int32) : Option (CS) := (fX8_append M (x1 >>> (16 &&& 31))).bind fun q => fX8_appendFour_16 q x1
def fX8_appendFour_0 (M : CS) (a1 : Int32) : Option (CS) := (fX8_append M (a1 >>> (24 &&& 31))).bind fun q => fX8_appendFour_8 q a1
def fX8_appendFour (M : CS) (a1 : Int32) : Option (CS) := fX8_appendFour_0  M a1
def fX8_advance_199 (M : CS) : Option (Int32 × CS) := some (1, M)
def fX8_advance_194 (M : CS) : Option (Int32 × CS) := fX8_advance_199 (va_up M.1 1 (upd (M.1 1) 4 5), M.2)
def fX8_advance_190 (M : CS) (s0 : Int32) : Option (Int32 × CS) := if s0 ≤ 4 then fX8_advance_199 M else fX8_advance_194 M
def fX8_advance_186 (M : CS) : Option (Int32 × CS) := (fX8_tokenLength M ).bind fun q => fX8_advance_190 M q
def fX8_advance_178 (M : CS) : Option (Int32 × CS) := if (M.1 1 4) = 2 then fX8_advance_186 M else fX8_advance_199 M
def fX8_advance_173 (M : CS) (s0 : Int32) : Option (Int32 × CS) := if 8 < s0 then fX8_advance_194 M else fX8_advance_178 M
def fX8_advance_169 (M : CS) : Option (Int32 × CS) := (fX8_tokenLength M ).bind fun q => fX8_advance_173 M q
def fX8_advance_161 (M : CS) : Option (Int32 × CS) := if (M.1 1 4) = 1 then fX8_advance_169 M else fX8_advance_178 M
def fX8_advance_158 (K114 : CS → Int32 → Option (Int32 × CS)) (M : CS) (x1 : Int32) : Option (Int32 × CS) := K114 M x1
def fX8_advance_148 (K114 : CS → Int32 → Option (Int32 × CS)) (M : CS) (x1 : Int32) : Option (Int32 × CS) := fX8_advance_158 K114 (va_up M.1 1 (upd (M.1 1) 3 ((M.1 1 3) + 1)), M.2) x1
def fX8_advance_141 (K114 : CS → Int32 → Option (Int32 × CS)) (M : CS) (x1 : Int32) (s0 : Int32) : Option (Int32 × CS) := if s0 = (M.1 1 4) then fX8_advance_148 K114 M x1 else fX8_advance_161 M
def fX8_advance_129 (K114 : CS → Int32 → Option (Int32 × CS)) (M : CS) (x1 : Int32) : Option (Int32 × CS) := if gIn (M.1 1 3) 600 then (fX8_kindOf M (M.1 2 (M.1 1 3).toNatClampNeg)).bind fun q => fX8_advance_141 K114 M x1 q else none
def fX8_advance_118 (K114 : CS → Int32 → Option (Int32 × CS)) (M : CS) (x1 : Int32) : Option (Int32 × CS) := if (M.1 1 2) ≤ (M.1 1 3) then fX8_advance_161 M else fX8_advance_129 K114 M x1
def fX8_advance_114 : Nat → CS → Int32 → Option (Int32 × CS)
  | 0 => fun _ _ => none
  | k + 1 => fun M x1 => if x1 = 0 then fX8_advance_161 M else fX8_advance_118 (fX8_advance_114 k) M x1
def fX8_advance_113 (M : CS) (s0 : Int32) : Option (Int32 × CS) := fX8_advance_114 FU M s0
def fX8_advance_108 (M : CS) : Option (Int32 × CS) := fX8_advance_113 M 1
def fX8_advance_112 (M : CS) : Option (Int32 × CS) := fX8_advance_113 M 0
def fX8_advance_100 (M : CS) : Option (Int32 × CS) := if (M.1 1 4) = 2 then fX8_advance_108 M else fX8_advance_112 M
def fX8_advance_92 (M : CS) : Option (Int32 × CS) := if (M.1 1 4) = 1 then fX8_advance_108 M else fX8_advance_100 M
def fX8_advance_82 (M : CS) : Option (Int32 × CS) := fX8_advance_92 (va_up M.1 1 (upd (M.1 1) 3 ((M.1 1 3) + 1)), M.2)
def fX8_advance_79 (M : CS) (s0 : Int32) : Option (Int32 × CS) := fX8_advance_82 (va_up M.1 1 (upd (M.1 1) 4 s0), M.2)
def fX8_advance_66 (M : CS) : Option (Int32 × CS) := if gIn (M.1 1 3) 600 then (fX8_kindOf M (M.1 2 (M.1 1 3).toNatClampNeg)).bind fun q => fX8_advance_79 M q else none
def fX8_advance_64 (M : CS) : Option (Int32 × CS) := some (0, M)
def fX8_advance_59 (M : CS) : Option (Int32 × CS) := fX8_advance_64 (va_up M.1 1 (upd (M.1 1) 4 0), M.2)
def fX8_advance_48 (M : CS) : Option (Int32 × CS) := if (M.1 1 3) < (M.1 1 2) then fX8_advance_66 M else fX8_advance_59 M
def fX8_advance_40 (M : CS) : Option (Int32 × CS) := fX8_advance_48 (va_up M.1 1 (upd (M.1 1) 5 (M.1 1 3)), M.2)
def fX8_advance_37 (K0 : CS → Option (Int32 × CS)) (M : CS) : Option (Int32 × CS) := K0 M
def fX8_advance_27 (K0 : CS → Option (Int32 × CS)) (M : CS) : Option (Int32 × CS) := fX8_advance_37 K0 (va_up M.1 1 (upd (M.1 1) 3 ((M.1 1 3) + 1)), M.2)
def fX8_advance_23 (K0 : CS → Option (Int32 × CS)) (M : CS) (s0 : Int32) : Option (Int32 × CS) := if s0 = 4 then fX8_advance_27 K0 M else fX8_advance_40 M
def fX8_advance_11 (K0 : CS → Option (Int32 × CS)) (M : CS) : Option (Int32 × CS) := if gIn (M.1 1 3) 600 then (fX8_kindOf M (M.1 2 (M.1 1 3).toNatClampNeg)).bind fun q => fX8_advance_23 K0 M q else none
def fX8_advance_0 : Nat → CS → Option (Int32 × CS)
  | 0 => fun _ => none
  | k + 1 => fun M => if (M.1 1 2) ≤ (M.1 1 3) then fX8_advance_40 M else fX8_advance_11 (fX8_advance_0 k) M
def fX8_advance (M : CS) : Option (Int32 × CS) := bz (fX8_advance_0 FU M)
set_option maxRecDepth 10000 in
theorem kX10_truncateInput_15 {r : Int32} {S1 : CS} {M : CS} {H : Heap} {locs : List Loc} {ls : Array Slot} (X : gX p s m args c cX10_truncateInput 2 RX10 (kR kTab kA)) (hret : gRetI p l e (rmL 1 0 0) s m args below meth c cX10_truncateInput (cΩ ca) (cP dC dI cg kA ca) Q r S1) (hf : fX10_truncateInput_15 M = some (r, S1)) (hP : (cP dC dI cg kA ca) M s H) (hS : va_S (Fr (cΩ ca) s.heap.size) s.heap H locs) (hl : lv_has ls 2 [(0, .ref (ca 0))]) : W p l e (rmL 1 0 0) s m args below meth c H locs 0 0 Q (F0 m 15 ls []) := by
  have hx := X.hx
  have hb := X.hb
  have hown := X.hown
  have hts := X.hts
  rw [fX10_truncateInput_15] at hf
  refine lv_iconst (v := 0) hx hb dX10_truncateInput_15 (by decide) ?_
  cases hf
  exact hret _ _ _ _ dX10_truncateInput_16 hP hS
set_option maxRecDepth 10000 in
theorem kX10_truncateInput_25 {r : Int32} {S1 : CS} {M : CS} {H : Heap} {locs : List Loc} {ls : Array Slot} (X : gX p s m args c cX10_truncateInput 2 RX10 (kR kTab kA)) (hret : gRetI p l e (rmL 1 0 0) s m args below meth c cX10_truncateInput (cΩ ca) (cP dC dI cg kA ca) Q r S1) (hf : fX10_truncateInput_25 M = some (r, S1)) (hP : (cP dC dI cg kA ca) M s H) (hS : va_S (Fr (cΩ ca) s.heap.size) s.heap H locs) (hl : lv_has ls 2 [(0, .ref (ca 0))]) : W p l e (rmL 1 0 0) s m args below meth c H locs 0 0 Q (F0 m 25 ls []) := by
  have hx := X.hx
  have hb := X.hb
  have hown := X.hown
  have hts := X.hts
  rw [fX10_truncateInput_25] at hf
  refine lv_iconst (v := 1) hx hb dX10_truncateInput_25 (by decide) ?_
  cases hf
  exact hret _ _ _ _ dX10_truncateInput_26 hP hS
set_option maxRecDepth 10000 in
theorem kX10_truncateInput_17 {r : Int32} {S1 : CS} {M : CS} {x1 : Int32} {H : Heap} {locs : List Loc} {ls : Array Slot} (X : gX p s m args c cX10_truncateInput 2 RX10 (kR kTab kA)) (hret : gRetI p l e (rmL 1 0 0) s m args below meth c cX10_truncateInput (cΩ ca) (cP dC dI cg kA ca) Q r S1) (hf : fX10_truncateInput_17 M x1 = some (r, S1)) (hP : (cP dC dI cg kA ca) M s H) (hS : va_S (Fr (cΩ ca) s.heap.size) s.heap H locs) (hl : lv_has ls 2 [(0, .ref (ca 0)), (1, .int x1)]) : W p l e (rmL 1 0 0) s m args below meth c H locs 0 0 Q (F0 m 17 ls []) := by
  have hx := X.hx
  have hb := X.hb
  have hown := X.hown
  have hts := X.hts
  rw [fX10_truncateInput_17] at hf
  refine lv_aload_n hx hb dX10_truncateInput_17 rfl (lv_at hl 0 rfl) ?_
  refine cr_get (k := 0) X hP (rfl : kc 0 = 0) rfl cv0_0 rfl cinX10 (by decide) rfl tw750 dX10_truncateInput_18 ?_
  refine lv_iload_n hx hb dX10_truncateInput_21 rfl (lv_at hl 1 rfl) ?_
  refine cr_put (k := 2) X hP hS (rfl : kc 1 = 1) rfl cs1_2 rfl cinX8 tyX8_ok nmX8 (by decide) rfl rfl rfl rfl tw88 dX10_truncateInput_22 (fun H locs hP hS => ?_)
  exact kX10_truncateInput_25 X hret hf hP hS (lv_sub hl [0] rfl)
set_option maxRecDepth 10000 in
theorem kX10_truncateInput_4 {r : Int32} {S1 : CS} {M : CS} {x1 : Int32} {H : Heap} {locs : List Loc} {ls : Array Slot} (X : gX p s m args c cX10_truncateInput 2 RX10 (kR kTab kA)) (hret : gRetI p l e (rmL 1 0 0) s m args below meth c cX10_truncateInput (cΩ ca) (cP dC dI cg kA ca) Q r S1) (hf : fX10_truncateInput_4 M x1 = some (r, S1)) (hP : (cP dC dI cg kA ca) M s H) (hS : va_S (Fr (cΩ ca) s.heap.size) s.heap H locs) (hl : lv_has ls 2 [(0, .ref (ca 0)), (1, .int x1)]) : W p l e (rmL 1 0 0) s m args below meth c H locs 0 0 Q (F0 m 4 ls []) := by
  have hx := X.hx
  have hb := X.hb
  have hown := X.hown
  have hts := X.hts
  rw [fX10_truncateInput_4] at hf
  refine lv_iload_n hx hb dX10_truncateInput_4 rfl (lv_at hl 1 rfl) ?_
  refine lv_aload_n hx hb dX10_truncateInput_5 rfl (lv_at hl 0 rfl) ?_
  refine cr_get (k := 0) X hP (rfl : kc 0 = 0) rfl cv0_0 rfl cinX10 (by decide) rfl tw750 dX10_truncateInput_6 ?_
  refine cr_get (k := 2) X hP (rfl : kc 1 = 1) rfl cv1_2 rfl cinX8 (by decide) rfl tw88 dX10_truncateInput_9 ?_
  refine lv_icmp_le (tgt := 17) hx hb dX10_truncateInput_12 (by decide) (fun c1 => ?_) (fun c1 => ?_)
  · exact kX10_truncateInput_17 X hret (ifp c1 hf) hP hS (lv_sub hl [0, 1] rfl)
  · exact kX10_truncateInput_15 X hret (ifn c1 hf) hP hS (lv_sub hl [0] rfl)
set_option maxRecDepth 10000 in
theorem kX10_truncateInput_0 {r : Int32} {S1 : CS} {M : CS} {a1 : Int32} {H : Heap} {locs : List Loc} {ls : Array Slot} (X : gX p s m args c cX10_truncateInput 2 RX10 (kR kTab kA)) (hret : gRetI p l e (rmL 1 0 0) s m args below meth c cX10_truncateInput (cΩ ca) (cP dC dI cg kA ca) Q r S1) (hf : fX10_truncateInput_0 M a1 = some (r, S1)) (hP : (cP dC dI cg kA ca) M s H) (hS : va_S (Fr (cΩ ca) s.heap.size) s.heap H locs) (hl : lv_has ls 2 [(0, .ref (ca 0)), (1, .int a1)]) : W p l e (rmL 1 0 0) s m args below meth c H locs 0 0 Q (F0 m 0 ls []) := by
  have hx := X.hx
  have hb := X.hb
  have hown := X.hown
  have hts := X.hts
  rw [fX10_truncateInput_0] at hf
  refine lv_iload_n hx hb dX10_truncateInput_0 rfl (lv_at hl 1 rfl) ?_
  refine lv_if_lt (tgt := 15) hx hb dX10_truncateInput_1 (by decide) (fun c1 => ?_) (fun c1 => ?_)
  · exact kX10_truncateInput_15 X hret (ifp c1 hf) hP hS (lv_sub hl [0] rfl)
  · exact kX10_truncateInput_4 X hret (ifn c1 hf) hP hS (lv_sub hl [0, 1] rfl)
theorem vX10_truncateInput {l : Launch} {dC : Nat → ClassId} {dI : Nat → Nat → Nat} {cg : Nat → ClassId} {kA : String → Nat → Nat} {ca : Nat → Nat} {M S1 : CS} {r : Int32} {a1 : Int32} (hf : fX10_truncateInput M a1 = some (r, S1)) : gMetI l yX10_truncateInput cX10_truncateInput 2 (some .boolean) 1 (cΩ ca) (cP dC dI cg kA ca) (kR kTab kA) [.ref (ca 0), .int a1] M r S1 := gEntryI (ty := .boolean) (by decide) rfl (bz_n hf) cOK (Nat.le_of_ble_eq_true rfl) (fun p e s m args below meth c Q ls X hP hS hret hl => 
  kX10_truncateInput_0 X hret (bz_f hf) hP hS (lv_sub hl [0, 1] rfl))
set_option maxRecDepth 10000 in
theorem kX10_clock_0 {r : Int32} {M : CS} (X : gX p s m args c cX10_clock 1 RX10 (kR kTab kA)) (hret : gRetR p l e (rmL 1 0 0) s m args below meth c cX10_clock Q r) (hf : fX10_clock_0 M = some r) {ls : Array Slot} (hP : (cP dC dI cg kA ca) M s s.heap) (hl : lv_has ls 1 [(0, .ref (ca 0))]) : W p l e (rmL 1 0 0) s m args below meth c s.heap [] 0 0 Q (F0 m 0 ls []) := by
  have hx := X.hx
  have hb := X.hb
  have hown := X.hown
  have hts := X.hts
  rw [fX10_clock_0] at hf
  refine lv_aload_n hx hb dX10_clock_0 rfl (lv_at hl 0 rfl) ?_
  refine cr_get (k := 2) X hP (rfl : kc 0 = 0) rfl cv0_2 rfl cinX10 (by decide) rfl tw752 dX10_clock_1 ?_
  refine cr_get (k := 12) X hP (rfl : kc 13 = 11) rfl cv11_12 rfl cinX2 (by decide) rfl tw326 dX10_clock_4 ?_
  cases hf
  exact hret _ _ dX10_clock_7
theorem vX10_clock {l : Launch} {dC : Nat → ClassId} {dI : Nat → Nat → Nat} {cg : Nat → ClassId} {kA : String → Nat → Nat} {ca : Nat → Nat} {M : CS} {r : Int32} (hf : fX10_clock M  = some r) : gMetR l yX10_clock cX10_clock 1 (some .int) 1 (gB (cP dC dI cg kA ca) (kR kTab kA) M) [.ref (ca 0)] r := gEntryR (ty := .int) (by decide) rfl rfl (Nat.le_of_ble_eq_true rfl) (fun _ h => h.2) (fun p e s m args below meth c Q ls X hB hret hl => 
  kX10_clock_0 X hret hf hB.1 (lv_sub hl [0] rfl))
set_option maxRecDepth 10000 in
theorem kX10_swornCat_0 {r : Int32} {M : CS} (X : gX p s m args c cX10_swornCat 1 RX10 (kR kTab kA)) (hret : gRetR p l e (rmL 1 0 0) s m args below meth c cX10_swornCat Q r) (hf : fX10_swornCat_0 M = some r) {ls : Array Slot} (hP : (cP dC dI cg kA ca) M s s.heap) (hl : lv_has ls 1 [(0, .ref (ca 0))]) : W p l e (rmL 1 0 0) s m args below meth c s.heap [] 0 0 Q (F0 m 0 ls []) := by
  have hx := X.hx
  have hb := X.hb
  have hown := X.hown
  have hts := X.hts
  rw [fX10_swornCat_0] at hf
  refine lv_aload_n hx hb dX10_swornCat_0 rfl (lv_at hl 0 rfl) ?_
  refine cr_get (k := 2) X hP (rfl : kc 0 = 0) rfl cv0_2 rfl cinX10 (by decide) rfl tw752 dX10_swornCat_1 ?_
  refine cr_get (k := 8) X hP (rfl : kc 13 = 11) rfl cv11_8 rfl cinX2 (by decide) rfl tw317 dX10_swornCat_4 ?_
  cases hf
  exact hret _ _ dX10_swornCat_7
theorem vX10_swornCat {l : Launch} {dC : Nat → ClassId} {dI : Nat → Nat → Nat} {cg : Nat → ClassId} {kA : String → Nat → Nat} {ca : Nat → Nat} {M : CS} {r : Int32} (hf : fX10_swornCat M  = some r) : gMetR l yX10_swornCat cX10_swornCat 1 (some .int) 1 (gB (cP dC dI cg kA ca) (kR kTab kA) M) [.ref (ca 0)] r := gEntryR (ty := .int) (by decide) rfl rfl (Nat.le_of_ble_eq_true rfl) (fun _ h => h.2) (fun p e s m args below meth c Q ls X hB hret hl => 
  kX10_swornCat_0 X hret hf hB.1 (lv_sub hl [0] rfl))
set_option maxRecDepth 10000 in
theorem kX10_currentShift_0 {r : Int32} {M : CS} (X : gX p s m args c cX10_currentShift 1 RX10 (kR kTab kA)) (hret : gRetR p l e (rmL 1 0 0) s m args below meth c cX10_currentShift Q r) (hf : fX10_currentShift_0 M = some r) {ls : Array Slot} (hP : (cP dC dI cg kA ca) M s s.heap) (hl : lv_has ls 1 [(0, .ref (ca 0))]) : W p l e (rmL 1 0 0) s m args below meth c s.heap [] 0 0 Q (F0 m 0 ls []) := by
  have hx := X.hx
  have hb := X.hb
  have hown := X.hown
  have hts := X.hts
  rw [fX10_currentShift_0] at hf
  refine lv_aload_n hx hb dX10_currentShift_0 rfl (lv_at hl 0 rfl) ?_
  refine cr_get (k := 2) X hP (rfl : kc 0 = 0) rfl cv0_2 rfl cinX10 (by decide) rfl tw752 dX10_currentShift_1 ?_
  refine cr_get (k := 9) X hP (rfl : kc 13 = 11) rfl cv11_9 rfl cinX2 (by decide) rfl tw319 dX10_currentShift_4 ?_
  cases hf
  exact hret _ _ dX10_currentShift_7
theorem vX10_currentShift {l : Launch} {dC : Nat → ClassId} {dI : Nat → Nat → Nat} {cg : Nat → ClassId} {kA : String → Nat → Nat} {ca : Nat → Nat} {M : CS} {r : Int32} (hf : fX10_currentShift M  = some r) : gMetR l yX10_currentShift cX10_currentShift 1 (some .int) 1 (gB (cP dC dI cg kA ca) (kR kTab kA) M) [.ref (ca 0)] r := gEntryR (ty := .int) (by decide) rfl rfl (Nat.le_of_ble_eq_true rfl) (fun _ h => h.2) (fun p e s m args below meth c Q ls X hB hret hl => 
  kX10_currentShift_0 X hret hf hB.1 (lv_sub hl [0] rfl))
set_option maxRecDepth 10000 in
theorem kX10_hoursLeft_0 {r : Int32} {M : CS} (X : gX p s m args c cX10_hoursLeft 1 RX10 (kR kTab kA)) (hret : gRetR p l e (rmL 1 0 0) s m args below meth c cX10_hoursLeft Q r) (hf : fX10_hoursLeft_0 M = some r) {ls : Array Slot} (hP : (cP dC dI cg kA ca) M s s.heap) (hl : lv_has ls 1 [(0, .ref (ca 0))]) : W p l e (rmL 1 0 0) s m args below meth c s.heap [] 0 0 Q (F0 m 0 ls []) := by
  have hx := X.hx
  have hb := X.hb
  have hown := X.hown
  have hts := X.hts
  rw [fX10_hoursLeft_0] at hf
  refine lv_aload_n hx hb dX10_hoursLeft_0 rfl (lv_at hl 0 rfl) ?_
  refine cr_get (k := 2) X hP (rfl : kc 0 = 0) rfl cv0_2 rfl cinX10 (by decide) rfl tw752 dX10_hoursLeft_1 ?_
  refine cr_get (k := 10) X hP (rfl : kc 13 = 11) rfl cv11_10 rfl cinX2 (by decide) rfl tw321 dX10_hoursLeft_4 ?_
  cases hf
  exact hret _ _ dX10_hoursLeft_7
theorem vX10_hoursLeft {l : Launch} {dC : Nat → ClassId} {dI : Nat → Nat → Nat} {cg : Nat → ClassId} {kA : String → Nat → Nat} {ca : Nat → Nat} {M : CS} {r : Int32} (hf : fX10_hoursLeft M  = some r) : gMetR l yX10_hoursLeft cX10_hoursLeft 1 (some .int) 1 (gB (cP dC dI cg kA ca) (kR kTab kA) M) [.ref (ca 0)] r := gEntryR (ty := .int) (by decide) rfl rfl (Nat.le_of_ble_eq_true rfl) (fun _ h => h.2) (fun p e s m args below meth c Q ls X hB hret hl => 
  kX10_hoursLeft_0 X hret hf hB.1 (lv_sub hl [0] rfl))
set_option maxRecDepth 10000 in
theorem kX10_milk_0 {r : Int32} {M : CS} (X : gX p s m args c cX10_milk 1 RX10 (kR kTab kA)) (hret : gRetR p l e (rmL 1 0 0) s m args below meth c cX10_milk Q r) (hf : fX10_milk_0 M = some r) {ls : Array Slot} (hP : (cP dC dI cg kA ca) M s s.heap) (hl : lv_has ls 1 [(0, .ref (ca 0))]) : W p l e (rmL 1 0 0) s m args below meth c s.heap [] 0 0 Q (F0 m 0 ls []) := by
  have hx := X.hx
  have hb := X.hb
  have hown := X.hown
  have hts := X.hts
  rw [fX10_milk_0] at hf
  refine lv_aload_n hx hb dX10_milk_0 rfl (lv_at hl 0 rfl) ?_
  refine cr_get (k := 2) X hP (rfl : kc 0 = 0) rfl cv0_2 rfl cinX10 (by decide) rfl tw752 dX10_milk_1 ?_
  refine cr_get (k := 11) X hP (rfl : kc 13 = 11) rfl cv11_11 rfl cinX2 (by decide) rfl tw324 dX10_milk_4 ?_
  cases hf
  exact hret _ _ dX10_milk_7
theorem vX10_milk {l : Launch} {dC : Nat → ClassId} {dI : Nat → Nat → Nat} {cg : Nat → ClassId} {kA : String → Nat → Nat} {ca : Nat → Nat} {M : CS} {r : Int32} (hf : fX10_milk M  = some r) : gMetR l yX10_milk cX10_milk 1 (some .int) 1 (gB (cP dC dI cg kA ca) (kR kTab kA) M) [.ref (ca 0)] r := gEntryR (ty := .int) (by decide) rfl rfl (Nat.le_of_ble_eq_true rfl) (fun _ h => h.2) (fun p e s m args below meth c Q ls X hB hret hl => 
  kX10_milk_0 X hret hf hB.1 (lv_sub hl [0] rfl))
set_option maxRecDepth 10000 in
theorem kX10_totalCaught_0 {r : Int32} {M : CS} (X : gX p s m args c cX10_totalCaught 1 RX10 (kR kTab kA)) (hret : gRetR p l e (rmL 1 0 0) s m args below meth c cX10_totalCaught Q r) (hf : fX10_totalCaught_0 M = some r) {ls : Array Slot} (hP : (cP dC dI cg kA ca) M s s.heap) (hl : lv_has ls 1 [(0, .ref (ca 0))]) : W p l e (rmL 1 0 0) s m args below meth c s.heap [] 0 0 Q (F0 m 0 ls []) := by
  have hx := X.hx
  have hb := X.hb
  have hown := X.hown
  have hts := X.hts
  rw [fX10_totalCaught_0] at hf
  refine lv_aload_n hx hb dX10_totalCaught_0 rfl (lv_at hl 0 rfl) ?_
  refine cr_get (k := 2) X hP (rfl : kc 0 = 0) rfl cv0_2 rfl cinX10 (by decide) rfl tw752 dX10_totalCaught_1 ?_
  refine cr_get (k := 4) X hP (rfl : kc 13 = 11) rfl cv11_4 rfl cinX2 (by decide) rfl tw307 dX10_totalCaught_4 ?_
  refine cr_get (k := 0) X hP (kc_totals (rfl : kc 13 = 11)) rfl cv17_0 rfl cinX9 (by decide) rfl tw172 dX10_totalCaught_7 ?_
  cases hf
  exact hret _ _ dX10_totalCaught_10
theorem vX10_totalCaught {l : Launch} {dC : Nat → ClassId} {dI : Nat → Nat → Nat} {cg : Nat → ClassId} {kA : String → Nat → Nat} {ca : Nat → Nat} {M : CS} {r : Int32} (hf : fX10_totalCaught M  = some r) : gMetR l yX10_totalCaught cX10_totalCaught 1 (some .int) 1 (gB (cP dC dI cg kA ca) (kR kTab kA) M) [.ref (ca 0)] r := gEntryR (ty := .int) (by decide) rfl rfl (Nat.le_of_ble_eq_true rfl) (fun _ h => h.2) (fun p e s m args below meth c Q ls X hB hret hl => 
  kX10_totalCaught_0 X hret hf hB.1 (lv_sub hl [0] rfl))
set_option maxRecDepth 10000 in
theorem kX10_totalEaten_0 {r : Int32} {M : CS} (X : gX p s m args c cX10_totalEaten 1 RX10 (kR kTab kA)) (hret : gRetR p l e (rmL 1 0 0) s m args below meth c cX10_totalEaten Q r) (hf : fX10_totalEaten_0 M = some r) {ls : Array Slot} (hP : (cP dC dI cg kA ca) M s s.heap) (hl : lv_has ls 1 [(0, .ref (ca 0))]) : W p l e (rmL 1 0 0) s m args below meth c s.heap [] 0 0 Q (F0 m 0 ls []) := by
  have hx := X.hx
  have hb := X.hb
  have hown := X.hown
  have hts := X.hts
  rw [fX10_totalEaten_0] at hf
  refine lv_aload_n hx hb dX10_totalEaten_0 rfl (lv_at hl 0 rfl) ?_
  refine cr_get (k := 2) X hP (rfl : kc 0 = 0) rfl cv0_2 rfl cinX10 (by decide) rfl tw752 dX10_totalEaten_1 ?_
  refine cr_get (k := 4) X hP (rfl : kc 13 = 11) rfl cv11_4 rfl cinX2 (by decide) rfl tw307 dX10_totalEaten_4 ?_
  refine cr_get (k := 1) X hP (kc_totals (rfl : kc 13 = 11)) rfl cv17_1 rfl cinX9 (by decide) rfl tw175 dX10_totalEaten_7 ?_
  cases hf
  exact hret _ _ dX10_totalEaten_10
theorem vX10_totalEaten {l : Launch} {dC : Nat → ClassId} {dI : Nat → Nat → Nat} {cg : Nat → ClassId} {kA : String → Nat → Nat} {ca : Nat → Nat} {M : CS} {r : Int32} (hf : fX10_totalEaten M  = some r) : gMetR l yX10_totalEaten cX10_totalEaten 1 (some .int) 1 (gB (cP dC dI cg kA ca) (kR kTab kA) M) [.ref (ca 0)] r := gEntryR (ty := .int) (by decide) rfl rfl (Nat.le_of_ble_eq_true rfl) (fun _ h => h.2) (fun p e s m args below meth c Q ls X hB hret hl => 
  kX10_totalEaten_0 X hret hf hB.1 (lv_sub hl [0] rfl))
set_option maxRecDepth 10000 in
theorem kX10_totalBorn_0 {r : Int32} {M : CS} (X : gX p s m args c cX10_totalBorn 1 RX10 (kR kTab kA)) (hret : gRetR p l e (rmL 1 0 0) s m args below meth c cX10_totalBorn Q r) (hf : fX10_totalBorn_0 M = some r) {ls : Array Slot} (hP : (cP dC dI cg kA ca) M s s.heap) (hl : lv_has ls 1 [(0, .ref (ca 0))]) : W p l e (rmL 1 0 0) s m args below meth c s.heap [] 0 0 Q (F0 m 0 ls []) := by
  have hx := X.hx
  have hb := X.hb
  have hown := X.hown
  have hts := X.hts
  rw [fX10_totalBorn_0] at hf
  refine lv_aload_n hx hb dX10_totalBorn_0 rfl (lv_at hl 0 rfl) ?_
  refine cr_get (k := 2) X hP (rfl : kc 0 = 0) rfl cv0_2 rfl cinX10 (by decide) rfl tw752 dX10_totalBorn_1 ?_
  refine cr_get (k := 4) X hP (rfl : kc 13 = 11) rfl cv11_4 rfl cinX2 (by decide) rfl tw307 dX10_totalBorn_4 ?_
  refine cr_get (k := 2) X hP (kc_totals (rfl : kc 13 = 11)) rfl cv17_2 rfl cinX9 (by decide) rfl tw178 dX10_totalBorn_7 ?_
  cases hf
  exact hret _ _ dX10_totalBorn_10
theorem vX10_totalBorn {l : Launch} {dC : Nat → ClassId} {dI : Nat → Nat → Nat} {cg : Nat → ClassId} {kA : String → Nat → Nat} {ca : Nat → Nat} {M : CS} {r : Int32} (hf : fX10_totalBorn M  = some r) : gMetR l yX10_totalBorn cX10_totalBorn 1 (some .int) 1 (gB (cP dC dI cg kA ca) (kR kTab kA) M) [.ref (ca 0)] r := gEntryR (ty := .int) (by decide) rfl rfl (Nat.le_of_ble_eq_true rfl) (fun _ h => h.2) (fun p e s m args below meth c Q ls X hB hret hl => 
  kX10_totalBorn_0 X hret hf hB.1 (lv_sub hl [0] rfl))
set_option maxRecDepth 10000 in
theorem kX10_totalStarved_0 {r : Int32} {M : CS} (X : gX p s m args c cX10_totalStarved 1 RX10 (kR kTab kA)) (hret : gRetR p l e (rmL 1 0 0) s m args below meth c cX10_totalStarved Q r) (hf : fX10_totalStarved_0 M = some r) {ls : Array Slot} (hP : (cP dC dI cg kA ca) M s s.heap) (hl : lv_has ls 1 [(0, .ref (ca 0))]) : W p l e (rmL 1 0 0) s m args below meth c s.heap [] 0 0 Q (F0 m 0 ls []) := by
  have hx := X.hx
  have hb := X.hb
  have hown := X.hown
  have hts := X.hts
  rw [fX10_totalStarved_0] at hf
  refine lv_aload_n hx hb dX10_totalStarved_0 rfl (lv_at hl 0 rfl) ?_
  refine cr_get (k := 2) X hP (rfl : kc 0 = 0) rfl cv0_2 rfl cinX10 (by decide) rfl tw752 dX10_totalStarved_1 ?_
  refine cr_get (k := 4) X hP (rfl : kc 13 = 11) rfl cv11_4 rfl cinX2 (by decide) rfl tw307 dX10_totalStarved_4 ?_
  refine cr_get (k := 3) X hP (kc_totals (rfl : kc 13 = 11)) rfl cv17_3 rfl cinX9 (by decide) rfl tw181 dX10_totalStarved_7 ?_
  cases hf
  exact hret _ _ dX10_totalStarved_10
theorem vX10_totalStarved {l : Launch} {dC : Nat → ClassId} {dI : Nat → Nat → Nat} {cg : Nat → ClassId} {kA : String → Nat → Nat} {ca : Nat → Nat} {M : CS} {r : Int32} (hf : fX10_totalStarved M  = some r) : gMetR l yX10_totalStarved cX10_totalStarved 1 (some .int) 1 (gB (cP dC dI cg kA ca) (kR kTab kA) M) [.ref (ca 0)] r := gEntryR (ty := .int) (by decide) rfl rfl (Nat.le_of_ble_eq_true rfl) (fun _ h => h.2) (fun p e s m args below meth c Q ls X hB hret hl => 
  kX10_totalStarved_0 X hret hf hB.1 (lv_sub hl [0] rfl))
set_option maxRecDepth 10000 in
theorem kX10_totalOaths_0 {r : Int32} {M : CS} (X : gX p s m args c cX10_totalOaths 1 RX10 (kR kTab kA)) (hret : gRetR p l e (rmL 1 0 0) s m args below meth c cX10_totalOaths Q r) (hf : fX10_totalOaths_0 M = some r) {ls : Array Slot} (hP : (cP dC dI cg kA ca) M s s.heap) (hl : lv_has ls 1 [(0, .ref (ca 0))]) : W p l e (rmL 1 0 0) s m args below meth c s.heap [] 0 0 Q (F0 m 0 ls []) := by
  have hx := X.hx
  have hb := X.hb
  have hown := X.hown
  have hts := X.hts
  rw [fX10_totalOaths_0] at hf
  refine lv_aload_n hx hb dX10_totalOaths_0 rfl (lv_at hl 0 rfl) ?_
  refine cr_get (k := 2) X hP (rfl : kc 0 = 0) rfl cv0_2 rfl cinX10 (by decide) rfl tw752 dX10_totalOaths_1 ?_
  refine cr_get (k := 4) X hP (rfl : kc 13 = 11) rfl cv11_4 rfl cinX2 (by decide) rfl tw307 dX10_totalOaths_4 ?_
  refine cr_get (k := 4) X hP (kc_totals (rfl : kc 13 = 11)) rfl cv17_4 rfl cinX9 (by decide) rfl tw184 dX10_totalOaths_7 ?_
  cases hf
  exact hret _ _ dX10_totalOaths_10
theorem vX10_totalOaths {l : Launch} {dC : Nat → ClassId} {dI : Nat → Nat → Nat} {cg : Nat → ClassId} {kA : String → Nat → Nat} {ca : Nat → Nat} {M : CS} {r : Int32} (hf : fX10_totalOaths M  = some r) : gMetR l yX10_totalOaths cX10_totalOaths 1 (some .int) 1 (gB (cP dC dI cg kA ca) (kR kTab kA) M) [.ref (ca 0)] r := gEntryR (ty := .int) (by decide) rfl rfl (Nat.le_of_ble_eq_true rfl) (fun _ h => h.2) (fun p e s m args below meth c Q ls X hB hret hl => 
  kX10_totalOaths_0 X hret hf hB.1 (lv_sub hl [0] rfl))
set_option maxRecDepth 10000 in
theorem kX10_totalRefusals_0 {r : Int32} {M : CS} (X : gX p s m args c cX10_totalRefusals 1 RX10 (kR kTab kA)) (hret : gRetR p l e (rmL 1 0 0) s m args below meth c cX10_totalRefusals Q r) (hf : fX10_totalRefusals_0 M = some r) {ls : Array Slot} (hP : (cP dC dI cg kA ca) M s s.heap) (hl : lv_has ls 1 [(0, .ref (ca 0))]) : W p l e (rmL 1 0 0) s m args below meth c s.heap [] 0 0 Q (F0 m 0 ls []) := by
  have hx := X.hx
  have hb := X.hb
  have hown := X.hown
  have hts := X.hts
  rw [fX10_totalRefusals_0] at hf
  refine lv_aload_n hx hb dX10_totalRefusals_0 rfl (lv_at hl 0 rfl) ?_
  refine cr_get (k := 2) X hP (rfl : kc 0 = 0) rfl cv0_2 rfl cinX10 (by decide) rfl tw752 dX10_totalRefusals_1 ?_
  refine cr_get (k := 4) X hP (rfl : kc 13 = 11) rfl cv11_4 rfl cinX2 (by decide) rfl tw307 dX10_totalRefusals_4 ?_
  refine cr_get (k := 5) X hP (kc_totals (rfl : kc 13 = 11)) rfl cv17_5 rfl cinX9 (by decide) rfl tw187 dX10_totalRefusals_7 ?_
  cases hf
  exact hret _ _ dX10_totalRefusals_10
theorem vX10_totalRefusals {l : Launch} {dC : Nat → ClassId} {dI : Nat → Nat → Nat} {cg : Nat → ClassId} {kA : String → Nat → Nat} {ca : Nat → Nat} {M : CS} {r : Int32} (hf : fX10_totalRefusals M  = some r) : gMetR l yX10_totalRefusals cX10_totalRefusals 1 (some .int) 1 (gB (cP dC dI cg kA ca) (kR kTab kA) M) [.ref (ca 0)] r := gEntryR (ty := .int) (by decide) rfl rfl (Nat.le_of_ble_eq_true rfl) (fun _ h => h.2) (fun p e s m args below meth c Q ls X hB hret hl => 
  kX10_totalRefusals_0 X hret hf hB.1 (lv_sub hl [0] rfl))
set_option maxRecDepth 10000 in
theorem kX10_catAt_15 {r : Nat} {M : CS} (X : gX p s m args c cX10_catAt 2 RX10 (kR kTab kA)) (hret : gRetP p l e (rmL 1 0 0) s m args below meth c cX10_catAt Q (ca r)) (hf : fX10_catAt_15 M = some r) {ls : Array Slot} (hP : (cP dC dI cg kA ca) M s s.heap) (hl : lv_has ls 2 [(0, .ref (ca 0))]) : W p l e (rmL 1 0 0) s m args below meth c s.heap [] 0 0 Q (F0 m 15 ls []) := by
  have hx := X.hx
  have hb := X.hb
  have hown := X.hown
  have hts := X.hts
  rw [fX10_catAt_15] at hf
  cases hf
set_option maxRecDepth 10000 in
theorem kX10_catAt_26 {r : Nat} {M : CS} {x1 : Int32} (X : gX p s m args c cX10_catAt 2 RX10 (kR kTab kA)) (hret : gRetP p l e (rmL 1 0 0) s m args below meth c cX10_catAt Q (ca r)) (hf : fX10_catAt_26 M x1 = some r) {ls : Array Slot} (hP : (cP dC dI cg kA ca) M s s.heap) (hl : lv_has ls 2 [(0, .ref (ca 0)), (1, .int x1)]) : W p l e (rmL 1 0 0) s m args below meth c s.heap [] 0 0 Q (F0 m 26 ls []) := by
  have hx := X.hx
  have hb := X.hb
  have hown := X.hown
  have hts := X.hts
  rw [fX10_catAt_26] at hf
  refine lv_aload_n hx hb dX10_catAt_26 rfl (lv_at hl 0 rfl) ?_
  refine cr_get (k := 2) X hP (rfl : kc 0 = 0) rfl cv0_2 rfl cinX10 (by decide) rfl tw752 dX10_catAt_27 ?_
  refine cr_get (k := 0) X hP (rfl : kc 13 = 11) rfl cv11_0 rfl cinX2 (by decide) rfl tw299 dX10_catAt_30 ?_
  refine lv_iload_n hx hb dX10_catAt_33 rfl (lv_at hl 1 rfl) ?_
  obtain ⟨g1, hf⟩ := gd hf
  refine cr_aald (f := fun i => (13 + 1) + 8 + i) X hP (kc_cats (rfl : kc 13 = 11)) rfl (fun _ => rfl) rfl g1 dX10_catAt_34 ?_
  cases hf
  exact hret _ _ dX10_catAt_35
set_option maxRecDepth 10000 in
theorem kX10_catAt_4 {r : Nat} {M : CS} {x1 : Int32} (X : gX p s m args c cX10_catAt 2 RX10 (kR kTab kA)) (hret : gRetP p l e (rmL 1 0 0) s m args below meth c cX10_catAt Q (ca r)) (hf : fX10_catAt_4 M x1 = some r) {ls : Array Slot} (hP : (cP dC dI cg kA ca) M s s.heap) (hl : lv_has ls 2 [(0, .ref (ca 0)), (1, .int x1)]) : W p l e (rmL 1 0 0) s m args below meth c s.heap [] 0 0 Q (F0 m 4 ls []) := by
  have hx := X.hx
  have hb := X.hb
  have hown := X.hown
  have hts := X.hts
  rw [fX10_catAt_4] at hf
  refine lv_iload_n hx hb dX10_catAt_4 rfl (lv_at hl 1 rfl) ?_
  refine lv_aload_n hx hb dX10_catAt_5 rfl (lv_at hl 0 rfl) ?_
  refine cr_get (k := 2) X hP (rfl : kc 0 = 0) rfl cv0_2 rfl cinX10 (by decide) rfl tw752 dX10_catAt_6 ?_
  refine cr_get (k := 5) X hP (rfl : kc 13 = 11) rfl cv11_5 rfl cinX2 (by decide) rfl tw310 dX10_catAt_9 ?_
  refine lv_icmp_lt (tgt := 26) hx hb dX10_catAt_12 (by decide) (fun c1 => ?_) (fun c1 => ?_)
  · exact kX10_catAt_26 X hret (ifp c1 hf) hP (lv_sub hl [0, 1] rfl)
  · exact kX10_catAt_15 X hret (ifn c1 hf) hP (lv_sub hl [0] rfl)
set_option maxRecDepth 10000 in
theorem kX10_catAt_0 {r : Nat} {M : CS} {a1 : Int32} (X : gX p s m args c cX10_catAt 2 RX10 (kR kTab kA)) (hret : gRetP p l e (rmL 1 0 0) s m args below meth c cX10_catAt Q (ca r)) (hf : fX10_catAt_0 M a1 = some r) {ls : Array Slot} (hP : (cP dC dI cg kA ca) M s s.heap) (hl : lv_has ls 2 [(0, .ref (ca 0)), (1, .int a1)]) : W p l e (rmL 1 0 0) s m args below meth c s.heap [] 0 0 Q (F0 m 0 ls []) := by
  have hx := X.hx
  have hb := X.hb
  have hown := X.hown
  have hts := X.hts
  rw [fX10_catAt_0] at hf
  refine lv_iload_n hx hb dX10_catAt_0 rfl (lv_at hl 1 rfl) ?_
  refine lv_if_lt (tgt := 15) hx hb dX10_catAt_1 (by decide) (fun c1 => ?_) (fun c1 => ?_)
  · exact kX10_catAt_15 X hret (ifp c1 hf) hP (lv_sub hl [0] rfl)
  · exact kX10_catAt_4 X hret (ifn c1 hf) hP (lv_sub hl [0, 1] rfl)
theorem vX10_catAt {l : Launch} {dC : Nat → ClassId} {dI : Nat → Nat → Nat} {cg : Nat → ClassId} {kA : String → Nat → Nat} {ca : Nat → Nat} {M : CS} {r : Nat} {a1 : Int32} (hf : fX10_catAt M a1 = some r) : gMetP l yX10_catAt cX10_catAt 2 (some (.object RX0)) 1 (gB (cP dC dI cg kA ca) (kR kTab kA) M) [.ref (ca 0), .int a1] (ca r) := gEntryP (by decide) rfl (Nat.le_of_ble_eq_true rfl) (fun _ h => h.2) (fun p e s m args below meth c Q ls X hB hret hl => 
  kX10_catAt_0 X hret hf hB.1 (lv_sub hl [0, 1] rfl))
theorem kkX10_catAt {M : CS} {r : Nat} {a1 : Int32} (hc : fX10_catAt M a1 = some r) : kc r = 18 := by
  unfold fX10_catAt fX10_catAt_0 fX10_catAt_4 fX10_catAt_26 fX10_catAt_15 at hc
  repeat' split at hc
  all_goals first | (cases hc; done) | (cases hc; exact kc_cat (kc_cats (rfl : kc 13 = 11)) (by assumption))
set_option maxRecDepth 10000 in
theorem kX10_sackAt_15 {r : Nat} {M : CS} (X : gX p s m args c cX10_sackAt 2 RX10 (kR kTab kA)) (hret : gRetP p l e (rmL 1 0 0) s m args below meth c cX10_sackAt Q (ca r)) (hf : fX10_sackAt_15 M = some r) {ls : Array Slot} (hP : (cP dC dI cg kA ca) M s s.heap) (hl : lv_has ls 2 [(0, .ref (ca 0))]) : W p l e (rmL 1 0 0) s m args below meth c s.heap [] 0 0 Q (F0 m 15 ls []) := by
  have hx := X.hx
  have hb := X.hb
  have hown := X.hown
  have hts := X.hts
  rw [fX10_sackAt_15] at hf
  cases hf
set_option maxRecDepth 10000 in
theorem kX10_sackAt_26 {r : Nat} {M : CS} {x1 : Int32} (X : gX p s m args c cX10_sackAt 2 RX10 (kR kTab kA)) (hret : gRetP p l e (rmL 1 0 0) s m args below meth c cX10_sackAt Q (ca r)) (hf : fX10_sackAt_26 M x1 = some r) {ls : Array Slot} (hP : (cP dC dI cg kA ca) M s s.heap) (hl : lv_has ls 2 [(0, .ref (ca 0)), (1, .int x1)]) : W p l e (rmL 1 0 0) s m args below meth c s.heap [] 0 0 Q (F0 m 26 ls []) := by
  have hx := X.hx
  have hb := X.hb
  have hown := X.hown
  have hts := X.hts
  rw [fX10_sackAt_26] at hf
  refine lv_aload_n hx hb dX10_sackAt_26 rfl (lv_at hl 0 rfl) ?_
  refine cr_get (k := 2) X hP (rfl : kc 0 = 0) rfl cv0_2 rfl cinX10 (by decide) rfl tw752 dX10_sackAt_27 ?_
  refine cr_get (k := 1) X hP (rfl : kc 13 = 11) rfl cv11_1 rfl cinX2 (by decide) rfl tw302 dX10_sackAt_30 ?_
  refine lv_iload_n hx hb dX10_sackAt_33 rfl (lv_at hl 1 rfl) ?_
  obtain ⟨g1, hf⟩ := gd hf
  refine cr_aald (f := fun i => (13 + 2) + 15 + i) X hP (kc_sacks (rfl : kc 13 = 11)) rfl (fun _ => rfl) rfl g1 dX10_sackAt_34 ?_
  cases hf
  exact hret _ _ dX10_sackAt_35
set_option maxRecDepth 10000 in
theorem kX10_sackAt_4 {r : Nat} {M : CS} {x1 : Int32} (X : gX p s m args c cX10_sackAt 2 RX10 (kR kTab kA)) (hret : gRetP p l e (rmL 1 0 0) s m args below meth c cX10_sackAt Q (ca r)) (hf : fX10_sackAt_4 M x1 = some r) {ls : Array Slot} (hP : (cP dC dI cg kA ca) M s s.heap) (hl : lv_has ls 2 [(0, .ref (ca 0)), (1, .int x1)]) : W p l e (rmL 1 0 0) s m args below meth c s.heap [] 0 0 Q (F0 m 4 ls []) := by
  have hx := X.hx
  have hb := X.hb
  have hown := X.hown
  have hts := X.hts
  rw [fX10_sackAt_4] at hf
  refine lv_iload_n hx hb dX10_sackAt_4 rfl (lv_at hl 1 rfl) ?_
  refine lv_aload_n hx hb dX10_sackAt_5 rfl (lv_at hl 0 rfl) ?_
  refine cr_get (k := 2) X hP (rfl : kc 0 = 0) rfl cv0_2 rfl cinX10 (by decide) rfl tw752 dX10_sackAt_6 ?_
  refine cr_get (k := 6) X hP (rfl : kc 13 = 11) rfl cv11_6 rfl cinX2 (by decide) rfl tw313 dX10_sackAt_9 ?_
  refine lv_icmp_lt (tgt := 26) hx hb dX10_sackAt_12 (by decide) (fun c1 => ?_) (fun c1 => ?_)
  · exact kX10_sackAt_26 X hret (ifp c1 hf) hP (lv_sub hl [0, 1] rfl)
  · exact kX10_sackAt_15 X hret (ifn c1 hf) hP (lv_sub hl [0] rfl)
set_option maxRecDepth 10000 in
theorem kX10_sackAt_0 {r : Nat} {M : CS} {a1 : Int32} (X : gX p s m args c cX10_sackAt 2 RX10 (kR kTab kA)) (hret : gRetP p l e (rmL 1 0 0) s m args below meth c cX10_sackAt Q (ca r)) (hf : fX10_sackAt_0 M a1 = some r) {ls : Array Slot} (hP : (cP dC dI cg kA ca) M s s.heap) (hl : lv_has ls 2 [(0, .ref (ca 0)), (1, .int a1)]) : W p l e (rmL 1 0 0) s m args below meth c s.heap [] 0 0 Q (F0 m 0 ls []) := by
  have hx := X.hx
  have hb := X.hb
  have hown := X.hown
  have hts := X.hts
  rw [fX10_sackAt_0] at hf
  refine lv_iload_n hx hb dX10_sackAt_0 rfl (lv_at hl 1 rfl) ?_
  refine lv_if_lt (tgt := 15) hx hb dX10_sackAt_1 (by decide) (fun c1 => ?_) (fun c1 => ?_)
  · exact kX10_sackAt_15 X hret (ifp c1 hf) hP (lv_sub hl [0] rfl)
  · exact kX10_sackAt_4 X hret (ifn c1 hf) hP (lv_sub hl [0, 1] rfl)
theorem vX10_sackAt {l : Launch} {dC : Nat → ClassId} {dI : Nat → Nat → Nat} {cg : Nat → ClassId} {kA : String → Nat → Nat} {ca : Nat → Nat} {M : CS} {r : Nat} {a1 : Int32} (hf : fX10_sackAt M a1 = some r) : gMetP l yX10_sackAt cX10_sackAt 2 (some (.object RX4)) 1 (gB (cP dC dI cg kA ca) (kR kTab kA) M) [.ref (ca 0), .int a1] (ca r) := gEntryP (by decide) rfl (Nat.le_of_ble_eq_true rfl) (fun _ h => h.2) (fun p e s m args below meth c Q ls X hB hret hl => 
  kX10_sackAt_0 X hret hf hB.1 (lv_sub hl [0, 1] rfl))
theorem kkX10_sackAt {M : CS} {r : Nat} {a1 : Int32} (hc : fX10_sackAt M a1 = some r) : kc r = 19 := by
  unfold fX10_sackAt fX10_sackAt_0 fX10_sackAt_4 fX10_sackAt_26 fX10_sackAt_15 at hc
  repeat' split at hc
  all_goals first | (cases hc; done) | (cases hc; exact kc_sack (kc_sacks (rfl : kc 13 = 11)) (by assumption))
set_option maxRecDepth 10000 in
theorem kX10_requireRange_10 {S1 : CS} {M : CS} {H : Heap} {locs : List Loc} {ls : Array Slot} (X : gX p s m args c cX10_requireRange 3 RX10 (kR kTab kA)) (hret : gRetV p l e (rmL 1 0 0) s m args below meth c cX10_requireRange (cΩ ca) (cP dC dI cg kA ca) Q S1) (hf : fX10_requireRange_10 M = some S1) (hP : (cP dC dI cg kA ca) M s H) (hS : va_S (Fr (cΩ ca) s.heap.size) s.heap H locs) (hl : lv_has ls 3 []) : W p l e (rmL 1 0 0) s m args below meth c H locs 0 0 Q (F0 m 10 ls []) := by
  have hx := X.hx
  have hb := X.hb
  have hown := X.hown
  have hts := X.hts
  rw [fX10_requireRange_10] at hf
  cases hf
set_option maxRecDepth 10000 in
theorem kX10_requireRange_21 {S1 : CS} {M : CS} {H : Heap} {locs : List Loc} {ls : Array Slot} (X : gX p s m args c cX10_requireRange 3 RX10 (kR kTab kA)) (hret : gRetV p l e (rmL 1 0 0) s m args below meth c cX10_requireRange (cΩ ca) (cP dC dI cg kA ca) Q S1) (hf : fX10_requireRange_21 M = some S1) (hP : (cP dC dI cg kA ca) M s H) (hS : va_S (Fr (cΩ ca) s.heap.size) s.heap H locs) (hl : lv_has ls 3 []) : W p l e (rmL 1 0 0) s m args below meth c H locs 0 0 Q (F0 m 21 ls []) := by
  have hx := X.hx
  have hb := X.hb
  have hown := X.hown
  have hts := X.hts
  rw [fX10_requireRange_21] at hf
  cases hf
  exact hret _ _ _ _ dX10_requireRange_21 hP hS
set_option maxRecDepth 10000 in
theorem kX10_requireRange_5 {S1 : CS} {M : CS} {x0 : Int32} {x2 : Int32} {H : Heap} {locs : List Loc} {ls : Array Slot} (X : gX p s m args c cX10_requireRange 3 RX10 (kR kTab kA)) (hret : gRetV p l e (rmL 1 0 0) s m args below meth c cX10_requireRange (cΩ ca) (cP dC dI cg kA ca) Q S1) (hf : fX10_requireRange_5 M x0 x2 = some S1) (hP : (cP dC dI cg kA ca) M s H) (hS : va_S (Fr (cΩ ca) s.heap.size) s.heap H locs) (hl : lv_has ls 3 [(0, .int x0), (2, .int x2)]) : W p l e (rmL 1 0 0) s m args below meth c H locs 0 0 Q (F0 m 5 ls []) := by
  have hx := X.hx
  have hb := X.hb
  have hown := X.hown
  have hts := X.hts
  rw [fX10_requireRange_5] at hf
  refine lv_iload_n hx hb dX10_requireRange_5 rfl (lv_at hl 0 rfl) ?_
  refine lv_iload_n hx hb dX10_requireRange_6 rfl (lv_at hl 1 rfl) ?_
  refine lv_icmp_le (tgt := 21) hx hb dX10_requireRange_7 (by decide) (fun c1 => ?_) (fun c1 => ?_)
  · exact kX10_requireRange_21 X hret (ifp c1 hf) hP hS (lv_sub hl [] rfl)
  · exact kX10_requireRange_10 X hret (ifn c1 hf) hP hS (lv_sub hl [] rfl)
set_option maxRecDepth 10000 in
theorem kX10_requireRange_0 {S1 : CS} {M : CS} {a1 : Int32} {a2 : Int32} {a3 : Int32} {H : Heap} {locs : List Loc} {ls : Array Slot} (X : gX p s m args c cX10_requireRange 3 RX10 (kR kTab kA)) (hret : gRetV p l e (rmL 1 0 0) s m args below meth c cX10_requireRange (cΩ ca) (cP dC dI cg kA ca) Q S1) (hf : fX10_requireRange_0 M a1 a2 a3 = some S1) (hP : (cP dC dI cg kA ca) M s H) (hS : va_S (Fr (cΩ ca) s.heap.size) s.heap H locs) (hl : lv_has ls 3 [(0, .int a1), (1, .int a2), (2, .int a3)]) : W p l e (rmL 1 0 0) s m args below meth c H locs 0 0 Q (F0 m 0 ls []) := by
  have hx := X.hx
  have hb := X.hb
  have hown := X.hown
  have hts := X.hts
  rw [fX10_requireRange_0] at hf
  refine lv_iload_n hx hb dX10_requireRange_0 rfl (lv_at hl 0 rfl) ?_
  refine lv_iload_n hx hb dX10_requireRange_1 rfl (lv_at hl 1 rfl) ?_
  refine lv_icmp_lt (tgt := 10) hx hb dX10_requireRange_2 (by decide) (fun c1 => ?_) (fun c1 => ?_)
  · exact kX10_requireRange_10 X hret (ifp c1 hf) hP hS (lv_sub hl [] rfl)
  · exact kX10_requireRange_5 X hret (ifn c1 hf) hP hS (lv_sub hl [0, 2] rfl)
theorem vX10_requireRange {l : Launch} {dC : Nat → ClassId} {dI : Nat → Nat → Nat} {cg : Nat → ClassId} {kA : String → Nat → Nat} {ca : Nat → Nat} {M S1 : CS} {a1 : Int32} {a2 : Int32} {a3 : Int32} (hf : fX10_requireRange M a1 a2 a3 = some S1) : gMetV l yX10_requireRange cX10_requireRange 3 1 (cΩ ca) (cP dC dI cg kA ca) (kR kTab kA) [.int a1, .int a2, .int a3] M S1 := gEntryV (by decide) cOK (Nat.le_of_ble_eq_true rfl) (fun p e s m args below meth c Q ls X hP hS hret hl => 
  kX10_requireRange_0 X hret hf hP hS (lv_sub hl [0, 1, 2] rfl))
set_option maxRecDepth 10000 in
theorem kX0_strength_0 {r : Int32} {t : Nat} {M : CS} (X : gX p s m args c cX0_strength 1 RX0 (kR kTab kA)) (hret : gRetR p l e (rmL 2 0 0) s m args below meth c cX0_strength Q r) (hkt : kc t = 18) (hf : fX0_strength_0 t M = some r) {ls : Array Slot} (hP : (cP dC dI cg kA ca) M s s.heap) (hl : lv_has ls 1 [(0, .ref (ca t))]) : W p l e (rmL 2 0 0) s m args below meth c s.heap [] 0 0 Q (F0 m 0 ls []) := by
  have hx := X.hx
  have hb := X.hb
  have hown := X.hown
  have hts := X.hts
  rw [fX0_strength_0] at hf
  refine lv_aload_n hx hb dX0_strength_0 rfl (lv_at hl 0 rfl) ?_
  refine cr_get (k := 1) X hP hkt rfl cv18_1 rfl cinX0 (by decide) rfl tw218 dX0_strength_1 ?_
  refine lv_aload_n hx hb dX0_strength_4 rfl (lv_at hl 0 rfl) ?_
  refine cr_get (k := 3) X hP hkt rfl cv18_3 rfl cinX0 (by decide) rfl tw223 dX0_strength_5 ?_
  refine lv_iconst (v := 4) hx hb dX0_strength_8 (by decide) ?_
  refine lv_idiv hx hb dX0_strength_9 (by decide) ?_
  refine lv_isub hx hb dX0_strength_10 ?_
  refine lv_iconst (v := 0) hx hb dX0_strength_11 (by decide) ?_
  refine gMax X rfl tw1177 tw535 tw19 tw536 (by decide) hl.1 (Nat.le_of_ble_eq_true rfl) ⟨Nat.zero_le _, Nat.zero_le _⟩ dX0_strength_12 ?_
  cases hf
  exact hret _ _ dX0_strength_15
theorem vX0_strength {l : Launch} {dC : Nat → ClassId} {dI : Nat → Nat → Nat} {cg : Nat → ClassId} {kA : String → Nat → Nat} {ca : Nat → Nat} {M : CS} {r : Int32} {t : Nat} (hkt : kc t = 18) (hf : fX0_strength M t  = some r) : gMetR l yX0_strength cX0_strength 1 (some .int) 2 (gB (cP dC dI cg kA ca) (kR kTab kA) M) [.ref (ca t)] r := gEntryR (ty := .int) (by decide) rfl rfl (Nat.le_of_ble_eq_true rfl) (fun _ h => h.2) (fun p e s m args below meth c Q ls X hB hret hl => 
  kX0_strength_0 X hret hkt hf hB.1 (lv_sub hl [0] rfl))
set_option maxRecDepth 10000 in
theorem kX0_tire_15 {S1 : CS} {t : Nat} {M : CS} {H : Heap} {locs : List Loc} {ls : Array Slot} (X : gX p s m args c cX0_tire 1 RX0 (kR kTab kA)) (hret : gRetV p l e (rmL 2 0 0) s m args below meth c cX0_tire (cΩ ca) (cP dC dI cg kA ca) Q S1) (hkt : kc t = 18) (hf : fX0_tire_15 t M = some S1) (hP : (cP dC dI cg kA ca) M s H) (hS : va_S (Fr (cΩ ca) s.heap.size) s.heap H locs) (hl : lv_has ls 1 [(0, .ref (ca t))]) : W p l e (rmL 2 0 0) s m args below meth c H locs 0 0 Q (F0 m 15 ls []) := by
  have hx := X.hx
  have hb := X.hb
  have hown := X.hown
  have hts := X.hts
  rw [fX0_tire_15] at hf
  cases hf
  exact hret _ _ _ _ dX0_tire_15 hP hS
set_option maxRecDepth 10000 in
theorem kX0_tire_0 {S1 : CS} {t : Nat} {M : CS} {H : Heap} {locs : List Loc} {ls : Array Slot} (X : gX p s m args c cX0_tire 1 RX0 (kR kTab kA)) (hret : gRetV p l e (rmL 2 0 0) s m args below meth c cX0_tire (cΩ ca) (cP dC dI cg kA ca) Q S1) (hkt : kc t = 18) (hf : fX0_tire_0 t M = some S1) (hP : (cP dC dI cg kA ca) M s H) (hS : va_S (Fr (cΩ ca) s.heap.size) s.heap H locs) (hl : lv_has ls 1 [(0, .ref (ca t))]) : W p l e (rmL 2 0 0) s m args below meth c H locs 0 0 Q (F0 m 0 ls []) := by
  have hx := X.hx
  have hb := X.hb
  have hown := X.hown
  have hts := X.hts
  rw [fX0_tire_0] at hf
  refine lv_aload_n hx hb dX0_tire_0 rfl (lv_at hl 0 rfl) ?_
  refine lv_aload_n hx hb dX0_tire_1 rfl (lv_at hl 0 rfl) ?_
  refine cr_get (k := 3) X hP hkt rfl cv18_3 rfl cinX0 (by decide) rfl tw223 dX0_tire_2 ?_
  refine lv_iconst (v := 1) hx hb dX0_tire_5 (by decide) ?_
  refine lv_iadd hx hb dX0_tire_6 ?_
  refine lv_bipush (v := 20) hx hb dX0_tire_7 (by decide) ?_
  refine gMin X rfl tw1316 tw553 tw19 tw554 (by decide) hl.1 (Nat.le_of_ble_eq_true rfl) ⟨Nat.zero_le _, Nat.zero_le _⟩ dX0_tire_9 ?_
  refine cr_put (k := 3) X hP hS hkt rfl cs18_3 rfl cinX0 tyX0_ok nmX0 (by decide) rfl rfl rfl rfl tw223 dX0_tire_12 (fun H locs hP hS => ?_)
  exact kX0_tire_15 X hret hkt hf hP hS (lv_sub hl [0] rfl)
theorem vX0_tire {l : Launch} {dC : Nat → ClassId} {dI : Nat → Nat → Nat} {cg : Nat → ClassId} {kA : String → Nat → Nat} {ca : Nat → Nat} {M S1 : CS} {t : Nat} (hkt : kc t = 18) (hf : fX0_tire M t  = some S1) : gMetV l yX0_tire cX0_tire 1 2 (cΩ ca) (cP dC dI cg kA ca) (kR kTab kA) [.ref (ca t)] M S1 := gEntryV (by decide) cOK (Nat.le_of_ble_eq_true rfl) (fun p e s m args below meth c Q ls X hP hS hret hl => 
  kX0_tire_0 X hret hkt hf hP hS (lv_sub hl [0] rfl))
set_option maxRecDepth 10000 in
theorem kX0_recover_14 {S1 : CS} {t : Nat} {M : CS} {H : Heap} {locs : List Loc} {ls : Array Slot} (X : gX p s m args c cX0_recover 2 RX0 (kR kTab kA)) (hret : gRetV p l e (rmL 2 0 0) s m args below meth c cX0_recover (cΩ ca) (cP dC dI cg kA ca) Q S1) (hkt : kc t = 18) (hf : fX0_recover_14 t M = some S1) (hP : (cP dC dI cg kA ca) M s H) (hS : va_S (Fr (cΩ ca) s.heap.size) s.heap H locs) (hl : lv_has ls 2 [(0, .ref (ca t))]) : W p l e (rmL 2 0 0) s m args below meth c H locs 0 0 Q (F0 m 14 ls []) := by
  have hx := X.hx
  have hb := X.hb
  have hown := X.hown
  have hts := X.hts
  rw [fX0_recover_14] at hf
  cases hf
  exact hret _ _ _ _ dX0_recover_14 hP hS
set_option maxRecDepth 10000 in
theorem kX0_recover_0 {S1 : CS} {t : Nat} {M : CS} {a1 : Int32} {H : Heap} {locs : List Loc} {ls : Array Slot} (X : gX p s m args c cX0_recover 2 RX0 (kR kTab kA)) (hret : gRetV p l e (rmL 2 0 0) s m args below meth c cX0_recover (cΩ ca) (cP dC dI cg kA ca) Q S1) (hkt : kc t = 18) (hf : fX0_recover_0 t M a1 = some S1) (hP : (cP dC dI cg kA ca) M s H) (hS : va_S (Fr (cΩ ca) s.heap.size) s.heap H locs) (hl : lv_has ls 2 [(0, .ref (ca t)), (1, .int a1)]) : W p l e (rmL 2 0 0) s m args below meth c H locs 0 0 Q (F0 m 0 ls []) := by
  have hx := X.hx
  have hb := X.hb
  have hown := X.hown
  have hts := X.hts
  rw [fX0_recover_0] at hf
  refine lv_aload_n hx hb dX0_recover_0 rfl (lv_at hl 0 rfl) ?_
  refine lv_aload_n hx hb dX0_recover_1 rfl (lv_at hl 0 rfl) ?_
  refine cr_get (k := 3) X hP hkt rfl cv18_3 rfl cinX0 (by decide) rfl tw223 dX0_recover_2 ?_
  refine lv_iload_n hx hb dX0_recover_5 rfl (lv_at hl 1 rfl) ?_
  refine lv_isub hx hb dX0_recover_6 ?_
  refine lv_iconst (v := 0) hx hb dX0_recover_7 (by decide) ?_
  refine gMax X rfl tw1177 tw535 tw19 tw536 (by decide) hl.1 (Nat.le_of_ble_eq_true rfl) ⟨Nat.zero_le _, Nat.zero_le _⟩ dX0_recover_8 ?_
  refine cr_put (k := 3) X hP hS hkt rfl cs18_3 rfl cinX0 tyX0_ok nmX0 (by decide) rfl rfl rfl rfl tw223 dX0_recover_11 (fun H locs hP hS => ?_)
  exact kX0_recover_14 X hret hkt hf hP hS (lv_sub hl [0] rfl)
theorem vX0_recover {l : Launch} {dC : Nat → ClassId} {dI : Nat → Nat → Nat} {cg : Nat → ClassId} {kA : String → Nat → Nat} {ca : Nat → Nat} {M S1 : CS} {t : Nat} {a1 : Int32} (hkt : kc t = 18) (hf : fX0_recover M t a1 = some S1) : gMetV l yX0_recover cX0_recover 2 2 (cΩ ca) (cP dC dI cg kA ca) (kR kTab kA) [.ref (ca t), .int a1] M S1 := gEntryV (by decide) cOK (Nat.le_of_ble_eq_true rfl) (fun p e s m args below meth c Q ls X hP hS hret hl => 
  kX0_recover_0 X hret hkt hf hP hS (lv_sub hl [0, 1] rfl))
set_option maxRecDepth 10000 in
theorem kX1_copyFrom_61 {S1 : CS} {t : Nat} {b1 : Nat} {M : CS} {H : Heap} {locs : List Loc} {ls : Array Slot} (X : gX p s m args c cX1_copyFrom 2 RX1 (kR kTab kA)) (hret : gRetV p l e (rmL 2 0 0) s m args below meth c cX1_copyFrom (cΩ ca) (cP dC dI cg kA ca) Q S1) (hkt : kc t = 15) (hkb1 : kc b1 = 15) (hf : fX1_copyFrom_61 t b1 M = some S1) (hP : (cP dC dI cg kA ca) M s H) (hS : va_S (Fr (cΩ ca) s.heap.size) s.heap H locs) (hl : lv_has ls 2 [(0, .ref (ca t))]) : W p l e (rmL 2 0 0) s m args below meth c H locs 0 0 Q (F0 m 61 ls []) := by
  have hx := X.hx
  have hb := X.hb
  have hown := X.hown
  have hts := X.hts
  rw [fX1_copyFrom_61] at hf
  cases hf
  exact hret _ _ _ _ dX1_copyFrom_61 hP hS
set_option maxRecDepth 10000 in
theorem kX1_copyFrom_53 {S1 : CS} {t : Nat} {b1 : Nat} {M : CS} {H : Heap} {locs : List Loc} {ls : Array Slot} (X : gX p s m args c cX1_copyFrom 2 RX1 (kR kTab kA)) (hret : gRetV p l e (rmL 2 0 0) s m args below meth c cX1_copyFrom (cΩ ca) (cP dC dI cg kA ca) Q S1) (hkt : kc t = 15) (hkb1 : kc b1 = 15) (hf : fX1_copyFrom_53 t b1 M = some S1) (hP : (cP dC dI cg kA ca) M s H) (hS : va_S (Fr (cΩ ca) s.heap.size) s.heap H locs) (hl : lv_has ls 2 [(0, .ref (ca t)), (1, .ref (ca b1))]) : W p l e (rmL 2 0 0) s m args below meth c H locs 0 0 Q (F0 m 53 ls []) := by
  have hx := X.hx
  have hb := X.hb
  have hown := X.hown
  have hts := X.hts
  rw [fX1_copyFrom_53] at hf
  refine lv_aload_n hx hb dX1_copyFrom_53 rfl (lv_at hl 0 rfl) ?_
  refine lv_aload_n hx hb dX1_copyFrom_54 rfl (lv_at hl 1 rfl) ?_
  refine cr_get (k := 4) X hP hkb1 rfl cv15_4 rfl cinX1 (by decide) rfl tw151 dX1_copyFrom_55 ?_
  refine cr_put (k := 4) X hP hS hkt rfl cs15_4 rfl cinX1 tyX1_ok nmX1 (by decide) rfl rfl rfl rfl tw151 dX1_copyFrom_58 (fun H locs hP hS => ?_)
  exact kX1_copyFrom_61 X hret hkt hkb1 hf hP hS (lv_sub hl [0] rfl)
set_option maxRecDepth 10000 in
theorem kX1_copyFrom_45 {S1 : CS} {t : Nat} {b1 : Nat} {M : CS} {H : Heap} {locs : List Loc} {ls : Array Slot} (X : gX p s m args c cX1_copyFrom 2 RX1 (kR kTab kA)) (hret : gRetV p l e (rmL 2 0 0) s m args below meth c cX1_copyFrom (cΩ ca) (cP dC dI cg kA ca) Q S1) (hkt : kc t = 15) (hkb1 : kc b1 = 15) (hf : fX1_copyFrom_45 t b1 M = some S1) (hP : (cP dC dI cg kA ca) M s H) (hS : va_S (Fr (cΩ ca) s.heap.size) s.heap H locs) (hl : lv_has ls 2 [(0, .ref (ca t)), (1, .ref (ca b1))]) : W p l e (rmL 2 0 0) s m args below meth c H locs 0 0 Q (F0 m 45 ls []) := by
  have hx := X.hx
  have hb := X.hb
  have hown := X.hown
  have hts := X.hts
  rw [fX1_copyFrom_45] at hf
  refine lv_aload_n hx hb dX1_copyFrom_45 rfl (lv_at hl 0 rfl) ?_
  refine lv_aload_n hx hb dX1_copyFrom_46 rfl (lv_at hl 1 rfl) ?_
  refine cr_get (k := 3) X hP hkb1 rfl cv15_3 rfl cinX1 (by decide) rfl tw150 dX1_copyFrom_47 ?_
  refine cr_put (k := 3) X hP hS hkt rfl cs15_3 rfl cinX1 tyX1_ok nmX1 (by decide) rfl rfl rfl rfl tw150 dX1_copyFrom_50 (fun H locs hP hS => ?_)
  exact kX1_copyFrom_53 X hret hkt hkb1 hf hP hS (lv_sub hl [0, 1] rfl)
set_option maxRecDepth 10000 in
theorem kX1_copyFrom_30 {S1 : CS} {t : Nat} {b1 : Nat} {M : CS} {H : Heap} {locs : List Loc} {ls : Array Slot} (X : gX p s m args c cX1_copyFrom 2 RX1 (kR kTab kA)) (hret : gRetV p l e (rmL 2 0 0) s m args below meth c cX1_copyFrom (cΩ ca) (cP dC dI cg kA ca) Q S1) (hkt : kc t = 15) (hkb1 : kc b1 = 15) (hf : fX1_copyFrom_30 t b1 M = some S1) (hP : (cP dC dI cg kA ca) M s H) (hS : va_S (Fr (cΩ ca) s.heap.size) s.heap H locs) (hl : lv_has ls 2 [(0, .ref (ca t)), (1, .ref (ca b1))]) : W p l e (rmL 2 0 0) s m args below meth c H locs 0 0 Q (F0 m 30 ls []) := by
  have hx := X.hx
  have hb := X.hb
  have hown := X.hown
  have hts := X.hts
  rw [fX1_copyFrom_30] at hf
  refine lv_aload_n hx hb dX1_copyFrom_30 rfl (lv_at hl 1 rfl) ?_
  refine cr_get (k := 2) X hP hkb1 rfl cv15_2 rfl cinX1 (by decide) rfl tw149 dX1_copyFrom_31 ?_
  refine lv_iconst (v := 0) hx hb dX1_copyFrom_34 (by decide) ?_
  refine lv_aload_n hx hb dX1_copyFrom_35 rfl (lv_at hl 0 rfl) ?_
  refine cr_get (k := 2) X hP hkt rfl cv15_2 rfl cinX1 (by decide) rfl tw149 dX1_copyFrom_36 ?_
  refine lv_iconst (v := 0) hx hb dX1_copyFrom_39 (by decide) ?_
  refine lv_bipush (v := 16) hx hb dX1_copyFrom_40 (by decide) ?_
  refine cr_copy X hl.1 hP hS (kc_ev2 hkb1) (kc_ev2 hkt) rfl (fun _ _ _ => rfl) tw733 tw557 tw556 tw21 (by decide) (by decide) (by decide) (Nat.le_of_ble_eq_true rfl) dX1_copyFrom_42 (fun H locs hP hS => ?_)
  exact kX1_copyFrom_45 X hret hkt hkb1 hf hP hS (lv_sub hl [0, 1] rfl)
set_option maxRecDepth 10000 in
theorem kX1_copyFrom_15 {S1 : CS} {t : Nat} {b1 : Nat} {M : CS} {H : Heap} {locs : List Loc} {ls : Array Slot} (X : gX p s m args c cX1_copyFrom 2 RX1 (kR kTab kA)) (hret : gRetV p l e (rmL 2 0 0) s m args below meth c cX1_copyFrom (cΩ ca) (cP dC dI cg kA ca) Q S1) (hkt : kc t = 15) (hkb1 : kc b1 = 15) (hf : fX1_copyFrom_15 t b1 M = some S1) (hP : (cP dC dI cg kA ca) M s H) (hS : va_S (Fr (cΩ ca) s.heap.size) s.heap H locs) (hl : lv_has ls 2 [(0, .ref (ca t)), (1, .ref (ca b1))]) : W p l e (rmL 2 0 0) s m args below meth c H locs 0 0 Q (F0 m 15 ls []) := by
  have hx := X.hx
  have hb := X.hb
  have hown := X.hown
  have hts := X.hts
  rw [fX1_copyFrom_15] at hf
  refine lv_aload_n hx hb dX1_copyFrom_15 rfl (lv_at hl 1 rfl) ?_
  refine cr_get (k := 1) X hP hkb1 rfl cv15_1 rfl cinX1 (by decide) rfl tw148 dX1_copyFrom_16 ?_
  refine lv_iconst (v := 0) hx hb dX1_copyFrom_19 (by decide) ?_
  refine lv_aload_n hx hb dX1_copyFrom_20 rfl (lv_at hl 0 rfl) ?_
  refine cr_get (k := 1) X hP hkt rfl cv15_1 rfl cinX1 (by decide) rfl tw148 dX1_copyFrom_21 ?_
  refine lv_iconst (v := 0) hx hb dX1_copyFrom_24 (by decide) ?_
  refine lv_bipush (v := 16) hx hb dX1_copyFrom_25 (by decide) ?_
  refine cr_copy X hl.1 hP hS (kc_ev1 hkb1) (kc_ev1 hkt) rfl (fun _ _ _ => rfl) tw733 tw557 tw556 tw21 (by decide) (by decide) (by decide) (Nat.le_of_ble_eq_true rfl) dX1_copyFrom_27 (fun H locs hP hS => ?_)
  exact kX1_copyFrom_30 X hret hkt hkb1 hf hP hS (lv_sub hl [0, 1] rfl)
set_option maxRecDepth 10000 in
theorem kX1_copyFrom_0 {S1 : CS} {t : Nat} {b1 : Nat} {M : CS} {H : Heap} {locs : List Loc} {ls : Array Slot} (X : gX p s m args c cX1_copyFrom 2 RX1 (kR kTab kA)) (hret : gRetV p l e (rmL 2 0 0) s m args below meth c cX1_copyFrom (cΩ ca) (cP dC dI cg kA ca) Q S1) (hkt : kc t = 15) (hkb1 : kc b1 = 15) (hf : fX1_copyFrom_0 t b1 M = some S1) (hP : (cP dC dI cg kA ca) M s H) (hS : va_S (Fr (cΩ ca) s.heap.size) s.heap H locs) (hl : lv_has ls 2 [(0, .ref (ca t)), (1, .ref (ca b1))]) : W p l e (rmL 2 0 0) s m args below meth c H locs 0 0 Q (F0 m 0 ls []) := by
  have hx := X.hx
  have hb := X.hb
  have hown := X.hown
  have hts := X.hts
  rw [fX1_copyFrom_0] at hf
  refine lv_aload_n hx hb dX1_copyFrom_0 rfl (lv_at hl 1 rfl) ?_
  refine cr_get (k := 0) X hP hkb1 rfl cv15_0 rfl cinX1 (by decide) rfl tw147 dX1_copyFrom_1 ?_
  refine lv_iconst (v := 0) hx hb dX1_copyFrom_4 (by decide) ?_
  refine lv_aload_n hx hb dX1_copyFrom_5 rfl (lv_at hl 0 rfl) ?_
  refine cr_get (k := 0) X hP hkt rfl cv15_0 rfl cinX1 (by decide) rfl tw147 dX1_copyFrom_6 ?_
  refine lv_iconst (v := 0) hx hb dX1_copyFrom_9 (by decide) ?_
  refine lv_bipush (v := 16) hx hb dX1_copyFrom_10 (by decide) ?_
  refine cr_copy X hl.1 hP hS (kc_ev0 hkb1) (kc_ev0 hkt) rfl (fun _ _ _ => rfl) tw733 tw557 tw556 tw21 (by decide) (by decide) (by decide) (Nat.le_of_ble_eq_true rfl) dX1_copyFrom_12 (fun H locs hP hS => ?_)
  exact kX1_copyFrom_15 X hret hkt hkb1 hf hP hS (lv_sub hl [0, 1] rfl)
theorem vX1_copyFrom {l : Launch} {dC : Nat → ClassId} {dI : Nat → Nat → Nat} {cg : Nat → ClassId} {kA : String → Nat → Nat} {ca : Nat → Nat} {M S1 : CS} {t : Nat} {b1 : Nat} (hkt : kc t = 15) (hkb1 : kc b1 = 15) (hf : fX1_copyFrom M t b1 = some S1) : gMetV l yX1_copyFrom cX1_copyFrom 2 2 (cΩ ca) (cP dC dI cg kA ca) (kR kTab kA) [.ref (ca t), .ref (ca b1)] M S1 := gEntryV (by decide) cOK (Nat.le_of_ble_eq_true rfl) (fun p e s m args below meth c Q ls X hP hS hret hl => 
  kX1_copyFrom_0 X hret hkt hkb1 hf hP hS (lv_sub hl [0, 1] rfl))
set_option maxRecDepth 10000 in
theorem kX1_add_58 {S1 : CS} {t : Nat} {M : CS} {H : Heap} {locs : List Loc} {ls : Array Slot} (X : gX p s m args c cX1_add 4 RX1 (kR kTab kA)) (hret : gRetV p l e (rmL 2 0 0) s m args below meth c cX1_add (cΩ ca) (cP dC dI cg kA ca) Q S1) (hkt : kc t = 15) (hf : fX1_add_58 t M = some S1) (hP : (cP dC dI cg kA ca) M s H) (hS : va_S (Fr (cΩ ca) s.heap.size) s.heap H locs) (hl : lv_has ls 4 [(0, .ref (ca t))]) : W p l e (rmL 2 0 0) s m args below meth c H locs 0 0 Q (F0 m 58 ls []) := by
  have hx := X.hx
  have hb := X.hb
  have hown := X.hown
  have hts := X.hts
  rw [fX1_add_58] at hf
  cases hf
  exact hret _ _ _ _ dX1_add_58 hP hS
set_option maxRecDepth 10000 in
theorem kX1_add_43 {S1 : CS} {t : Nat} {M : CS} {H : Heap} {locs : List Loc} {ls : Array Slot} (X : gX p s m args c cX1_add 4 RX1 (kR kTab kA)) (hret : gRetV p l e (rmL 2 0 0) s m args below meth c cX1_add (cΩ ca) (cP dC dI cg kA ca) Q S1) (hkt : kc t = 15) (hf : fX1_add_43 t M = some S1) (hP : (cP dC dI cg kA ca) M s H) (hS : va_S (Fr (cΩ ca) s.heap.size) s.heap H locs) (hl : lv_has ls 4 [(0, .ref (ca t))]) : W p l e (rmL 2 0 0) s m args below meth c H locs 0 0 Q (F0 m 43 ls []) := by
  have hx := X.hx
  have hb := X.hb
  have hown := X.hown
  have hts := X.hts
  rw [fX1_add_43] at hf
  refine lv_aload_n hx hb dX1_add_43 rfl (lv_at hl 0 rfl) ?_
  refine lv_aload_n hx hb dX1_add_44 rfl (lv_at hl 0 rfl) ?_
  refine cr_get (k := 3) X hP hkt rfl cv15_3 rfl cinX1 (by decide) rfl tw150 dX1_add_45 ?_
  refine lv_iconst (v := 1) hx hb dX1_add_48 (by decide) ?_
  refine lv_iadd hx hb dX1_add_49 ?_
  refine lv_bipush (v := 16) hx hb dX1_add_50 (by decide) ?_
  refine gMin X rfl tw1321 tw553 tw19 tw554 (by decide) hl.1 (Nat.le_of_ble_eq_true rfl) ⟨Nat.zero_le _, Nat.zero_le _⟩ dX1_add_52 ?_
  refine cr_put (k := 3) X hP hS hkt rfl cs15_3 rfl cinX1 tyX1_ok nmX1 (by decide) rfl rfl rfl rfl tw150 dX1_add_55 (fun H locs hP hS => ?_)
  exact kX1_add_58 X hret hkt hf hP hS (lv_sub hl [0] rfl)
set_option maxRecDepth 10000 in
theorem kX1_add_30 {S1 : CS} {t : Nat} {M : CS} {H : Heap} {locs : List Loc} {ls : Array Slot} (X : gX p s m args c cX1_add 4 RX1 (kR kTab kA)) (hret : gRetV p l e (rmL 2 0 0) s m args below meth c cX1_add (cΩ ca) (cP dC dI cg kA ca) Q S1) (hkt : kc t = 15) (hf : fX1_add_30 t M = some S1) (hP : (cP dC dI cg kA ca) M s H) (hS : va_S (Fr (cΩ ca) s.heap.size) s.heap H locs) (hl : lv_has ls 4 [(0, .ref (ca t))]) : W p l e (rmL 2 0 0) s m args below meth c H locs 0 0 Q (F0 m 30 ls []) := by
  have hx := X.hx
  have hb := X.hb
  have hown := X.hown
  have hts := X.hts
  rw [fX1_add_30] at hf
  refine lv_aload_n hx hb dX1_add_30 rfl (lv_at hl 0 rfl) ?_
  refine lv_aload_n hx hb dX1_add_31 rfl (lv_at hl 0 rfl) ?_
  refine cr_get (k := 4) X hP hkt rfl cv15_4 rfl cinX1 (by decide) rfl tw151 dX1_add_32 ?_
  refine lv_iconst (v := 1) hx hb dX1_add_35 (by decide) ?_
  refine lv_iadd hx hb dX1_add_36 ?_
  refine lv_bipush (v := 16) hx hb dX1_add_37 (by decide) ?_
  refine lv_irem hx hb dX1_add_39 (by decide) ?_
  refine cr_put (k := 4) X hP hS hkt rfl cs15_4 rfl cinX1 tyX1_ok nmX1 (by decide) rfl rfl rfl rfl tw151 dX1_add_40 (fun H locs hP hS => ?_)
  exact kX1_add_43 X hret hkt hf hP hS (lv_sub hl [0] rfl)
set_option maxRecDepth 10000 in
theorem kX1_add_20 {S1 : CS} {t : Nat} {M : CS} {x3 : Int32} {H : Heap} {locs : List Loc} {ls : Array Slot} (X : gX p s m args c cX1_add 4 RX1 (kR kTab kA)) (hret : gRetV p l e (rmL 2 0 0) s m args below meth c cX1_add (cΩ ca) (cP dC dI cg kA ca) Q S1) (hkt : kc t = 15) (hf : fX1_add_20 t M x3 = some S1) (hP : (cP dC dI cg kA ca) M s H) (hS : va_S (Fr (cΩ ca) s.heap.size) s.heap H locs) (hl : lv_has ls 4 [(0, .ref (ca t)), (3, .int x3)]) : W p l e (rmL 2 0 0) s m args below meth c H locs 0 0 Q (F0 m 20 ls []) := by
  have hx := X.hx
  have hb := X.hb
  have hown := X.hown
  have hts := X.hts
  rw [fX1_add_20] at hf
  refine lv_aload_n hx hb dX1_add_20 rfl (lv_at hl 0 rfl) ?_
  refine cr_get (k := 2) X hP hkt rfl cv15_2 rfl cinX1 (by decide) rfl tw149 dX1_add_21 ?_
  refine lv_aload_n hx hb dX1_add_24 rfl (lv_at hl 0 rfl) ?_
  refine cr_get (k := 4) X hP hkt rfl cv15_4 rfl cinX1 (by decide) rfl tw151 dX1_add_25 ?_
  refine lv_iload_n hx hb dX1_add_28 rfl (lv_at hl 1 rfl) ?_
  obtain ⟨g1, hf⟩ := gd hf
  refine cr_iast X hP hS (kc_ev2 hkt) rfl (fun _ _ => rfl) g1 dX1_add_29 (fun H locs hP hS => ?_)
  exact kX1_add_30 X hret hkt hf hP hS (lv_sub hl [0] rfl)
set_option maxRecDepth 10000 in
theorem kX1_add_10 {S1 : CS} {t : Nat} {M : CS} {x2 : Int32} {x3 : Int32} {H : Heap} {locs : List Loc} {ls : Array Slot} (X : gX p s m args c cX1_add 4 RX1 (kR kTab kA)) (hret : gRetV p l e (rmL 2 0 0) s m args below meth c cX1_add (cΩ ca) (cP dC dI cg kA ca) Q S1) (hkt : kc t = 15) (hf : fX1_add_10 t M x2 x3 = some S1) (hP : (cP dC dI cg kA ca) M s H) (hS : va_S (Fr (cΩ ca) s.heap.size) s.heap H locs) (hl : lv_has ls 4 [(0, .ref (ca t)), (2, .int x2), (3, .int x3)]) : W p l e (rmL 2 0 0) s m args below meth c H locs 0 0 Q (F0 m 10 ls []) := by
  have hx := X.hx
  have hb := X.hb
  have hown := X.hown
  have hts := X.hts
  rw [fX1_add_10] at hf
  refine lv_aload_n hx hb dX1_add_10 rfl (lv_at hl 0 rfl) ?_
  refine cr_get (k := 1) X hP hkt rfl cv15_1 rfl cinX1 (by decide) rfl tw148 dX1_add_11 ?_
  refine lv_aload_n hx hb dX1_add_14 rfl (lv_at hl 0 rfl) ?_
  refine cr_get (k := 4) X hP hkt rfl cv15_4 rfl cinX1 (by decide) rfl tw151 dX1_add_15 ?_
  refine lv_iload_n hx hb dX1_add_18 rfl (lv_at hl 1 rfl) ?_
  obtain ⟨g1, hf⟩ := gd hf
  refine cr_iast X hP hS (kc_ev1 hkt) rfl (fun _ _ => rfl) g1 dX1_add_19 (fun H locs hP hS => ?_)
  exact kX1_add_20 X hret hkt hf hP hS (lv_sub hl [0, 2] rfl)
set_option maxRecDepth 10000 in
theorem kX1_add_0 {S1 : CS} {t : Nat} {M : CS} {a1 : Int32} {a2 : Int32} {a3 : Int32} {H : Heap} {locs : List Loc} {ls : Array Slot} (X : gX p s m args c cX1_add 4 RX1 (kR kTab kA)) (hret : gRetV p l e (rmL 2 0 0) s m args below meth c cX1_add (cΩ ca) (cP dC dI cg kA ca) Q S1) (hkt : kc t = 15) (hf : fX1_add_0 t M a1 a2 a3 = some S1) (hP : (cP dC dI cg kA ca) M s H) (hS : va_S (Fr (cΩ ca) s.heap.size) s.heap H locs) (hl : lv_has ls 4 [(0, .ref (ca t)), (1, .int a1), (2, .int a2), (3, .int a3)]) : W p l e (rmL 2 0 0) s m args below meth c H locs 0 0 Q (F0 m 0 ls []) := by
  have hx := X.hx
  have hb := X.hb
  have hown := X.hown
  have hts := X.hts
  rw [fX1_add_0] at hf
  refine lv_aload_n hx hb dX1_add_0 rfl (lv_at hl 0 rfl) ?_
  refine cr_get (k := 0) X hP hkt rfl cv15_0 rfl cinX1 (by decide) rfl tw147 dX1_add_1 ?_
  refine lv_aload_n hx hb dX1_add_4 rfl (lv_at hl 0 rfl) ?_
  refine cr_get (k := 4) X hP hkt rfl cv15_4 rfl cinX1 (by decide) rfl tw151 dX1_add_5 ?_
  refine lv_iload_n hx hb dX1_add_8 rfl (lv_at hl 1 rfl) ?_
  obtain ⟨g1, hf⟩ := gd hf
  refine cr_iast X hP hS (kc_ev0 hkt) rfl (fun _ _ => rfl) g1 dX1_add_9 (fun H locs hP hS => ?_)
  exact kX1_add_10 X hret hkt hf hP hS (lv_sub hl [0, 2, 3] rfl)
theorem vX1_add {l : Launch} {dC : Nat → ClassId} {dI : Nat → Nat → Nat} {cg : Nat → ClassId} {kA : String → Nat → Nat} {ca : Nat → Nat} {M S1 : CS} {t : Nat} {a1 : Int32} {a2 : Int32} {a3 : Int32} (hkt : kc t = 15) (hf : fX1_add M t a1 a2 a3 = some S1) : gMetV l yX1_add cX1_add 4 2 (cΩ ca) (cP dC dI cg kA ca) (kR kTab kA) [.ref (ca t), .int a1, .int a2, .int a3] M S1 := gEntryV (by decide) cOK (Nat.le_of_ble_eq_true rfl) (fun p e s m args below meth c Q ls X hP hS hret hl => 
  kX1_add_0 X hret hkt hf hP hS (lv_sub hl [0, 1, 2, 3] rfl))
set_option maxRecDepth 10000 in
theorem kX2_clear_55 {S1 : CS} {t : Nat} {M : CS} {H : Heap} {locs : List Loc} {ls : Array Slot} (X : gX p s m args c cX2_clear 1 RX2 (kR kTab kA)) (hret : gRetV p l e (rmL 2 0 0) s m args below meth c cX2_clear (cΩ ca) (cP dC dI cg kA ca) Q S1) (hkt : kc t = 11) (hf : fX2_clear_55 t M = some S1) (hP : (cP dC dI cg kA ca) M s H) (hS : va_S (Fr (cΩ ca) s.heap.size) s.heap H locs) (hl : lv_has ls 1 [(0, .ref (ca t))]) : W p l e (rmL 2 0 0) s m args below meth c H locs 0 0 Q (F0 m 55 ls []) := by
  have hx := X.hx
  have hb := X.hb
  have hown := X.hown
  have hts := X.hts
  rw [fX2_clear_55] at hf
  cases hf
  exact hret _ _ _ _ dX2_clear_55 hP hS
set_option maxRecDepth 10000 in
theorem kX2_clear_48 {S1 : CS} {t : Nat} {M : CS} {H : Heap} {locs : List Loc} {ls : Array Slot} (X : gX p s m args c cX2_clear 1 RX2 (kR kTab kA)) (hret : gRetV p l e (rmL 2 0 0) s m args below meth c cX2_clear (cΩ ca) (cP dC dI cg kA ca) Q S1) (hkt : kc t = 11) (hf : fX2_clear_48 t M = some S1) (hP : (cP dC dI cg kA ca) M s H) (hS : va_S (Fr (cΩ ca) s.heap.size) s.heap H locs) (hl : lv_has ls 1 [(0, .ref (ca t))]) : W p l e (rmL 2 0 0) s m args below meth c H locs 0 0 Q (F0 m 48 ls []) := by
  have hx := X.hx
  have hb := X.hb
  have hown := X.hown
  have hts := X.hts
  rw [fX2_clear_48] at hf
  refine lv_aload_n hx hb dX2_clear_48 rfl (lv_at hl 0 rfl) ?_
  refine cr_get (k := 4) X hP hkt rfl cv11_4 rfl cinX2 (by decide) rfl tw306 dX2_clear_49 ?_
  obtain ⟨q, hc, hf⟩ := bd hf
  refine gCallVV X cOK rfl (vX9_clear (kc_totals hkt) hc) gRX2_X9_clear hdX9_clear rfl ⟨by decide, by decide⟩ hP hS (cr_rec hP (kc_totals hkt) rfl cw17 rfl) hl.1 (Nat.le_of_ble_eq_true rfl) ⟨Nat.zero_le _, Nat.zero_le _⟩ dX2_clear_52 (As := []) (rest := []) rfl (fun H locs hP hS => ?_)
  exact kX2_clear_55 X hret hkt hf hP hS (lv_sub hl [0] rfl)
set_option maxRecDepth 10000 in
theorem kX2_clear_41 {S1 : CS} {t : Nat} {M : CS} {H : Heap} {locs : List Loc} {ls : Array Slot} (X : gX p s m args c cX2_clear 1 RX2 (kR kTab kA)) (hret : gRetV p l e (rmL 2 0 0) s m args below meth c cX2_clear (cΩ ca) (cP dC dI cg kA ca) Q S1) (hkt : kc t = 11) (hf : fX2_clear_41 t M = some S1) (hP : (cP dC dI cg kA ca) M s H) (hS : va_S (Fr (cΩ ca) s.heap.size) s.heap H locs) (hl : lv_has ls 1 [(0, .ref (ca t))]) : W p l e (rmL 2 0 0) s m args below meth c H locs 0 0 Q (F0 m 41 ls []) := by
  have hx := X.hx
  have hb := X.hb
  have hown := X.hown
  have hts := X.hts
  rw [fX2_clear_41] at hf
  refine lv_aload_n hx hb dX2_clear_41 rfl (lv_at hl 0 rfl) ?_
  refine cr_get (k := 3) X hP hkt rfl cv11_3 rfl cinX2 (by decide) rfl tw305 dX2_clear_42 ?_
  obtain ⟨q, hc, hf⟩ := bd hf
  refine gCallVV X cOK rfl (vX1_clear (kc_events hkt) hc) gRX2_X1_clear hdX1_clear rfl ⟨by decide, by decide⟩ hP hS (cr_rec hP (kc_events hkt) rfl cw15 rfl) hl.1 (Nat.le_of_ble_eq_true rfl) ⟨Nat.zero_le _, Nat.zero_le _⟩ dX2_clear_45 (As := []) (rest := []) rfl (fun H locs hP hS => ?_)
  exact kX2_clear_48 X hret hkt hf hP hS (lv_sub hl [0] rfl)
set_option maxRecDepth 10000 in
theorem kX2_clear_35 {S1 : CS} {t : Nat} {M : CS} {H : Heap} {locs : List Loc} {ls : Array Slot} (X : gX p s m args c cX2_clear 1 RX2 (kR kTab kA)) (hret : gRetV p l e (rmL 2 0 0) s m args below meth c cX2_clear (cΩ ca) (cP dC dI cg kA ca) Q S1) (hkt : kc t = 11) (hf : fX2_clear_35 t M = some S1) (hP : (cP dC dI cg kA ca) M s H) (hS : va_S (Fr (cΩ ca) s.heap.size) s.heap H locs) (hl : lv_has ls 1 [(0, .ref (ca t))]) : W p l e (rmL 2 0 0) s m args below meth c H locs 0 0 Q (F0 m 35 ls []) := by
  have hx := X.hx
  have hb := X.hb
  have hown := X.hown
  have hts := X.hts
  rw [fX2_clear_35] at hf
  refine lv_aload_n hx hb dX2_clear_35 rfl (lv_at hl 0 rfl) ?_
  refine lv_bipush (v := 6) hx hb dX2_clear_36 (by decide) ?_
  refine cr_put (k := 12) X hP hS hkt rfl cs11_12 rfl cinX2 tyX2_ok nmX2 (by decide) rfl rfl rfl rfl tw325 dX2_clear_38 (fun H locs hP hS => ?_)
  exact kX2_clear_41 X hret hkt hf hP hS (lv_sub hl [0] rfl)
set_option maxRecDepth 10000 in
theorem kX2_clear_30 {S1 : CS} {t : Nat} {M : CS} {H : Heap} {locs : List Loc} {ls : Array Slot} (X : gX p s m args c cX2_clear 1 RX2 (kR kTab kA)) (hret : gRetV p l e (rmL 2 0 0) s m args below meth c cX2_clear (cΩ ca) (cP dC dI cg kA ca) Q S1) (hkt : kc t = 11) (hf : fX2_clear_30 t M = some S1) (hP : (cP dC dI cg kA ca) M s H) (hS : va_S (Fr (cΩ ca) s.heap.size) s.heap H locs) (hl : lv_has ls 1 [(0, .ref (ca t))]) : W p l e (rmL 2 0 0) s m args below meth c H locs 0 0 Q (F0 m 30 ls []) := by
  have hx := X.hx
  have hb := X.hb
  have hown := X.hown
  have hts := X.hts
  rw [fX2_clear_30] at hf
  refine lv_aload_n hx hb dX2_clear_30 rfl (lv_at hl 0 rfl) ?_
  refine lv_iconst (v := 3) hx hb dX2_clear_31 (by decide) ?_
  refine cr_put (k := 11) X hP hS hkt rfl cs11_11 rfl cinX2 tyX2_ok nmX2 (by decide) rfl rfl rfl rfl tw322 dX2_clear_32 (fun H locs hP hS => ?_)
  exact kX2_clear_35 X hret hkt hf hP hS (lv_sub hl [0] rfl)
set_option maxRecDepth 10000 in
theorem kX2_clear_25 {S1 : CS} {t : Nat} {M : CS} {H : Heap} {locs : List Loc} {ls : Array Slot} (X : gX p s m args c cX2_clear 1 RX2 (kR kTab kA)) (hret : gRetV p l e (rmL 2 0 0) s m args below meth c cX2_clear (cΩ ca) (cP dC dI cg kA ca) Q S1) (hkt : kc t = 11) (hf : fX2_clear_25 t M = some S1) (hP : (cP dC dI cg kA ca) M s H) (hS : va_S (Fr (cΩ ca) s.heap.size) s.heap H locs) (hl : lv_has ls 1 [(0, .ref (ca t))]) : W p l e (rmL 2 0 0) s m args below meth c H locs 0 0 Q (F0 m 25 ls []) := by
  have hx := X.hx
  have hb := X.hb
  have hown := X.hown
  have hts := X.hts
  rw [fX2_clear_25] at hf
  refine lv_aload_n hx hb dX2_clear_25 rfl (lv_at hl 0 rfl) ?_
  refine lv_iconst (v := 0) hx hb dX2_clear_26 (by decide) ?_
  refine cr_put (k := 10) X hP hS hkt rfl cs11_10 rfl cinX2 tyX2_ok nmX2 (by decide) rfl rfl rfl rfl tw320 dX2_clear_27 (fun H locs hP hS => ?_)
  exact kX2_clear_30 X hret hkt hf hP hS (lv_sub hl [0] rfl)
set_option maxRecDepth 10000 in
theorem kX2_clear_20 {S1 : CS} {t : Nat} {M : CS} {H : Heap} {locs : List Loc} {ls : Array Slot} (X : gX p s m args c cX2_clear 1 RX2 (kR kTab kA)) (hret : gRetV p l e (rmL 2 0 0) s m args below meth c cX2_clear (cΩ ca) (cP dC dI cg kA ca) Q S1) (hkt : kc t = 11) (hf : fX2_clear_20 t M = some S1) (hP : (cP dC dI cg kA ca) M s H) (hS : va_S (Fr (cΩ ca) s.heap.size) s.heap H locs) (hl : lv_has ls 1 [(0, .ref (ca t))]) : W p l e (rmL 2 0 0) s m args below meth c H locs 0 0 Q (F0 m 20 ls []) := by
  have hx := X.hx
  have hb := X.hb
  have hown := X.hown
  have hts := X.hts
  rw [fX2_clear_20] at hf
  refine lv_aload_n hx hb dX2_clear_20 rfl (lv_at hl 0 rfl) ?_
  refine lv_iconst (v := 0) hx hb dX2_clear_21 (by decide) ?_
  refine cr_put (k := 9) X hP hS hkt rfl cs11_9 rfl cinX2 tyX2_ok nmX2 (by decide) rfl rfl rfl rfl tw318 dX2_clear_22 (fun H locs hP hS => ?_)
  exact kX2_clear_25 X hret hkt hf hP hS (lv_sub hl [0] rfl)
set_option maxRecDepth 10000 in
theorem kX2_clear_15 {S1 : CS} {t : Nat} {M : CS} {H : Heap} {locs : List Loc} {ls : Array Slot} (X : gX p s m args c cX2_clear 1 RX2 (kR kTab kA)) (hret : gRetV p l e (rmL 2 0 0) s m args below meth c cX2_clear (cΩ ca) (cP dC dI cg kA ca) Q S1) (hkt : kc t = 11) (hf : fX2_clear_15 t M = some S1) (hP : (cP dC dI cg kA ca) M s H) (hS : va_S (Fr (cΩ ca) s.heap.size) s.heap H locs) (hl : lv_has ls 1 [(0, .ref (ca t))]) : W p l e (rmL 2 0 0) s m args below meth c H locs 0 0 Q (F0 m 15 ls []) := by
  have hx := X.hx
  have hb := X.hb
  have hown := X.hown
  have hts := X.hts
  rw [fX2_clear_15] at hf
  refine lv_aload_n hx hb dX2_clear_15 rfl (lv_at hl 0 rfl) ?_
  refine lv_iconst (v := (-1)) hx hb dX2_clear_16 (by decide) ?_
  refine cr_put (k := 8) X hP hS hkt rfl cs11_8 rfl cinX2 tyX2_ok nmX2 (by decide) rfl rfl rfl rfl tw316 dX2_clear_17 (fun H locs hP hS => ?_)
  exact kX2_clear_20 X hret hkt hf hP hS (lv_sub hl [0] rfl)
set_option maxRecDepth 10000 in
theorem kX2_clear_10 {S1 : CS} {t : Nat} {M : CS} {H : Heap} {locs : List Loc} {ls : Array Slot} (X : gX p s m args c cX2_clear 1 RX2 (kR kTab kA)) (hret : gRetV p l e (rmL 2 0 0) s m args below meth c cX2_clear (cΩ ca) (cP dC dI cg kA ca) Q S1) (hkt : kc t = 11) (hf : fX2_clear_10 t M = some S1) (hP : (cP dC dI cg kA ca) M s H) (hS : va_S (Fr (cΩ ca) s.heap.size) s.heap H locs) (hl : lv_has ls 1 [(0, .ref (ca t))]) : W p l e (rmL 2 0 0) s m args below meth c H locs 0 0 Q (F0 m 10 ls []) := by
  have hx := X.hx
  have hb := X.hb
  have hown := X.hown
  have hts := X.hts
  rw [fX2_clear_10] at hf
  refine lv_aload_n hx hb dX2_clear_10 rfl (lv_at hl 0 rfl) ?_
  refine lv_iconst (v := 0) hx hb dX2_clear_11 (by decide) ?_
  refine cr_put (k := 7) X hP hS hkt rfl cs11_7 rfl cinX2 tyX2_ok nmX2 (by decide) rfl rfl rfl rfl tw314 dX2_clear_12 (fun H locs hP hS => ?_)
  exact kX2_clear_15 X hret hkt hf hP hS (lv_sub hl [0] rfl)
set_option maxRecDepth 10000 in
theorem kX2_clear_5 {S1 : CS} {t : Nat} {M : CS} {H : Heap} {locs : List Loc} {ls : Array Slot} (X : gX p s m args c cX2_clear 1 RX2 (kR kTab kA)) (hret : gRetV p l e (rmL 2 0 0) s m args below meth c cX2_clear (cΩ ca) (cP dC dI cg kA ca) Q S1) (hkt : kc t = 11) (hf : fX2_clear_5 t M = some S1) (hP : (cP dC dI cg kA ca) M s H) (hS : va_S (Fr (cΩ ca) s.heap.size) s.heap H locs) (hl : lv_has ls 1 [(0, .ref (ca t))]) : W p l e (rmL 2 0 0) s m args below meth c H locs 0 0 Q (F0 m 5 ls []) := by
  have hx := X.hx
  have hb := X.hb
  have hown := X.hown
  have hts := X.hts
  rw [fX2_clear_5] at hf
  refine lv_aload_n hx hb dX2_clear_5 rfl (lv_at hl 0 rfl) ?_
  refine lv_iconst (v := 0) hx hb dX2_clear_6 (by decide) ?_
  refine cr_put (k := 6) X hP hS hkt rfl cs11_6 rfl cinX2 tyX2_ok nmX2 (by decide) rfl rfl rfl rfl tw311 dX2_clear_7 (fun H locs hP hS => ?_)
  exact kX2_clear_10 X hret hkt hf hP hS (lv_sub hl [0] rfl)
set_option maxRecDepth 10000 in
theorem kX2_clear_0 {S1 : CS} {t : Nat} {M : CS} {H : Heap} {locs : List Loc} {ls : Array Slot} (X : gX p s m args c cX2_clear 1 RX2 (kR kTab kA)) (hret : gRetV p l e (rmL 2 0 0) s m args below meth c cX2_clear (cΩ ca) (cP dC dI cg kA ca) Q S1) (hkt : kc t = 11) (hf : fX2_clear_0 t M = some S1) (hP : (cP dC dI cg kA ca) M s H) (hS : va_S (Fr (cΩ ca) s.heap.size) s.heap H locs) (hl : lv_has ls 1 [(0, .ref (ca t))]) : W p l e (rmL 2 0 0) s m args below meth c H locs 0 0 Q (F0 m 0 ls []) := by
  have hx := X.hx
  have hb := X.hb
  have hown := X.hown
  have hts := X.hts
  rw [fX2_clear_0] at hf
  refine lv_aload_n hx hb dX2_clear_0 rfl (lv_at hl 0 rfl) ?_
  refine lv_iconst (v := 0) hx hb dX2_clear_1 (by decide) ?_
  refine cr_put (k := 5) X hP hS hkt rfl cs11_5 rfl cinX2 tyX2_ok nmX2 (by decide) rfl rfl rfl rfl tw308 dX2_clear_2 (fun H locs hP hS => ?_)
  exact kX2_clear_5 X hret hkt hf hP hS (lv_sub hl [0] rfl)
theorem vX2_clear {l : Launch} {dC : Nat → ClassId} {dI : Nat → Nat → Nat} {cg : Nat → ClassId} {kA : String → Nat → Nat} {ca : Nat → Nat} {M S1 : CS} {t : Nat} (hkt : kc t = 11) (hf : fX2_clear M t  = some S1) : gMetV l yX2_clear cX2_clear 1 2 (cΩ ca) (cP dC dI cg kA ca) (kR kTab kA) [.ref (ca t)] M S1 := gEntryV (by decide) cOK (Nat.le_of_ble_eq_true rfl) (fun p e s m args below meth c Q ls X hP hS hret hl => 
  kX2_clear_0 X hret hkt hf hP hS (lv_sub hl [0] rfl))
set_option maxRecDepth 10000 in
theorem kX2_begin_48 {S1 : CS} {t : Nat} {M : CS} {H : Heap} {locs : List Loc} {ls : Array Slot} (X : gX p s m args c cX2_begin 1 RX2 (kR kTab kA)) (hret : gRetV p l e (rmL 2 0 0) s m args below meth c cX2_begin (cΩ ca) (cP dC dI cg kA ca) Q S1) (hkt : kc t = 11) (hf : fX2_begin_48 t M = some S1) (hP : (cP dC dI cg kA ca) M s H) (hS : va_S (Fr (cΩ ca) s.heap.size) s.heap H locs) (hl : lv_has ls 1 [(0, .ref (ca t))]) : W p l e (rmL 2 0 0) s m args below meth c H locs 0 0 Q (F0 m 48 ls []) := by
  have hx := X.hx
  have hb := X.hb
  have hown := X.hown
  have hts := X.hts
  rw [fX2_begin_48] at hf
  cases hf
  exact hret _ _ _ _ dX2_begin_48 hP hS
set_option maxRecDepth 10000 in
theorem kX2_begin_35 {S1 : CS} {t : Nat} {M : CS} {H : Heap} {locs : List Loc} {ls : Array Slot} (X : gX p s m args c cX2_begin 1 RX2 (kR kTab kA)) (hret : gRetV p l e (rmL 2 0 0) s m args below meth c cX2_begin (cΩ ca) (cP dC dI cg kA ca) Q S1) (hkt : kc t = 11) (hf : fX2_begin_35 t M = some S1) (hP : (cP dC dI cg kA ca) M s H) (hS : va_S (Fr (cΩ ca) s.heap.size) s.heap H locs) (hl : lv_has ls 1 [(0, .ref (ca t))]) : W p l e (rmL 2 0 0) s m args below meth c H locs 0 0 Q (F0 m 35 ls []) := by
  have hx := X.hx
  have hb := X.hb
  have hown := X.hown
  have hts := X.hts
  rw [fX2_begin_35] at hf
  refine lv_aload_n hx hb dX2_begin_35 rfl (lv_at hl 0 rfl) ?_
  refine lv_aload_n hx hb dX2_begin_36 rfl (lv_at hl 0 rfl) ?_
  refine cr_get (k := 2) X hP hkt rfl cv11_2 rfl cinX2 (by decide) rfl tw303 dX2_begin_37 ?_
  refine lv_iconst (v := 0) hx hb dX2_begin_40 (by decide) ?_
  obtain ⟨g1, hf⟩ := gd hf
  refine cr_aald (f := fun i => (t + 3) + 20 + i) X hP (kc_shifts hkt) rfl (fun _ => rfl) rfl g1 dX2_begin_41 ?_
  refine cr_get (k := 0) X hP (kc_shift (kc_shifts hkt) g1) rfl cv20_0 rfl cinX7 (by decide) rfl tw287 dX2_begin_42 ?_
  obtain ⟨q, hc, hf⟩ := bd hf
  refine gCallVV X cOK rfl (vX2_swearIn hkt hc) gRX2_X2_swearIn hdX2_swearIn rfl ⟨by decide, by decide⟩ hP hS (cr_rec hP hkt rfl cw11 rfl) hl.1 (Nat.le_of_ble_eq_true rfl) ⟨Nat.zero_le _, Nat.zero_le _⟩ dX2_begin_45 (As := [.int (M.1 ((t + 3) + 20 + (0 : Int32).toNatClampNeg) 0)]) (rest := []) rfl (fun H locs hP hS => ?_)
  exact kX2_begin_48 X hret hkt hf hP hS (lv_sub hl [0] rfl)
set_option maxRecDepth 10000 in
theorem kX2_begin_22 {S1 : CS} {t : Nat} {M : CS} {H : Heap} {locs : List Loc} {ls : Array Slot} (X : gX p s m args c cX2_begin 1 RX2 (kR kTab kA)) (hret : gRetV p l e (rmL 2 0 0) s m args below meth c cX2_begin (cΩ ca) (cP dC dI cg kA ca) Q S1) (hkt : kc t = 11) (hf : fX2_begin_22 t M = some S1) (hP : (cP dC dI cg kA ca) M s H) (hS : va_S (Fr (cΩ ca) s.heap.size) s.heap H locs) (hl : lv_has ls 1 [(0, .ref (ca t))]) : W p l e (rmL 2 0 0) s m args below meth c H locs 0 0 Q (F0 m 22 ls []) := by
  have hx := X.hx
  have hb := X.hb
  have hown := X.hown
  have hts := X.hts
  rw [fX2_begin_22] at hf
  refine lv_aload_n hx hb dX2_begin_22 rfl (lv_at hl 0 rfl) ?_
  refine lv_aload_n hx hb dX2_begin_23 rfl (lv_at hl 0 rfl) ?_
  refine cr_get (k := 2) X hP hkt rfl cv11_2 rfl cinX2 (by decide) rfl tw303 dX2_begin_24 ?_
  refine lv_iconst (v := 0) hx hb dX2_begin_27 (by decide) ?_
  obtain ⟨g1, hf⟩ := gd hf
  refine cr_aald (f := fun i => (t + 3) + 20 + i) X hP (kc_shifts hkt) rfl (fun _ => rfl) rfl g1 dX2_begin_28 ?_
  refine cr_get (k := 1) X hP (kc_shift (kc_shifts hkt) g1) rfl cv20_1 rfl cinX7 (by decide) rfl tw290 dX2_begin_29 ?_
  refine cr_put (k := 10) X hP hS hkt rfl cs11_10 rfl cinX2 tyX2_ok nmX2 (by decide) rfl rfl rfl rfl tw320 dX2_begin_32 (fun H locs hP hS => ?_)
  exact kX2_begin_35 X hret hkt hf hP hS (lv_sub hl [0] rfl)
set_option maxRecDepth 10000 in
theorem kX2_begin_19 {S1 : CS} {t : Nat} {M : CS} {s0 : Int32} {H : Heap} {locs : List Loc} {ls : Array Slot} (X : gX p s m args c cX2_begin 1 RX2 (kR kTab kA)) (hret : gRetV p l e (rmL 2 0 0) s m args below meth c cX2_begin (cΩ ca) (cP dC dI cg kA ca) Q S1) (hkt : kc t = 11) (hf : fX2_begin_19 t M s0 = some S1) (hP : (cP dC dI cg kA ca) M s H) (hS : va_S (Fr (cΩ ca) s.heap.size) s.heap H locs) (hl : lv_has ls 1 [(0, .ref (ca t))]) : W p l e (rmL 2 0 0) s m args below meth c H locs 0 0 Q (F0 m 19 ls [.int s0, .ref (ca (t + 8))]) := by
  have hx := X.hx
  have hb := X.hb
  have hown := X.hown
  have hts := X.hts
  rw [fX2_begin_19] at hf
  refine cr_put (k := 7) X hP hS (kc_totals hkt) rfl cs17_7 rfl cinX9 tyX9_ok nmX9 (by decide) rfl rfl rfl rfl tw191 dX2_begin_19 (fun H locs hP hS => ?_)
  exact kX2_begin_22 X hret hkt hf hP hS (lv_sub hl [0] rfl)
set_option maxRecDepth 10000 in
theorem kX2_begin_11 {S1 : CS} {t : Nat} {M : CS} {H : Heap} {locs : List Loc} {ls : Array Slot} (X : gX p s m args c cX2_begin 1 RX2 (kR kTab kA)) (hret : gRetV p l e (rmL 2 0 0) s m args below meth c cX2_begin (cΩ ca) (cP dC dI cg kA ca) Q S1) (hkt : kc t = 11) (hf : fX2_begin_11 t M = some S1) (hP : (cP dC dI cg kA ca) M s H) (hS : va_S (Fr (cΩ ca) s.heap.size) s.heap H locs) (hl : lv_has ls 1 [(0, .ref (ca t))]) : W p l e (rmL 2 0 0) s m args below meth c H locs 0 0 Q (F0 m 11 ls []) := by
  have hx := X.hx
  have hb := X.hb
  have hown := X.hown
  have hts := X.hts
  rw [fX2_begin_11] at hf
  refine lv_aload_n hx hb dX2_begin_11 rfl (lv_at hl 0 rfl) ?_
  refine cr_get (k := 4) X hP hkt rfl cv11_4 rfl cinX2 (by decide) rfl tw306 dX2_begin_12 ?_
  refine lv_aload_n hx hb dX2_begin_15 rfl (lv_at hl 0 rfl) ?_
  obtain ⟨q, hc, hf⟩ := bd hf
  refine gCallVR X rfl (vX2_grainOfAll hkt hc) gRX2_X2_grainOfAll hdX2_grainOfAll rfl ⟨by decide, by decide⟩ (gB_blind cOK) (gB_at cOK X hP) (cr_rec hP hkt rfl cw11 rfl) hl.1 (Nat.le_of_ble_eq_true rfl) ⟨Nat.zero_le _, Nat.zero_le _⟩ dX2_begin_16 (As := []) (rest := [.ref (ca (t + 8))]) rfl ?_
  exact kX2_begin_19 X hret hkt hf hP hS (lv_sub hl [0] rfl)
set_option maxRecDepth 10000 in
theorem kX2_begin_8 {S1 : CS} {t : Nat} {M : CS} {s0 : Int32} {H : Heap} {locs : List Loc} {ls : Array Slot} (X : gX p s m args c cX2_begin 1 RX2 (kR kTab kA)) (hret : gRetV p l e (rmL 2 0 0) s m args below meth c cX2_begin (cΩ ca) (cP dC dI cg kA ca) Q S1) (hkt : kc t = 11) (hf : fX2_begin_8 t M s0 = some S1) (hP : (cP dC dI cg kA ca) M s H) (hS : va_S (Fr (cΩ ca) s.heap.size) s.heap H locs) (hl : lv_has ls 1 [(0, .ref (ca t))]) : W p l e (rmL 2 0 0) s m args below meth c H locs 0 0 Q (F0 m 8 ls [.int s0, .ref (ca (t + 8))]) := by
  have hx := X.hx
  have hb := X.hb
  have hown := X.hown
  have hts := X.hts
  rw [fX2_begin_8] at hf
  refine cr_put (k := 6) X hP hS (kc_totals hkt) rfl cs17_6 rfl cinX9 tyX9_ok nmX9 (by decide) rfl rfl rfl rfl tw189 dX2_begin_8 (fun H locs hP hS => ?_)
  exact kX2_begin_11 X hret hkt hf hP hS (lv_sub hl [0] rfl)
set_option maxRecDepth 10000 in
theorem kX2_begin_0 {S1 : CS} {t : Nat} {M : CS} {H : Heap} {locs : List Loc} {ls : Array Slot} (X : gX p s m args c cX2_begin 1 RX2 (kR kTab kA)) (hret : gRetV p l e (rmL 2 0 0) s m args below meth c cX2_begin (cΩ ca) (cP dC dI cg kA ca) Q S1) (hkt : kc t = 11) (hf : fX2_begin_0 t M = some S1) (hP : (cP dC dI cg kA ca) M s H) (hS : va_S (Fr (cΩ ca) s.heap.size) s.heap H locs) (hl : lv_has ls 1 [(0, .ref (ca t))]) : W p l e (rmL 2 0 0) s m args below meth c H locs 0 0 Q (F0 m 0 ls []) := by
  have hx := X.hx
  have hb := X.hb
  have hown := X.hown
  have hts := X.hts
  rw [fX2_begin_0] at hf
  refine lv_aload_n hx hb dX2_begin_0 rfl (lv_at hl 0 rfl) ?_
  refine cr_get (k := 4) X hP hkt rfl cv11_4 rfl cinX2 (by decide) rfl tw306 dX2_begin_1 ?_
  refine lv_aload_n hx hb dX2_begin_4 rfl (lv_at hl 0 rfl) ?_
  obtain ⟨q, hc, hf⟩ := bd hf
  refine gCallVR X rfl (vX2_miceOfAll hkt hc) gRX2_X2_miceOfAll hdX2_miceOfAll rfl ⟨by decide, by decide⟩ (gB_blind cOK) (gB_at cOK X hP) (cr_rec hP hkt rfl cw11 rfl) hl.1 (Nat.le_of_ble_eq_true rfl) ⟨Nat.zero_le _, Nat.zero_le _⟩ dX2_begin_5 (As := []) (rest := [.ref (ca (t + 8))]) rfl ?_
  exact kX2_begin_8 X hret hkt hf hP hS (lv_sub hl [0] rfl)
theorem vX2_begin {l : Launch} {dC : Nat → ClassId} {dI : Nat → Nat → Nat} {cg : Nat → ClassId} {kA : String → Nat → Nat} {ca : Nat → Nat} {M S1 : CS} {t : Nat} (hkt : kc t = 11) (hf : fX2_begin M t  = some S1) : gMetV l yX2_begin cX2_begin 1 2 (cΩ ca) (cP dC dI cg kA ca) (kR kTab kA) [.ref (ca t)] M S1 := gEntryV (by decide) cOK (Nat.le_of_ble_eq_true rfl) (fun p e s m args below meth c Q ls X hP hS hret hl => 
  kX2_begin_0 X hret hkt hf hP hS (lv_sub hl [0] rfl))
set_option maxRecDepth 10000 in
theorem kX2_feedMice_66 {S1 : CS} {t : Nat} {M : CS} {H : Heap} {locs : List Loc} {ls : Array Slot} (X : gX p s m args c cX2_feedMice 5 RX2 (kR kTab kA)) (hret : gRetV p l e (rmL 2 0 0) s m args below meth c cX2_feedMice (cΩ ca) (cP dC dI cg kA ca) Q S1) (hkt : kc t = 11) (hf : fX2_feedMice_66 t M = some S1) (hP : (cP dC dI cg kA ca) M s H) (hS : va_S (Fr (cΩ ca) s.heap.size) s.heap H locs) (hl : lv_has ls 5 [(0, .ref (ca t))]) : W p l e (rmL 2 0 0) s m args below meth c H locs 0 0 Q (F0 m 66 ls []) := by
  have hx := X.hx
  have hb := X.hb
  have hown := X.hown
  have hts := X.hts
  rw [fX2_feedMice_66] at hf
  cases hf
  exact hret _ _ _ _ dX2_feedMice_66 hP hS
set_option maxRecDepth 10000 in
theorem kX2_feedMice_159 {S1 : CS} {t : Nat} {M : CS} {H : Heap} {locs : List Loc} {ls : Array Slot} (X : gX p s m args c cX2_feedMice 5 RX2 (kR kTab kA)) (hret : gRetV p l e (rmL 2 0 0) s m args below meth c cX2_feedMice (cΩ ca) (cP dC dI cg kA ca) Q S1) (hkt : kc t = 11) (hf : fX2_feedMice_159 t M = some S1) (hP : (cP dC dI cg kA ca) M s H) (hS : va_S (Fr (cΩ ca) s.heap.size) s.heap H locs) (hl : lv_has ls 5 [(0, .ref (ca t))]) : W p l e (rmL 2 0 0) s m args below meth c H locs 0 0 Q (F0 m 159 ls []) := by
  have hx := X.hx
  have hb := X.hb
  have hown := X.hown
  have hts := X.hts
  rw [fX2_feedMice_159] at hf
  cases hf
  exact hret _ _ _ _ dX2_feedMice_159 hP hS
set_option maxRecDepth 10000 in
theorem kX2_feedMice_131 {S1 : CS} {t : Nat} {M : CS} {x4 : Int32} {H : Heap} {locs : List Loc} {ls : Array Slot} (X : gX p s m args c cX2_feedMice 5 RX2 (kR kTab kA)) (hret : gRetV p l e (rmL 2 0 0) s m args below meth c cX2_feedMice (cΩ ca) (cP dC dI cg kA ca) Q S1) (hkt : kc t = 11) (hf : fX2_feedMice_131 t M x4 = some S1) (hP : (cP dC dI cg kA ca) M s H) (hS : va_S (Fr (cΩ ca) s.heap.size) s.heap H locs) (hl : lv_has ls 5 [(0, .ref (ca t)), (4, .int x4)]) : W p l e (rmL 2 0 0) s m args below meth c H locs 0 0 Q (F0 m 131 ls []) := by
  have hx := X.hx
  have hb := X.hb
  have hown := X.hown
  have hts := X.hts
  rw [fX2_feedMice_131] at hf
  refine lv_aload_n hx hb dX2_feedMice_131 rfl (lv_at hl 0 rfl) ?_
  refine lv_aload_n hx hb dX2_feedMice_132 rfl (lv_at hl 0 rfl) ?_
  refine cr_get (k := 1) X hP hkt rfl cv11_1 rfl cinX2 (by decide) rfl tw300 dX2_feedMice_133 ?_
  refine lv_iload hx hb dX2_feedMice_136 (lv_at hl 1 rfl) ?_
  obtain ⟨g1, hf⟩ := gd hf
  refine cr_aald (f := fun i => (t + 2) + 15 + i) X hP (kc_sacks hkt) rfl (fun _ => rfl) rfl g1 dX2_feedMice_138 ?_
  refine lv_aload_n hx hb dX2_feedMice_139 rfl (lv_at hl 0 rfl) ?_
  refine cr_get (k := 1) X hP hkt rfl cv11_1 rfl cinX2 (by decide) rfl tw300 dX2_feedMice_140 ?_
  refine lv_iload hx hb dX2_feedMice_143 (lv_at hl 1 rfl) ?_
  obtain ⟨g2, hf⟩ := gd hf
  refine cr_aald (f := fun i => (t + 2) + 15 + i) X hP (kc_sacks hkt) rfl (fun _ => rfl) rfl g2 dX2_feedMice_145 ?_
  refine cr_get (k := 2) X hP (kc_sack (kc_sacks hkt) g2) rfl cv19_2 rfl cinX4 (by decide) rfl tw259 dX2_feedMice_146 ?_
  refine lv_bipush (v := 99) hx hb dX2_feedMice_149 (by decide) ?_
  refine lv_isub hx hb dX2_feedMice_151 ?_
  refine lv_iconst (v := 0) hx hb dX2_feedMice_152 (by decide) ?_
  refine gMax X rfl tw1298 tw535 tw19 tw536 (by decide) hl.1 (Nat.le_of_ble_eq_true rfl) ⟨Nat.zero_le _, Nat.zero_le _⟩ dX2_feedMice_153 ?_
  obtain ⟨q, hc, hf⟩ := bd hf
  refine gCallVV X cOK rfl (vX2_starve hkt (kc_sack (kc_sacks hkt) g1) hc) gRX2_X2_starve hdX2_starve rfl ⟨by decide, by decide⟩ hP hS (cr_rec hP hkt rfl cw11 rfl) hl.1 (Nat.le_of_ble_eq_true rfl) ⟨Nat.zero_le _, Nat.zero_le _⟩ dX2_feedMice_156 (As := [.ref (ca ((t + 2) + 15 + x4.toNatClampNeg)), .int (if ((M.1 ((t + 2) + 15 + x4.toNatClampNeg) 2) - 99) < 0 then 0 else ((M.1 ((t + 2) + 15 + x4.toNatClampNeg) 2) - 99))]) (rest := []) rfl (fun H locs hP hS => ?_)
  exact kX2_feedMice_159 X hret hkt hf hP hS (lv_sub hl [0] rfl)
set_option maxRecDepth 10000 in
theorem kX2_feedMice_126 {S1 : CS} {t : Nat} {M : CS} {p2 : Nat} {x4 : Int32} {H : Heap} {locs : List Loc} {ls : Array Slot} (X : gX p s m args c cX2_feedMice 5 RX2 (kR kTab kA)) (hret : gRetV p l e (rmL 2 0 0) s m args below meth c cX2_feedMice (cΩ ca) (cP dC dI cg kA ca) Q S1) (hkt : kc t = 11) (hkp2 : kc p2 = 19) (hf : fX2_feedMice_126 t M p2 x4 = some S1) (hP : (cP dC dI cg kA ca) M s H) (hS : va_S (Fr (cΩ ca) s.heap.size) s.heap H locs) (hl : lv_has ls 5 [(0, .ref (ca t)), (2, .ref (ca p2)), (4, .int x4)]) : W p l e (rmL 2 0 0) s m args below meth c H locs 0 0 Q (F0 m 126 ls []) := by
  have hx := X.hx
  have hb := X.hb
  have hown := X.hown
  have hts := X.hts
  rw [fX2_feedMice_126] at hf
  refine lv_aload_n hx hb dX2_feedMice_126 rfl (lv_at hl 1 rfl) ?_
  refine lv_iconst (v := 0) hx hb dX2_feedMice_127 (by decide) ?_
  refine cr_put (k := 2) X hP hS hkp2 rfl cs19_2 rfl cinX4 tyX4_ok nmX4 (by decide) rfl rfl rfl rfl tw259 dX2_feedMice_128 (fun H locs hP hS => ?_)
  exact kX2_feedMice_131 X hret hkt hf hP hS (lv_sub hl [0, 2] rfl)
set_option maxRecDepth 10000 in
theorem kX2_feedMice_107 {S1 : CS} {t : Nat} {M : CS} {p2 : Nat} {x4 : Int32} {H : Heap} {locs : List Loc} {ls : Array Slot} (X : gX p s m args c cX2_feedMice 5 RX2 (kR kTab kA)) (hret : gRetV p l e (rmL 2 0 0) s m args below meth c cX2_feedMice (cΩ ca) (cP dC dI cg kA ca) Q S1) (hkt : kc t = 11) (hkp2 : kc p2 = 19) (hf : fX2_feedMice_107 t M p2 x4 = some S1) (hP : (cP dC dI cg kA ca) M s H) (hS : va_S (Fr (cΩ ca) s.heap.size) s.heap H locs) (hl : lv_has ls 5 [(0, .ref (ca t)), (2, .ref (ca p2)), (4, .int x4)]) : W p l e (rmL 2 0 0) s m args below meth c H locs 0 0 Q (F0 m 107 ls []) := by
  have hx := X.hx
  have hb := X.hb
  have hown := X.hown
  have hts := X.hts
  rw [fX2_feedMice_107] at hf
  refine lv_aload_n hx hb dX2_feedMice_107 rfl (lv_at hl 0 rfl) ?_
  refine cr_get (k := 1) X hP hkt rfl cv11_1 rfl cinX2 (by decide) rfl tw300 dX2_feedMice_108 ?_
  refine lv_iload hx hb dX2_feedMice_111 (lv_at hl 2 rfl) ?_
  obtain ⟨g1, hf⟩ := gd hf
  refine cr_aald (f := fun i => (t + 2) + 15 + i) X hP (kc_sacks hkt) rfl (fun _ => rfl) rfl g1 dX2_feedMice_113 ?_
  refine lv_dup hx hb dX2_feedMice_114 rfl ?_
  refine cr_get (k := 2) X hP (kc_sack (kc_sacks hkt) g1) rfl cv19_2 rfl cinX4 (by decide) rfl tw259 dX2_feedMice_115 ?_
  refine lv_aload_n hx hb dX2_feedMice_118 rfl (lv_at hl 1 rfl) ?_
  refine cr_get (k := 2) X hP hkp2 rfl cv19_2 rfl cinX4 (by decide) rfl tw259 dX2_feedMice_119 ?_
  refine lv_iadd hx hb dX2_feedMice_122 ?_
  refine cr_put (k := 2) X hP hS (kc_sack (kc_sacks hkt) g1) rfl cs19_2 rfl cinX4 tyX4_ok nmX4 (by decide) rfl rfl rfl rfl tw259 dX2_feedMice_123 (fun H locs hP hS => ?_)
  exact kX2_feedMice_126 X hret hkt hkp2 hf hP hS (lv_sub hl [0, 1, 2] rfl)
set_option maxRecDepth 10000 in
theorem kX2_feedMice_104 {S1 : CS} {t : Nat} {M : CS} {H : Heap} {locs : List Loc} {ls : Array Slot} (X : gX p s m args c cX2_feedMice 5 RX2 (kR kTab kA)) (hret : gRetV p l e (rmL 2 0 0) s m args below meth c cX2_feedMice (cΩ ca) (cP dC dI cg kA ca) Q S1) (hkt : kc t = 11) (hf : fX2_feedMice_104 t M = some S1) (hP : (cP dC dI cg kA ca) M s H) (hS : va_S (Fr (cΩ ca) s.heap.size) s.heap H locs) (hl : lv_has ls 5 [(0, .ref (ca t))]) : W p l e (rmL 2 0 0) s m args below meth c H locs 0 0 Q (F0 m 104 ls []) := by
  have hx := X.hx
  have hb := X.hb
  have hown := X.hown
  have hts := X.hts
  rw [fX2_feedMice_104] at hf
  refine lv_goto (tgt := 159) hx hb dX2_feedMice_104 (by decide) ?_
  exact kX2_feedMice_159 X hret hkt hf hP hS (lv_sub hl [0] rfl)
set_option maxRecDepth 10000 in
theorem kX2_feedMice_91 {S1 : CS} {t : Nat} {M : CS} {p2 : Nat} {H : Heap} {locs : List Loc} {ls : Array Slot} (X : gX p s m args c cX2_feedMice 5 RX2 (kR kTab kA)) (hret : gRetV p l e (rmL 2 0 0) s m args below meth c cX2_feedMice (cΩ ca) (cP dC dI cg kA ca) Q S1) (hkt : kc t = 11) (hkp2 : kc p2 = 19) (hf : fX2_feedMice_91 t M p2 = some S1) (hP : (cP dC dI cg kA ca) M s H) (hS : va_S (Fr (cΩ ca) s.heap.size) s.heap H locs) (hl : lv_has ls 5 [(0, .ref (ca t)), (2, .ref (ca p2))]) : W p l e (rmL 2 0 0) s m args below meth c H locs 0 0 Q (F0 m 91 ls []) := by
  have hx := X.hx
  have hb := X.hb
  have hown := X.hown
  have hts := X.hts
  rw [fX2_feedMice_91] at hf
  refine lv_aload_n hx hb dX2_feedMice_91 rfl (lv_at hl 0 rfl) ?_
  refine lv_aload_n hx hb dX2_feedMice_92 rfl (lv_at hl 1 rfl) ?_
  refine lv_aload_n hx hb dX2_feedMice_93 rfl (lv_at hl 1 rfl) ?_
  refine cr_get (k := 2) X hP hkp2 rfl cv19_2 rfl cinX4 (by decide) rfl tw259 dX2_feedMice_94 ?_
  refine lv_iconst (v := 1) hx hb dX2_feedMice_97 (by decide) ?_
  refine lv_iadd hx hb dX2_feedMice_98 ?_
  refine lv_iconst (v := 2) hx hb dX2_feedMice_99 (by decide) ?_
  refine lv_idiv hx hb dX2_feedMice_100 (by decide) ?_
  obtain ⟨q, hc, hf⟩ := bd hf
  refine gCallVV X cOK rfl (vX2_starve hkt hkp2 hc) gRX2_X2_starve hdX2_starve rfl ⟨by decide, by decide⟩ hP hS (cr_rec hP hkt rfl cw11 rfl) hl.1 (Nat.le_of_ble_eq_true rfl) ⟨Nat.zero_le _, Nat.zero_le _⟩ dX2_feedMice_101 (As := [.ref (ca p2), .int (((M.1 p2 2) + 1) / 2)]) (rest := []) rfl (fun H locs hP hS => ?_)
  exact kX2_feedMice_104 X hret hkt hf hP hS (lv_sub hl [0] rfl)
set_option maxRecDepth 10000 in
theorem kX2_feedMice_83 {S1 : CS} {t : Nat} {M : CS} {p2 : Nat} {s0 : Int32} {H : Heap} {locs : List Loc} {ls : Array Slot} (X : gX p s m args c cX2_feedMice 5 RX2 (kR kTab kA)) (hret : gRetV p l e (rmL 2 0 0) s m args below meth c cX2_feedMice (cΩ ca) (cP dC dI cg kA ca) Q S1) (hkt : kc t = 11) (hkp2 : kc p2 = 19) (hf : fX2_feedMice_83 t M p2 s0 = some S1) (hP : (cP dC dI cg kA ca) M s H) (hS : va_S (Fr (cΩ ca) s.heap.size) s.heap H locs) (hl : lv_has ls 5 [(0, .ref (ca t)), (2, .ref (ca p2))]) : W p l e (rmL 2 0 0) s m args below meth c H locs 0 0 Q (F0 m 83 ls [.int s0]) := by
  have hx := X.hx
  have hb := X.hb
  have hown := X.hown
  have hts := X.hts
  rw [fX2_feedMice_83] at hf
  refine lv_istore (lv' := [(4, .int s0), (0, .ref (ca t)), (2, .ref (ca p2))]) hx hb dX2_feedMice_83 hl (by decide) rfl (fun ls hl => ?_)
  refine lv_iload hx hb dX2_feedMice_85 (lv_at hl 0 rfl) ?_
  refine lv_iconst (v := (-1)) hx hb dX2_feedMice_87 (by decide) ?_
  refine lv_icmp_ne (tgt := 107) hx hb dX2_feedMice_88 (by decide) (fun c1 => ?_) (fun c1 => ?_)
  · exact kX2_feedMice_107 X hret hkt hkp2 (ifn c1 hf) hP hS (lv_sub hl [1, 2, 0] rfl)
  · exact kX2_feedMice_91 X hret hkt hkp2 (ifp c1 hf) hP hS (lv_sub hl [1, 2] rfl)
set_option maxRecDepth 10000 in
theorem kX2_feedMice_82 {S1 : CS} {t : Nat} {M : CS} {p2 : Nat} {H : Heap} {locs : List Loc} {ls : Array Slot} (X : gX p s m args c cX2_feedMice 5 RX2 (kR kTab kA)) (hret : gRetV p l e (rmL 2 0 0) s m args below meth c cX2_feedMice (cΩ ca) (cP dC dI cg kA ca) Q S1) (hkt : kc t = 11) (hkp2 : kc p2 = 19) (hf : fX2_feedMice_82 t M p2 = some S1) (hP : (cP dC dI cg kA ca) M s H) (hS : va_S (Fr (cΩ ca) s.heap.size) s.heap H locs) (hl : lv_has ls 5 [(0, .ref (ca t)), (2, .ref (ca p2))]) : W p l e (rmL 2 0 0) s m args below meth c H locs 0 0 Q (F0 m 82 ls []) := by
  have hx := X.hx
  have hb := X.hb
  have hown := X.hown
  have hts := X.hts
  rw [fX2_feedMice_82] at hf
  refine lv_iconst (v := (-1)) hx hb dX2_feedMice_82 (by decide) ?_
  exact kX2_feedMice_83 X hret hkt hkp2 hf hP hS (lv_sub hl [0, 1] rfl)
set_option maxRecDepth 10000 in
theorem kX2_feedMice_79 {S1 : CS} {t : Nat} {M : CS} {p2 : Nat} {s0 : Int32} {H : Heap} {locs : List Loc} {ls : Array Slot} (X : gX p s m args c cX2_feedMice 5 RX2 (kR kTab kA)) (hret : gRetV p l e (rmL 2 0 0) s m args below meth c cX2_feedMice (cΩ ca) (cP dC dI cg kA ca) Q S1) (hkt : kc t = 11) (hkp2 : kc p2 = 19) (hf : fX2_feedMice_79 t M p2 s0 = some S1) (hP : (cP dC dI cg kA ca) M s H) (hS : va_S (Fr (cΩ ca) s.heap.size) s.heap H locs) (hl : lv_has ls 5 [(0, .ref (ca t)), (2, .ref (ca p2))]) : W p l e (rmL 2 0 0) s m args below meth c H locs 0 0 Q (F0 m 79 ls [.int s0]) := by
  have hx := X.hx
  have hb := X.hb
  have hown := X.hown
  have hts := X.hts
  rw [fX2_feedMice_79] at hf
  refine lv_goto (tgt := 83) hx hb dX2_feedMice_79 (by decide) ?_
  exact kX2_feedMice_83 X hret hkt hkp2 hf hP hS (lv_sub hl [0, 1] rfl)
set_option maxRecDepth 10000 in
theorem kX2_feedMice_74 {S1 : CS} {t : Nat} {M : CS} {p2 : Nat} {x1 : Int32} {H : Heap} {locs : List Loc} {ls : Array Slot} (X : gX p s m args c cX2_feedMice 5 RX2 (kR kTab kA)) (hret : gRetV p l e (rmL 2 0 0) s m args below meth c cX2_feedMice (cΩ ca) (cP dC dI cg kA ca) Q S1) (hkt : kc t = 11) (hkp2 : kc p2 = 19) (hf : fX2_feedMice_74 t M p2 x1 = some S1) (hP : (cP dC dI cg kA ca) M s H) (hS : va_S (Fr (cΩ ca) s.heap.size) s.heap H locs) (hl : lv_has ls 5 [(0, .ref (ca t)), (1, .int x1), (2, .ref (ca p2))]) : W p l e (rmL 2 0 0) s m args below meth c H locs 0 0 Q (F0 m 74 ls []) := by
  have hx := X.hx
  have hb := X.hb
  have hown := X.hown
  have hts := X.hts
  rw [fX2_feedMice_74] at hf
  refine lv_aload_n hx hb dX2_feedMice_74 rfl (lv_at hl 0 rfl) ?_
  refine lv_iload_n hx hb dX2_feedMice_75 rfl (lv_at hl 1 rfl) ?_
  obtain ⟨q, hc, hf⟩ := bd hf
  refine gCallVR X rfl (vX2_nextOpenSack hkt hc) gRX2_X2_nextOpenSack hdX2_nextOpenSack rfl ⟨by decide, by decide⟩ (gB_blind cOK) (gB_at cOK X hP) (cr_rec hP hkt rfl cw11 rfl) hl.1 (Nat.le_of_ble_eq_true rfl) ⟨Nat.zero_le _, Nat.zero_le _⟩ dX2_feedMice_76 (As := [.int x1]) (rest := []) rfl ?_
  exact kX2_feedMice_79 X hret hkt hkp2 hf hP hS (lv_sub hl [0, 2] rfl)
set_option maxRecDepth 10000 in
theorem kX2_feedMice_67 {S1 : CS} {t : Nat} {M : CS} {p2 : Nat} {x1 : Int32} {H : Heap} {locs : List Loc} {ls : Array Slot} (X : gX p s m args c cX2_feedMice 5 RX2 (kR kTab kA)) (hret : gRetV p l e (rmL 2 0 0) s m args below meth c cX2_feedMice (cΩ ca) (cP dC dI cg kA ca) Q S1) (hkt : kc t = 11) (hkp2 : kc p2 = 19) (hf : fX2_feedMice_67 t M p2 x1 = some S1) (hP : (cP dC dI cg kA ca) M s H) (hS : va_S (Fr (cΩ ca) s.heap.size) s.heap H locs) (hl : lv_has ls 5 [(0, .ref (ca t)), (1, .int x1), (2, .ref (ca p2))]) : W p l e (rmL 2 0 0) s m args below meth c H locs 0 0 Q (F0 m 67 ls []) := by
  have hx := X.hx
  have hb := X.hb
  have hown := X.hown
  have hts := X.hts
  rw [fX2_feedMice_67] at hf
  refine lv_aload_n hx hb dX2_feedMice_67 rfl (lv_at hl 2 rfl) ?_
  refine cr_get (k := 3) X hP hkp2 rfl cv19_3 rfl cinX4 (by decide) rfl tw263 dX2_feedMice_68 ?_
  refine lv_if_eq (tgt := 82) hx hb dX2_feedMice_71 (by decide) (fun c1 => ?_) (fun c1 => ?_)
  · exact kX2_feedMice_82 X hret hkt hkp2 (ifp c1 hf) hP hS (lv_sub hl [0, 2] rfl)
  · exact kX2_feedMice_74 X hret hkt hkp2 (ifn c1 hf) hP hS (lv_sub hl [0, 1, 2] rfl)
set_option maxRecDepth 10000 in
theorem kX2_feedMice_59 {S1 : CS} {t : Nat} {M : CS} {p2 : Nat} {x1 : Int32} {H : Heap} {locs : List Loc} {ls : Array Slot} (X : gX p s m args c cX2_feedMice 5 RX2 (kR kTab kA)) (hret : gRetV p l e (rmL 2 0 0) s m args below meth c cX2_feedMice (cΩ ca) (cP dC dI cg kA ca) Q S1) (hkt : kc t = 11) (hkp2 : kc p2 = 19) (hf : fX2_feedMice_59 t M p2 x1 = some S1) (hP : (cP dC dI cg kA ca) M s H) (hS : va_S (Fr (cΩ ca) s.heap.size) s.heap H locs) (hl : lv_has ls 5 [(0, .ref (ca t)), (1, .int x1), (2, .ref (ca p2))]) : W p l e (rmL 2 0 0) s m args below meth c H locs 0 0 Q (F0 m 59 ls []) := by
  have hx := X.hx
  have hb := X.hb
  have hown := X.hown
  have hts := X.hts
  rw [fX2_feedMice_59] at hf
  refine lv_aload_n hx hb dX2_feedMice_59 rfl (lv_at hl 2 rfl) ?_
  refine cr_get (k := 1) X hP hkp2 rfl cv19_1 rfl cinX4 (by decide) rfl tw256 dX2_feedMice_60 ?_
  refine lv_if_le (tgt := 67) hx hb dX2_feedMice_63 (by decide) (fun c1 => ?_) (fun c1 => ?_)
  · exact kX2_feedMice_67 X hret hkt hkp2 (ifp c1 hf) hP hS (lv_sub hl [0, 1, 2] rfl)
  · exact kX2_feedMice_66 X hret hkt (ifn c1 hf) hP hS (lv_sub hl [0] rfl)
set_option maxRecDepth 10000 in
theorem kX2_feedMice_52 {S1 : CS} {t : Nat} {M : CS} {p2 : Nat} {x1 : Int32} {H : Heap} {locs : List Loc} {ls : Array Slot} (X : gX p s m args c cX2_feedMice 5 RX2 (kR kTab kA)) (hret : gRetV p l e (rmL 2 0 0) s m args below meth c cX2_feedMice (cΩ ca) (cP dC dI cg kA ca) Q S1) (hkt : kc t = 11) (hkp2 : kc p2 = 19) (hf : fX2_feedMice_52 t M p2 x1 = some S1) (hP : (cP dC dI cg kA ca) M s H) (hS : va_S (Fr (cΩ ca) s.heap.size) s.heap H locs) (hl : lv_has ls 5 [(0, .ref (ca t)), (1, .int x1), (2, .ref (ca p2))]) : W p l e (rmL 2 0 0) s m args below meth c H locs 0 0 Q (F0 m 52 ls []) := by
  have hx := X.hx
  have hb := X.hb
  have hown := X.hown
  have hts := X.hts
  rw [fX2_feedMice_52] at hf
  refine lv_aload_n hx hb dX2_feedMice_52 rfl (lv_at hl 2 rfl) ?_
  refine cr_get (k := 2) X hP hkp2 rfl cv19_2 rfl cinX4 (by decide) rfl tw259 dX2_feedMice_53 ?_
  refine lv_if_eq (tgt := 66) hx hb dX2_feedMice_56 (by decide) (fun c1 => ?_) (fun c1 => ?_)
  · exact kX2_feedMice_66 X hret hkt (ifp c1 hf) hP hS (lv_sub hl [0] rfl)
  · exact kX2_feedMice_59 X hret hkt hkp2 (ifn c1 hf) hP hS (lv_sub hl [0, 1, 2] rfl)
set_option maxRecDepth 10000 in
theorem kX2_feedMice_39 {S1 : CS} {t : Nat} {M : CS} {p2 : Nat} {x1 : Int32} {x3 : Int32} {H : Heap} {locs : List Loc} {ls : Array Slot} (X : gX p s m args c cX2_feedMice 5 RX2 (kR kTab kA)) (hret : gRetV p l e (rmL 2 0 0) s m args below meth c cX2_feedMice (cΩ ca) (cP dC dI cg kA ca) Q S1) (hkt : kc t = 11) (hkp2 : kc p2 = 19) (hf : fX2_feedMice_39 t M p2 x1 x3 = some S1) (hP : (cP dC dI cg kA ca) M s H) (hS : va_S (Fr (cΩ ca) s.heap.size) s.heap H locs) (hl : lv_has ls 5 [(0, .ref (ca t)), (1, .int x1), (2, .ref (ca p2)), (3, .int x3)]) : W p l e (rmL 2 0 0) s m args below meth c H locs 0 0 Q (F0 m 39 ls []) := by
  have hx := X.hx
  have hb := X.hb
  have hown := X.hown
  have hts := X.hts
  rw [fX2_feedMice_39] at hf
  refine lv_aload_n hx hb dX2_feedMice_39 rfl (lv_at hl 0 rfl) ?_
  refine cr_get (k := 4) X hP hkt rfl cv11_4 rfl cinX2 (by decide) rfl tw306 dX2_feedMice_40 ?_
  refine lv_dup hx hb dX2_feedMice_43 rfl ?_
  refine cr_get (k := 1) X hP (kc_totals hkt) rfl cv17_1 rfl cinX9 (by decide) rfl tw174 dX2_feedMice_44 ?_
  refine lv_iload_n hx hb dX2_feedMice_47 rfl (lv_at hl 3 rfl) ?_
  refine lv_iadd hx hb dX2_feedMice_48 ?_
  refine cr_put (k := 1) X hP hS (kc_totals hkt) rfl cs17_1 rfl cinX9 tyX9_ok nmX9 (by decide) rfl rfl rfl rfl tw174 dX2_feedMice_49 (fun H locs hP hS => ?_)
  exact kX2_feedMice_52 X hret hkt hkp2 hf hP hS (lv_sub hl [0, 1, 2] rfl)
set_option maxRecDepth 10000 in
theorem kX2_feedMice_29 {S1 : CS} {t : Nat} {M : CS} {p2 : Nat} {x1 : Int32} {x3 : Int32} {H : Heap} {locs : List Loc} {ls : Array Slot} (X : gX p s m args c cX2_feedMice 5 RX2 (kR kTab kA)) (hret : gRetV p l e (rmL 2 0 0) s m args below meth c cX2_feedMice (cΩ ca) (cP dC dI cg kA ca) Q S1) (hkt : kc t = 11) (hkp2 : kc p2 = 19) (hf : fX2_feedMice_29 t M p2 x1 x3 = some S1) (hP : (cP dC dI cg kA ca) M s H) (hS : va_S (Fr (cΩ ca) s.heap.size) s.heap H locs) (hl : lv_has ls 5 [(0, .ref (ca t)), (1, .int x1), (2, .ref (ca p2)), (3, .int x3)]) : W p l e (rmL 2 0 0) s m args below meth c H locs 0 0 Q (F0 m 29 ls []) := by
  have hx := X.hx
  have hb := X.hb
  have hown := X.hown
  have hts := X.hts
  rw [fX2_feedMice_29] at hf
  refine lv_aload_n hx hb dX2_feedMice_29 rfl (lv_at hl 2 rfl) ?_
  refine lv_dup hx hb dX2_feedMice_30 rfl ?_
  refine cr_get (k := 4) X hP hkp2 rfl cv19_4 rfl cinX4 (by decide) rfl tw268 dX2_feedMice_31 ?_
  refine lv_iload_n hx hb dX2_feedMice_34 rfl (lv_at hl 3 rfl) ?_
  refine lv_iadd hx hb dX2_feedMice_35 ?_
  refine cr_put (k := 4) X hP hS hkp2 rfl cs19_4 rfl cinX4 tyX4_ok nmX4 (by decide) rfl rfl rfl rfl tw268 dX2_feedMice_36 (fun H locs hP hS => ?_)
  exact kX2_feedMice_39 X hret hkt hkp2 hf hP hS (lv_sub hl [0, 1, 2, 3] rfl)
set_option maxRecDepth 10000 in
theorem kX2_feedMice_0 {S1 : CS} {t : Nat} {M : CS} {a1 : Int32} {H : Heap} {locs : List Loc} {ls : Array Slot} (X : gX p s m args c cX2_feedMice 5 RX2 (kR kTab kA)) (hret : gRetV p l e (rmL 2 0 0) s m args below meth c cX2_feedMice (cΩ ca) (cP dC dI cg kA ca) Q S1) (hkt : kc t = 11) (hf : fX2_feedMice_0 t M a1 = some S1) (hP : (cP dC dI cg kA ca) M s H) (hS : va_S (Fr (cΩ ca) s.heap.size) s.heap H locs) (hl : lv_has ls 5 [(0, .ref (ca t)), (1, .int a1)]) : W p l e (rmL 2 0 0) s m args below meth c H locs 0 0 Q (F0 m 0 ls []) := by
  have hx := X.hx
  have hb := X.hb
  have hown := X.hown
  have hts := X.hts
  rw [fX2_feedMice_0] at hf
  refine lv_aload_n hx hb dX2_feedMice_0 rfl (lv_at hl 0 rfl) ?_
  refine cr_get (k := 1) X hP hkt rfl cv11_1 rfl cinX2 (by decide) rfl tw300 dX2_feedMice_1 ?_
  refine lv_iload_n hx hb dX2_feedMice_4 rfl (lv_at hl 1 rfl) ?_
  obtain ⟨g1, hf⟩ := gd hf
  refine cr_aald (f := fun i => (t + 2) + 15 + i) X hP (kc_sacks hkt) rfl (fun _ => rfl) rfl g1 dX2_feedMice_5 ?_
  refine lv_astore_n (lv' := [(2, .ref (ca ((t + 2) + 15 + a1.toNatClampNeg))), (0, .ref (ca t)), (1, .int a1)]) hx hb dX2_feedMice_6 rfl hl (by decide) rfl (fun ls hl => ?_)
  refine lv_aload_n hx hb dX2_feedMice_7 rfl (lv_at hl 0 rfl) ?_
  refine cr_get (k := 2) X hP (kc_sack (kc_sacks hkt) g1) rfl cv19_2 rfl cinX4 (by decide) rfl tw259 dX2_feedMice_8 ?_
  refine lv_aload_n hx hb dX2_feedMice_11 rfl (lv_at hl 0 rfl) ?_
  refine cr_get (k := 1) X hP (kc_sack (kc_sacks hkt) g1) rfl cv19_1 rfl cinX4 (by decide) rfl tw256 dX2_feedMice_12 ?_
  refine gMin X rfl tw1289 tw553 tw19 tw554 (by decide) hl.1 (Nat.le_of_ble_eq_true rfl) ⟨Nat.zero_le _, Nat.zero_le _⟩ dX2_feedMice_15 ?_
  refine lv_istore_n (lv' := [(3, .int (if (M.1 ((t + 2) + 15 + a1.toNatClampNeg) 1) < (M.1 ((t + 2) + 15 + a1.toNatClampNeg) 2) then (M.1 ((t + 2) + 15 + a1.toNatClampNeg) 1) else (M.1 ((t + 2) + 15 + a1.toNatClampNeg) 2))), (2, .ref (ca ((t + 2) + 15 + a1.toNatClampNeg))), (0, .ref (ca t)), (1, .int a1)]) hx hb dX2_feedMice_18 rfl hl (by decide) rfl (fun ls hl => ?_)
  refine lv_aload_n hx hb dX2_feedMice_19 rfl (lv_at hl 1 rfl) ?_
  refine lv_dup hx hb dX2_feedMice_20 rfl ?_
  refine cr_get (k := 1) X hP (kc_sack (kc_sacks hkt) g1) rfl cv19_1 rfl cinX4 (by decide) rfl tw256 dX2_feedMice_21 ?_
  refine lv_iload_n hx hb dX2_feedMice_24 rfl (lv_at hl 0 rfl) ?_
  refine lv_isub hx hb dX2_feedMice_25 ?_
  refine cr_put (k := 1) X hP hS (kc_sack (kc_sacks hkt) g1) rfl cs19_1 rfl cinX4 tyX4_ok nmX4 (by decide) rfl rfl rfl rfl tw256 dX2_feedMice_26 (fun H locs hP hS => ?_)
  exact kX2_feedMice_29 X hret hkt (kc_sack (kc_sacks hkt) g1) hf hP hS (lv_sub hl [2, 3, 1, 0] rfl)
theorem vX2_feedMice {l : Launch} {dC : Nat → ClassId} {dI : Nat → Nat → Nat} {cg : Nat → ClassId} {kA : String → Nat → Nat} {ca : Nat → Nat} {M S1 : CS} {t : Nat} {a1 : Int32} (hkt : kc t = 11) (hf : fX2_feedMice M t a1 = some S1) : gMetV l yX2_feedMice cX2_feedMice 5 2 (cΩ ca) (cP dC dI cg kA ca) (kR kTab kA) [.ref (ca t), .int a1] M S1 := gEntryV (by decide) cOK (Nat.le_of_ble_eq_true rfl) (fun p e s m args below meth c Q ls X hP hS hret hl => 
  kX2_feedMice_0 X hret hkt hf hP hS (lv_sub hl [0, 1] rfl))
set_option maxRecDepth 10000 in
theorem kX2_growMice_71 {S1 : CS} {t : Nat} {M : CS} {H : Heap} {locs : List Loc} {ls : Array Slot} (X : gX p s m args c cX2_growMice 3 RX2 (kR kTab kA)) (hret : gRetV p l e (rmL 2 0 0) s m args below meth c cX2_growMice (cΩ ca) (cP dC dI cg kA ca) Q S1) (hkt : kc t = 11) (hf : fX2_growMice_71 t M = some S1) (hP : (cP dC dI cg kA ca) M s H) (hS : va_S (Fr (cΩ ca) s.heap.size) s.heap H locs) (hl : lv_has ls 3 [(0, .ref (ca t))]) : W p l e (rmL 2 0 0) s m args below meth c H locs 0 0 Q (F0 m 71 ls []) := by
  have hx := X.hx
  have hb := X.hb
  have hown := X.hown
  have hts := X.hts
  rw [fX2_growMice_71] at hf
  cases hf
  exact hret _ _ _ _ dX2_growMice_71 hP hS
set_option maxRecDepth 10000 in
theorem kX2_growMice_65 {S1 : CS} {t : Nat} {K2 : CS → Int32 → Option (CS)} {M : CS} {x1 : Int32} {H : Heap} {locs : List Loc} {ls : Array Slot} (X : gX p s m args c cX2_growMice 3 RX2 (kR kTab kA)) (hret : gRetV p l e (rmL 2 0 0) s m args below meth c cX2_growMice (cΩ ca) (cP dC dI cg kA ca) Q S1) (hkt : kc t = 11) (hK2 : ∀ (M : CS) (x1 : Int32) (H : Heap) (locs : List Loc) (ls : Array Slot), K2 M x1 = some S1 → (cP dC dI cg kA ca) M s H → va_S (Fr (cΩ ca) s.heap.size) s.heap H locs → lv_has ls 3 [(0, .ref (ca t)), (1, .int x1)] → W p l e (rmL 2 0 0) s m args below meth c H locs 0 0 Q (F0 m 2 ls [])) (hf : fX2_growMice_65 t K2 M x1 = some S1) (hP : (cP dC dI cg kA ca) M s H) (hS : va_S (Fr (cΩ ca) s.heap.size) s.heap H locs) (hl : lv_has ls 3 [(0, .ref (ca t)), (1, .int x1)]) : W p l e (rmL 2 0 0) s m args below meth c H locs 0 0 Q (F0 m 65 ls []) := by
  have hx := X.hx
  have hb := X.hb
  have hown := X.hown
  have hts := X.hts
  rw [fX2_growMice_65] at hf
  refine lv_iinc (v := (x1 + 1)) (lv' := [(1, .int (x1 + 1)), (0, .ref (ca t))]) hx hb dX2_growMice_65 hl (k := 1) rfl (by rfl) (by decide) rfl (fun ls hl => ?_)
  refine lv_goto (tgt := 2) hx hb dX2_growMice_68 (by decide) ?_
  exact hK2 _ _ _ _ _ hf hP hS (lv_sub hl [1, 0] rfl)
set_option maxRecDepth 10000 in
theorem kX2_growMice_52 {S1 : CS} {t : Nat} {K2 : CS → Int32 → Option (CS)} {M : CS} {x1 : Int32} {x2 : Int32} {H : Heap} {locs : List Loc} {ls : Array Slot} (X : gX p s m args c cX2_growMice 3 RX2 (kR kTab kA)) (hret : gRetV p l e (rmL 2 0 0) s m args below meth c cX2_growMice (cΩ ca) (cP dC dI cg kA ca) Q S1) (hkt : kc t = 11) (hK2 : ∀ (M : CS) (x1 : Int32) (H : Heap) (locs : List Loc) (ls : Array Slot), K2 M x1 = some S1 → (cP dC dI cg kA ca) M s H → va_S (Fr (cΩ ca) s.heap.size) s.heap H locs → lv_has ls 3 [(0, .ref (ca t)), (1, .int x1)] → W p l e (rmL 2 0 0) s m args below meth c H locs 0 0 Q (F0 m 2 ls [])) (hf : fX2_growMice_52 t K2 M x1 x2 = some S1) (hP : (cP dC dI cg kA ca) M s H) (hS : va_S (Fr (cΩ ca) s.heap.size) s.heap H locs) (hl : lv_has ls 3 [(0, .ref (ca t)), (1, .int x1), (2, .int x2)]) : W p l e (rmL 2 0 0) s m args below meth c H locs 0 0 Q (F0 m 52 ls []) := by
  have hx := X.hx
  have hb := X.hb
  have hown := X.hown
  have hts := X.hts
  rw [fX2_growMice_52] at hf
  refine lv_aload_n hx hb dX2_growMice_52 rfl (lv_at hl 0 rfl) ?_
  refine cr_get (k := 4) X hP hkt rfl cv11_4 rfl cinX2 (by decide) rfl tw306 dX2_growMice_53 ?_
  refine lv_dup hx hb dX2_growMice_56 rfl ?_
  refine cr_get (k := 2) X hP (kc_totals hkt) rfl cv17_2 rfl cinX9 (by decide) rfl tw177 dX2_growMice_57 ?_
  refine lv_iload_n hx hb dX2_growMice_60 rfl (lv_at hl 2 rfl) ?_
  refine lv_iadd hx hb dX2_growMice_61 ?_
  refine cr_put (k := 2) X hP hS (kc_totals hkt) rfl cs17_2 rfl cinX9 tyX9_ok nmX9 (by decide) rfl rfl rfl rfl tw177 dX2_growMice_62 (fun H locs hP hS => ?_)
  exact kX2_growMice_65 X hret hkt hK2 hf hP hS (lv_sub hl [0, 1] rfl)
set_option maxRecDepth 10000 in
theorem kX2_growMice_10 {S1 : CS} {t : Nat} {K2 : CS → Int32 → Option (CS)} {M : CS} {x1 : Int32} {H : Heap} {locs : List Loc} {ls : Array Slot} (X : gX p s m args c cX2_growMice 3 RX2 (kR kTab kA)) (hret : gRetV p l e (rmL 2 0 0) s m args below meth c cX2_growMice (cΩ ca) (cP dC dI cg kA ca) Q S1) (hkt : kc t = 11) (hK2 : ∀ (M : CS) (x1 : Int32) (H : Heap) (locs : List Loc) (ls : Array Slot), K2 M x1 = some S1 → (cP dC dI cg kA ca) M s H → va_S (Fr (cΩ ca) s.heap.size) s.heap H locs → lv_has ls 3 [(0, .ref (ca t)), (1, .int x1)] → W p l e (rmL 2 0 0) s m args below meth c H locs 0 0 Q (F0 m 2 ls [])) (hf : fX2_growMice_10 t K2 M x1 = some S1) (hP : (cP dC dI cg kA ca) M s H) (hS : va_S (Fr (cΩ ca) s.heap.size) s.heap H locs) (hl : lv_has ls 3 [(0, .ref (ca t)), (1, .int x1)]) : W p l e (rmL 2 0 0) s m args below meth c H locs 0 0 Q (F0 m 10 ls []) := by
  have hx := X.hx
  have hb := X.hb
  have hown := X.hown
  have hts := X.hts
  rw [fX2_growMice_10] at hf
  refine lv_aload_n hx hb dX2_growMice_10 rfl (lv_at hl 0 rfl) ?_
  refine cr_get (k := 1) X hP hkt rfl cv11_1 rfl cinX2 (by decide) rfl tw300 dX2_growMice_11 ?_
  refine lv_iload_n hx hb dX2_growMice_14 rfl (lv_at hl 1 rfl) ?_
  obtain ⟨g1, hf⟩ := gd hf
  refine cr_aald (f := fun i => (t + 2) + 15 + i) X hP (kc_sacks hkt) rfl (fun _ => rfl) rfl g1 dX2_growMice_15 ?_
  refine cr_get (k := 2) X hP (kc_sack (kc_sacks hkt) g1) rfl cv19_2 rfl cinX4 (by decide) rfl tw259 dX2_growMice_16 ?_
  refine lv_iconst (v := 2) hx hb dX2_growMice_19 (by decide) ?_
  refine lv_idiv hx hb dX2_growMice_20 (by decide) ?_
  refine lv_bipush (v := 99) hx hb dX2_growMice_21 (by decide) ?_
  refine lv_aload_n hx hb dX2_growMice_23 rfl (lv_at hl 0 rfl) ?_
  refine cr_get (k := 1) X hP hkt rfl cv11_1 rfl cinX2 (by decide) rfl tw300 dX2_growMice_24 ?_
  refine lv_iload_n hx hb dX2_growMice_27 rfl (lv_at hl 1 rfl) ?_
  obtain ⟨g2, hf⟩ := gd hf
  refine cr_aald (f := fun i => (t + 2) + 15 + i) X hP (kc_sacks hkt) rfl (fun _ => rfl) rfl g2 dX2_growMice_28 ?_
  refine cr_get (k := 2) X hP (kc_sack (kc_sacks hkt) g2) rfl cv19_2 rfl cinX4 (by decide) rfl tw259 dX2_growMice_29 ?_
  refine lv_isub hx hb dX2_growMice_32 ?_
  refine gMin X rfl tw1289 tw553 tw19 tw554 (by decide) hl.1 (Nat.le_of_ble_eq_true rfl) ⟨Nat.zero_le _, Nat.zero_le _⟩ dX2_growMice_33 ?_
  refine lv_istore_n (lv' := [(2, .int (if (99 - (M.1 ((t + 2) + 15 + x1.toNatClampNeg) 2)) < ((M.1 ((t + 2) + 15 + x1.toNatClampNeg) 2) / 2) then (99 - (M.1 ((t + 2) + 15 + x1.toNatClampNeg) 2)) else ((M.1 ((t + 2) + 15 + x1.toNatClampNeg) 2) / 2))), (0, .ref (ca t)), (1, .int x1)]) hx hb dX2_growMice_36 rfl hl (by decide) rfl (fun ls hl => ?_)
  refine lv_aload_n hx hb dX2_growMice_37 rfl (lv_at hl 1 rfl) ?_
  refine cr_get (k := 1) X hP hkt rfl cv11_1 rfl cinX2 (by decide) rfl tw300 dX2_growMice_38 ?_
  refine lv_iload_n hx hb dX2_growMice_41 rfl (lv_at hl 2 rfl) ?_
  obtain ⟨g3, hf⟩ := gd hf
  refine cr_aald (f := fun i => (t + 2) + 15 + i) X hP (kc_sacks hkt) rfl (fun _ => rfl) rfl g3 dX2_growMice_42 ?_
  refine lv_dup hx hb dX2_growMice_43 rfl ?_
  refine cr_get (k := 2) X hP (kc_sack (kc_sacks hkt) g3) rfl cv19_2 rfl cinX4 (by decide) rfl tw259 dX2_growMice_44 ?_
  refine lv_iload_n hx hb dX2_growMice_47 rfl (lv_at hl 0 rfl) ?_
  refine lv_iadd hx hb dX2_growMice_48 ?_
  refine cr_put (k := 2) X hP hS (kc_sack (kc_sacks hkt) g3) rfl cs19_2 rfl cinX4 tyX4_ok nmX4 (by decide) rfl rfl rfl rfl tw259 dX2_growMice_49 (fun H locs hP hS => ?_)
  exact kX2_growMice_52 X hret hkt hK2 hf hP hS (lv_sub hl [1, 2, 0] rfl)
set_option maxRecDepth 10000 in
theorem kX2_growMice_2 {S1 : CS} {t : Nat} (X : gX p s m args c cX2_growMice 3 RX2 (kR kTab kA)) (hret : gRetV p l e (rmL 2 0 0) s m args below meth c cX2_growMice (cΩ ca) (cP dC dI cg kA ca) Q S1) (hkt : kc t = 11) : ∀ (n : Nat) (M : CS) (x1 : Int32) (H : Heap) (locs : List Loc) (ls : Array Slot), fX2_growMice_2 t n M x1 = some S1 → (cP dC dI cg kA ca) M s H → va_S (Fr (cΩ ca) s.heap.size) s.heap H locs → lv_has ls 3 [(0, .ref (ca t)), (1, .int x1)] → W p l e (rmL 2 0 0) s m args below meth c H locs 0 0 Q (F0 m 2 ls []) := by
  intro n
  induction n with
  | zero => intro M x1 H locs ls hf; cases hf
  | succ k ih =>
    intro M x1 H locs ls hf hP hS hl
    have hx := X.hx
    have hb := X.hb
    have hown := X.hown
    have hts := X.hts
    rw [fX2_growMice_2] at hf
    try dsimp only at hf
    refine lv_iload_n hx hb dX2_growMice_2 rfl (lv_at hl 1 rfl) ?_
    refine lv_aload_n hx hb dX2_growMice_3 rfl (lv_at hl 0 rfl) ?_
    refine cr_get (k := 6) X hP hkt rfl cv11_6 rfl cinX2 (by decide) rfl tw311 dX2_growMice_4 ?_
    refine lv_icmp_ge (tgt := 71) hx hb dX2_growMice_7 (by decide) (fun c1 => ?_) (fun c1 => ?_)
    · exact kX2_growMice_71 X hret hkt (ifp c1 hf) hP hS (lv_sub hl [0] rfl)
    · exact kX2_growMice_10 X hret hkt ih (ifn c1 hf) hP hS (lv_sub hl [0, 1] rfl)
set_option maxRecDepth 10000 in
theorem kX2_growMice_0 {S1 : CS} {t : Nat} {M : CS} {H : Heap} {locs : List Loc} {ls : Array Slot} (X : gX p s m args c cX2_growMice 3 RX2 (kR kTab kA)) (hret : gRetV p l e (rmL 2 0 0) s m args below meth c cX2_growMice (cΩ ca) (cP dC dI cg kA ca) Q S1) (hkt : kc t = 11) (hf : fX2_growMice_0 t M = some S1) (hP : (cP dC dI cg kA ca) M s H) (hS : va_S (Fr (cΩ ca) s.heap.size) s.heap H locs) (hl : lv_has ls 3 [(0, .ref (ca t))]) : W p l e (rmL 2 0 0) s m args below meth c H locs 0 0 Q (F0 m 0 ls []) := by
  have hx := X.hx
  have hb := X.hb
  have hown := X.hown
  have hts := X.hts
  rw [fX2_growMice_0] at hf
  refine lv_iconst (v := 0) hx hb dX2_growMice_0 (by decide) ?_
  refine lv_istore_n (lv' := [(1, .int 0), (0, .ref (ca t))]) hx hb dX2_growMice_1 rfl hl (by decide) rfl (fun ls hl => ?_)
  exact kX2_growMice_2 X hret hkt FU _ _ _ _ _ hf hP hS (lv_sub hl [1, 0] rfl)
theorem vX2_growMice {l : Launch} {dC : Nat → ClassId} {dI : Nat → Nat → Nat} {cg : Nat → ClassId} {kA : String → Nat → Nat} {ca : Nat → Nat} {M S1 : CS} {t : Nat} (hkt : kc t = 11) (hf : fX2_growMice M t  = some S1) : gMetV l yX2_growMice cX2_growMice 3 2 (cΩ ca) (cP dC dI cg kA ca) (kR kTab kA) [.ref (ca t)] M S1 := gEntryV (by decide) cOK (Nat.le_of_ble_eq_true rfl) (fun p e s m args below meth c Q ls X hP hS hret hl => 
  kX2_growMice_0 X hret hkt hf hP hS (lv_sub hl [0] rfl))
set_option maxRecDepth 10000 in
theorem kX2_miceAddUp_53 {r : Int32} {t : Nat} {M : CS} {s0 : Int32} (X : gX p s m args c cX2_miceAddUp 2 RX2 (kR kTab kA)) (hret : gRetR p l e (rmL 2 0 0) s m args below meth c cX2_miceAddUp Q r) (hkt : kc t = 11) (hf : fX2_miceAddUp_53 t M s0 = some r) {ls : Array Slot} (hP : (cP dC dI cg kA ca) M s s.heap) (hl : lv_has ls 2 [(0, .ref (ca t))]) : W p l e (rmL 2 0 0) s m args below meth c s.heap [] 0 0 Q (F0 m 53 ls [.int s0]) := by
  have hx := X.hx
  have hb := X.hb
  have hown := X.hown
  have hts := X.hts
  rw [fX2_miceAddUp_53] at hf
  cases hf
  exact hret _ _ dX2_miceAddUp_53
set_option maxRecDepth 10000 in
theorem kX2_miceAddUp_52 {r : Int32} {t : Nat} {M : CS} (X : gX p s m args c cX2_miceAddUp 2 RX2 (kR kTab kA)) (hret : gRetR p l e (rmL 2 0 0) s m args below meth c cX2_miceAddUp Q r) (hkt : kc t = 11) (hf : fX2_miceAddUp_52 t M = some r) {ls : Array Slot} (hP : (cP dC dI cg kA ca) M s s.heap) (hl : lv_has ls 2 [(0, .ref (ca t))]) : W p l e (rmL 2 0 0) s m args below meth c s.heap [] 0 0 Q (F0 m 52 ls []) := by
  have hx := X.hx
  have hb := X.hb
  have hown := X.hown
  have hts := X.hts
  rw [fX2_miceAddUp_52] at hf
  refine lv_iconst (v := 0) hx hb dX2_miceAddUp_52 (by decide) ?_
  exact kX2_miceAddUp_53 X hret hkt hf hP (lv_sub hl [0] rfl)
set_option maxRecDepth 10000 in
theorem kX2_miceAddUp_48 {r : Int32} {t : Nat} {M : CS} (X : gX p s m args c cX2_miceAddUp 2 RX2 (kR kTab kA)) (hret : gRetR p l e (rmL 2 0 0) s m args below meth c cX2_miceAddUp Q r) (hkt : kc t = 11) (hf : fX2_miceAddUp_48 t M = some r) {ls : Array Slot} (hP : (cP dC dI cg kA ca) M s s.heap) (hl : lv_has ls 2 [(0, .ref (ca t))]) : W p l e (rmL 2 0 0) s m args below meth c s.heap [] 0 0 Q (F0 m 48 ls []) := by
  have hx := X.hx
  have hb := X.hb
  have hown := X.hown
  have hts := X.hts
  rw [fX2_miceAddUp_48] at hf
  refine lv_iconst (v := 1) hx hb dX2_miceAddUp_48 (by decide) ?_
  refine lv_goto (tgt := 53) hx hb dX2_miceAddUp_49 (by decide) ?_
  exact kX2_miceAddUp_53 X hret hkt hf hP (lv_sub hl [0] rfl)
set_option maxRecDepth 10000 in
theorem kX2_miceAddUp_44 {r : Int32} {t : Nat} {M : CS} {x1 : Int32} {s0 : Int32} (X : gX p s m args c cX2_miceAddUp 2 RX2 (kR kTab kA)) (hret : gRetR p l e (rmL 2 0 0) s m args below meth c cX2_miceAddUp Q r) (hkt : kc t = 11) (hf : fX2_miceAddUp_44 t M x1 s0 = some r) {ls : Array Slot} (hP : (cP dC dI cg kA ca) M s s.heap) (hl : lv_has ls 2 [(0, .ref (ca t)), (1, .int x1)]) : W p l e (rmL 2 0 0) s m args below meth c s.heap [] 0 0 Q (F0 m 44 ls [.int s0]) := by
  have hx := X.hx
  have hb := X.hb
  have hown := X.hown
  have hts := X.hts
  rw [fX2_miceAddUp_44] at hf
  refine lv_iload_n hx hb dX2_miceAddUp_44 rfl (lv_at hl 1 rfl) ?_
  refine lv_icmp_ne (tgt := 52) hx hb dX2_miceAddUp_45 (by decide) (fun c1 => ?_) (fun c1 => ?_)
  · exact kX2_miceAddUp_52 X hret hkt (ifn c1 hf) hP (lv_sub hl [0] rfl)
  · exact kX2_miceAddUp_48 X hret hkt (ifp c1 hf) hP (lv_sub hl [0] rfl)
set_option maxRecDepth 10000 in
theorem kX2_miceAddUp_40 {r : Int32} {t : Nat} {M : CS} {x1 : Int32} (X : gX p s m args c cX2_miceAddUp 2 RX2 (kR kTab kA)) (hret : gRetR p l e (rmL 2 0 0) s m args below meth c cX2_miceAddUp Q r) (hkt : kc t = 11) (hf : fX2_miceAddUp_40 t M x1 = some r) {ls : Array Slot} (hP : (cP dC dI cg kA ca) M s s.heap) (hl : lv_has ls 2 [(0, .ref (ca t)), (1, .int x1)]) : W p l e (rmL 2 0 0) s m args below meth c s.heap [] 0 0 Q (F0 m 40 ls []) := by
  have hx := X.hx
  have hb := X.hb
  have hown := X.hown
  have hts := X.hts
  rw [fX2_miceAddUp_40] at hf
  refine lv_aload_n hx hb dX2_miceAddUp_40 rfl (lv_at hl 0 rfl) ?_
  obtain ⟨q, hc, hf⟩ := bd hf
  refine gCallVR X rfl (vX2_miceOfAllBackwards hkt hc) gRX2_X2_miceOfAllBackwards hdX2_miceOfAllBackwards rfl ⟨by decide, by decide⟩ (gB_blind cOK) (gB_at cOK X hP) (cr_rec hP hkt rfl cw11 rfl) hl.1 (Nat.le_of_ble_eq_true rfl) ⟨Nat.zero_le _, Nat.zero_le _⟩ dX2_miceAddUp_41 (As := []) (rest := []) rfl ?_
  exact kX2_miceAddUp_44 X hret hkt hf hP (lv_sub hl [0, 1] rfl)
set_option maxRecDepth 10000 in
theorem kX2_miceAddUp_36 {r : Int32} {t : Nat} {M : CS} {x1 : Int32} {s0 : Int32} (X : gX p s m args c cX2_miceAddUp 2 RX2 (kR kTab kA)) (hret : gRetR p l e (rmL 2 0 0) s m args below meth c cX2_miceAddUp Q r) (hkt : kc t = 11) (hf : fX2_miceAddUp_36 t M x1 s0 = some r) {ls : Array Slot} (hP : (cP dC dI cg kA ca) M s s.heap) (hl : lv_has ls 2 [(0, .ref (ca t)), (1, .int x1)]) : W p l e (rmL 2 0 0) s m args below meth c s.heap [] 0 0 Q (F0 m 36 ls [.int s0]) := by
  have hx := X.hx
  have hb := X.hb
  have hown := X.hown
  have hts := X.hts
  rw [fX2_miceAddUp_36] at hf
  refine lv_iload_n hx hb dX2_miceAddUp_36 rfl (lv_at hl 1 rfl) ?_
  refine lv_icmp_ne (tgt := 52) hx hb dX2_miceAddUp_37 (by decide) (fun c1 => ?_) (fun c1 => ?_)
  · exact kX2_miceAddUp_52 X hret hkt (ifn c1 hf) hP (lv_sub hl [0] rfl)
  · exact kX2_miceAddUp_40 X hret hkt (ifp c1 hf) hP (lv_sub hl [0, 1] rfl)
set_option maxRecDepth 10000 in
theorem kX2_miceAddUp_0 {r : Int32} {t : Nat} {M : CS} (X : gX p s m args c cX2_miceAddUp 2 RX2 (kR kTab kA)) (hret : gRetR p l e (rmL 2 0 0) s m args below meth c cX2_miceAddUp Q r) (hkt : kc t = 11) (hf : fX2_miceAddUp_0 t M = some r) {ls : Array Slot} (hP : (cP dC dI cg kA ca) M s s.heap) (hl : lv_has ls 2 [(0, .ref (ca t))]) : W p l e (rmL 2 0 0) s m args below meth c s.heap [] 0 0 Q (F0 m 0 ls []) := by
  have hx := X.hx
  have hb := X.hb
  have hown := X.hown
  have hts := X.hts
  rw [fX2_miceAddUp_0] at hf
  refine lv_aload_n hx hb dX2_miceAddUp_0 rfl (lv_at hl 0 rfl) ?_
  refine cr_get (k := 4) X hP hkt rfl cv11_4 rfl cinX2 (by decide) rfl tw306 dX2_miceAddUp_1 ?_
  refine cr_get (k := 6) X hP (kc_totals hkt) rfl cv17_6 rfl cinX9 (by decide) rfl tw189 dX2_miceAddUp_4 ?_
  refine lv_aload_n hx hb dX2_miceAddUp_7 rfl (lv_at hl 0 rfl) ?_
  refine cr_get (k := 4) X hP hkt rfl cv11_4 rfl cinX2 (by decide) rfl tw306 dX2_miceAddUp_8 ?_
  refine cr_get (k := 2) X hP (kc_totals hkt) rfl cv17_2 rfl cinX9 (by decide) rfl tw177 dX2_miceAddUp_11 ?_
  refine lv_iadd hx hb dX2_miceAddUp_14 ?_
  refine lv_aload_n hx hb dX2_miceAddUp_15 rfl (lv_at hl 0 rfl) ?_
  refine cr_get (k := 4) X hP hkt rfl cv11_4 rfl cinX2 (by decide) rfl tw306 dX2_miceAddUp_16 ?_
  refine cr_get (k := 0) X hP (kc_totals hkt) rfl cv17_0 rfl cinX9 (by decide) rfl tw171 dX2_miceAddUp_19 ?_
  refine lv_isub hx hb dX2_miceAddUp_22 ?_
  refine lv_aload_n hx hb dX2_miceAddUp_23 rfl (lv_at hl 0 rfl) ?_
  refine cr_get (k := 4) X hP hkt rfl cv11_4 rfl cinX2 (by decide) rfl tw306 dX2_miceAddUp_24 ?_
  refine cr_get (k := 3) X hP (kc_totals hkt) rfl cv17_3 rfl cinX9 (by decide) rfl tw180 dX2_miceAddUp_27 ?_
  refine lv_isub hx hb dX2_miceAddUp_30 ?_
  refine lv_istore_n (lv' := [(1, .int ((((M.1 (t + 8) 6) + (M.1 (t + 8) 2)) - (M.1 (t + 8) 0)) - (M.1 (t + 8) 3))), (0, .ref (ca t))]) hx hb dX2_miceAddUp_31 rfl hl (by decide) rfl (fun ls hl => ?_)
  refine lv_aload_n hx hb dX2_miceAddUp_32 rfl (lv_at hl 1 rfl) ?_
  obtain ⟨q, hc, hf⟩ := bd hf
  refine gCallVR X rfl (vX2_miceOfAll hkt hc) gRX2_X2_miceOfAll hdX2_miceOfAll rfl ⟨by decide, by decide⟩ (gB_blind cOK) (gB_at cOK X hP) (cr_rec hP hkt rfl cw11 rfl) hl.1 (Nat.le_of_ble_eq_true rfl) ⟨Nat.zero_le _, Nat.zero_le _⟩ dX2_miceAddUp_33 (As := []) (rest := []) rfl ?_
  exact kX2_miceAddUp_36 X hret hkt hf hP (lv_sub hl [1, 0] rfl)
theorem vX2_miceAddUp {l : Launch} {dC : Nat → ClassId} {dI : Nat → Nat → Nat} {cg : Nat → ClassId} {kA : String → Nat → Nat} {ca : Nat → Nat} {M : CS} {r : Int32} {t : Nat} (hkt : kc t = 11) (hf : fX2_miceAddUp M t  = some r) : gMetR l yX2_miceAddUp cX2_miceAddUp 2 (some .boolean) 2 (gB (cP dC dI cg kA ca) (kR kTab kA) M) [.ref (ca t)] r := gEntryR (ty := .boolean) (by decide) rfl (bq_n hf) (Nat.le_of_ble_eq_true rfl) (fun _ h => h.2) (fun p e s m args below meth c Q ls X hB hret hl => 
  kX2_miceAddUp_0 X hret hkt (bq_f hf) hB.1 (lv_sub hl [0] rfl))
set_option maxRecDepth 10000 in
theorem kX2_grainAddsUp_68 {r : Int32} {t : Nat} {M : CS} {s0 : Int32} (X : gX p s m args c cX2_grainAddsUp 3 RX2 (kR kTab kA)) (hret : gRetR p l e (rmL 2 0 0) s m args below meth c cX2_grainAddsUp Q r) (hkt : kc t = 11) (hf : fX2_grainAddsUp_68 t M s0 = some r) {ls : Array Slot} (hP : (cP dC dI cg kA ca) M s s.heap) (hl : lv_has ls 3 [(0, .ref (ca t))]) : W p l e (rmL 2 0 0) s m args below meth c s.heap [] 0 0 Q (F0 m 68 ls [.int s0]) := by
  have hx := X.hx
  have hb := X.hb
  have hown := X.hown
  have hts := X.hts
  rw [fX2_grainAddsUp_68] at hf
  cases hf
  exact hret _ _ dX2_grainAddsUp_68
set_option maxRecDepth 10000 in
theorem kX2_grainAddsUp_67 {r : Int32} {t : Nat} {M : CS} (X : gX p s m args c cX2_grainAddsUp 3 RX2 (kR kTab kA)) (hret : gRetR p l e (rmL 2 0 0) s m args below meth c cX2_grainAddsUp Q r) (hkt : kc t = 11) (hf : fX2_grainAddsUp_67 t M = some r) {ls : Array Slot} (hP : (cP dC dI cg kA ca) M s s.heap) (hl : lv_has ls 3 [(0, .ref (ca t))]) : W p l e (rmL 2 0 0) s m args below meth c s.heap [] 0 0 Q (F0 m 67 ls []) := by
  have hx := X.hx
  have hb := X.hb
  have hown := X.hown
  have hts := X.hts
  rw [fX2_grainAddsUp_67] at hf
  refine lv_iconst (v := 0) hx hb dX2_grainAddsUp_67 (by decide) ?_
  exact kX2_grainAddsUp_68 X hret hkt hf hP (lv_sub hl [0] rfl)
set_option maxRecDepth 10000 in
theorem kX2_grainAddsUp_63 {r : Int32} {t : Nat} {M : CS} (X : gX p s m args c cX2_grainAddsUp 3 RX2 (kR kTab kA)) (hret : gRetR p l e (rmL 2 0 0) s m args below meth c cX2_grainAddsUp Q r) (hkt : kc t = 11) (hf : fX2_grainAddsUp_63 t M = some r) {ls : Array Slot} (hP : (cP dC dI cg kA ca) M s s.heap) (hl : lv_has ls 3 [(0, .ref (ca t))]) : W p l e (rmL 2 0 0) s m args below meth c s.heap [] 0 0 Q (F0 m 63 ls []) := by
  have hx := X.hx
  have hb := X.hb
  have hown := X.hown
  have hts := X.hts
  rw [fX2_grainAddsUp_63] at hf
  refine lv_iconst (v := 1) hx hb dX2_grainAddsUp_63 (by decide) ?_
  refine lv_goto (tgt := 68) hx hb dX2_grainAddsUp_64 (by decide) ?_
  exact kX2_grainAddsUp_68 X hret hkt hf hP (lv_sub hl [0] rfl)
set_option maxRecDepth 10000 in
theorem kX2_grainAddsUp_45 {r : Int32} {t : Nat} {M : CS} {s0 : Int32} (X : gX p s m args c cX2_grainAddsUp 3 RX2 (kR kTab kA)) (hret : gRetR p l e (rmL 2 0 0) s m args below meth c cX2_grainAddsUp Q r) (hkt : kc t = 11) (hf : fX2_grainAddsUp_45 t M s0 = some r) {ls : Array Slot} (hP : (cP dC dI cg kA ca) M s s.heap) (hl : lv_has ls 3 [(0, .ref (ca t))]) : W p l e (rmL 2 0 0) s m args below meth c s.heap [] 0 0 Q (F0 m 45 ls [.int s0]) := by
  have hx := X.hx
  have hb := X.hb
  have hown := X.hown
  have hts := X.hts
  rw [fX2_grainAddsUp_45] at hf
  refine lv_aload_n hx hb dX2_grainAddsUp_45 rfl (lv_at hl 0 rfl) ?_
  refine cr_get (k := 4) X hP hkt rfl cv11_4 rfl cinX2 (by decide) rfl tw306 dX2_grainAddsUp_46 ?_
  refine cr_get (k := 7) X hP (kc_totals hkt) rfl cv17_7 rfl cinX9 (by decide) rfl tw191 dX2_grainAddsUp_49 ?_
  refine lv_aload_n hx hb dX2_grainAddsUp_52 rfl (lv_at hl 0 rfl) ?_
  refine cr_get (k := 4) X hP hkt rfl cv11_4 rfl cinX2 (by decide) rfl tw306 dX2_grainAddsUp_53 ?_
  refine cr_get (k := 1) X hP (kc_totals hkt) rfl cv17_1 rfl cinX9 (by decide) rfl tw174 dX2_grainAddsUp_56 ?_
  refine lv_isub hx hb dX2_grainAddsUp_59 ?_
  refine lv_icmp_ne (tgt := 67) hx hb dX2_grainAddsUp_60 (by decide) (fun c1 => ?_) (fun c1 => ?_)
  · exact kX2_grainAddsUp_67 X hret hkt (ifn c1 hf) hP (lv_sub hl [0] rfl)
  · exact kX2_grainAddsUp_63 X hret hkt (ifp c1 hf) hP (lv_sub hl [0] rfl)
set_option maxRecDepth 10000 in
theorem kX2_grainAddsUp_41 {r : Int32} {t : Nat} {M : CS} (X : gX p s m args c cX2_grainAddsUp 3 RX2 (kR kTab kA)) (hret : gRetR p l e (rmL 2 0 0) s m args below meth c cX2_grainAddsUp Q r) (hkt : kc t = 11) (hf : fX2_grainAddsUp_41 t M = some r) {ls : Array Slot} (hP : (cP dC dI cg kA ca) M s s.heap) (hl : lv_has ls 3 [(0, .ref (ca t))]) : W p l e (rmL 2 0 0) s m args below meth c s.heap [] 0 0 Q (F0 m 41 ls []) := by
  have hx := X.hx
  have hb := X.hb
  have hown := X.hown
  have hts := X.hts
  rw [fX2_grainAddsUp_41] at hf
  refine lv_aload_n hx hb dX2_grainAddsUp_41 rfl (lv_at hl 0 rfl) ?_
  obtain ⟨q, hc, hf⟩ := bd hf
  refine gCallVR X rfl (vX2_grainOfAll hkt hc) gRX2_X2_grainOfAll hdX2_grainOfAll rfl ⟨by decide, by decide⟩ (gB_blind cOK) (gB_at cOK X hP) (cr_rec hP hkt rfl cw11 rfl) hl.1 (Nat.le_of_ble_eq_true rfl) ⟨Nat.zero_le _, Nat.zero_le _⟩ dX2_grainAddsUp_42 (As := []) (rest := []) rfl ?_
  exact kX2_grainAddsUp_45 X hret hkt hf hP (lv_sub hl [0] rfl)
set_option maxRecDepth 10000 in
theorem kX2_grainAddsUp_30 {r : Int32} {t : Nat} {M : CS} {x1 : Int32} (X : gX p s m args c cX2_grainAddsUp 3 RX2 (kR kTab kA)) (hret : gRetR p l e (rmL 2 0 0) s m args below meth c cX2_grainAddsUp Q r) (hkt : kc t = 11) (hf : fX2_grainAddsUp_30 t M x1 = some r) {ls : Array Slot} (hP : (cP dC dI cg kA ca) M s s.heap) (hl : lv_has ls 3 [(0, .ref (ca t)), (1, .int x1)]) : W p l e (rmL 2 0 0) s m args below meth c s.heap [] 0 0 Q (F0 m 30 ls []) := by
  have hx := X.hx
  have hb := X.hb
  have hown := X.hown
  have hts := X.hts
  rw [fX2_grainAddsUp_30] at hf
  refine lv_iload_n hx hb dX2_grainAddsUp_30 rfl (lv_at hl 1 rfl) ?_
  refine lv_aload_n hx hb dX2_grainAddsUp_31 rfl (lv_at hl 0 rfl) ?_
  refine cr_get (k := 4) X hP hkt rfl cv11_4 rfl cinX2 (by decide) rfl tw306 dX2_grainAddsUp_32 ?_
  refine cr_get (k := 1) X hP (kc_totals hkt) rfl cv17_1 rfl cinX9 (by decide) rfl tw174 dX2_grainAddsUp_35 ?_
  refine lv_icmp_ne (tgt := 67) hx hb dX2_grainAddsUp_38 (by decide) (fun c1 => ?_) (fun c1 => ?_)
  · exact kX2_grainAddsUp_67 X hret hkt (ifn c1 hf) hP (lv_sub hl [0] rfl)
  · exact kX2_grainAddsUp_41 X hret hkt (ifp c1 hf) hP (lv_sub hl [0] rfl)
set_option maxRecDepth 10000 in
theorem kX2_grainAddsUp_12 {r : Int32} {t : Nat} {K4 : CS → Int32 → Int32 → Option (Int32)} {M : CS} {x1 : Int32} {x2 : Int32} (X : gX p s m args c cX2_grainAddsUp 3 RX2 (kR kTab kA)) (hret : gRetR p l e (rmL 2 0 0) s m args below meth c cX2_grainAddsUp Q r) (hkt : kc t = 11) (hK4 : ∀ (M : CS) (x1 : Int32) (x2 : Int32) (ls : Array Slot), K4 M x1 x2 = some r → (cP dC dI cg kA ca) M s s.heap → lv_has ls 3 [(0, .ref (ca t)), (1, .int x1), (2, .int x2)] → W p l e (rmL 2 0 0) s m args below meth c s.heap [] 0 0 Q (F0 m 4 ls [])) (hf : fX2_grainAddsUp_12 t K4 M x1 x2 = some r) {ls : Array Slot} (hP : (cP dC dI cg kA ca) M s s.heap) (hl : lv_has ls 3 [(0, .ref (ca t)), (1, .int x1), (2, .int x2)]) : W p l e (rmL 2 0 0) s m args below meth c s.heap [] 0 0 Q (F0 m 12 ls []) := by
  have hx := X.hx
  have hb := X.hb
  have hown := X.hown
  have hts := X.hts
  rw [fX2_grainAddsUp_12] at hf
  refine lv_iload_n hx hb dX2_grainAddsUp_12 rfl (lv_at hl 1 rfl) ?_
  refine lv_aload_n hx hb dX2_grainAddsUp_13 rfl (lv_at hl 0 rfl) ?_
  refine cr_get (k := 1) X hP hkt rfl cv11_1 rfl cinX2 (by decide) rfl tw300 dX2_grainAddsUp_14 ?_
  refine lv_iload_n hx hb dX2_grainAddsUp_17 rfl (lv_at hl 2 rfl) ?_
  obtain ⟨g1, hf⟩ := gd hf
  refine cr_aald (f := fun i => (t + 2) + 15 + i) X hP (kc_sacks hkt) rfl (fun _ => rfl) rfl g1 dX2_grainAddsUp_18 ?_
  refine cr_get (k := 4) X hP (kc_sack (kc_sacks hkt) g1) rfl cv19_4 rfl cinX4 (by decide) rfl tw268 dX2_grainAddsUp_19 ?_
  refine lv_iadd hx hb dX2_grainAddsUp_22 ?_
  refine lv_istore_n (lv' := [(1, .int (x1 + (M.1 ((t + 2) + 15 + x2.toNatClampNeg) 4))), (0, .ref (ca t)), (2, .int x2)]) hx hb dX2_grainAddsUp_23 rfl hl (by decide) rfl (fun ls hl => ?_)
  refine lv_iinc (v := (x2 + 1)) (lv' := [(2, .int (x2 + 1)), (1, .int (x1 + (M.1 ((t + 2) + 15 + x2.toNatClampNeg) 4))), (0, .ref (ca t))]) hx hb dX2_grainAddsUp_24 hl (k := 2) rfl (by rfl) (by decide) rfl (fun ls hl => ?_)
  refine lv_goto (tgt := 4) hx hb dX2_grainAddsUp_27 (by decide) ?_
  exact hK4 _ _ _ _ hf hP (lv_sub hl [2, 1, 0] rfl)
set_option maxRecDepth 10000 in
theorem kX2_grainAddsUp_4 {r : Int32} {t : Nat} (X : gX p s m args c cX2_grainAddsUp 3 RX2 (kR kTab kA)) (hret : gRetR p l e (rmL 2 0 0) s m args below meth c cX2_grainAddsUp Q r) (hkt : kc t = 11) : ∀ (n : Nat) (M : CS) (x1 : Int32) (x2 : Int32) (ls : Array Slot), fX2_grainAddsUp_4 t n M x1 x2 = some r → (cP dC dI cg kA ca) M s s.heap → lv_has ls 3 [(0, .ref (ca t)), (1, .int x1), (2, .int x2)] → W p l e (rmL 2 0 0) s m args below meth c s.heap [] 0 0 Q (F0 m 4 ls []) := by
  intro n
  induction n with
  | zero => intro M x1 x2 ls hf; cases hf
  | succ k ih =>
    intro M x1 x2 ls hf hP hl
    have hx := X.hx
    have hb := X.hb
    have hown := X.hown
    have hts := X.hts
    rw [fX2_grainAddsUp_4] at hf
    try dsimp only at hf
    refine lv_iload_n hx hb dX2_grainAddsUp_4 rfl (lv_at hl 2 rfl) ?_
    refine lv_aload_n hx hb dX2_grainAddsUp_5 rfl (lv_at hl 0 rfl) ?_
    refine cr_get (k := 6) X hP hkt rfl cv11_6 rfl cinX2 (by decide) rfl tw311 dX2_grainAddsUp_6 ?_
    refine lv_icmp_ge (tgt := 30) hx hb dX2_grainAddsUp_9 (by decide) (fun c1 => ?_) (fun c1 => ?_)
    · exact kX2_grainAddsUp_30 X hret hkt (ifp c1 hf) hP (lv_sub hl [0, 1] rfl)
    · exact kX2_grainAddsUp_12 X hret hkt ih (ifn c1 hf) hP (lv_sub hl [0, 1, 2] rfl)
set_option maxRecDepth 10000 in
theorem kX2_grainAddsUp_0 {r : Int32} {t : Nat} {M : CS} (X : gX p s m args c cX2_grainAddsUp 3 RX2 (kR kTab kA)) (hret : gRetR p l e (rmL 2 0 0) s m args below meth c cX2_grainAddsUp Q r) (hkt : kc t = 11) (hf : fX2_grainAddsUp_0 t M = some r) {ls : Array Slot} (hP : (cP dC dI cg kA ca) M s s.heap) (hl : lv_has ls 3 [(0, .ref (ca t))]) : W p l e (rmL 2 0 0) s m args below meth c s.heap [] 0 0 Q (F0 m 0 ls []) := by
  have hx := X.hx
  have hb := X.hb
  have hown := X.hown
  have hts := X.hts
  rw [fX2_grainAddsUp_0] at hf
  refine lv_iconst (v := 0) hx hb dX2_grainAddsUp_0 (by decide) ?_
  refine lv_istore_n (lv' := [(1, .int 0), (0, .ref (ca t))]) hx hb dX2_grainAddsUp_1 rfl hl (by decide) rfl (fun ls hl => ?_)
  refine lv_iconst (v := 0) hx hb dX2_grainAddsUp_2 (by decide) ?_
  refine lv_istore_n (lv' := [(2, .int 0), (1, .int 0), (0, .ref (ca t))]) hx hb dX2_grainAddsUp_3 rfl hl (by decide) rfl (fun ls hl => ?_)
  exact kX2_grainAddsUp_4 X hret hkt FU _ _ _ _ hf hP (lv_sub hl [2, 1, 0] rfl)
theorem vX2_grainAddsUp {l : Launch} {dC : Nat → ClassId} {dI : Nat → Nat → Nat} {cg : Nat → ClassId} {kA : String → Nat → Nat} {ca : Nat → Nat} {M : CS} {r : Int32} {t : Nat} (hkt : kc t = 11) (hf : fX2_grainAddsUp M t  = some r) : gMetR l yX2_grainAddsUp cX2_grainAddsUp 3 (some .boolean) 2 (gB (cP dC dI cg kA ca) (kR kTab kA) M) [.ref (ca t)] r := gEntryR (ty := .boolean) (by decide) rfl (bq_n hf) (Nat.le_of_ble_eq_true rfl) (fun _ h => h.2) (fun p e s m args below meth c Q ls X hB hret hl => 
  kX2_grainAddsUp_0 X hret hkt (bq_f hf) hB.1 (lv_sub hl [0] rfl))
set_option maxRecDepth 10000 in
theorem kX8_appendFour_29 {S1 : CS} {M : CS} {H : Heap} {locs : List Loc} {ls : Array Slot} (X : gX p s m args c cX8_appendFour 2 RX8 (kR kTab kA)) (hret : gRetV p l e (rmL 2 0 0) s m args below meth c cX8_appendFour (cΩ ca) (cP dC dI cg kA ca) Q S1) (hf : fX8_appendFour_29 M = some S1) (hP : (cP dC dI cg kA ca) M s H) (hS : va_S (Fr (cΩ ca) s.heap.size) s.heap H locs) (hl : lv_has ls 2 [(0, .ref (ca 1))]) : W p l e (rmL 2 0 0) s m args below meth c H locs 0 0 Q (F0 m 29 ls []) := by
  have hx := X.hx
  have hb := X.hb
  have hown := X.hown
  have hts := X.hts
  rw [fX8_appendFour_29] at hf
  cases hf
  exact hret _ _ _ _ dX8_appendFour_29 hP hS
set_option maxRecDepth 10000 in
theorem kX8_appendFour_24 {S1 : CS} {M : CS} {x1 : Int32} {H : Heap} {locs : List Loc} {ls : Array Slot} (X : gX p s m args c cX8_appendFour 2 RX8 (kR kTab kA)) (hret : gRetV p l e (rmL 2 0 0) s m args below meth c cX8_appendFour (cΩ ca) (cP dC dI cg kA ca) Q S1) (hf : fX8_appendFour_24 M x1 = some S1) (hP : (cP dC dI cg kA ca) M s H) (hS : va_S (Fr (cΩ ca) s.heap.size) s.heap H locs) (hl : lv_has ls 2 [(0, .ref (ca 1)), (1, .int x1)]) : W p l e (rmL 2 0 0) s m args below meth c H locs 0 0 Q (F0 m 24 ls []) := by
  have hx := X.hx
  have hb := X.hb
  have hown := X.hown
  have hts := X.hts
  rw [fX8_appendFour_24] at hf
  refine lv_aload_n hx hb dX8_appendFour_24 rfl (lv_at hl 0 rfl) ?_
  refine lv_iload_n hx hb dX8_appendFour_25 rfl (lv_at hl 1 rfl) ?_
  obtain ⟨q, hc, hf⟩ := bd hf
  refine gCallVV X cOK rfl (vX8_append hc) gRX8_X8_append hdX8_append rfl ⟨by decide, by decide⟩ hP hS (cr_rec hP (rfl : kc 1 = 1) rfl cw1 rfl) hl.1 (Nat.le_of_ble_eq_true rfl) ⟨Nat.zero_le _, Nat.zero_le _⟩ dX8_appendFour_26 (As := [.int x1]) (rest := []) rfl (fun H locs hP hS => ?_)
  exact kX8_appendFour_29 X hret hf hP hS (lv_sub hl [0] rfl)
set_option maxRecDepth 10000 in
theorem kX8_appendFour_16 {S1 : CS} {M : CS} {x1 : Int32} {H : Heap} {locs : List Loc} {ls : Array Slot} (X : gX p s m args c cX8_appendFour 2 RX8 (kR kTab kA)) (hret : gRetV p l e (rmL 2 0 0) s m args below meth c cX8_appendFour (cΩ ca) (cP dC dI cg kA ca) Q S1) (hf : fX8_appendFour_16 M x1 = some S1) (hP : (cP dC dI cg kA ca) M s H) (hS : va_S (Fr (cΩ ca) s.heap.size) s.heap H locs) (hl : lv_has ls 2 [(0, .ref (ca 1)), (1, .int x1)]) : W p l e (rmL 2 0 0) s m args below meth c H locs 0 0 Q (F0 m 16 ls []) := by
  have hx := X.hx
  have hb := X.hb
  have hown := X.hown
  have hts := X.hts
  rw [fX8_appendFour_16] at hf
  refine lv_aload_n hx hb dX8_appendFour_16 rfl (lv_at hl 0 rfl) ?_
  refine lv_iload_n hx hb dX8_appendFour_17 rfl (lv_at hl 1 rfl) ?_
  refine lv_bipush (v := 8) hx hb dX8_appendFour_18 (by decide) ?_
  refine lv_ishr hx hb dX8_appendFour_20 ?_
  obtain ⟨q, hc, hf⟩ := bd hf
  refine gCallVV X cOK rfl (vX8_append hc) gRX8_X8_append hdX8_append rfl ⟨by decide, by decide⟩ hP hS (cr_rec hP (rfl : kc 1 = 1) rfl cw1 rfl) hl.1 (Nat.le_of_ble_eq_true rfl) ⟨Nat.zero_le _, Nat.zero_le _⟩ dX8_appendFour_21 (As := [.int (x1 >>> (8 &&& 31))]) (rest := []) rfl (fun H locs hP hS => ?_)
  exact kX8_appendFour_24 X hret hf hP hS (lv_sub hl [0, 1] rfl)
set_option maxRecDepth 10000 in
theorem kX8_appendFour_8 {S1 : CS} {M : CS} {x1 : Int32} {H : Heap} {locs : List Loc} {ls : Array Slot} (X : gX p s m args c cX8_appendFour 2 RX8 (kR kTab kA)) (hret : gRetV p l e (rmL 2 0 0) s m args below meth c cX8_appendFour (cΩ ca) (cP dC dI cg kA ca) Q S1) (hf : fX8_appendFour_8 M x1 = some S1) (hP : (cP dC dI cg kA ca) M s H) (hS : va_S (Fr (cΩ ca) s.heap.size) s.heap H locs) (hl : lv_has ls 2 [(0, .ref (ca 1)), (1, .int x1)]) : W p l e (rmL 2 0 0) s m args below meth c H locs 0 0 Q (F0 m 8 ls []) := by
  have hx := X.hx
  have hb := X.hb
  have hown := X.hown
  have hts := X.hts
  rw [fX8_appendFour_8] at hf
  refine lv_aload_n hx hb dX8_appendFour_8 rfl (lv_at hl 0 rfl) ?_
  refine lv_iload_n hx hb dX8_appendFour_9 rfl (lv_at hl 1 rfl) ?_
  refine lv_bipush (v := 16) hx hb dX8_appendFour_10 (by decide) ?_
  refine lv_ishr hx hb dX8_appendFour_12 ?_
  obtain ⟨q, hc, hf⟩ := bd hf
  refine gCallVV X cOK rfl (vX8_append hc) gRX8_X8_append hdX8_append rfl ⟨by decide, by decide⟩ hP hS (cr_rec hP (rfl : kc 1 = 1) rfl cw1 rfl) hl.1 (Nat.le_of_ble_eq_true rfl) ⟨Nat.zero_le _, Nat.zero_le _⟩ dX8_appendFour_13 (As := [.int (x1 >>> (16 &&& 31))]) (rest := []) rfl (fun H locs hP hS => ?_)
  exact kX8_appendFour_16 X hret hf hP hS (lv_sub hl [0, 1] rfl)
set_option maxRecDepth 10000 in
theorem kX8_appendFour_0 {S1 : CS} {M : CS} {a1 : Int32} {H : Heap} {locs : List Loc} {ls : Array Slot} (X : gX p s m args c cX8_appendFour 2 RX8 (kR kTab kA)) (hret : gRetV p l e (rmL 2 0 0) s m args below meth c cX8_appendFour (cΩ ca) (cP dC dI cg kA ca) Q S1) (hf : fX8_appendFour_0 M a1 = some S1) (hP : (cP dC dI cg kA ca) M s H) (hS : va_S (Fr (cΩ ca) s.heap.size) s.heap H locs) (hl : lv_has ls 2 [(0, .ref (ca 1)), (1, .int a1)]) : W p l e (rmL 2 0 0) s m args below meth c H locs 0 0 Q (F0 m 0 ls []) := by
  have hx := X.hx
  have hb := X.hb
  have hown := X.hown
  have hts := X.hts
  rw [fX8_appendFour_0] at hf
  refine lv_aload_n hx hb dX8_appendFour_0 rfl (lv_at hl 0 rfl) ?_
  refine lv_iload_n hx hb dX8_appendFour_1 rfl (lv_at hl 1 rfl) ?_
  refine lv_bipush (v := 24) hx hb dX8_appendFour_2 (by decide) ?_
  refine lv_ishr hx hb dX8_appendFour_4 ?_
  obtain ⟨q, hc, hf⟩ := bd hf
  refine gCallVV X cOK rfl (vX8_append hc) gRX8_X8_append hdX8_append rfl ⟨by decide, by decide⟩ hP hS (cr_rec hP (rfl : kc 1 = 1) rfl cw1 rfl) hl.1 (Nat.le_of_ble_eq_true rfl) ⟨Nat.zero_le _, Nat.zero_le _⟩ dX8_appendFour_5 (As := [.int (a1 >>> (24 &&& 31))]) (rest := []) rfl (fun H locs hP hS => ?_)
  exact kX8_appendFour_8 X hret hf hP hS (lv_sub hl [0, 1] rfl)
theorem vX8_appendFour {l : Launch} {dC : Nat → ClassId} {dI : Nat → Nat → Nat} {cg : Nat → ClassId} {kA : String → Nat → Nat} {ca : Nat → Nat} {M S1 : CS} {a1 : Int32} (hf : fX8_appendFour M a1 = some S1) : gMetV l yX8_appendFour cX8_appendFour 2 2 (cΩ ca) (cP dC dI cg kA ca) (kR kTab kA) [.ref (ca 1), .int a1] M S1 := gEntryV (by decide) cOK (Nat.le_of_ble_eq_true rfl) (fun p e s m args below meth c Q ls X hP hS hret hl => 
  kX8_appendFour_0 X hret hf hP hS (lv_sub hl [0, 1] rfl))
set_option maxRecDepth 10000 in
theorem kX8_advance_199 {r : Int32} {S1 : CS} {M : CS} {H : Heap} {locs : List Loc} {ls : Array Slot} (X : gX p s m args c cX8_advance 2 RX8 (kR kTab kA)) (hret : gRetI p l e (rmL 2 0 0) s m args below meth c cX8_advance (cΩ ca) (cP dC dI cg kA ca) Q r S1) (hf : fX8_advance_199 M = some (r, S1)) (hP : (cP dC dI cg kA ca) M s H) (hS : va_S (Fr (cΩ ca) s.heap.size) s.heap H locs) (hl : lv_has ls 2 [(0, .ref (ca 1))]) : W p l e (rmL 2 0 0) s m args below meth c H locs 0 0 Q (F0 m 199 ls []) := by
  have hx := X.hx
  have hb := X.hb
  have hown := X.hown
  have hts := X.hts
  rw [fX8_advance_199] at hf
  refine lv_iconst (v := 1) hx hb dX8_advance_199 (by decide) ?_
  cases hf
  exact hret _ _ _ _ dX8_advance_200 hP hS
set_option maxRecDepth 10000 in
theorem kX8_advance_194 {r : Int32} {S1 : CS} {M : CS} {H : Heap} {locs : List Loc} {ls : Array Slot} (X : gX p s m args c cX8_advance 2 RX8 (kR kTab kA)) (hret : gRetI p l e (rmL 2 0 0) s m args below meth c cX8_advance (cΩ ca) (cP dC dI cg kA ca) Q r S1) (hf : fX8_advance_194 M = some (r, S1)) (hP : (cP dC dI cg kA ca) M s H) (hS : va_S (Fr (cΩ ca) s.heap.size) s.heap H locs) (hl : lv_has ls 2 [(0, .ref (ca 1))]) : W p l e (rmL 2 0 0) s m args below meth c H locs 0 0 Q (F0 m 194 ls []) := by
  have hx := X.hx
  have hb := X.hb
  have hown := X.hown
  have hts := X.hts
  rw [fX8_advance_194] at hf
  refine lv_aload_n hx hb dX8_advance_194 rfl (lv_at hl 0 rfl) ?_
  refine lv_iconst (v := 5) hx hb dX8_advance_195 (by decide) ?_
  refine cr_put (k := 4) X hP hS (rfl : kc 1 = 1) rfl cs1_4 rfl cinX8 tyX8_ok nmX8 (by decide) rfl rfl rfl rfl tw92 dX8_advance_196 (fun H locs hP hS => ?_)
  exact kX8_advance_199 X hret hf hP hS (lv_sub hl [0] rfl)
set_option maxRecDepth 10000 in
theorem kX8_advance_190 {r : Int32} {S1 : CS} {M : CS} {s0 : Int32} {H : Heap} {locs : List Loc} {ls : Array Slot} (X : gX p s m args c cX8_advance 2 RX8 (kR kTab kA)) (hret : gRetI p l e (rmL 2 0 0) s m args below meth c cX8_advance (cΩ ca) (cP dC dI cg kA ca) Q r S1) (hf : fX8_advance_190 M s0 = some (r, S1)) (hP : (cP dC dI cg kA ca) M s H) (hS : va_S (Fr (cΩ ca) s.heap.size) s.heap H locs) (hl : lv_has ls 2 [(0, .ref (ca 1))]) : W p l e (rmL 2 0 0) s m args below meth c H locs 0 0 Q (F0 m 190 ls [.int s0]) := by
  have hx := X.hx
  have hb := X.hb
  have hown := X.hown
  have hts := X.hts
  rw [fX8_advance_190] at hf
  refine lv_iconst (v := 4) hx hb dX8_advance_190 (by decide) ?_
  refine lv_icmp_le (tgt := 199) hx hb dX8_advance_191 (by decide) (fun c1 => ?_) (fun c1 => ?_)
  · exact kX8_advance_199 X hret (ifp c1 hf) hP hS (lv_sub hl [0] rfl)
  · exact kX8_advance_194 X hret (ifn c1 hf) hP hS (lv_sub hl [0] rfl)
set_option maxRecDepth 10000 in
theorem kX8_advance_186 {r : Int32} {S1 : CS} {M : CS} {H : Heap} {locs : List Loc} {ls : Array Slot} (X : gX p s m args c cX8_advance 2 RX8 (kR kTab kA)) (hret : gRetI p l e (rmL 2 0 0) s m args below meth c cX8_advance (cΩ ca) (cP dC dI cg kA ca) Q r S1) (hf : fX8_advance_186 M = some (r, S1)) (hP : (cP dC dI cg kA ca) M s H) (hS : va_S (Fr (cΩ ca) s.heap.size) s.heap H locs) (hl : lv_has ls 2 [(0, .ref (ca 1))]) : W p l e (rmL 2 0 0) s m args below meth c H locs 0 0 Q (F0 m 186 ls []) := by
  have hx := X.hx
  have hb := X.hb
  have hown := X.hown
  have hts := X.hts
  rw [fX8_advance_186] at hf
  refine lv_aload_n hx hb dX8_advance_186 rfl (lv_at hl 0 rfl) ?_
  obtain ⟨q, hc, hf⟩ := bd hf
  refine gCallVR X rfl (vX8_tokenLength hc) gRX8_X8_tokenLength hdX8_tokenLength rfl ⟨by decide, by decide⟩ (gB_blind cOK) (gB_at cOK X hP) (cr_rec hP (rfl : kc 1 = 1) rfl cw1 rfl) hl.1 (Nat.le_of_ble_eq_true rfl) ⟨Nat.zero_le _, Nat.zero_le _⟩ dX8_advance_187 (As := []) (rest := []) rfl ?_
  exact kX8_advance_190 X hret hf hP hS (lv_sub hl [0] rfl)
set_option maxRecDepth 10000 in
theorem kX8_advance_178 {r : Int32} {S1 : CS} {M : CS} {H : Heap} {locs : List Loc} {ls : Array Slot} (X : gX p s m args c cX8_advance 2 RX8 (kR kTab kA)) (hret : gRetI p l e (rmL 2 0 0) s m args below meth c cX8_advance (cΩ ca) (cP dC dI cg kA ca) Q r S1) (hf : fX8_advance_178 M = some (r, S1)) (hP : (cP dC dI cg kA ca) M s H) (hS : va_S (Fr (cΩ ca) s.heap.size) s.heap H locs) (hl : lv_has ls 2 [(0, .ref (ca 1))]) : W p l e (rmL 2 0 0) s m args below meth c H locs 0 0 Q (F0 m 178 ls []) := by
  have hx := X.hx
  have hb := X.hb
  have hown := X.hown
  have hts := X.hts
  rw [fX8_advance_178] at hf
  refine lv_aload_n hx hb dX8_advance_178 rfl (lv_at hl 0 rfl) ?_
  refine cr_get (k := 4) X hP (rfl : kc 1 = 1) rfl cv1_4 rfl cinX8 (by decide) rfl tw92 dX8_advance_179 ?_
  refine lv_iconst (v := 2) hx hb dX8_advance_182 (by decide) ?_
  refine lv_icmp_ne (tgt := 199) hx hb dX8_advance_183 (by decide) (fun c1 => ?_) (fun c1 => ?_)
  · exact kX8_advance_199 X hret (ifn c1 hf) hP hS (lv_sub hl [0] rfl)
  · exact kX8_advance_186 X hret (ifp c1 hf) hP hS (lv_sub hl [0] rfl)
set_option maxRecDepth 10000 in
theorem kX8_advance_173 {r : Int32} {S1 : CS} {M : CS} {s0 : Int32} {H : Heap} {locs : List Loc} {ls : Array Slot} (X : gX p s m args c cX8_advance 2 RX8 (kR kTab kA)) (hret : gRetI p l e (rmL 2 0 0) s m args below meth c cX8_advance (cΩ ca) (cP dC dI cg kA ca) Q r S1) (hf : fX8_advance_173 M s0 = some (r, S1)) (hP : (cP dC dI cg kA ca) M s H) (hS : va_S (Fr (cΩ ca) s.heap.size) s.heap H locs) (hl : lv_has ls 2 [(0, .ref (ca 1))]) : W p l e (rmL 2 0 0) s m args below meth c H locs 0 0 Q (F0 m 173 ls [.int s0]) := by
  have hx := X.hx
  have hb := X.hb
  have hown := X.hown
  have hts := X.hts
  rw [fX8_advance_173] at hf
  refine lv_bipush (v := 8) hx hb dX8_advance_173 (by decide) ?_
  refine lv_icmp_gt (tgt := 194) hx hb dX8_advance_175 (by decide) (fun c1 => ?_) (fun c1 => ?_)
  · exact kX8_advance_194 X hret (ifp c1 hf) hP hS (lv_sub hl [0] rfl)
  · exact kX8_advance_178 X hret (ifn c1 hf) hP hS (lv_sub hl [0] rfl)
set_option maxRecDepth 10000 in
theorem kX8_advance_169 {r : Int32} {S1 : CS} {M : CS} {H : Heap} {locs : List Loc} {ls : Array Slot} (X : gX p s m args c cX8_advance 2 RX8 (kR kTab kA)) (hret : gRetI p l e (rmL 2 0 0) s m args below meth c cX8_advance (cΩ ca) (cP dC dI cg kA ca) Q r S1) (hf : fX8_advance_169 M = some (r, S1)) (hP : (cP dC dI cg kA ca) M s H) (hS : va_S (Fr (cΩ ca) s.heap.size) s.heap H locs) (hl : lv_has ls 2 [(0, .ref (ca 1))]) : W p l e (rmL 2 0 0) s m args below meth c H locs 0 0 Q (F0 m 169 ls []) := by
  have hx := X.hx
  have hb := X.hb
  have hown := X.hown
  have hts := X.hts
  rw [fX8_advance_169] at hf
  refine lv_aload_n hx hb dX8_advance_169 rfl (lv_at hl 0 rfl) ?_
  obtain ⟨q, hc, hf⟩ := bd hf
  refine gCallVR X rfl (vX8_tokenLength hc) gRX8_X8_tokenLength hdX8_tokenLength rfl ⟨by decide, by decide⟩ (gB_blind cOK) (gB_at cOK X hP) (cr_rec hP (rfl : kc 1 = 1) rfl cw1 rfl) hl.1 (Nat.le_of_ble_eq_true rfl) ⟨Nat.zero_le _, Nat.zero_le _⟩ dX8_advance_170 (As := []) (rest := []) rfl ?_
  exact kX8_advance_173 X hret hf hP hS (lv_sub hl [0] rfl)
set_option maxRecDepth 10000 in
theorem kX8_advance_161 {r : Int32} {S1 : CS} {M : CS} {H : Heap} {locs : List Loc} {ls : Array Slot} (X : gX p s m args c cX8_advance 2 RX8 (kR kTab kA)) (hret : gRetI p l e (rmL 2 0 0) s m args below meth c cX8_advance (cΩ ca) (cP dC dI cg kA ca) Q r S1) (hf : fX8_advance_161 M = some (r, S1)) (hP : (cP dC dI cg kA ca) M s H) (hS : va_S (Fr (cΩ ca) s.heap.size) s.heap H locs) (hl : lv_has ls 2 [(0, .ref (ca 1))]) : W p l e (rmL 2 0 0) s m args below meth c H locs 0 0 Q (F0 m 161 ls []) := by
  have hx := X.hx
  have hb := X.hb
  have hown := X.hown
  have hts := X.hts
  rw [fX8_advance_161] at hf
  refine lv_aload_n hx hb dX8_advance_161 rfl (lv_at hl 0 rfl) ?_
  refine cr_get (k := 4) X hP (rfl : kc 1 = 1) rfl cv1_4 rfl cinX8 (by decide) rfl tw92 dX8_advance_162 ?_
  refine lv_iconst (v := 1) hx hb dX8_advance_165 (by decide) ?_
  refine lv_icmp_ne (tgt := 178) hx hb dX8_advance_166 (by decide) (fun c1 => ?_) (fun c1 => ?_)
  · exact kX8_advance_178 X hret (ifn c1 hf) hP hS (lv_sub hl [0] rfl)
  · exact kX8_advance_169 X hret (ifp c1 hf) hP hS (lv_sub hl [0] rfl)
set_option maxRecDepth 10000 in
theorem kX8_advance_158 {r : Int32} {S1 : CS} {K114 : CS → Int32 → Option (Int32 × CS)} {M : CS} {x1 : Int32} {H : Heap} {locs : List Loc} {ls : Array Slot} (X : gX p s m args c cX8_advance 2 RX8 (kR kTab kA)) (hret : gRetI p l e (rmL 2 0 0) s m args below meth c cX8_advance (cΩ ca) (cP dC dI cg kA ca) Q r S1) (hK114 : ∀ (M : CS) (x1 : Int32) (H : Heap) (locs : List Loc) (ls : Array Slot), K114 M x1 = some (r, S1) → (cP dC dI cg kA ca) M s H → va_S (Fr (cΩ ca) s.heap.size) s.heap H locs → lv_has ls 2 [(0, .ref (ca 1)), (1, .int x1)] → W p l e (rmL 2 0 0) s m args below meth c H locs 0 0 Q (F0 m 114 ls [])) (hf : fX8_advance_158 K114 M x1 = some (r, S1)) (hP : (cP dC dI cg kA ca) M s H) (hS : va_S (Fr (cΩ ca) s.heap.size) s.heap H locs) (hl : lv_has ls 2 [(0, .ref (ca 1)), (1, .int x1)]) : W p l e (rmL 2 0 0) s m args below meth c H locs 0 0 Q (F0 m 158 ls []) := by
  have hx := X.hx
  have hb := X.hb
  have hown := X.hown
  have hts := X.hts
  rw [fX8_advance_158] at hf
  refine lv_goto (tgt := 114) hx hb dX8_advance_158 (by decide) ?_
  exact hK114 _ _ _ _ _ hf hP hS (lv_sub hl [0, 1] rfl)
set_option maxRecDepth 10000 in
theorem kX8_advance_148 {r : Int32} {S1 : CS} {K114 : CS → Int32 → Option (Int32 × CS)} {M : CS} {x1 : Int32} {H : Heap} {locs : List Loc} {ls : Array Slot} (X : gX p s m args c cX8_advance 2 RX8 (kR kTab kA)) (hret : gRetI p l e (rmL 2 0 0) s m args below meth c cX8_advance (cΩ ca) (cP dC dI cg kA ca) Q r S1) (hK114 : ∀ (M : CS) (x1 : Int32) (H : Heap) (locs : List Loc) (ls : Array Slot), K114 M x1 = some (r, S1) → (cP dC dI cg kA ca) M s H → va_S (Fr (cΩ ca) s.heap.size) s.heap H locs → lv_has ls 2 [(0, .ref (ca 1)), (1, .int x1)] → W p l e (rmL 2 0 0) s m args below meth c H locs 0 0 Q (F0 m 114 ls [])) (hf : fX8_advance_148 K114 M x1 = some (r, S1)) (hP : (cP dC dI cg kA ca) M s H) (hS : va_S (Fr (cΩ ca) s.heap.size) s.heap H locs) (hl : lv_has ls 2 [(0, .ref (ca 1)), (1, .int x1)]) : W p l e (rmL 2 0 0) s m args below meth c H locs 0 0 Q (F0 m 148 ls []) := by
  have hx := X.hx
  have hb := X.hb
  have hown := X.hown
  have hts := X.hts
  rw [fX8_advance_148] at hf
  refine lv_aload_n hx hb dX8_advance_148 rfl (lv_at hl 0 rfl) ?_
  refine lv_dup hx hb dX8_advance_149 rfl ?_
  refine cr_get (k := 3) X hP (rfl : kc 1 = 1) rfl cv1_3 rfl cinX8 (by decide) rfl tw91 dX8_advance_150 ?_
  refine lv_iconst (v := 1) hx hb dX8_advance_153 (by decide) ?_
  refine lv_iadd hx hb dX8_advance_154 ?_
  refine cr_put (k := 3) X hP hS (rfl : kc 1 = 1) rfl cs1_3 rfl cinX8 tyX8_ok nmX8 (by decide) rfl rfl rfl rfl tw91 dX8_advance_155 (fun H locs hP hS => ?_)
  exact kX8_advance_158 X hret hK114 hf hP hS (lv_sub hl [0, 1] rfl)
set_option maxRecDepth 10000 in
theorem kX8_advance_141 {r : Int32} {S1 : CS} {K114 : CS → Int32 → Option (Int32 × CS)} {M : CS} {x1 : Int32} {s0 : Int32} {H : Heap} {locs : List Loc} {ls : Array Slot} (X : gX p s m args c cX8_advance 2 RX8 (kR kTab kA)) (hret : gRetI p l e (rmL 2 0 0) s m args below meth c cX8_advance (cΩ ca) (cP dC dI cg kA ca) Q r S1) (hK114 : ∀ (M : CS) (x1 : Int32) (H : Heap) (locs : List Loc) (ls : Array Slot), K114 M x1 = some (r, S1) → (cP dC dI cg kA ca) M s H → va_S (Fr (cΩ ca) s.heap.size) s.heap H locs → lv_has ls 2 [(0, .ref (ca 1)), (1, .int x1)] → W p l e (rmL 2 0 0) s m args below meth c H locs 0 0 Q (F0 m 114 ls [])) (hf : fX8_advance_141 K114 M x1 s0 = some (r, S1)) (hP : (cP dC dI cg kA ca) M s H) (hS : va_S (Fr (cΩ ca) s.heap.size) s.heap H locs) (hl : lv_has ls 2 [(0, .ref (ca 1)), (1, .int x1)]) : W p l e (rmL 2 0 0) s m args below meth c H locs 0 0 Q (F0 m 141 ls [.int s0]) := by
  have hx := X.hx
  have hb := X.hb
  have hown := X.hown
  have hts := X.hts
  rw [fX8_advance_141] at hf
  refine lv_aload_n hx hb dX8_advance_141 rfl (lv_at hl 0 rfl) ?_
  refine cr_get (k := 4) X hP (rfl : kc 1 = 1) rfl cv1_4 rfl cinX8 (by decide) rfl tw92 dX8_advance_142 ?_
  refine lv_icmp_ne (tgt := 161) hx hb dX8_advance_145 (by decide) (fun c1 => ?_) (fun c1 => ?_)
  · exact kX8_advance_161 X hret (ifn c1 hf) hP hS (lv_sub hl [0] rfl)
  · exact kX8_advance_148 X hret hK114 (ifp c1 hf) hP hS (lv_sub hl [0, 1] rfl)
set_option maxRecDepth 10000 in
theorem kX8_advance_129 {r : Int32} {S1 : CS} {K114 : CS → Int32 → Option (Int32 × CS)} {M : CS} {x1 : Int32} {H : Heap} {locs : List Loc} {ls : Array Slot} (X : gX p s m args c cX8_advance 2 RX8 (kR kTab kA)) (hret : gRetI p l e (rmL 2 0 0) s m args below meth c cX8_advance (cΩ ca) (cP dC dI cg kA ca) Q r S1) (hK114 : ∀ (M : CS) (x1 : Int32) (H : Heap) (locs : List Loc) (ls : Array Slot), K114 M x1 = some (r, S1) → (cP dC dI cg kA ca) M s H → va_S (Fr (cΩ ca) s.heap.size) s.heap H locs → lv_has ls 2 [(0, .ref (ca 1)), (1, .int x1)] → W p l e (rmL 2 0 0) s m args below meth c H locs 0 0 Q (F0 m 114 ls [])) (hf : fX8_advance_129 K114 M x1 = some (r, S1)) (hP : (cP dC dI cg kA ca) M s H) (hS : va_S (Fr (cΩ ca) s.heap.size) s.heap H locs) (hl : lv_has ls 2 [(0, .ref (ca 1)), (1, .int x1)]) : W p l e (rmL 2 0 0) s m args below meth c H locs 0 0 Q (F0 m 129 ls []) := by
  have hx := X.hx
  have hb := X.hb
  have hown := X.hown
  have hts := X.hts
  rw [fX8_advance_129] at hf
  refine lv_aload_n hx hb dX8_advance_129 rfl (lv_at hl 0 rfl) ?_
  refine cr_get (k := 0) X hP (rfl : kc 1 = 1) rfl cv1_0 rfl cinX8 (by decide) rfl tw86 dX8_advance_130 ?_
  refine lv_aload_n hx hb dX8_advance_133 rfl (lv_at hl 0 rfl) ?_
  refine cr_get (k := 3) X hP (rfl : kc 1 = 1) rfl cv1_3 rfl cinX8 (by decide) rfl tw91 dX8_advance_134 ?_
  obtain ⟨g1, hf⟩ := gd hf
  refine cr_bald X hP (rfl : kc 2 = 2) rfl (fun _ => rfl) g1 dX8_advance_137 ?_
  obtain ⟨q, hc, hf⟩ := bd hf
  refine gCallSR X rfl (vX8_kindOf hc) gRX8_X8_kindOf hdX8_kindOf rfl ⟨by decide, by decide⟩ (gB_blind cOK) (gB_at cOK X hP) hl.1 (Nat.le_of_ble_eq_true rfl) ⟨Nat.zero_le _, Nat.zero_le _⟩ dX8_advance_138 (As := [.int (M.1 2 (M.1 1 3).toNatClampNeg)]) (rest := []) rfl ?_
  exact kX8_advance_141 X hret hK114 hf hP hS (lv_sub hl [0, 1] rfl)
set_option maxRecDepth 10000 in
theorem kX8_advance_118 {r : Int32} {S1 : CS} {K114 : CS → Int32 → Option (Int32 × CS)} {M : CS} {x1 : Int32} {H : Heap} {locs : List Loc} {ls : Array Slot} (X : gX p s m args c cX8_advance 2 RX8 (kR kTab kA)) (hret : gRetI p l e (rmL 2 0 0) s m args below meth c cX8_advance (cΩ ca) (cP dC dI cg kA ca) Q r S1) (hK114 : ∀ (M : CS) (x1 : Int32) (H : Heap) (locs : List Loc) (ls : Array Slot), K114 M x1 = some (r, S1) → (cP dC dI cg kA ca) M s H → va_S (Fr (cΩ ca) s.heap.size) s.heap H locs → lv_has ls 2 [(0, .ref (ca 1)), (1, .int x1)] → W p l e (rmL 2 0 0) s m args below meth c H locs 0 0 Q (F0 m 114 ls [])) (hf : fX8_advance_118 K114 M x1 = some (r, S1)) (hP : (cP dC dI cg kA ca) M s H) (hS : va_S (Fr (cΩ ca) s.heap.size) s.heap H locs) (hl : lv_has ls 2 [(0, .ref (ca 1)), (1, .int x1)]) : W p l e (rmL 2 0 0) s m args below meth c H locs 0 0 Q (F0 m 118 ls []) := by
  have hx := X.hx
  have hb := X.hb
  have hown := X.hown
  have hts := X.hts
  rw [fX8_advance_118] at hf
  refine lv_aload_n hx hb dX8_advance_118 rfl (lv_at hl 0 rfl) ?_
  refine cr_get (k := 3) X hP (rfl : kc 1 = 1) rfl cv1_3 rfl cinX8 (by decide) rfl tw91 dX8_advance_119 ?_
  refine lv_aload_n hx hb dX8_advance_122 rfl (lv_at hl 0 rfl) ?_
  refine cr_get (k := 2) X hP (rfl : kc 1 = 1) rfl cv1_2 rfl cinX8 (by decide) rfl tw90 dX8_advance_123 ?_
  refine lv_icmp_ge (tgt := 161) hx hb dX8_advance_126 (by decide) (fun c1 => ?_) (fun c1 => ?_)
  · exact kX8_advance_161 X hret (ifp c1 hf) hP hS (lv_sub hl [0] rfl)
  · exact kX8_advance_129 X hret hK114 (ifn c1 hf) hP hS (lv_sub hl [0, 1] rfl)
set_option maxRecDepth 10000 in
theorem kX8_advance_114 {r : Int32} {S1 : CS} (X : gX p s m args c cX8_advance 2 RX8 (kR kTab kA)) (hret : gRetI p l e (rmL 2 0 0) s m args below meth c cX8_advance (cΩ ca) (cP dC dI cg kA ca) Q r S1) : ∀ (n : Nat) (M : CS) (x1 : Int32) (H : Heap) (locs : List Loc) (ls : Array Slot), fX8_advance_114 n M x1 = some (r, S1) → (cP dC dI cg kA ca) M s H → va_S (Fr (cΩ ca) s.heap.size) s.heap H locs → lv_has ls 2 [(0, .ref (ca 1)), (1, .int x1)] → W p l e (rmL 2 0 0) s m args below meth c H locs 0 0 Q (F0 m 114 ls []) := by
  intro n
  induction n with
  | zero => intro M x1 H locs ls hf; cases hf
  | succ k ih =>
    intro M x1 H locs ls hf hP hS hl
    have hx := X.hx
    have hb := X.hb
    have hown := X.hown
    have hts := X.hts
    rw [fX8_advance_114] at hf
    try dsimp only at hf
    refine lv_iload_n hx hb dX8_advance_114 rfl (lv_at hl 1 rfl) ?_
    refine lv_if_eq (tgt := 161) hx hb dX8_advance_115 (by decide) (fun c1 => ?_) (fun c1 => ?_)
    · exact kX8_advance_161 X hret (ifp c1 hf) hP hS (lv_sub hl [0] rfl)
    · exact kX8_advance_118 X hret ih (ifn c1 hf) hP hS (lv_sub hl [0, 1] rfl)
set_option maxRecDepth 10000 in
theorem kX8_advance_113 {r : Int32} {S1 : CS} {M : CS} {s0 : Int32} {H : Heap} {locs : List Loc} {ls : Array Slot} (X : gX p s m args c cX8_advance 2 RX8 (kR kTab kA)) (hret : gRetI p l e (rmL 2 0 0) s m args below meth c cX8_advance (cΩ ca) (cP dC dI cg kA ca) Q r S1) (hf : fX8_advance_113 M s0 = some (r, S1)) (hP : (cP dC dI cg kA ca) M s H) (hS : va_S (Fr (cΩ ca) s.heap.size) s.heap H locs) (hl : lv_has ls 2 [(0, .ref (ca 1))]) : W p l e (rmL 2 0 0) s m args below meth c H locs 0 0 Q (F0 m 113 ls [.int s0]) := by
  have hx := X.hx
  have hb := X.hb
  have hown := X.hown
  have hts := X.hts
  rw [fX8_advance_113] at hf
  refine lv_istore_n (lv' := [(1, .int s0), (0, .ref (ca 1))]) hx hb dX8_advance_113 rfl hl (by decide) rfl (fun ls hl => ?_)
  exact kX8_advance_114 X hret FU _ _ _ _ _ hf hP hS (lv_sub hl [1, 0] rfl)
set_option maxRecDepth 10000 in
theorem kX8_advance_108 {r : Int32} {S1 : CS} {M : CS} {H : Heap} {locs : List Loc} {ls : Array Slot} (X : gX p s m args c cX8_advance 2 RX8 (kR kTab kA)) (hret : gRetI p l e (rmL 2 0 0) s m args below meth c cX8_advance (cΩ ca) (cP dC dI cg kA ca) Q r S1) (hf : fX8_advance_108 M = some (r, S1)) (hP : (cP dC dI cg kA ca) M s H) (hS : va_S (Fr (cΩ ca) s.heap.size) s.heap H locs) (hl : lv_has ls 2 [(0, .ref (ca 1))]) : W p l e (rmL 2 0 0) s m args below meth c H locs 0 0 Q (F0 m 108 ls []) := by
  have hx := X.hx
  have hb := X.hb
  have hown := X.hown
  have hts := X.hts
  rw [fX8_advance_108] at hf
  refine lv_iconst (v := 1) hx hb dX8_advance_108 (by decide) ?_
  refine lv_goto (tgt := 113) hx hb dX8_advance_109 (by decide) ?_
  exact kX8_advance_113 X hret hf hP hS (lv_sub hl [0] rfl)
set_option maxRecDepth 10000 in
theorem kX8_advance_112 {r : Int32} {S1 : CS} {M : CS} {H : Heap} {locs : List Loc} {ls : Array Slot} (X : gX p s m args c cX8_advance 2 RX8 (kR kTab kA)) (hret : gRetI p l e (rmL 2 0 0) s m args below meth c cX8_advance (cΩ ca) (cP dC dI cg kA ca) Q r S1) (hf : fX8_advance_112 M = some (r, S1)) (hP : (cP dC dI cg kA ca) M s H) (hS : va_S (Fr (cΩ ca) s.heap.size) s.heap H locs) (hl : lv_has ls 2 [(0, .ref (ca 1))]) : W p l e (rmL 2 0 0) s m args below meth c H locs 0 0 Q (F0 m 112 ls []) := by
  have hx := X.hx
  have hb := X.hb
  have hown := X.hown
  have hts := X.hts
  rw [fX8_advance_112] at hf
  refine lv_iconst (v := 0) hx hb dX8_advance_112 (by decide) ?_
  exact kX8_advance_113 X hret hf hP hS (lv_sub hl [0] rfl)
set_option maxRecDepth 10000 in
theorem kX8_advance_100 {r : Int32} {S1 : CS} {M : CS} {H : Heap} {locs : List Loc} {ls : Array Slot} (X : gX p s m args c cX8_advance 2 RX8 (kR kTab kA)) (hret : gRetI p l e (rmL 2 0 0) s m args below meth c cX8_advance (cΩ ca) (cP dC dI cg kA ca) Q r S1) (hf : fX8_advance_100 M = some (r, S1)) (hP : (cP dC dI cg kA ca) M s H) (hS : va_S (Fr (cΩ ca) s.heap.size) s.heap H locs) (hl : lv_has ls 2 [(0, .ref (ca 1))]) : W p l e (rmL 2 0 0) s m args below meth c H locs 0 0 Q (F0 m 100 ls []) := by
  have hx := X.hx
  have hb := X.hb
  have hown := X.hown
  have hts := X.hts
  rw [fX8_advance_100] at hf
  refine lv_aload_n hx hb dX8_advance_100 rfl (lv_at hl 0 rfl) ?_
  refine cr_get (k := 4) X hP (rfl : kc 1 = 1) rfl cv1_4 rfl cinX8 (by decide) rfl tw92 dX8_advance_101 ?_
  refine lv_iconst (v := 2) hx hb dX8_advance_104 (by decide) ?_
  refine lv_icmp_ne (tgt := 112) hx hb dX8_advance_105 (by decide) (fun c1 => ?_) (fun c1 => ?_)
  · exact kX8_advance_112 X hret (ifn c1 hf) hP hS (lv_sub hl [0] rfl)
  · exact kX8_advance_108 X hret (ifp c1 hf) hP hS (lv_sub hl [0] rfl)
set_option maxRecDepth 10000 in
theorem kX8_advance_92 {r : Int32} {S1 : CS} {M : CS} {H : Heap} {locs : List Loc} {ls : Array Slot} (X : gX p s m args c cX8_advance 2 RX8 (kR kTab kA)) (hret : gRetI p l e (rmL 2 0 0) s m args below meth c cX8_advance (cΩ ca) (cP dC dI cg kA ca) Q r S1) (hf : fX8_advance_92 M = some (r, S1)) (hP : (cP dC dI cg kA ca) M s H) (hS : va_S (Fr (cΩ ca) s.heap.size) s.heap H locs) (hl : lv_has ls 2 [(0, .ref (ca 1))]) : W p l e (rmL 2 0 0) s m args below meth c H locs 0 0 Q (F0 m 92 ls []) := by
  have hx := X.hx
  have hb := X.hb
  have hown := X.hown
  have hts := X.hts
  rw [fX8_advance_92] at hf
  refine lv_aload_n hx hb dX8_advance_92 rfl (lv_at hl 0 rfl) ?_
  refine cr_get (k := 4) X hP (rfl : kc 1 = 1) rfl cv1_4 rfl cinX8 (by decide) rfl tw92 dX8_advance_93 ?_
  refine lv_iconst (v := 1) hx hb dX8_advance_96 (by decide) ?_
  refine lv_icmp_eq (tgt := 108) hx hb dX8_advance_97 (by decide) (fun c1 => ?_) (fun c1 => ?_)
  · exact kX8_advance_108 X hret (ifp c1 hf) hP hS (lv_sub hl [0] rfl)
  · exact kX8_advance_100 X hret (ifn c1 hf) hP hS (lv_sub hl [0] rfl)
set_option maxRecDepth 10000 in
theorem kX8_advance_82 {r : Int32} {S1 : CS} {M : CS} {H : Heap} {locs : List Loc} {ls : Array Slot} (X : gX p s m args c cX8_advance 2 RX8 (kR kTab kA)) (hret : gRetI p l e (rmL 2 0 0) s m args below meth c cX8_advance (cΩ ca) (cP dC dI cg kA ca) Q r S1) (hf : fX8_advance_82 M = some (r, S1)) (hP : (cP dC dI cg kA ca) M s H) (hS : va_S (Fr (cΩ ca) s.heap.size) s.heap H locs) (hl : lv_has ls 2 [(0, .ref (ca 1))]) : W p l e (rmL 2 0 0) s m args below meth c H locs 0 0 Q (F0 m 82 ls []) := by
  have hx := X.hx
  have hb := X.hb
  have hown := X.hown
  have hts := X.hts
  rw [fX8_advance_82] at hf
  refine lv_aload_n hx hb dX8_advance_82 rfl (lv_at hl 0 rfl) ?_
  refine lv_dup hx hb dX8_advance_83 rfl ?_
  refine cr_get (k := 3) X hP (rfl : kc 1 = 1) rfl cv1_3 rfl cinX8 (by decide) rfl tw91 dX8_advance_84 ?_
  refine lv_iconst (v := 1) hx hb dX8_advance_87 (by decide) ?_
  refine lv_iadd hx hb dX8_advance_88 ?_
  refine cr_put (k := 3) X hP hS (rfl : kc 1 = 1) rfl cs1_3 rfl cinX8 tyX8_ok nmX8 (by decide) rfl rfl rfl rfl tw91 dX8_advance_89 (fun H locs hP hS => ?_)
  exact kX8_advance_92 X hret hf hP hS (lv_sub hl [0] rfl)
set_option maxRecDepth 10000 in
theorem kX8_advance_79 {r : Int32} {S1 : CS} {M : CS} {s0 : Int32} {H : Heap} {locs : List Loc} {ls : Array Slot} (X : gX p s m args c cX8_advance 2 RX8 (kR kTab kA)) (hret : gRetI p l e (rmL 2 0 0) s m args below meth c cX8_advance (cΩ ca) (cP dC dI cg kA ca) Q r S1) (hf : fX8_advance_79 M s0 = some (r, S1)) (hP : (cP dC dI cg kA ca) M s H) (hS : va_S (Fr (cΩ ca) s.heap.size) s.heap H locs) (hl : lv_has ls 2 [(0, .ref (ca 1))]) : W p l e (rmL 2 0 0) s m args below meth c H locs 0 0 Q (F0 m 79 ls [.int s0, .ref (ca 1)]) := by
  have hx := X.hx
  have hb := X.hb
  have hown := X.hown
  have hts := X.hts
  rw [fX8_advance_79] at hf
  refine cr_put (k := 4) X hP hS (rfl : kc 1 = 1) rfl cs1_4 rfl cinX8 tyX8_ok nmX8 (by decide) rfl rfl rfl rfl tw92 dX8_advance_79 (fun H locs hP hS => ?_)
  exact kX8_advance_82 X hret hf hP hS (lv_sub hl [0] rfl)
set_option maxRecDepth 10000 in
theorem kX8_advance_66 {r : Int32} {S1 : CS} {M : CS} {H : Heap} {locs : List Loc} {ls : Array Slot} (X : gX p s m args c cX8_advance 2 RX8 (kR kTab kA)) (hret : gRetI p l e (rmL 2 0 0) s m args below meth c cX8_advance (cΩ ca) (cP dC dI cg kA ca) Q r S1) (hf : fX8_advance_66 M = some (r, S1)) (hP : (cP dC dI cg kA ca) M s H) (hS : va_S (Fr (cΩ ca) s.heap.size) s.heap H locs) (hl : lv_has ls 2 [(0, .ref (ca 1))]) : W p l e (rmL 2 0 0) s m args below meth c H locs 0 0 Q (F0 m 66 ls []) := by
  have hx := X.hx
  have hb := X.hb
  have hown := X.hown
  have hts := X.hts
  rw [fX8_advance_66] at hf
  refine lv_aload_n hx hb dX8_advance_66 rfl (lv_at hl 0 rfl) ?_
  refine lv_aload_n hx hb dX8_advance_67 rfl (lv_at hl 0 rfl) ?_
  refine cr_get (k := 0) X hP (rfl : kc 1 = 1) rfl cv1_0 rfl cinX8 (by decide) rfl tw86 dX8_advance_68 ?_
  refine lv_aload_n hx hb dX8_advance_71 rfl (lv_at hl 0 rfl) ?_
  refine cr_get (k := 3) X hP (rfl : kc 1 = 1) rfl cv1_3 rfl cinX8 (by decide) rfl tw91 dX8_advance_72 ?_
  obtain ⟨g1, hf⟩ := gd hf
  refine cr_bald X hP (rfl : kc 2 = 2) rfl (fun _ => rfl) g1 dX8_advance_75 ?_
  obtain ⟨q, hc, hf⟩ := bd hf
  refine gCallSR X rfl (vX8_kindOf hc) gRX8_X8_kindOf hdX8_kindOf rfl ⟨by decide, by decide⟩ (gB_blind cOK) (gB_at cOK X hP) hl.1 (Nat.le_of_ble_eq_true rfl) ⟨Nat.zero_le _, Nat.zero_le _⟩ dX8_advance_76 (As := [.int (M.1 2 (M.1 1 3).toNatClampNeg)]) (rest := [.ref (ca 1)]) rfl ?_
  exact kX8_advance_79 X hret hf hP hS (lv_sub hl [0] rfl)
set_option maxRecDepth 10000 in
theorem kX8_advance_64 {r : Int32} {S1 : CS} {M : CS} {H : Heap} {locs : List Loc} {ls : Array Slot} (X : gX p s m args c cX8_advance 2 RX8 (kR kTab kA)) (hret : gRetI p l e (rmL 2 0 0) s m args below meth c cX8_advance (cΩ ca) (cP dC dI cg kA ca) Q r S1) (hf : fX8_advance_64 M = some (r, S1)) (hP : (cP dC dI cg kA ca) M s H) (hS : va_S (Fr (cΩ ca) s.heap.size) s.heap H locs) (hl : lv_has ls 2 [(0, .ref (ca 1))]) : W p l e (rmL 2 0 0) s m args below meth c H locs 0 0 Q (F0 m 64 ls []) := by
  have hx := X.hx
  have hb := X.hb
  have hown := X.hown
  have hts := X.hts
  rw [fX8_advance_64] at hf
  refine lv_iconst (v := 0) hx hb dX8_advance_64 (by decide) ?_
  cases hf
  exact hret _ _ _ _ dX8_advance_65 hP hS
set_option maxRecDepth 10000 in
theorem kX8_advance_59 {r : Int32} {S1 : CS} {M : CS} {H : Heap} {locs : List Loc} {ls : Array Slot} (X : gX p s m args c cX8_advance 2 RX8 (kR kTab kA)) (hret : gRetI p l e (rmL 2 0 0) s m args below meth c cX8_advance (cΩ ca) (cP dC dI cg kA ca) Q r S1) (hf : fX8_advance_59 M = some (r, S1)) (hP : (cP dC dI cg kA ca) M s H) (hS : va_S (Fr (cΩ ca) s.heap.size) s.heap H locs) (hl : lv_has ls 2 [(0, .ref (ca 1))]) : W p l e (rmL 2 0 0) s m args below meth c H locs 0 0 Q (F0 m 59 ls []) := by
  have hx := X.hx
  have hb := X.hb
  have hown := X.hown
  have hts := X.hts
  rw [fX8_advance_59] at hf
  refine lv_aload_n hx hb dX8_advance_59 rfl (lv_at hl 0 rfl) ?_
  refine lv_iconst (v := 0) hx hb dX8_advance_60 (by decide) ?_
  refine cr_put (k := 4) X hP hS (rfl : kc 1 = 1) rfl cs1_4 rfl cinX8 tyX8_ok nmX8 (by decide) rfl rfl rfl rfl tw92 dX8_advance_61 (fun H locs hP hS => ?_)
  exact kX8_advance_64 X hret hf hP hS (lv_sub hl [0] rfl)
set_option maxRecDepth 10000 in
theorem kX8_advance_48 {r : Int32} {S1 : CS} {M : CS} {H : Heap} {locs : List Loc} {ls : Array Slot} (X : gX p s m args c cX8_advance 2 RX8 (kR kTab kA)) (hret : gRetI p l e (rmL 2 0 0) s m args below meth c cX8_advance (cΩ ca) (cP dC dI cg kA ca) Q r S1) (hf : fX8_advance_48 M = some (r, S1)) (hP : (cP dC dI cg kA ca) M s H) (hS : va_S (Fr (cΩ ca) s.heap.size) s.heap H locs) (hl : lv_has ls 2 [(0, .ref (ca 1))]) : W p l e (rmL 2 0 0) s m args below meth c H locs 0 0 Q (F0 m 48 ls []) := by
  have hx := X.hx
  have hb := X.hb
  have hown := X.hown
  have hts := X.hts
  rw [fX8_advance_48] at hf
  refine lv_aload_n hx hb dX8_advance_48 rfl (lv_at hl 0 rfl) ?_
  refine cr_get (k := 3) X hP (rfl : kc 1 = 1) rfl cv1_3 rfl cinX8 (by decide) rfl tw91 dX8_advance_49 ?_
  refine lv_aload_n hx hb dX8_advance_52 rfl (lv_at hl 0 rfl) ?_
  refine cr_get (k := 2) X hP (rfl : kc 1 = 1) rfl cv1_2 rfl cinX8 (by decide) rfl tw90 dX8_advance_53 ?_
  refine lv_icmp_lt (tgt := 66) hx hb dX8_advance_56 (by decide) (fun c1 => ?_) (fun c1 => ?_)
  · exact kX8_advance_66 X hret (ifp c1 hf) hP hS (lv_sub hl [0] rfl)
  · exact kX8_advance_59 X hret (ifn c1 hf) hP hS (lv_sub hl [0] rfl)
set_option maxRecDepth 10000 in
theorem kX8_advance_40 {r : Int32} {S1 : CS} {M : CS} {H : Heap} {locs : List Loc} {ls : Array Slot} (X : gX p s m args c cX8_advance 2 RX8 (kR kTab kA)) (hret : gRetI p l e (rmL 2 0 0) s m args below meth c cX8_advance (cΩ ca) (cP dC dI cg kA ca) Q r S1) (hf : fX8_advance_40 M = some (r, S1)) (hP : (cP dC dI cg kA ca) M s H) (hS : va_S (Fr (cΩ ca) s.heap.size) s.heap H locs) (hl : lv_has ls 2 [(0, .ref (ca 1))]) : W p l e (rmL 2 0 0) s m args below meth c H locs 0 0 Q (F0 m 40 ls []) := by
  have hx := X.hx
  have hb := X.hb
  have hown := X.hown
  have hts := X.hts
  rw [fX8_advance_40] at hf
  refine lv_aload_n hx hb dX8_advance_40 rfl (lv_at hl 0 rfl) ?_
  refine lv_aload_n hx hb dX8_advance_41 rfl (lv_at hl 0 rfl) ?_
  refine cr_get (k := 3) X hP (rfl : kc 1 = 1) rfl cv1_3 rfl cinX8 (by decide) rfl tw91 dX8_advance_42 ?_
  refine cr_put (k := 5) X hP hS (rfl : kc 1 = 1) rfl cs1_5 rfl cinX8 tyX8_ok nmX8 (by decide) rfl rfl rfl rfl tw93 dX8_advance_45 (fun H locs hP hS => ?_)
  exact kX8_advance_48 X hret hf hP hS (lv_sub hl [0] rfl)
set_option maxRecDepth 10000 in
theorem kX8_advance_37 {r : Int32} {S1 : CS} {K0 : CS → Option (Int32 × CS)} {M : CS} {H : Heap} {locs : List Loc} {ls : Array Slot} (X : gX p s m args c cX8_advance 2 RX8 (kR kTab kA)) (hret : gRetI p l e (rmL 2 0 0) s m args below meth c cX8_advance (cΩ ca) (cP dC dI cg kA ca) Q r S1) (hK0 : ∀ (M : CS) (H : Heap) (locs : List Loc) (ls : Array Slot), K0 M = some (r, S1) → (cP dC dI cg kA ca) M s H → va_S (Fr (cΩ ca) s.heap.size) s.heap H locs → lv_has ls 2 [(0, .ref (ca 1))] → W p l e (rmL 2 0 0) s m args below meth c H locs 0 0 Q (F0 m 0 ls [])) (hf : fX8_advance_37 K0 M = some (r, S1)) (hP : (cP dC dI cg kA ca) M s H) (hS : va_S (Fr (cΩ ca) s.heap.size) s.heap H locs) (hl : lv_has ls 2 [(0, .ref (ca 1))]) : W p l e (rmL 2 0 0) s m args below meth c H locs 0 0 Q (F0 m 37 ls []) := by
  have hx := X.hx
  have hb := X.hb
  have hown := X.hown
  have hts := X.hts
  rw [fX8_advance_37] at hf
  refine lv_goto (tgt := 0) hx hb dX8_advance_37 (by decide) ?_
  exact hK0 _ _ _ _ hf hP hS (lv_sub hl [0] rfl)
set_option maxRecDepth 10000 in
theorem kX8_advance_27 {r : Int32} {S1 : CS} {K0 : CS → Option (Int32 × CS)} {M : CS} {H : Heap} {locs : List Loc} {ls : Array Slot} (X : gX p s m args c cX8_advance 2 RX8 (kR kTab kA)) (hret : gRetI p l e (rmL 2 0 0) s m args below meth c cX8_advance (cΩ ca) (cP dC dI cg kA ca) Q r S1) (hK0 : ∀ (M : CS) (H : Heap) (locs : List Loc) (ls : Array Slot), K0 M = some (r, S1) → (cP dC dI cg kA ca) M s H → va_S (Fr (cΩ ca) s.heap.size) s.heap H locs → lv_has ls 2 [(0, .ref (ca 1))] → W p l e (rmL 2 0 0) s m args below meth c H locs 0 0 Q (F0 m 0 ls [])) (hf : fX8_advance_27 K0 M = some (r, S1)) (hP : (cP dC dI cg kA ca) M s H) (hS : va_S (Fr (cΩ ca) s.heap.size) s.heap H locs) (hl : lv_has ls 2 [(0, .ref (ca 1))]) : W p l e (rmL 2 0 0) s m args below meth c H locs 0 0 Q (F0 m 27 ls []) := by
  have hx := X.hx
  have hb := X.hb
  have hown := X.hown
  have hts := X.hts
  rw [fX8_advance_27] at hf
  refine lv_aload_n hx hb dX8_advance_27 rfl (lv_at hl 0 rfl) ?_
  refine lv_dup hx hb dX8_advance_28 rfl ?_
  refine cr_get (k := 3) X hP (rfl : kc 1 = 1) rfl cv1_3 rfl cinX8 (by decide) rfl tw91 dX8_advance_29 ?_
  refine lv_iconst (v := 1) hx hb dX8_advance_32 (by decide) ?_
  refine lv_iadd hx hb dX8_advance_33 ?_
  refine cr_put (k := 3) X hP hS (rfl : kc 1 = 1) rfl cs1_3 rfl cinX8 tyX8_ok nmX8 (by decide) rfl rfl rfl rfl tw91 dX8_advance_34 (fun H locs hP hS => ?_)
  exact kX8_advance_37 X hret hK0 hf hP hS (lv_sub hl [0] rfl)
set_option maxRecDepth 10000 in
theorem kX8_advance_23 {r : Int32} {S1 : CS} {K0 : CS → Option (Int32 × CS)} {M : CS} {s0 : Int32} {H : Heap} {locs : List Loc} {ls : Array Slot} (X : gX p s m args c cX8_advance 2 RX8 (kR kTab kA)) (hret : gRetI p l e (rmL 2 0 0) s m args below meth c cX8_advance (cΩ ca) (cP dC dI cg kA ca) Q r S1) (hK0 : ∀ (M : CS) (H : Heap) (locs : List Loc) (ls : Array Slot), K0 M = some (r, S1) → (cP dC dI cg kA ca) M s H → va_S (Fr (cΩ ca) s.heap.size) s.heap H locs → lv_has ls 2 [(0, .ref (ca 1))] → W p l e (rmL 2 0 0) s m args below meth c H locs 0 0 Q (F0 m 0 ls [])) (hf : fX8_advance_23 K0 M s0 = some (r, S1)) (hP : (cP dC dI cg kA ca) M s H) (hS : va_S (Fr (cΩ ca) s.heap.size) s.heap H locs) (hl : lv_has ls 2 [(0, .ref (ca 1))]) : W p l e (rmL 2 0 0) s m args below meth c H locs 0 0 Q (F0 m 23 ls [.int s0]) := by
  have hx := X.hx
  have hb := X.hb
  have hown := X.hown
  have hts := X.hts
  rw [fX8_advance_23] at hf
  refine lv_iconst (v := 4) hx hb dX8_advance_23 (by decide) ?_
  refine lv_icmp_ne (tgt := 40) hx hb dX8_advance_24 (by decide) (fun c1 => ?_) (fun c1 => ?_)
  · exact kX8_advance_40 X hret (ifn c1 hf) hP hS (lv_sub hl [0] rfl)
  · exact kX8_advance_27 X hret hK0 (ifp c1 hf) hP hS (lv_sub hl [0] rfl)
set_option maxRecDepth 10000 in
theorem kX8_advance_11 {r : Int32} {S1 : CS} {K0 : CS → Option (Int32 × CS)} {M : CS} {H : Heap} {locs : List Loc} {ls : Array Slot} (X : gX p s m args c cX8_advance 2 RX8 (kR kTab kA)) (hret : gRetI p l e (rmL 2 0 0) s m args below meth c cX8_advance (cΩ ca) (cP dC dI cg kA ca) Q r S1) (hK0 : ∀ (M : CS) (H : Heap) (locs : List Loc) (ls : Array Slot), K0 M = some (r, S1) → (cP dC dI cg kA ca) M s H → va_S (Fr (cΩ ca) s.heap.size) s.heap H locs → lv_has ls 2 [(0, .ref (ca 1))] → W p l e (rmL 2 0 0) s m args below meth c H locs 0 0 Q (F0 m 0 ls [])) (hf : fX8_advance_11 K0 M = some (r, S1)) (hP : (cP dC dI cg kA ca) M s H) (hS : va_S (Fr (cΩ ca) s.heap.size) s.heap H locs) (hl : lv_has ls 2 [(0, .ref (ca 1))]) : W p l e (rmL 2 0 0) s m args below meth c H locs 0 0 Q (F0 m 11 ls []) := by
  have hx := X.hx
  have hb := X.hb
  have hown := X.hown
  have hts := X.hts
  rw [fX8_advance_11] at hf
  refine lv_aload_n hx hb dX8_advance_11 rfl (lv_at hl 0 rfl) ?_
  refine cr_get (k := 0) X hP (rfl : kc 1 = 1) rfl cv1_0 rfl cinX8 (by decide) rfl tw86 dX8_advance_12 ?_
  refine lv_aload_n hx hb dX8_advance_15 rfl (lv_at hl 0 rfl) ?_
  refine cr_get (k := 3) X hP (rfl : kc 1 = 1) rfl cv1_3 rfl cinX8 (by decide) rfl tw91 dX8_advance_16 ?_
  obtain ⟨g1, hf⟩ := gd hf
  refine cr_bald X hP (rfl : kc 2 = 2) rfl (fun _ => rfl) g1 dX8_advance_19 ?_
  obtain ⟨q, hc, hf⟩ := bd hf
  refine gCallSR X rfl (vX8_kindOf hc) gRX8_X8_kindOf hdX8_kindOf rfl ⟨by decide, by decide⟩ (gB_blind cOK) (gB_at cOK X hP) hl.1 (Nat.le_of_ble_eq_true rfl) ⟨Nat.zero_le _, Nat.zero_le _⟩ dX8_advance_20 (As := [.int (M.1 2 (M.1 1 3).toNatClampNeg)]) (rest := []) rfl ?_
  exact kX8_advance_23 X hret hK0 hf hP hS (lv_sub hl [0] rfl)
set_option maxRecDepth 10000 in
theorem kX8_advance_0 {r : Int32} {S1 : CS} (X : gX p s m args c cX8_advance 2 RX8 (kR kTab kA)) (hret : gRetI p l e (rmL 2 0 0) s m args below meth c cX8_advance (cΩ ca) (cP dC dI cg kA ca) Q r S1) : ∀ (n : Nat) (M : CS) (H : Heap) (locs : List Loc) (ls : Array Slot), fX8_advance_0 n M = some (r, S1) → (cP dC dI cg kA ca) M s H → va_S (Fr (cΩ ca) s.heap.size) s.heap H locs → lv_has ls 2 [(0, .ref (ca 1))] → W p l e (rmL 2 0 0) s m args below meth c H locs 0 0 Q (F0 m 0 ls []) := by
  intro n
  induction n with
  | zero => intro M H locs ls hf; cases hf
  | succ k ih =>
    intro M H locs ls hf hP hS hl
    have hx := X.hx
    have hb := X.hb
    have hown := X.hown
    have hts := X.hts
    rw [fX8_advance_0] at hf
    try dsimp only at hf
    refine lv_aload_n hx hb dX8_advance_0 rfl (lv_at hl 0 rfl) ?_
    refine cr_get (k := 3) X hP (rfl : kc 1 = 1) rfl cv1_3 rfl cinX8 (by decide) rfl tw91 dX8_advance_1 ?_
    refine lv_aload_n hx hb dX8_advance_4 rfl (lv_at hl 0 rfl) ?_
    refine cr_get (k := 2) X hP (rfl : kc 1 = 1) rfl cv1_2 rfl cinX8 (by decide) rfl tw90 dX8_advance_5 ?_
    refine lv_icmp_ge (tgt := 40) hx hb dX8_advance_8 (by decide) (fun c1 => ?_) (fun c1 => ?_)
    · exact kX8_advance_40 X hret (ifp c1 hf) hP hS (lv_sub hl [0] rfl)
    · exact kX8_advance_11 X hret ih (ifn c1 hf) hP hS (lv_sub hl [0] rfl)
theorem vX8_advance {l : Launch} {dC : Nat → ClassId} {dI : Nat → Nat → Nat} {cg : Nat → ClassId} {kA : String → Nat → Nat} {ca : Nat → Nat} {M S1 : CS} {r : Int32} (hf : fX8_advance M  = some (r, S1)) : gMetI l yX8_advance cX8_advance 2 (some .boolean) 2 (cΩ ca) (cP dC dI cg kA ca) (kR kTab kA) [.ref (ca 1)] M r S1 := gEntryI (ty := .boolean) (by decide) rfl (bz_n hf) cOK (Nat.le_of_ble_eq_true rfl) (fun p e s m args below meth c Q ls X hP hS hret hl => 
  kX8_advance_0 X hret FU _ _ _ _ (bz_f hf) hP hS (lv_sub hl [0] rfl))
