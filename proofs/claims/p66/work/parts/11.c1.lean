variable {l : Launch} {p : Program} {e : Env} {s : State} {m : MethodId} {args : Array Value} {below : List Frame} {meth : Method} {c : Code} {A : Nat → Prop} {Q : State → Prop}
variable {dC : Nat → ClassId} {dI : Nat → Nat → Nat} {cg : Nat → ClassId} {kA : String → Nat → Nat} {ca : Nat → Nat}
def fX0_copyFrom_48 (t : Nat) (b1 : Nat) (M : CS) : Option (CS) := some M
def fX0_copyFrom_40 (t : Nat) (b1 : Nat) (M : CS) : Option (CS) := fX0_copyFrom_48 t b1 (va_up M.1 t (upd (M.1 t) 5 (M.1 b1 5)), M.2)
def fX0_copyFrom_32 (t : Nat) (b1 : Nat) (M : CS) : Option (CS) := fX0_copyFrom_40 t b1 (va_up M.1 t (upd (M.1 t) 4 (M.1 b1 4)), M.2)
def fX0_copyFrom_24 (t : Nat) (b1 : Nat) (M : CS) : Option (CS) := fX0_copyFrom_32 t b1 (va_up M.1 t (upd (M.1 t) 3 (M.1 b1 3)), M.2)
def fX0_copyFrom_16 (t : Nat) (b1 : Nat) (M : CS) : Option (CS) := if (M.1 b1 2) = 0 ∨ (M.1 b1 2) = 1 then fX0_copyFrom_24 t b1 (va_up M.1 t (upd (M.1 t) 2 (M.1 b1 2)), M.2) else none
def fX0_copyFrom_8 (t : Nat) (b1 : Nat) (M : CS) : Option (CS) := fX0_copyFrom_16 t b1 (va_up M.1 t (upd (M.1 t) 1 (M.1 b1 1)), M.2)
def fX0_copyFrom_0 (t : Nat) (b1 : Nat) (M : CS) : Option (CS) := fX0_copyFrom_8 t b1 (M.1, va_up M.2 t (M.2 b1))
def fX0_copyFrom (M : CS) (t : Nat) (b1 : Nat) : Option (CS) := fX0_copyFrom_0 t b1  M
def fX0_begin_15 (t : Nat) (M : CS) : Option (CS) := some M
def fX0_begin_10 (t : Nat) (M : CS) : Option (CS) := fX0_begin_15 t (va_up M.1 t (upd (M.1 t) 5 0), M.2)
def fX0_begin_5 (t : Nat) (M : CS) : Option (CS) := fX0_begin_10 t (va_up M.1 t (upd (M.1 t) 4 0), M.2)
def fX0_begin_0 (t : Nat) (M : CS) : Option (CS) := fX0_begin_5 t (va_up M.1 t (upd (M.1 t) 3 0), M.2)
def fX0_begin (M : CS) (t : Nat) : Option (CS) := fX0_begin_0 t  M
def fX1_clear_10 (t : Nat) (M : CS) : Option (CS) := some M
def fX1_clear_5 (t : Nat) (M : CS) : Option (CS) := fX1_clear_10 t (va_up M.1 t (upd (M.1 t) 4 0), M.2)
def fX1_clear_0 (t : Nat) (M : CS) : Option (CS) := fX1_clear_5 t (va_up M.1 t (upd (M.1 t) 3 0), M.2)
def fX1_clear (M : CS) (t : Nat) : Option (CS) := fX1_clear_0 t  M
def fX2_allows_57 (t : Nat) (M : CS) (s0 : Int32) : Option (Int32) := some s0
def fX2_allows_56 (t : Nat) (M : CS) : Option (Int32) := fX2_allows_57 t M 0
def fX2_allows_52 (t : Nat) (M : CS) : Option (Int32) := fX2_allows_57 t M 1
def fX2_allows_40 (t : Nat) (M : CS) (x3 : Int32) : Option (Int32) := if 9999 < ((M.1 t 12) + x3) then fX2_allows_56 t M else fX2_allows_52 t M
def fX2_allows_75 (t : Nat) (M : CS) (s0 : Int32) : Option (Int32) := some s0
def fX2_allows_74 (t : Nat) (M : CS) : Option (Int32) := fX2_allows_75 t M 0
def fX2_allows_70 (t : Nat) (M : CS) : Option (Int32) := fX2_allows_75 t M 1
def fX2_allows_58 (t : Nat) (M : CS) (x2 : Int32) : Option (Int32) := if gIn x2 6 then if (M.1 ((t + 2) + 15 + x2.toNatClampNeg) 3) = 0 then fX2_allows_70 t M else fX2_allows_74 t M else none
def fX2_allows_76 (t : Nat) (M : CS) (x2 : Int32) : Option (Int32) := if gIn x2 6 then some (M.1 ((t + 2) + 15 + x2.toNatClampNeg) 3) else none
def fX2_allows_107 (t : Nat) (M : CS) (s0 : Int32) : Option (Int32) := some s0
def fX2_allows_106 (t : Nat) (M : CS) : Option (Int32) := fX2_allows_107 t M 0
def fX2_allows_102 (t : Nat) (M : CS) : Option (Int32) := fX2_allows_107 t M 1
def fX2_allows_86 (t : Nat) (M : CS) (x2 : Int32) (x3 : Int32) : Option (Int32) := if gIn x2 6 then if 99 < ((M.1 ((t + 2) + 15 + x2.toNatClampNeg) 2) + x3) then fX2_allows_106 t M else fX2_allows_102 t M else none
def fX2_allows_130 (t : Nat) (M : CS) (s0 : Int32) : Option (Int32) := some s0
def fX2_allows_129 (t : Nat) (M : CS) : Option (Int32) := fX2_allows_130 t M 0
def fX2_allows_125 (t : Nat) (M : CS) : Option (Int32) := fX2_allows_130 t M 1
def fX2_allows_108 (t : Nat) (M : CS) (x2 : Int32) (x3 : Int32) : Option (Int32) := if gIn x2 6 then if 9999 < ((M.1 ((t + 2) + 15 + x2.toNatClampNeg) 1) + x3) then fX2_allows_129 t M else fX2_allows_125 t M else none
def fX2_allows_144 (t : Nat) (M : CS) (s0 : Int32) : Option (Int32) := some s0
def fX2_allows_143 (t : Nat) (M : CS) : Option (Int32) := fX2_allows_144 t M 0
def fX2_allows_139 (t : Nat) (M : CS) : Option (Int32) := fX2_allows_144 t M 1
def fX2_allows_131 (t : Nat) (M : CS) : Option (Int32) := if (M.1 t 8) = (-1) then fX2_allows_143 t M else fX2_allows_139 t M
def fX2_allows_145 (t : Nat) (M : CS) : Option (Int32) := some 1
def fX2_allows_0 (t : Nat) (M : CS) (a1 : Int32) (a2 : Int32) (a3 : Int32) : Option (Int32) := if a1 = 0 then fX2_allows_40 t M a3 else if a1 = 1 then fX2_allows_58 t M a2 else if a1 = 2 then fX2_allows_76 t M a2 else if a1 = 3 then fX2_allows_86 t M a2 a3 else if a1 = 4 then fX2_allows_108 t M a2 a3 else if a1 = 5 then fX2_allows_131 t M else fX2_allows_145 t M
def fX2_allows (M : CS) (t : Nat) (a1 : Int32) (a2 : Int32) (a3 : Int32) : Option (Int32) := bq (fX2_allows_0 t  M a1 a2 a3)
def fX2_nextOpenSack_39 (t : Nat) (M : CS) : Option (Int32) := some (-1)
def fX2_nextOpenSack_33 (t : Nat) (K2 : CS → Int32 → Int32 → Option (Int32)) (M : CS) (x1 : Int32) (x2 : Int32) : Option (Int32) := K2 M x1 (x2 + 1)
def fX2_nextOpenSack_31 (t : Nat) (M : CS) (x3 : Int32) : Option (Int32) := some x3
def fX2_nextOpenSack_10 (t : Nat) (K2 : CS → Int32 → Int32 → Option (Int32)) (M : CS) (x1 : Int32) (x2 : Int32) : Option (Int32) := if ¬ (M.1 t 6) = 0 then if gIn ((x1 + x2) - (x1 + x2) / (M.1 t 6) * (M.1 t 6)) 6 then if (M.1 ((t + 2) + 15 + ((x1 + x2) - (x1 + x2) / (M.1 t 6) * (M.1 t 6)).toNatClampNeg) 3) = 0 then fX2_nextOpenSack_33 t K2 M x1 x2 else fX2_nextOpenSack_31 t M ((x1 + x2) - (x1 + x2) / (M.1 t 6) * (M.1 t 6)) else none else none
def fX2_nextOpenSack_2 (t : Nat) : Nat → CS → Int32 → Int32 → Option (Int32)
  | 0 => fun _ _ _ => none
  | k + 1 => fun M x1 x2 => if (M.1 t 6) ≤ x2 then fX2_nextOpenSack_39 t M else fX2_nextOpenSack_10 t (fX2_nextOpenSack_2 t k) M x1 x2
def fX2_nextOpenSack_0 (t : Nat) (M : CS) (a1 : Int32) : Option (Int32) := fX2_nextOpenSack_2 t FU M a1 1
def fX2_nextOpenSack (M : CS) (t : Nat) (a1 : Int32) : Option (Int32) := fX2_nextOpenSack_0 t  M a1
def fX2_starve_23 (t : Nat) (b1 : Nat) (M : CS) : Option (CS) := some M
def fX2_starve_10 (t : Nat) (b1 : Nat) (M : CS) (x2 : Int32) : Option (CS) := fX2_starve_23 t b1 (va_up M.1 (t + 8) (upd (M.1 (t + 8)) 3 ((M.1 (t + 8) 3) + x2)), M.2)
def fX2_starve_0 (t : Nat) (b1 : Nat) (M : CS) (a2 : Int32) : Option (CS) := fX2_starve_10 t b1 (va_up M.1 b1 (upd (M.1 b1) 2 ((M.1 b1 2) - a2)), M.2) a2
def fX2_starve (M : CS) (t : Nat) (b1 : Nat) (a2 : Int32) : Option (CS) := fX2_starve_0 t b1  M a2
def fX2_busiestOpenSack_57 (t : Nat) (M : CS) (x1 : Int32) : Option (Int32) := some x1
def fX2_busiestOpenSack_51 (t : Nat) (K6 : CS → Int32 → Int32 → Int32 → Option (Int32)) (M : CS) (x1 : Int32) (x2 : Int32) (x3 : Int32) : Option (Int32) := K6 M x1 x2 (x3 + 1)
def fX2_busiestOpenSack_39 (t : Nat) (K6 : CS → Int32 → Int32 → Int32 → Option (Int32)) (M : CS) (x3 : Int32) : Option (Int32) := if gIn x3 6 then fX2_busiestOpenSack_51 t K6 M x3 (M.1 ((t + 2) + 15 + x3.toNatClampNeg) 2) x3 else none
def fX2_busiestOpenSack_26 (t : Nat) (K6 : CS → Int32 → Int32 → Int32 → Option (Int32)) (M : CS) (x1 : Int32) (x2 : Int32) (x3 : Int32) : Option (Int32) := if gIn x3 6 then if (M.1 ((t + 2) + 15 + x3.toNatClampNeg) 2) ≤ x2 then fX2_busiestOpenSack_51 t K6 M x1 x2 x3 else fX2_busiestOpenSack_39 t K6 M x3 else none
def fX2_busiestOpenSack_14 (t : Nat) (K6 : CS → Int32 → Int32 → Int32 → Option (Int32)) (M : CS) (x1 : Int32) (x2 : Int32) (x3 : Int32) : Option (Int32) := if gIn x3 6 then if (M.1 ((t + 2) + 15 + x3.toNatClampNeg) 3) = 0 then fX2_busiestOpenSack_51 t K6 M x1 x2 x3 else fX2_busiestOpenSack_26 t K6 M x1 x2 x3 else none
def fX2_busiestOpenSack_6 (t : Nat) : Nat → CS → Int32 → Int32 → Int32 → Option (Int32)
  | 0 => fun _ _ _ _ => none
  | k + 1 => fun M x1 x2 x3 => if (M.1 t 6) ≤ x3 then fX2_busiestOpenSack_57 t M x1 else fX2_busiestOpenSack_14 t (fX2_busiestOpenSack_6 t k) M x1 x2 x3
def fX2_busiestOpenSack_0 (t : Nat) (M : CS) : Option (Int32) := fX2_busiestOpenSack_6 t FU M (-1) 0 0
def fX2_busiestOpenSack (M : CS) (t : Nat) : Option (Int32) := fX2_busiestOpenSack_0 t  M
def fX2_reasonAgainst_63 (t : Nat) (M : CS) (s0 : Int32) : Option (Int32) := some s0
def fX2_reasonAgainst_62 (t : Nat) (M : CS) : Option (Int32) := fX2_reasonAgainst_63 t M 0
def fX2_reasonAgainst_58 (t : Nat) (M : CS) : Option (Int32) := fX2_reasonAgainst_63 t M 3
def fX2_reasonAgainst_34 (t : Nat) (M : CS) (x1 : Int32) : Option (Int32) := if gIn x1 8 then if gIn (M.1 t 8) 8 then if (M.1 ((t + 1) + 8 + x1.toNatClampNeg) 2) = (M.1 ((t + 1) + 8 + (M.1 t 8).toNatClampNeg) 2) then fX2_reasonAgainst_58 t M else fX2_reasonAgainst_62 t M else none else none
def fX2_reasonAgainst_26 (t : Nat) (M : CS) (x1 : Int32) : Option (Int32) := if x1 = (M.1 t 8) then fX2_reasonAgainst_62 t M else fX2_reasonAgainst_34 t M x1
def fX2_reasonAgainst_24 (t : Nat) (M : CS) : Option (Int32) := some 2
def fX2_reasonAgainst_10 (t : Nat) (M : CS) (x1 : Int32) : Option (Int32) := if gIn x1 8 then if (M.1 ((t + 1) + 8 + x1.toNatClampNeg) 3) < 12 then fX2_reasonAgainst_26 t M x1 else fX2_reasonAgainst_24 t M else none
def fX2_reasonAgainst_8 (t : Nat) (M : CS) : Option (Int32) := some 1
def fX2_reasonAgainst_0 (t : Nat) (M : CS) (a1 : Int32) : Option (Int32) := if (M.1 t 8) = (-1) then fX2_reasonAgainst_8 t M else fX2_reasonAgainst_10 t M a1
def fX2_reasonAgainst (M : CS) (t : Nat) (a1 : Int32) : Option (Int32) := fX2_reasonAgainst_0 t  M a1
def fX2_swearIn_33 (t : Nat) (M : CS) : Option (CS) := some M
def fX2_swearIn_20 (t : Nat) (M : CS) : Option (CS) := fX2_swearIn_33 t (va_up M.1 (t + 8) (upd (M.1 (t + 8)) 4 ((M.1 (t + 8) 4) + 1)), M.2)
def fX2_swearIn_5 (t : Nat) (M : CS) (x1 : Int32) : Option (CS) := if gIn x1 8 then fX2_swearIn_20 t (va_up M.1 ((t + 1) + 8 + x1.toNatClampNeg) (upd (M.1 ((t + 1) + 8 + x1.toNatClampNeg)) 5 ((M.1 ((t + 1) + 8 + x1.toNatClampNeg) 5) + 1)), M.2) else none
def fX2_swearIn_0 (t : Nat) (M : CS) (a1 : Int32) : Option (CS) := fX2_swearIn_5 t (va_up M.1 t (upd (M.1 t) 8 a1), M.2) a1
def fX2_swearIn (M : CS) (t : Nat) (a1 : Int32) : Option (CS) := fX2_swearIn_0 t  M a1
def fX2_openFlaps_33 (t : Nat) (M : CS) (x1 : Int32) : Option (Int32) := some x1
def fX2_openFlaps_27 (t : Nat) (K4 : CS → Int32 → Int32 → Option (Int32)) (M : CS) (x1 : Int32) (x2 : Int32) : Option (Int32) := K4 M x1 (x2 + 1)
def fX2_openFlaps_24 (t : Nat) (K4 : CS → Int32 → Int32 → Option (Int32)) (M : CS) (x1 : Int32) (x2 : Int32) : Option (Int32) := fX2_openFlaps_27 t K4 M (x1 + 1) x2
def fX2_openFlaps_12 (t : Nat) (K4 : CS → Int32 → Int32 → Option (Int32)) (M : CS) (x1 : Int32) (x2 : Int32) : Option (Int32) := if gIn x2 6 then if (M.1 ((t + 2) + 15 + x2.toNatClampNeg) 3) = 0 then fX2_openFlaps_27 t K4 M x1 x2 else fX2_openFlaps_24 t K4 M x1 x2 else none
def fX2_openFlaps_4 (t : Nat) : Nat → CS → Int32 → Int32 → Option (Int32)
  | 0 => fun _ _ _ => none
  | k + 1 => fun M x1 x2 => if (M.1 t 6) ≤ x2 then fX2_openFlaps_33 t M x1 else fX2_openFlaps_12 t (fX2_openFlaps_4 t k) M x1 x2
def fX2_openFlaps_0 (t : Nat) (M : CS) : Option (Int32) := fX2_openFlaps_4 t FU M 0 0
def fX2_openFlaps (M : CS) (t : Nat) : Option (Int32) := fX2_openFlaps_0 t  M
def fX2_miceOfAll_30 (t : Nat) (M : CS) (x1 : Int32) : Option (Int32) := some x1
def fX2_miceOfAll_12 (t : Nat) (K4 : CS → Int32 → Int32 → Option (Int32)) (M : CS) (x1 : Int32) (x2 : Int32) : Option (Int32) := if gIn x2 6 then K4 M (x1 + (M.1 ((t + 2) + 15 + x2.toNatClampNeg) 2)) (x2 + 1) else none
def fX2_miceOfAll_4 (t : Nat) : Nat → CS → Int32 → Int32 → Option (Int32)
  | 0 => fun _ _ _ => none
  | k + 1 => fun M x1 x2 => if (M.1 t 6) ≤ x2 then fX2_miceOfAll_30 t M x1 else fX2_miceOfAll_12 t (fX2_miceOfAll_4 t k) M x1 x2
def fX2_miceOfAll_0 (t : Nat) (M : CS) : Option (Int32) := fX2_miceOfAll_4 t FU M 0 0
def fX2_miceOfAll (M : CS) (t : Nat) : Option (Int32) := fX2_miceOfAll_0 t  M
def fX2_miceOfAllBackwards_31 (t : Nat) (M : CS) (x1 : Int32) : Option (Int32) := some x1
def fX2_miceOfAllBackwards_13 (t : Nat) (K9 : CS → Int32 → Int32 → Option (Int32)) (M : CS) (x1 : Int32) (x2 : Int32) : Option (Int32) := if gIn x2 6 then K9 M (x1 + (M.1 ((t + 2) + 15 + x2.toNatClampNeg) 2)) (x2 + (-1)) else none
def fX2_miceOfAllBackwards_9 (t : Nat) : Nat → CS → Int32 → Int32 → Option (Int32)
  | 0 => fun _ _ _ => none
  | k + 1 => fun M x1 x2 => if x2 < 0 then fX2_miceOfAllBackwards_31 t M x1 else fX2_miceOfAllBackwards_13 t (fX2_miceOfAllBackwards_9 t k) M x1 x2
def fX2_miceOfAllBackwards_0 (t : Nat) (M : CS) : Option (Int32) := fX2_miceOfAllBackwards_9 t FU M 0 ((M.1 t 6) - 1)
def fX2_miceOfAllBackwards (M : CS) (t : Nat) : Option (Int32) := fX2_miceOfAllBackwards_0 t  M
def fX2_grainOfAll_30 (t : Nat) (M : CS) (x1 : Int32) : Option (Int32) := some x1
def fX2_grainOfAll_12 (t : Nat) (K4 : CS → Int32 → Int32 → Option (Int32)) (M : CS) (x1 : Int32) (x2 : Int32) : Option (Int32) := if gIn x2 6 then K4 M (x1 + (M.1 ((t + 2) + 15 + x2.toNatClampNeg) 1)) (x2 + 1) else none
def fX2_grainOfAll_4 (t : Nat) : Nat → CS → Int32 → Int32 → Option (Int32)
  | 0 => fun _ _ _ => none
  | k + 1 => fun M x1 x2 => if (M.1 t 6) ≤ x2 then fX2_grainOfAll_30 t M x1 else fX2_grainOfAll_12 t (fX2_grainOfAll_4 t k) M x1 x2
def fX2_grainOfAll_0 (t : Nat) (M : CS) : Option (Int32) := fX2_grainOfAll_4 t FU M 0 0
def fX2_grainOfAll (M : CS) (t : Nat) : Option (Int32) := fX2_grainOfAll_0 t  M
def fX2_catsAddUp_71 (t : Nat) (M : CS) (s0 : Int32) : Option (Int32) := some s0
def fX2_catsAddUp_70 (t : Nat) (M : CS) : Option (Int32) := fX2_catsAddUp_71 t M 0
def fX2_catsAddUp_66 (t : Nat) (M : CS) : Option (Int32) := fX2_catsAddUp_71 t M 1
def fX2_catsAddUp_55 (t : Nat) (M : CS) (x2 : Int32) : Option (Int32) := if x2 = (M.1 (t + 8) 4) then fX2_catsAddUp_66 t M else fX2_catsAddUp_70 t M
def fX2_catsAddUp_44 (t : Nat) (M : CS) (x1 : Int32) (x2 : Int32) : Option (Int32) := if x1 = (M.1 (t + 8) 0) then fX2_catsAddUp_55 t M x2 else fX2_catsAddUp_70 t M
def fX2_catsAddUp_14 (t : Nat) (K6 : CS → Int32 → Int32 → Int32 → Option (Int32)) (M : CS) (x1 : Int32) (x2 : Int32) (x3 : Int32) : Option (Int32) := if gIn x3 8 then if gIn x3 8 then K6 M (x1 + (M.1 ((t + 1) + 8 + x3.toNatClampNeg) 4)) (x2 + (M.1 ((t + 1) + 8 + x3.toNatClampNeg) 5)) (x3 + 1) else none else none
def fX2_catsAddUp_6 (t : Nat) : Nat → CS → Int32 → Int32 → Int32 → Option (Int32)
  | 0 => fun _ _ _ _ => none
  | k + 1 => fun M x1 x2 x3 => if (M.1 t 5) ≤ x3 then fX2_catsAddUp_44 t M x1 x2 else fX2_catsAddUp_14 t (fX2_catsAddUp_6 t k) M x1 x2 x3
def fX2_catsAddUp_0 (t : Nat) (M : CS) : Option (Int32) := fX2_catsAddUp_6 t FU M 0 0 0
def fX2_catsAddUp (M : CS) (t : Nat) : Option (Int32) := bq (fX2_catsAddUp_0 t  M)
def fX4_copyFrom_40 (t : Nat) (b1 : Nat) (M : CS) : Option (CS) := some M
def fX4_copyFrom_32 (t : Nat) (b1 : Nat) (M : CS) : Option (CS) := fX4_copyFrom_40 t b1 (va_up M.1 t (upd (M.1 t) 4 (M.1 b1 4)), M.2)
def fX4_copyFrom_24 (t : Nat) (b1 : Nat) (M : CS) : Option (CS) := if (M.1 b1 3) = 0 ∨ (M.1 b1 3) = 1 then fX4_copyFrom_32 t b1 (va_up M.1 t (upd (M.1 t) 3 (M.1 b1 3)), M.2) else none
def fX4_copyFrom_16 (t : Nat) (b1 : Nat) (M : CS) : Option (CS) := fX4_copyFrom_24 t b1 (va_up M.1 t (upd (M.1 t) 2 (M.1 b1 2)), M.2)
def fX4_copyFrom_8 (t : Nat) (b1 : Nat) (M : CS) : Option (CS) := fX4_copyFrom_16 t b1 (va_up M.1 t (upd (M.1 t) 1 (M.1 b1 1)), M.2)
def fX4_copyFrom_0 (t : Nat) (b1 : Nat) (M : CS) : Option (CS) := fX4_copyFrom_8 t b1 (M.1, va_up M.2 t (M.2 b1))
def fX4_copyFrom (M : CS) (t : Nat) (b1 : Nat) : Option (CS) := fX4_copyFrom_0 t b1  M
def fX7_copyFrom_16 (t : Nat) (b1 : Nat) (M : CS) : Option (CS) := some M
def fX7_copyFrom_8 (t : Nat) (b1 : Nat) (M : CS) : Option (CS) := fX7_copyFrom_16 t b1 (va_up M.1 t (upd (M.1 t) 1 (M.1 b1 1)), M.2)
def fX7_copyFrom_0 (t : Nat) (b1 : Nat) (M : CS) : Option (CS) := fX7_copyFrom_8 t b1 (va_up M.1 t (upd (M.1 t) 0 (M.1 b1 0)), M.2)
def fX7_copyFrom (M : CS) (t : Nat) (b1 : Nat) : Option (CS) := fX7_copyFrom_0 t b1  M
def fX8_append_33 (M : CS) : Option (CS) := some M
def fX8_append_23 (M : CS) : Option (CS) := fX8_append_33 (va_up M.1 1 (upd (M.1 1) 2 ((M.1 1 2) + 1)), M.2)
def fX8_append_12 (M : CS) (x1 : Int32) : Option (CS) := if gIn (M.1 1 2) 600 then fX8_append_23 (va_up M.1 2 (upd (M.1 2) (M.1 1 2).toNatClampNeg (vp_nar .byte x1.toInt8.toInt32)), M.2) else none
def fX8_append_0 (M : CS) (a1 : Int32) : Option (CS) := if 600 ≤ (M.1 1 2) then fX8_append_33 M else fX8_append_12 M a1
def fX8_append (M : CS) (a1 : Int32) : Option (CS) := fX8_append_0  M a1
def fX8_begin_15 (M : CS) : Option (CS) := some M
def fX8_begin_10 (M : CS) : Option (CS) := fX8_begin_15 (va_up M.1 1 (upd (M.1 1) 8 (-1)), M.2)
def fX8_begin_5 (M : CS) : Option (CS) := fX8_begin_10 (va_up M.1 1 (upd (M.1 1) 7 0), M.2)
def fX8_begin_0 (M : CS) : Option (CS) := fX8_begin_5 (va_up M.1 1 (upd (M.1 1) 3 0), M.2)
def fX8_begin (M : CS) : Option (CS) := fX8_begin_0  M
def fX8_fail_13 (M : CS) : Option (Int32 × CS) := some (0, M)
def fX8_fail_5 (M : CS) : Option (Int32 × CS) := fX8_fail_13 (va_up M.1 1 (upd (M.1 1) 8 (M.1 1 5)), M.2)
def fX8_fail_0 (M : CS) (a1 : Int32) : Option (Int32 × CS) := fX8_fail_5 (va_up M.1 1 (upd (M.1 1) 7 a1), M.2)
def fX8_fail (M : CS) (a1 : Int32) : Option (Int32 × CS) := bz (fX8_fail_0  M a1)
def fX8_tokenLength_0 (M : CS) : Option (Int32) := some ((M.1 1 3) - (M.1 1 5))
def fX8_tokenLength (M : CS) : Option (Int32) := fX8_tokenLength_0  M
def fX8_kindOf_53 (M : CS) (s0 : Int32) : Option (Int32) := some s0
def fX8_kindOf_48 (M : CS) : Option (Int32) := fX8_kindOf_53 M 4
def fX8_kindOf_52 (M : CS) : Option (Int32) := fX8_kindOf_53 M 5
def fX8_kindOf_42 (M : CS) (x0 : Int32) : Option (Int32) := if x0 = 10 then fX8_kindOf_48 M else fX8_kindOf_52 M
def fX8_kindOf_36 (M : CS) (x0 : Int32) : Option (Int32) := if x0 = 32 then fX8_kindOf_48 M else fX8_kindOf_42 M x0
def fX8_kindOf_34 (M : CS) : Option (Int32) := some 3
def fX8_kindOf_28 (M : CS) (x0 : Int32) : Option (Int32) := if x0 = 59 then fX8_kindOf_34 M else fX8_kindOf_36 M x0
def fX8_kindOf_26 (M : CS) : Option (Int32) := some 2
def fX8_kindOf_20 (M : CS) (x0 : Int32) : Option (Int32) := if 57 < x0 then fX8_kindOf_28 M x0 else fX8_kindOf_26 M
def fX8_kindOf_14 (M : CS) (x0 : Int32) : Option (Int32) := if x0 < 48 then fX8_kindOf_28 M x0 else fX8_kindOf_20 M x0
def fX8_kindOf_12 (M : CS) : Option (Int32) := some 1
def fX8_kindOf_6 (M : CS) (x0 : Int32) : Option (Int32) := if 122 < x0 then fX8_kindOf_14 M x0 else fX8_kindOf_12 M
def fX8_kindOf_0 (M : CS) (a1 : Int32) : Option (Int32) := if a1 < 97 then fX8_kindOf_14 M a1 else fX8_kindOf_6 M a1
def fX8_kindOf (M : CS) (a1 : Int32) : Option (Int32) := fX8_kindOf_0  M a1
def fX9_copyFrom_64 (t : Nat) (b1 : Nat) (M : CS) : Option (CS) := some M
def fX9_copyFrom_56 (t : Nat) (b1 : Nat) (M : CS) : Option (CS) := fX9_copyFrom_64 t b1 (va_up M.1 t (upd (M.1 t) 7 (M.1 b1 7)), M.2)
def fX9_copyFrom_48 (t : Nat) (b1 : Nat) (M : CS) : Option (CS) := fX9_copyFrom_56 t b1 (va_up M.1 t (upd (M.1 t) 6 (M.1 b1 6)), M.2)
def fX9_copyFrom_40 (t : Nat) (b1 : Nat) (M : CS) : Option (CS) := fX9_copyFrom_48 t b1 (va_up M.1 t (upd (M.1 t) 5 (M.1 b1 5)), M.2)
def fX9_copyFrom_32 (t : Nat) (b1 : Nat) (M : CS) : Option (CS) := fX9_copyFrom_40 t b1 (va_up M.1 t (upd (M.1 t) 4 (M.1 b1 4)), M.2)
def fX9_copyFrom_24 (t : Nat) (b1 : Nat) (M : CS) : Option (CS) := fX9_copyFrom_32 t b1 (va_up M.1 t (upd (M.1 t) 3 (M.1 b1 3)), M.2)
def fX9_copyFrom_16 (t : Nat) (b1 : Nat) (M : CS) : Option (CS) := fX9_copyFrom_24 t b1 (va_up M.1 t (upd (M.1 t) 2 (M.1 b1 2)), M.2)
def fX9_copyFrom_8 (t : Nat) (b1 : Nat) (M : CS) : Option (CS) := fX9_copyFrom_16 t b1 (va_up M.1 t (upd (M.1 t) 1 (M.1 b1 1)), M.2)
def fX9_copyFrom_0 (t : Nat) (b1 : Nat) (M : CS) : Option (CS) := fX9_copyFrom_8 t b1 (va_up M.1 t (upd (M.1 t) 0 (M.1 b1 0)), M.2)
def fX9_copyFrom (M : CS) (t : Nat) (b1 : Nat) : Option (CS) := fX9_copyFrom_0 t b1  M
def fX9_clear_40 (t : Nat) (M : CS) : Option (CS) := some M
def fX9_clear_35 (t : Nat) (M : CS) : Option (CS) := fX9_clear_40 t (va_up M.1 t (upd (M.1 t) 7 0), M.2)
def fX9_clear_30 (t : Nat) (M : CS) : Option (CS) := fX9_clear_35 t (va_up M.1 t (upd (M.1 t) 6 0), M.2)
def fX9_clear_25 (t : Nat) (M : CS) : Option (CS) := fX9_clear_30 t (va_up M.1 t (upd (M.1 t) 5 0), M.2)
def fX9_clear_20 (t : Nat) (M : CS) : Option (CS) := fX9_clear_25 t (va_up M.1 t (upd (M.1 t) 4 0), M.2)
def fX9_clear_15 (t : Nat) (M : CS) : Option (CS) := fX9_clear_20 t (va_up M.1 t (upd (M.1 t) 3 0), M.2)
def fX9_clear_10 (t : Nat) (M : CS) : Option (CS) := fX9_clear_15 t (va_up M.1 t (upd (M.1 t) 2 0), M.2)
def fX9_clear_5 (t : Nat) (M : CS) : Option (CS) := fX9_clear_10 t (va_up M.1 t (upd (M.1 t) 1 0), M.2)
def fX9_clear_0 (t : Nat) (M : CS) : Option (CS) := fX9_clear_5 t (va_up M.1 t (upd (M.1 t) 0 0), M.2)
def fX9_clear (M : CS) (t : Nat) : Option (CS) := fX9_clear_0 t  M
set_option maxRecDepth 10000 in
theorem kX0_copyFrom_48 {S1 : CS} {t : Nat} {b1 : Nat} {M : CS} {H : Heap} {locs : List Loc} {ls : Array Slot} (X : gX p s m args c cX0_copyFrom 2 RX0 (kR kTab kA)) (hret : gRetV p l e (rmL 1 0 0) s m args below meth c cX0_copyFrom (cΩ ca) (cP dC dI cg kA ca) Q S1) (hkt : kc t = 18) (hkb1 : kc b1 = 18) (hf : fX0_copyFrom_48 t b1 M = some S1) (hP : (cP dC dI cg kA ca) M s H) (hS : va_S (Fr (cΩ ca) s.heap.size) s.heap H locs) (hl : lv_has ls 2 [(0, .ref (ca t))]) : W p l e (rmL 1 0 0) s m args below meth c H locs 0 0 Q (F0 m 48 ls []) := by
  have hx := X.hx
  have hb := X.hb
  have hown := X.hown
  have hts := X.hts
  rw [fX0_copyFrom_48] at hf
  cases hf
  exact hret _ _ _ _ dX0_copyFrom_48 hP hS
set_option maxRecDepth 10000 in
theorem kX0_copyFrom_40 {S1 : CS} {t : Nat} {b1 : Nat} {M : CS} {H : Heap} {locs : List Loc} {ls : Array Slot} (X : gX p s m args c cX0_copyFrom 2 RX0 (kR kTab kA)) (hret : gRetV p l e (rmL 1 0 0) s m args below meth c cX0_copyFrom (cΩ ca) (cP dC dI cg kA ca) Q S1) (hkt : kc t = 18) (hkb1 : kc b1 = 18) (hf : fX0_copyFrom_40 t b1 M = some S1) (hP : (cP dC dI cg kA ca) M s H) (hS : va_S (Fr (cΩ ca) s.heap.size) s.heap H locs) (hl : lv_has ls 2 [(0, .ref (ca t)), (1, .ref (ca b1))]) : W p l e (rmL 1 0 0) s m args below meth c H locs 0 0 Q (F0 m 40 ls []) := by
  have hx := X.hx
  have hb := X.hb
  have hown := X.hown
  have hts := X.hts
  rw [fX0_copyFrom_40] at hf
  refine lv_aload_n hx hb dX0_copyFrom_40 rfl (lv_at hl 0 rfl) ?_
  refine lv_aload_n hx hb dX0_copyFrom_41 rfl (lv_at hl 1 rfl) ?_
  refine cr_get (k := 5) X hP hkb1 rfl cv18_5 rfl cinX0 (by decide) rfl tw229 dX0_copyFrom_42 ?_
  refine cr_put (k := 5) X hP hS hkt rfl cs18_5 rfl cinX0 tyX0_ok nmX0 (by decide) rfl rfl rfl rfl tw229 dX0_copyFrom_45 (fun H locs hP hS => ?_)
  exact kX0_copyFrom_48 X hret hkt hkb1 hf hP hS (lv_sub hl [0] rfl)
set_option maxRecDepth 10000 in
theorem kX0_copyFrom_32 {S1 : CS} {t : Nat} {b1 : Nat} {M : CS} {H : Heap} {locs : List Loc} {ls : Array Slot} (X : gX p s m args c cX0_copyFrom 2 RX0 (kR kTab kA)) (hret : gRetV p l e (rmL 1 0 0) s m args below meth c cX0_copyFrom (cΩ ca) (cP dC dI cg kA ca) Q S1) (hkt : kc t = 18) (hkb1 : kc b1 = 18) (hf : fX0_copyFrom_32 t b1 M = some S1) (hP : (cP dC dI cg kA ca) M s H) (hS : va_S (Fr (cΩ ca) s.heap.size) s.heap H locs) (hl : lv_has ls 2 [(0, .ref (ca t)), (1, .ref (ca b1))]) : W p l e (rmL 1 0 0) s m args below meth c H locs 0 0 Q (F0 m 32 ls []) := by
  have hx := X.hx
  have hb := X.hb
  have hown := X.hown
  have hts := X.hts
  rw [fX0_copyFrom_32] at hf
  refine lv_aload_n hx hb dX0_copyFrom_32 rfl (lv_at hl 0 rfl) ?_
  refine lv_aload_n hx hb dX0_copyFrom_33 rfl (lv_at hl 1 rfl) ?_
  refine cr_get (k := 4) X hP hkb1 rfl cv18_4 rfl cinX0 (by decide) rfl tw226 dX0_copyFrom_34 ?_
  refine cr_put (k := 4) X hP hS hkt rfl cs18_4 rfl cinX0 tyX0_ok nmX0 (by decide) rfl rfl rfl rfl tw226 dX0_copyFrom_37 (fun H locs hP hS => ?_)
  exact kX0_copyFrom_40 X hret hkt hkb1 hf hP hS (lv_sub hl [0, 1] rfl)
set_option maxRecDepth 10000 in
theorem kX0_copyFrom_24 {S1 : CS} {t : Nat} {b1 : Nat} {M : CS} {H : Heap} {locs : List Loc} {ls : Array Slot} (X : gX p s m args c cX0_copyFrom 2 RX0 (kR kTab kA)) (hret : gRetV p l e (rmL 1 0 0) s m args below meth c cX0_copyFrom (cΩ ca) (cP dC dI cg kA ca) Q S1) (hkt : kc t = 18) (hkb1 : kc b1 = 18) (hf : fX0_copyFrom_24 t b1 M = some S1) (hP : (cP dC dI cg kA ca) M s H) (hS : va_S (Fr (cΩ ca) s.heap.size) s.heap H locs) (hl : lv_has ls 2 [(0, .ref (ca t)), (1, .ref (ca b1))]) : W p l e (rmL 1 0 0) s m args below meth c H locs 0 0 Q (F0 m 24 ls []) := by
  have hx := X.hx
  have hb := X.hb
  have hown := X.hown
  have hts := X.hts
  rw [fX0_copyFrom_24] at hf
  refine lv_aload_n hx hb dX0_copyFrom_24 rfl (lv_at hl 0 rfl) ?_
  refine lv_aload_n hx hb dX0_copyFrom_25 rfl (lv_at hl 1 rfl) ?_
  refine cr_get (k := 3) X hP hkb1 rfl cv18_3 rfl cinX0 (by decide) rfl tw223 dX0_copyFrom_26 ?_
  refine cr_put (k := 3) X hP hS hkt rfl cs18_3 rfl cinX0 tyX0_ok nmX0 (by decide) rfl rfl rfl rfl tw223 dX0_copyFrom_29 (fun H locs hP hS => ?_)
  exact kX0_copyFrom_32 X hret hkt hkb1 hf hP hS (lv_sub hl [0, 1] rfl)
set_option maxRecDepth 10000 in
theorem kX0_copyFrom_16 {S1 : CS} {t : Nat} {b1 : Nat} {M : CS} {H : Heap} {locs : List Loc} {ls : Array Slot} (X : gX p s m args c cX0_copyFrom 2 RX0 (kR kTab kA)) (hret : gRetV p l e (rmL 1 0 0) s m args below meth c cX0_copyFrom (cΩ ca) (cP dC dI cg kA ca) Q S1) (hkt : kc t = 18) (hkb1 : kc b1 = 18) (hf : fX0_copyFrom_16 t b1 M = some S1) (hP : (cP dC dI cg kA ca) M s H) (hS : va_S (Fr (cΩ ca) s.heap.size) s.heap H locs) (hl : lv_has ls 2 [(0, .ref (ca t)), (1, .ref (ca b1))]) : W p l e (rmL 1 0 0) s m args below meth c H locs 0 0 Q (F0 m 16 ls []) := by
  have hx := X.hx
  have hb := X.hb
  have hown := X.hown
  have hts := X.hts
  rw [fX0_copyFrom_16] at hf
  refine lv_aload_n hx hb dX0_copyFrom_16 rfl (lv_at hl 0 rfl) ?_
  refine lv_aload_n hx hb dX0_copyFrom_17 rfl (lv_at hl 1 rfl) ?_
  refine cr_get (k := 2) X hP hkb1 rfl cv18_2 rfl cinX0 (by decide) rfl tw220 dX0_copyFrom_18 ?_
  obtain ⟨g1, hf⟩ := gd hf
  refine cr_put (k := 2) X hP hS hkt rfl cs18_2 rfl cinX0 tyX0_ok nmX0 (by decide) rfl rfl (nz g1) (fz g1) tw220 dX0_copyFrom_21 (fun H locs hP hS => ?_)
  exact kX0_copyFrom_24 X hret hkt hkb1 hf hP hS (lv_sub hl [0, 1] rfl)
set_option maxRecDepth 10000 in
theorem kX0_copyFrom_8 {S1 : CS} {t : Nat} {b1 : Nat} {M : CS} {H : Heap} {locs : List Loc} {ls : Array Slot} (X : gX p s m args c cX0_copyFrom 2 RX0 (kR kTab kA)) (hret : gRetV p l e (rmL 1 0 0) s m args below meth c cX0_copyFrom (cΩ ca) (cP dC dI cg kA ca) Q S1) (hkt : kc t = 18) (hkb1 : kc b1 = 18) (hf : fX0_copyFrom_8 t b1 M = some S1) (hP : (cP dC dI cg kA ca) M s H) (hS : va_S (Fr (cΩ ca) s.heap.size) s.heap H locs) (hl : lv_has ls 2 [(0, .ref (ca t)), (1, .ref (ca b1))]) : W p l e (rmL 1 0 0) s m args below meth c H locs 0 0 Q (F0 m 8 ls []) := by
  have hx := X.hx
  have hb := X.hb
  have hown := X.hown
  have hts := X.hts
  rw [fX0_copyFrom_8] at hf
  refine lv_aload_n hx hb dX0_copyFrom_8 rfl (lv_at hl 0 rfl) ?_
  refine lv_aload_n hx hb dX0_copyFrom_9 rfl (lv_at hl 1 rfl) ?_
  refine cr_get (k := 1) X hP hkb1 rfl cv18_1 rfl cinX0 (by decide) rfl tw218 dX0_copyFrom_10 ?_
  refine cr_put (k := 1) X hP hS hkt rfl cs18_1 rfl cinX0 tyX0_ok nmX0 (by decide) rfl rfl rfl rfl tw218 dX0_copyFrom_13 (fun H locs hP hS => ?_)
  exact kX0_copyFrom_16 X hret hkt hkb1 hf hP hS (lv_sub hl [0, 1] rfl)
set_option maxRecDepth 10000 in
theorem kX0_copyFrom_0 {S1 : CS} {t : Nat} {b1 : Nat} {M : CS} {H : Heap} {locs : List Loc} {ls : Array Slot} (X : gX p s m args c cX0_copyFrom 2 RX0 (kR kTab kA)) (hret : gRetV p l e (rmL 1 0 0) s m args below meth c cX0_copyFrom (cΩ ca) (cP dC dI cg kA ca) Q S1) (hkt : kc t = 18) (hkb1 : kc b1 = 18) (hf : fX0_copyFrom_0 t b1 M = some S1) (hP : (cP dC dI cg kA ca) M s H) (hS : va_S (Fr (cΩ ca) s.heap.size) s.heap H locs) (hl : lv_has ls 2 [(0, .ref (ca t)), (1, .ref (ca b1))]) : W p l e (rmL 1 0 0) s m args below meth c H locs 0 0 Q (F0 m 0 ls []) := by
  have hx := X.hx
  have hb := X.hb
  have hown := X.hown
  have hts := X.hts
  rw [fX0_copyFrom_0] at hf
  refine lv_aload_n hx hb dX0_copyFrom_0 rfl (lv_at hl 0 rfl) ?_
  refine lv_aload_n hx hb dX0_copyFrom_1 rfl (lv_at hl 1 rfl) ?_
  refine cr_name X hP hkb1 rfl cv18_0 rfl cinX0 (by decide) rfl tw215 dX0_copyFrom_2 (fun n1 hn1 => ?_)
  refine cr_putN X hP hS hkt rfl cs18_0 rfl cinX0 tyX0_ok nmX0 (by decide) rfl rfl rfl rfl hn1 tw215 dX0_copyFrom_5 (fun H locs hP hS => ?_)
  exact kX0_copyFrom_8 X hret hkt hkb1 hf hP hS (lv_sub hl [0, 1] rfl)
theorem vX0_copyFrom {l : Launch} {dC : Nat → ClassId} {dI : Nat → Nat → Nat} {cg : Nat → ClassId} {kA : String → Nat → Nat} {ca : Nat → Nat} {M S1 : CS} {t : Nat} {b1 : Nat} (hkt : kc t = 18) (hkb1 : kc b1 = 18) (hf : fX0_copyFrom M t b1 = some S1) : gMetV l yX0_copyFrom cX0_copyFrom 2 1 (cΩ ca) (cP dC dI cg kA ca) (kR kTab kA) [.ref (ca t), .ref (ca b1)] M S1 := gEntryV (by decide) cOK (Nat.le_of_ble_eq_true rfl) (fun p e s m args below meth c Q ls X hP hS hret hl => 
  kX0_copyFrom_0 X hret hkt hkb1 hf hP hS (lv_sub hl [0, 1] rfl))
set_option maxRecDepth 10000 in
theorem kX0_begin_15 {S1 : CS} {t : Nat} {M : CS} {H : Heap} {locs : List Loc} {ls : Array Slot} (X : gX p s m args c cX0_begin 1 RX0 (kR kTab kA)) (hret : gRetV p l e (rmL 1 0 0) s m args below meth c cX0_begin (cΩ ca) (cP dC dI cg kA ca) Q S1) (hkt : kc t = 18) (hf : fX0_begin_15 t M = some S1) (hP : (cP dC dI cg kA ca) M s H) (hS : va_S (Fr (cΩ ca) s.heap.size) s.heap H locs) (hl : lv_has ls 1 [(0, .ref (ca t))]) : W p l e (rmL 1 0 0) s m args below meth c H locs 0 0 Q (F0 m 15 ls []) := by
  have hx := X.hx
  have hb := X.hb
  have hown := X.hown
  have hts := X.hts
  rw [fX0_begin_15] at hf
  cases hf
  exact hret _ _ _ _ dX0_begin_15 hP hS
set_option maxRecDepth 10000 in
theorem kX0_begin_10 {S1 : CS} {t : Nat} {M : CS} {H : Heap} {locs : List Loc} {ls : Array Slot} (X : gX p s m args c cX0_begin 1 RX0 (kR kTab kA)) (hret : gRetV p l e (rmL 1 0 0) s m args below meth c cX0_begin (cΩ ca) (cP dC dI cg kA ca) Q S1) (hkt : kc t = 18) (hf : fX0_begin_10 t M = some S1) (hP : (cP dC dI cg kA ca) M s H) (hS : va_S (Fr (cΩ ca) s.heap.size) s.heap H locs) (hl : lv_has ls 1 [(0, .ref (ca t))]) : W p l e (rmL 1 0 0) s m args below meth c H locs 0 0 Q (F0 m 10 ls []) := by
  have hx := X.hx
  have hb := X.hb
  have hown := X.hown
  have hts := X.hts
  rw [fX0_begin_10] at hf
  refine lv_aload_n hx hb dX0_begin_10 rfl (lv_at hl 0 rfl) ?_
  refine lv_iconst (v := 0) hx hb dX0_begin_11 (by decide) ?_
  refine cr_put (k := 5) X hP hS hkt rfl cs18_5 rfl cinX0 tyX0_ok nmX0 (by decide) rfl rfl rfl rfl tw229 dX0_begin_12 (fun H locs hP hS => ?_)
  exact kX0_begin_15 X hret hkt hf hP hS (lv_sub hl [0] rfl)
set_option maxRecDepth 10000 in
theorem kX0_begin_5 {S1 : CS} {t : Nat} {M : CS} {H : Heap} {locs : List Loc} {ls : Array Slot} (X : gX p s m args c cX0_begin 1 RX0 (kR kTab kA)) (hret : gRetV p l e (rmL 1 0 0) s m args below meth c cX0_begin (cΩ ca) (cP dC dI cg kA ca) Q S1) (hkt : kc t = 18) (hf : fX0_begin_5 t M = some S1) (hP : (cP dC dI cg kA ca) M s H) (hS : va_S (Fr (cΩ ca) s.heap.size) s.heap H locs) (hl : lv_has ls 1 [(0, .ref (ca t))]) : W p l e (rmL 1 0 0) s m args below meth c H locs 0 0 Q (F0 m 5 ls []) := by
  have hx := X.hx
  have hb := X.hb
  have hown := X.hown
  have hts := X.hts
  rw [fX0_begin_5] at hf
  refine lv_aload_n hx hb dX0_begin_5 rfl (lv_at hl 0 rfl) ?_
  refine lv_iconst (v := 0) hx hb dX0_begin_6 (by decide) ?_
  refine cr_put (k := 4) X hP hS hkt rfl cs18_4 rfl cinX0 tyX0_ok nmX0 (by decide) rfl rfl rfl rfl tw226 dX0_begin_7 (fun H locs hP hS => ?_)
  exact kX0_begin_10 X hret hkt hf hP hS (lv_sub hl [0] rfl)
set_option maxRecDepth 10000 in
theorem kX0_begin_0 {S1 : CS} {t : Nat} {M : CS} {H : Heap} {locs : List Loc} {ls : Array Slot} (X : gX p s m args c cX0_begin 1 RX0 (kR kTab kA)) (hret : gRetV p l e (rmL 1 0 0) s m args below meth c cX0_begin (cΩ ca) (cP dC dI cg kA ca) Q S1) (hkt : kc t = 18) (hf : fX0_begin_0 t M = some S1) (hP : (cP dC dI cg kA ca) M s H) (hS : va_S (Fr (cΩ ca) s.heap.size) s.heap H locs) (hl : lv_has ls 1 [(0, .ref (ca t))]) : W p l e (rmL 1 0 0) s m args below meth c H locs 0 0 Q (F0 m 0 ls []) := by
  have hx := X.hx
  have hb := X.hb
  have hown := X.hown
  have hts := X.hts
  rw [fX0_begin_0] at hf
  refine lv_aload_n hx hb dX0_begin_0 rfl (lv_at hl 0 rfl) ?_
  refine lv_iconst (v := 0) hx hb dX0_begin_1 (by decide) ?_
  refine cr_put (k := 3) X hP hS hkt rfl cs18_3 rfl cinX0 tyX0_ok nmX0 (by decide) rfl rfl rfl rfl tw223 dX0_begin_2 (fun H locs hP hS => ?_)
  exact kX0_begin_5 X hret hkt hf hP hS (lv_sub hl [0] rfl)
theorem vX0_begin {l : Launch} {dC : Nat → ClassId} {dI : Nat → Nat → Nat} {cg : Nat → ClassId} {kA : String → Nat → Nat} {ca : Nat → Nat} {M S1 : CS} {t : Nat} (hkt : kc t = 18) (hf : fX0_begin M t  = some S1) : gMetV l yX0_begin cX0_begin 1 1 (cΩ ca) (cP dC dI cg kA ca) (kR kTab kA) [.ref (ca t)] M S1 := gEntryV (by decide) cOK (Nat.le_of_ble_eq_true rfl) (fun p e s m args below meth c Q ls X hP hS hret hl => 
  kX0_begin_0 X hret hkt hf hP hS (lv_sub hl [0] rfl))
set_option maxRecDepth 10000 in
theorem kX1_clear_10 {S1 : CS} {t : Nat} {M : CS} {H : Heap} {locs : List Loc} {ls : Array Slot} (X : gX p s m args c cX1_clear 1 RX1 (kR kTab kA)) (hret : gRetV p l e (rmL 1 0 0) s m args below meth c cX1_clear (cΩ ca) (cP dC dI cg kA ca) Q S1) (hkt : kc t = 15) (hf : fX1_clear_10 t M = some S1) (hP : (cP dC dI cg kA ca) M s H) (hS : va_S (Fr (cΩ ca) s.heap.size) s.heap H locs) (hl : lv_has ls 1 [(0, .ref (ca t))]) : W p l e (rmL 1 0 0) s m args below meth c H locs 0 0 Q (F0 m 10 ls []) := by
  have hx := X.hx
  have hb := X.hb
  have hown := X.hown
  have hts := X.hts
  rw [fX1_clear_10] at hf
  cases hf
  exact hret _ _ _ _ dX1_clear_10 hP hS
set_option maxRecDepth 10000 in
theorem kX1_clear_5 {S1 : CS} {t : Nat} {M : CS} {H : Heap} {locs : List Loc} {ls : Array Slot} (X : gX p s m args c cX1_clear 1 RX1 (kR kTab kA)) (hret : gRetV p l e (rmL 1 0 0) s m args below meth c cX1_clear (cΩ ca) (cP dC dI cg kA ca) Q S1) (hkt : kc t = 15) (hf : fX1_clear_5 t M = some S1) (hP : (cP dC dI cg kA ca) M s H) (hS : va_S (Fr (cΩ ca) s.heap.size) s.heap H locs) (hl : lv_has ls 1 [(0, .ref (ca t))]) : W p l e (rmL 1 0 0) s m args below meth c H locs 0 0 Q (F0 m 5 ls []) := by
  have hx := X.hx
  have hb := X.hb
  have hown := X.hown
  have hts := X.hts
  rw [fX1_clear_5] at hf
  refine lv_aload_n hx hb dX1_clear_5 rfl (lv_at hl 0 rfl) ?_
  refine lv_iconst (v := 0) hx hb dX1_clear_6 (by decide) ?_
  refine cr_put (k := 4) X hP hS hkt rfl cs15_4 rfl cinX1 tyX1_ok nmX1 (by decide) rfl rfl rfl rfl tw151 dX1_clear_7 (fun H locs hP hS => ?_)
  exact kX1_clear_10 X hret hkt hf hP hS (lv_sub hl [0] rfl)
set_option maxRecDepth 10000 in
theorem kX1_clear_0 {S1 : CS} {t : Nat} {M : CS} {H : Heap} {locs : List Loc} {ls : Array Slot} (X : gX p s m args c cX1_clear 1 RX1 (kR kTab kA)) (hret : gRetV p l e (rmL 1 0 0) s m args below meth c cX1_clear (cΩ ca) (cP dC dI cg kA ca) Q S1) (hkt : kc t = 15) (hf : fX1_clear_0 t M = some S1) (hP : (cP dC dI cg kA ca) M s H) (hS : va_S (Fr (cΩ ca) s.heap.size) s.heap H locs) (hl : lv_has ls 1 [(0, .ref (ca t))]) : W p l e (rmL 1 0 0) s m args below meth c H locs 0 0 Q (F0 m 0 ls []) := by
  have hx := X.hx
  have hb := X.hb
  have hown := X.hown
  have hts := X.hts
  rw [fX1_clear_0] at hf
  refine lv_aload_n hx hb dX1_clear_0 rfl (lv_at hl 0 rfl) ?_
  refine lv_iconst (v := 0) hx hb dX1_clear_1 (by decide) ?_
  refine cr_put (k := 3) X hP hS hkt rfl cs15_3 rfl cinX1 tyX1_ok nmX1 (by decide) rfl rfl rfl rfl tw150 dX1_clear_2 (fun H locs hP hS => ?_)
  exact kX1_clear_5 X hret hkt hf hP hS (lv_sub hl [0] rfl)
theorem vX1_clear {l : Launch} {dC : Nat → ClassId} {dI : Nat → Nat → Nat} {cg : Nat → ClassId} {kA : String → Nat → Nat} {ca : Nat → Nat} {M S1 : CS} {t : Nat} (hkt : kc t = 15) (hf : fX1_clear M t  = some S1) : gMetV l yX1_clear cX1_clear 1 1 (cΩ ca) (cP dC dI cg kA ca) (kR kTab kA) [.ref (ca t)] M S1 := gEntryV (by decide) cOK (Nat.le_of_ble_eq_true rfl) (fun p e s m args below meth c Q ls X hP hS hret hl => 
  kX1_clear_0 X hret hkt hf hP hS (lv_sub hl [0] rfl))
set_option maxRecDepth 10000 in
theorem kX2_allows_57 {r : Int32} {t : Nat} {M : CS} {s0 : Int32} (X : gX p s m args c cX2_allows 4 RX2 (kR kTab kA)) (hret : gRetR p l e (rmL 1 0 0) s m args below meth c cX2_allows Q r) (hkt : kc t = 11) (hf : fX2_allows_57 t M s0 = some r) {ls : Array Slot} (hP : (cP dC dI cg kA ca) M s s.heap) (hl : lv_has ls 4 [(0, .ref (ca t))]) : W p l e (rmL 1 0 0) s m args below meth c s.heap [] 0 0 Q (F0 m 57 ls [.int s0]) := by
  have hx := X.hx
  have hb := X.hb
  have hown := X.hown
  have hts := X.hts
  rw [fX2_allows_57] at hf
  cases hf
  exact hret _ _ dX2_allows_57
set_option maxRecDepth 10000 in
theorem kX2_allows_56 {r : Int32} {t : Nat} {M : CS} (X : gX p s m args c cX2_allows 4 RX2 (kR kTab kA)) (hret : gRetR p l e (rmL 1 0 0) s m args below meth c cX2_allows Q r) (hkt : kc t = 11) (hf : fX2_allows_56 t M = some r) {ls : Array Slot} (hP : (cP dC dI cg kA ca) M s s.heap) (hl : lv_has ls 4 [(0, .ref (ca t))]) : W p l e (rmL 1 0 0) s m args below meth c s.heap [] 0 0 Q (F0 m 56 ls []) := by
  have hx := X.hx
  have hb := X.hb
  have hown := X.hown
  have hts := X.hts
  rw [fX2_allows_56] at hf
  refine lv_iconst (v := 0) hx hb dX2_allows_56 (by decide) ?_
  exact kX2_allows_57 X hret hkt hf hP (lv_sub hl [0] rfl)
set_option maxRecDepth 10000 in
theorem kX2_allows_52 {r : Int32} {t : Nat} {M : CS} (X : gX p s m args c cX2_allows 4 RX2 (kR kTab kA)) (hret : gRetR p l e (rmL 1 0 0) s m args below meth c cX2_allows Q r) (hkt : kc t = 11) (hf : fX2_allows_52 t M = some r) {ls : Array Slot} (hP : (cP dC dI cg kA ca) M s s.heap) (hl : lv_has ls 4 [(0, .ref (ca t))]) : W p l e (rmL 1 0 0) s m args below meth c s.heap [] 0 0 Q (F0 m 52 ls []) := by
  have hx := X.hx
  have hb := X.hb
  have hown := X.hown
  have hts := X.hts
  rw [fX2_allows_52] at hf
  refine lv_iconst (v := 1) hx hb dX2_allows_52 (by decide) ?_
  refine lv_goto (tgt := 57) hx hb dX2_allows_53 (by decide) ?_
  exact kX2_allows_57 X hret hkt hf hP (lv_sub hl [0] rfl)
set_option maxRecDepth 10000 in
theorem kX2_allows_40 {r : Int32} {t : Nat} {M : CS} {x3 : Int32} (X : gX p s m args c cX2_allows 4 RX2 (kR kTab kA)) (hret : gRetR p l e (rmL 1 0 0) s m args below meth c cX2_allows Q r) (hkt : kc t = 11) (hf : fX2_allows_40 t M x3 = some r) {ls : Array Slot} (hP : (cP dC dI cg kA ca) M s s.heap) (hl : lv_has ls 4 [(0, .ref (ca t)), (3, .int x3)]) : W p l e (rmL 1 0 0) s m args below meth c s.heap [] 0 0 Q (F0 m 40 ls []) := by
  have hx := X.hx
  have hb := X.hb
  have hown := X.hown
  have hts := X.hts
  rw [fX2_allows_40] at hf
  refine lv_aload_n hx hb dX2_allows_40 rfl (lv_at hl 0 rfl) ?_
  refine cr_get (k := 12) X hP hkt rfl cv11_12 rfl cinX2 (by decide) rfl tw325 dX2_allows_41 ?_
  refine lv_iload_n hx hb dX2_allows_44 rfl (lv_at hl 1 rfl) ?_
  refine lv_iadd hx hb dX2_allows_45 ?_
  refine lv_sipush (v := 9999) hx hb dX2_allows_46 (by decide) ?_
  refine lv_icmp_gt (tgt := 56) hx hb dX2_allows_49 (by decide) (fun c1 => ?_) (fun c1 => ?_)
  · exact kX2_allows_56 X hret hkt (ifp c1 hf) hP (lv_sub hl [0] rfl)
  · exact kX2_allows_52 X hret hkt (ifn c1 hf) hP (lv_sub hl [0] rfl)
set_option maxRecDepth 10000 in
theorem kX2_allows_75 {r : Int32} {t : Nat} {M : CS} {s0 : Int32} (X : gX p s m args c cX2_allows 4 RX2 (kR kTab kA)) (hret : gRetR p l e (rmL 1 0 0) s m args below meth c cX2_allows Q r) (hkt : kc t = 11) (hf : fX2_allows_75 t M s0 = some r) {ls : Array Slot} (hP : (cP dC dI cg kA ca) M s s.heap) (hl : lv_has ls 4 [(0, .ref (ca t))]) : W p l e (rmL 1 0 0) s m args below meth c s.heap [] 0 0 Q (F0 m 75 ls [.int s0]) := by
  have hx := X.hx
  have hb := X.hb
  have hown := X.hown
  have hts := X.hts
  rw [fX2_allows_75] at hf
  cases hf
  exact hret _ _ dX2_allows_75
set_option maxRecDepth 10000 in
theorem kX2_allows_74 {r : Int32} {t : Nat} {M : CS} (X : gX p s m args c cX2_allows 4 RX2 (kR kTab kA)) (hret : gRetR p l e (rmL 1 0 0) s m args below meth c cX2_allows Q r) (hkt : kc t = 11) (hf : fX2_allows_74 t M = some r) {ls : Array Slot} (hP : (cP dC dI cg kA ca) M s s.heap) (hl : lv_has ls 4 [(0, .ref (ca t))]) : W p l e (rmL 1 0 0) s m args below meth c s.heap [] 0 0 Q (F0 m 74 ls []) := by
  have hx := X.hx
  have hb := X.hb
  have hown := X.hown
  have hts := X.hts
  rw [fX2_allows_74] at hf
  refine lv_iconst (v := 0) hx hb dX2_allows_74 (by decide) ?_
  exact kX2_allows_75 X hret hkt hf hP (lv_sub hl [0] rfl)
set_option maxRecDepth 10000 in
theorem kX2_allows_70 {r : Int32} {t : Nat} {M : CS} (X : gX p s m args c cX2_allows 4 RX2 (kR kTab kA)) (hret : gRetR p l e (rmL 1 0 0) s m args below meth c cX2_allows Q r) (hkt : kc t = 11) (hf : fX2_allows_70 t M = some r) {ls : Array Slot} (hP : (cP dC dI cg kA ca) M s s.heap) (hl : lv_has ls 4 [(0, .ref (ca t))]) : W p l e (rmL 1 0 0) s m args below meth c s.heap [] 0 0 Q (F0 m 70 ls []) := by
  have hx := X.hx
  have hb := X.hb
  have hown := X.hown
  have hts := X.hts
  rw [fX2_allows_70] at hf
  refine lv_iconst (v := 1) hx hb dX2_allows_70 (by decide) ?_
  refine lv_goto (tgt := 75) hx hb dX2_allows_71 (by decide) ?_
  exact kX2_allows_75 X hret hkt hf hP (lv_sub hl [0] rfl)
set_option maxRecDepth 10000 in
theorem kX2_allows_58 {r : Int32} {t : Nat} {M : CS} {x2 : Int32} (X : gX p s m args c cX2_allows 4 RX2 (kR kTab kA)) (hret : gRetR p l e (rmL 1 0 0) s m args below meth c cX2_allows Q r) (hkt : kc t = 11) (hf : fX2_allows_58 t M x2 = some r) {ls : Array Slot} (hP : (cP dC dI cg kA ca) M s s.heap) (hl : lv_has ls 4 [(0, .ref (ca t)), (2, .int x2)]) : W p l e (rmL 1 0 0) s m args below meth c s.heap [] 0 0 Q (F0 m 58 ls []) := by
  have hx := X.hx
  have hb := X.hb
  have hown := X.hown
  have hts := X.hts
  rw [fX2_allows_58] at hf
  refine lv_aload_n hx hb dX2_allows_58 rfl (lv_at hl 0 rfl) ?_
  refine cr_get (k := 1) X hP hkt rfl cv11_1 rfl cinX2 (by decide) rfl tw300 dX2_allows_59 ?_
  refine lv_iload_n hx hb dX2_allows_62 rfl (lv_at hl 1 rfl) ?_
  obtain ⟨g1, hf⟩ := gd hf
  refine cr_aald (f := fun i => (t + 2) + 15 + i) X hP (kc_sacks hkt) rfl (fun _ => rfl) rfl g1 dX2_allows_63 ?_
  refine cr_get (k := 3) X hP (kc_sack (kc_sacks hkt) g1) rfl cv19_3 rfl cinX4 (by decide) rfl tw263 dX2_allows_64 ?_
  refine lv_if_ne (tgt := 74) hx hb dX2_allows_67 (by decide) (fun c1 => ?_) (fun c1 => ?_)
  · exact kX2_allows_74 X hret hkt (ifn c1 hf) hP (lv_sub hl [0] rfl)
  · exact kX2_allows_70 X hret hkt (ifp c1 hf) hP (lv_sub hl [0] rfl)
set_option maxRecDepth 10000 in
theorem kX2_allows_76 {r : Int32} {t : Nat} {M : CS} {x2 : Int32} (X : gX p s m args c cX2_allows 4 RX2 (kR kTab kA)) (hret : gRetR p l e (rmL 1 0 0) s m args below meth c cX2_allows Q r) (hkt : kc t = 11) (hf : fX2_allows_76 t M x2 = some r) {ls : Array Slot} (hP : (cP dC dI cg kA ca) M s s.heap) (hl : lv_has ls 4 [(0, .ref (ca t)), (2, .int x2)]) : W p l e (rmL 1 0 0) s m args below meth c s.heap [] 0 0 Q (F0 m 76 ls []) := by
  have hx := X.hx
  have hb := X.hb
  have hown := X.hown
  have hts := X.hts
  rw [fX2_allows_76] at hf
  refine lv_aload_n hx hb dX2_allows_76 rfl (lv_at hl 0 rfl) ?_
  refine cr_get (k := 1) X hP hkt rfl cv11_1 rfl cinX2 (by decide) rfl tw300 dX2_allows_77 ?_
  refine lv_iload_n hx hb dX2_allows_80 rfl (lv_at hl 1 rfl) ?_
  obtain ⟨g1, hf⟩ := gd hf
  refine cr_aald (f := fun i => (t + 2) + 15 + i) X hP (kc_sacks hkt) rfl (fun _ => rfl) rfl g1 dX2_allows_81 ?_
  refine cr_get (k := 3) X hP (kc_sack (kc_sacks hkt) g1) rfl cv19_3 rfl cinX4 (by decide) rfl tw263 dX2_allows_82 ?_
  cases hf
  exact hret _ _ dX2_allows_85
set_option maxRecDepth 10000 in
theorem kX2_allows_107 {r : Int32} {t : Nat} {M : CS} {s0 : Int32} (X : gX p s m args c cX2_allows 4 RX2 (kR kTab kA)) (hret : gRetR p l e (rmL 1 0 0) s m args below meth c cX2_allows Q r) (hkt : kc t = 11) (hf : fX2_allows_107 t M s0 = some r) {ls : Array Slot} (hP : (cP dC dI cg kA ca) M s s.heap) (hl : lv_has ls 4 [(0, .ref (ca t))]) : W p l e (rmL 1 0 0) s m args below meth c s.heap [] 0 0 Q (F0 m 107 ls [.int s0]) := by
  have hx := X.hx
  have hb := X.hb
  have hown := X.hown
  have hts := X.hts
  rw [fX2_allows_107] at hf
  cases hf
  exact hret _ _ dX2_allows_107
set_option maxRecDepth 10000 in
theorem kX2_allows_106 {r : Int32} {t : Nat} {M : CS} (X : gX p s m args c cX2_allows 4 RX2 (kR kTab kA)) (hret : gRetR p l e (rmL 1 0 0) s m args below meth c cX2_allows Q r) (hkt : kc t = 11) (hf : fX2_allows_106 t M = some r) {ls : Array Slot} (hP : (cP dC dI cg kA ca) M s s.heap) (hl : lv_has ls 4 [(0, .ref (ca t))]) : W p l e (rmL 1 0 0) s m args below meth c s.heap [] 0 0 Q (F0 m 106 ls []) := by
  have hx := X.hx
  have hb := X.hb
  have hown := X.hown
  have hts := X.hts
  rw [fX2_allows_106] at hf
  refine lv_iconst (v := 0) hx hb dX2_allows_106 (by decide) ?_
  exact kX2_allows_107 X hret hkt hf hP (lv_sub hl [0] rfl)
set_option maxRecDepth 10000 in
theorem kX2_allows_102 {r : Int32} {t : Nat} {M : CS} (X : gX p s m args c cX2_allows 4 RX2 (kR kTab kA)) (hret : gRetR p l e (rmL 1 0 0) s m args below meth c cX2_allows Q r) (hkt : kc t = 11) (hf : fX2_allows_102 t M = some r) {ls : Array Slot} (hP : (cP dC dI cg kA ca) M s s.heap) (hl : lv_has ls 4 [(0, .ref (ca t))]) : W p l e (rmL 1 0 0) s m args below meth c s.heap [] 0 0 Q (F0 m 102 ls []) := by
  have hx := X.hx
  have hb := X.hb
  have hown := X.hown
  have hts := X.hts
  rw [fX2_allows_102] at hf
  refine lv_iconst (v := 1) hx hb dX2_allows_102 (by decide) ?_
  refine lv_goto (tgt := 107) hx hb dX2_allows_103 (by decide) ?_
  exact kX2_allows_107 X hret hkt hf hP (lv_sub hl [0] rfl)
set_option maxRecDepth 10000 in
theorem kX2_allows_86 {r : Int32} {t : Nat} {M : CS} {x2 : Int32} {x3 : Int32} (X : gX p s m args c cX2_allows 4 RX2 (kR kTab kA)) (hret : gRetR p l e (rmL 1 0 0) s m args below meth c cX2_allows Q r) (hkt : kc t = 11) (hf : fX2_allows_86 t M x2 x3 = some r) {ls : Array Slot} (hP : (cP dC dI cg kA ca) M s s.heap) (hl : lv_has ls 4 [(0, .ref (ca t)), (2, .int x2), (3, .int x3)]) : W p l e (rmL 1 0 0) s m args below meth c s.heap [] 0 0 Q (F0 m 86 ls []) := by
  have hx := X.hx
  have hb := X.hb
  have hown := X.hown
  have hts := X.hts
  rw [fX2_allows_86] at hf
  refine lv_aload_n hx hb dX2_allows_86 rfl (lv_at hl 0 rfl) ?_
  refine cr_get (k := 1) X hP hkt rfl cv11_1 rfl cinX2 (by decide) rfl tw300 dX2_allows_87 ?_
  refine lv_iload_n hx hb dX2_allows_90 rfl (lv_at hl 1 rfl) ?_
  obtain ⟨g1, hf⟩ := gd hf
  refine cr_aald (f := fun i => (t + 2) + 15 + i) X hP (kc_sacks hkt) rfl (fun _ => rfl) rfl g1 dX2_allows_91 ?_
  refine cr_get (k := 2) X hP (kc_sack (kc_sacks hkt) g1) rfl cv19_2 rfl cinX4 (by decide) rfl tw259 dX2_allows_92 ?_
  refine lv_iload_n hx hb dX2_allows_95 rfl (lv_at hl 2 rfl) ?_
  refine lv_iadd hx hb dX2_allows_96 ?_
  refine lv_bipush (v := 99) hx hb dX2_allows_97 (by decide) ?_
  refine lv_icmp_gt (tgt := 106) hx hb dX2_allows_99 (by decide) (fun c1 => ?_) (fun c1 => ?_)
  · exact kX2_allows_106 X hret hkt (ifp c1 hf) hP (lv_sub hl [0] rfl)
  · exact kX2_allows_102 X hret hkt (ifn c1 hf) hP (lv_sub hl [0] rfl)
set_option maxRecDepth 10000 in
theorem kX2_allows_130 {r : Int32} {t : Nat} {M : CS} {s0 : Int32} (X : gX p s m args c cX2_allows 4 RX2 (kR kTab kA)) (hret : gRetR p l e (rmL 1 0 0) s m args below meth c cX2_allows Q r) (hkt : kc t = 11) (hf : fX2_allows_130 t M s0 = some r) {ls : Array Slot} (hP : (cP dC dI cg kA ca) M s s.heap) (hl : lv_has ls 4 [(0, .ref (ca t))]) : W p l e (rmL 1 0 0) s m args below meth c s.heap [] 0 0 Q (F0 m 130 ls [.int s0]) := by
  have hx := X.hx
  have hb := X.hb
  have hown := X.hown
  have hts := X.hts
  rw [fX2_allows_130] at hf
  cases hf
  exact hret _ _ dX2_allows_130
set_option maxRecDepth 10000 in
theorem kX2_allows_129 {r : Int32} {t : Nat} {M : CS} (X : gX p s m args c cX2_allows 4 RX2 (kR kTab kA)) (hret : gRetR p l e (rmL 1 0 0) s m args below meth c cX2_allows Q r) (hkt : kc t = 11) (hf : fX2_allows_129 t M = some r) {ls : Array Slot} (hP : (cP dC dI cg kA ca) M s s.heap) (hl : lv_has ls 4 [(0, .ref (ca t))]) : W p l e (rmL 1 0 0) s m args below meth c s.heap [] 0 0 Q (F0 m 129 ls []) := by
  have hx := X.hx
  have hb := X.hb
  have hown := X.hown
  have hts := X.hts
  rw [fX2_allows_129] at hf
  refine lv_iconst (v := 0) hx hb dX2_allows_129 (by decide) ?_
  exact kX2_allows_130 X hret hkt hf hP (lv_sub hl [0] rfl)
set_option maxRecDepth 10000 in
theorem kX2_allows_125 {r : Int32} {t : Nat} {M : CS} (X : gX p s m args c cX2_allows 4 RX2 (kR kTab kA)) (hret : gRetR p l e (rmL 1 0 0) s m args below meth c cX2_allows Q r) (hkt : kc t = 11) (hf : fX2_allows_125 t M = some r) {ls : Array Slot} (hP : (cP dC dI cg kA ca) M s s.heap) (hl : lv_has ls 4 [(0, .ref (ca t))]) : W p l e (rmL 1 0 0) s m args below meth c s.heap [] 0 0 Q (F0 m 125 ls []) := by
  have hx := X.hx
  have hb := X.hb
  have hown := X.hown
  have hts := X.hts
  rw [fX2_allows_125] at hf
  refine lv_iconst (v := 1) hx hb dX2_allows_125 (by decide) ?_
  refine lv_goto (tgt := 130) hx hb dX2_allows_126 (by decide) ?_
  exact kX2_allows_130 X hret hkt hf hP (lv_sub hl [0] rfl)
set_option maxRecDepth 10000 in
theorem kX2_allows_108 {r : Int32} {t : Nat} {M : CS} {x2 : Int32} {x3 : Int32} (X : gX p s m args c cX2_allows 4 RX2 (kR kTab kA)) (hret : gRetR p l e (rmL 1 0 0) s m args below meth c cX2_allows Q r) (hkt : kc t = 11) (hf : fX2_allows_108 t M x2 x3 = some r) {ls : Array Slot} (hP : (cP dC dI cg kA ca) M s s.heap) (hl : lv_has ls 4 [(0, .ref (ca t)), (2, .int x2), (3, .int x3)]) : W p l e (rmL 1 0 0) s m args below meth c s.heap [] 0 0 Q (F0 m 108 ls []) := by
  have hx := X.hx
  have hb := X.hb
  have hown := X.hown
  have hts := X.hts
  rw [fX2_allows_108] at hf
  refine lv_aload_n hx hb dX2_allows_108 rfl (lv_at hl 0 rfl) ?_
  refine cr_get (k := 1) X hP hkt rfl cv11_1 rfl cinX2 (by decide) rfl tw300 dX2_allows_109 ?_
  refine lv_iload_n hx hb dX2_allows_112 rfl (lv_at hl 1 rfl) ?_
  obtain ⟨g1, hf⟩ := gd hf
  refine cr_aald (f := fun i => (t + 2) + 15 + i) X hP (kc_sacks hkt) rfl (fun _ => rfl) rfl g1 dX2_allows_113 ?_
  refine cr_get (k := 1) X hP (kc_sack (kc_sacks hkt) g1) rfl cv19_1 rfl cinX4 (by decide) rfl tw256 dX2_allows_114 ?_
  refine lv_iload_n hx hb dX2_allows_117 rfl (lv_at hl 2 rfl) ?_
  refine lv_iadd hx hb dX2_allows_118 ?_
  refine lv_sipush (v := 9999) hx hb dX2_allows_119 (by decide) ?_
  refine lv_icmp_gt (tgt := 129) hx hb dX2_allows_122 (by decide) (fun c1 => ?_) (fun c1 => ?_)
  · exact kX2_allows_129 X hret hkt (ifp c1 hf) hP (lv_sub hl [0] rfl)
  · exact kX2_allows_125 X hret hkt (ifn c1 hf) hP (lv_sub hl [0] rfl)
set_option maxRecDepth 10000 in
theorem kX2_allows_144 {r : Int32} {t : Nat} {M : CS} {s0 : Int32} (X : gX p s m args c cX2_allows 4 RX2 (kR kTab kA)) (hret : gRetR p l e (rmL 1 0 0) s m args below meth c cX2_allows Q r) (hkt : kc t = 11) (hf : fX2_allows_144 t M s0 = some r) {ls : Array Slot} (hP : (cP dC dI cg kA ca) M s s.heap) (hl : lv_has ls 4 [(0, .ref (ca t))]) : W p l e (rmL 1 0 0) s m args below meth c s.heap [] 0 0 Q (F0 m 144 ls [.int s0]) := by
  have hx := X.hx
  have hb := X.hb
  have hown := X.hown
  have hts := X.hts
  rw [fX2_allows_144] at hf
  cases hf
  exact hret _ _ dX2_allows_144
set_option maxRecDepth 10000 in
theorem kX2_allows_143 {r : Int32} {t : Nat} {M : CS} (X : gX p s m args c cX2_allows 4 RX2 (kR kTab kA)) (hret : gRetR p l e (rmL 1 0 0) s m args below meth c cX2_allows Q r) (hkt : kc t = 11) (hf : fX2_allows_143 t M = some r) {ls : Array Slot} (hP : (cP dC dI cg kA ca) M s s.heap) (hl : lv_has ls 4 [(0, .ref (ca t))]) : W p l e (rmL 1 0 0) s m args below meth c s.heap [] 0 0 Q (F0 m 143 ls []) := by
  have hx := X.hx
  have hb := X.hb
  have hown := X.hown
  have hts := X.hts
  rw [fX2_allows_143] at hf
  refine lv_iconst (v := 0) hx hb dX2_allows_143 (by decide) ?_
  exact kX2_allows_144 X hret hkt hf hP (lv_sub hl [0] rfl)
set_option maxRecDepth 10000 in
theorem kX2_allows_139 {r : Int32} {t : Nat} {M : CS} (X : gX p s m args c cX2_allows 4 RX2 (kR kTab kA)) (hret : gRetR p l e (rmL 1 0 0) s m args below meth c cX2_allows Q r) (hkt : kc t = 11) (hf : fX2_allows_139 t M = some r) {ls : Array Slot} (hP : (cP dC dI cg kA ca) M s s.heap) (hl : lv_has ls 4 [(0, .ref (ca t))]) : W p l e (rmL 1 0 0) s m args below meth c s.heap [] 0 0 Q (F0 m 139 ls []) := by
  have hx := X.hx
  have hb := X.hb
  have hown := X.hown
  have hts := X.hts
  rw [fX2_allows_139] at hf
  refine lv_iconst (v := 1) hx hb dX2_allows_139 (by decide) ?_
  refine lv_goto (tgt := 144) hx hb dX2_allows_140 (by decide) ?_
  exact kX2_allows_144 X hret hkt hf hP (lv_sub hl [0] rfl)
set_option maxRecDepth 10000 in
theorem kX2_allows_131 {r : Int32} {t : Nat} {M : CS} (X : gX p s m args c cX2_allows 4 RX2 (kR kTab kA)) (hret : gRetR p l e (rmL 1 0 0) s m args below meth c cX2_allows Q r) (hkt : kc t = 11) (hf : fX2_allows_131 t M = some r) {ls : Array Slot} (hP : (cP dC dI cg kA ca) M s s.heap) (hl : lv_has ls 4 [(0, .ref (ca t))]) : W p l e (rmL 1 0 0) s m args below meth c s.heap [] 0 0 Q (F0 m 131 ls []) := by
  have hx := X.hx
  have hb := X.hb
  have hown := X.hown
  have hts := X.hts
  rw [fX2_allows_131] at hf
  refine lv_aload_n hx hb dX2_allows_131 rfl (lv_at hl 0 rfl) ?_
  refine cr_get (k := 8) X hP hkt rfl cv11_8 rfl cinX2 (by decide) rfl tw316 dX2_allows_132 ?_
  refine lv_iconst (v := (-1)) hx hb dX2_allows_135 (by decide) ?_
  refine lv_icmp_eq (tgt := 143) hx hb dX2_allows_136 (by decide) (fun c1 => ?_) (fun c1 => ?_)
  · exact kX2_allows_143 X hret hkt (ifp c1 hf) hP (lv_sub hl [0] rfl)
  · exact kX2_allows_139 X hret hkt (ifn c1 hf) hP (lv_sub hl [0] rfl)
set_option maxRecDepth 10000 in
theorem kX2_allows_145 {r : Int32} {t : Nat} {M : CS} (X : gX p s m args c cX2_allows 4 RX2 (kR kTab kA)) (hret : gRetR p l e (rmL 1 0 0) s m args below meth c cX2_allows Q r) (hkt : kc t = 11) (hf : fX2_allows_145 t M = some r) {ls : Array Slot} (hP : (cP dC dI cg kA ca) M s s.heap) (hl : lv_has ls 4 [(0, .ref (ca t))]) : W p l e (rmL 1 0 0) s m args below meth c s.heap [] 0 0 Q (F0 m 145 ls []) := by
  have hx := X.hx
  have hb := X.hb
  have hown := X.hown
  have hts := X.hts
  rw [fX2_allows_145] at hf
  refine lv_iconst (v := 1) hx hb dX2_allows_145 (by decide) ?_
  cases hf
  exact hret _ _ dX2_allows_146
set_option maxRecDepth 10000 in
theorem kX2_allows_0 {r : Int32} {t : Nat} {M : CS} {a1 : Int32} {a2 : Int32} {a3 : Int32} (X : gX p s m args c cX2_allows 4 RX2 (kR kTab kA)) (hret : gRetR p l e (rmL 1 0 0) s m args below meth c cX2_allows Q r) (hkt : kc t = 11) (hf : fX2_allows_0 t M a1 a2 a3 = some r) {ls : Array Slot} (hP : (cP dC dI cg kA ca) M s s.heap) (hl : lv_has ls 4 [(0, .ref (ca t)), (1, .int a1), (2, .int a2), (3, .int a3)]) : W p l e (rmL 1 0 0) s m args below meth c s.heap [] 0 0 Q (F0 m 0 ls []) := by
  have hx := X.hx
  have hb := X.hb
  have hown := X.hown
  have hts := X.hts
  rw [fX2_allows_0] at hf
  refine lv_iload_n hx hb dX2_allows_0 rfl (lv_at hl 1 rfl) ?_
  by_cases c0 : a1 = 0
  · refine lv_tableIn (off := 39) (tgt := 40) hx hb dX2_allows_1 (by rw [c0]; decide) (by rw [c0]; decide) (by rw [c0]; rfl) (by decide) ?_
    exact kX2_allows_40 X hret hkt (ifp c0 hf) hP (lv_sub hl [0, 3] rfl)
  replace hf := ifn c0 hf
  by_cases c1 : a1 = 1
  · refine lv_tableIn (off := 57) (tgt := 58) hx hb dX2_allows_1 (by rw [c1]; decide) (by rw [c1]; decide) (by rw [c1]; rfl) (by decide) ?_
    exact kX2_allows_58 X hret hkt (ifp c1 hf) hP (lv_sub hl [0, 2] rfl)
  replace hf := ifn c1 hf
  by_cases c2 : a1 = 2
  · refine lv_tableIn (off := 75) (tgt := 76) hx hb dX2_allows_1 (by rw [c2]; decide) (by rw [c2]; decide) (by rw [c2]; rfl) (by decide) ?_
    exact kX2_allows_76 X hret hkt (ifp c2 hf) hP (lv_sub hl [0, 2] rfl)
  replace hf := ifn c2 hf
  by_cases c3 : a1 = 3
  · refine lv_tableIn (off := 85) (tgt := 86) hx hb dX2_allows_1 (by rw [c3]; decide) (by rw [c3]; decide) (by rw [c3]; rfl) (by decide) ?_
    exact kX2_allows_86 X hret hkt (ifp c3 hf) hP (lv_sub hl [0, 2, 3] rfl)
  replace hf := ifn c3 hf
  by_cases c4 : a1 = 4
  · refine lv_tableIn (off := 107) (tgt := 108) hx hb dX2_allows_1 (by rw [c4]; decide) (by rw [c4]; decide) (by rw [c4]; rfl) (by decide) ?_
    exact kX2_allows_108 X hret hkt (ifp c4 hf) hP (lv_sub hl [0, 2, 3] rfl)
  replace hf := ifn c4 hf
  by_cases c5 : a1 = 5
  · refine lv_tableIn (off := 130) (tgt := 131) hx hb dX2_allows_1 (by rw [c5]; decide) (by rw [c5]; decide) (by rw [c5]; rfl) (by decide) ?_
    exact kX2_allows_131 X hret hkt (ifp c5 hf) hP (lv_sub hl [0] rfl)
  replace hf := ifn c5 hf
  refine lv_tableOut (tgt := 145) hx hb dX2_allows_1 (sw_out 0 5 (by decide) (by decide) (fun k h1 h2 h3 => by have hk : k = 0 ∨ k = 1 ∨ k = 2 ∨ k = 3 ∨ k = 4 ∨ k = 5 := (by omega); rcases hk with rfl | rfl | rfl | rfl | rfl | rfl <;> first | exact c0 (h3.trans (by decide)) | exact c1 (h3.trans (by decide)) | exact c2 (h3.trans (by decide)) | exact c3 (h3.trans (by decide)) | exact c4 (h3.trans (by decide)) | exact c5 (h3.trans (by decide)))) (by decide) ?_
  exact kX2_allows_145 X hret hkt hf hP (lv_sub hl [0] rfl)
theorem vX2_allows {l : Launch} {dC : Nat → ClassId} {dI : Nat → Nat → Nat} {cg : Nat → ClassId} {kA : String → Nat → Nat} {ca : Nat → Nat} {M : CS} {r : Int32} {t : Nat} {a1 : Int32} {a2 : Int32} {a3 : Int32} (hkt : kc t = 11) (hf : fX2_allows M t a1 a2 a3 = some r) : gMetR l yX2_allows cX2_allows 4 (some .boolean) 1 (gB (cP dC dI cg kA ca) (kR kTab kA) M) [.ref (ca t), .int a1, .int a2, .int a3] r := gEntryR (ty := .boolean) (by decide) rfl (bq_n hf) (Nat.le_of_ble_eq_true rfl) (fun _ h => h.2) (fun p e s m args below meth c Q ls X hB hret hl => 
  kX2_allows_0 X hret hkt (bq_f hf) hB.1 (lv_sub hl [0, 1, 2, 3] rfl))
set_option maxRecDepth 10000 in
theorem kX2_nextOpenSack_39 {r : Int32} {t : Nat} {M : CS} (X : gX p s m args c cX2_nextOpenSack 4 RX2 (kR kTab kA)) (hret : gRetR p l e (rmL 1 0 0) s m args below meth c cX2_nextOpenSack Q r) (hkt : kc t = 11) (hf : fX2_nextOpenSack_39 t M = some r) {ls : Array Slot} (hP : (cP dC dI cg kA ca) M s s.heap) (hl : lv_has ls 4 [(0, .ref (ca t))]) : W p l e (rmL 1 0 0) s m args below meth c s.heap [] 0 0 Q (F0 m 39 ls []) := by
  have hx := X.hx
  have hb := X.hb
  have hown := X.hown
  have hts := X.hts
  rw [fX2_nextOpenSack_39] at hf
  refine lv_iconst (v := (-1)) hx hb dX2_nextOpenSack_39 (by decide) ?_
  cases hf
  exact hret _ _ dX2_nextOpenSack_40
set_option maxRecDepth 10000 in
theorem kX2_nextOpenSack_33 {r : Int32} {t : Nat} {K2 : CS → Int32 → Int32 → Option (Int32)} {M : CS} {x1 : Int32} {x2 : Int32} (X : gX p s m args c cX2_nextOpenSack 4 RX2 (kR kTab kA)) (hret : gRetR p l e (rmL 1 0 0) s m args below meth c cX2_nextOpenSack Q r) (hkt : kc t = 11) (hK2 : ∀ (M : CS) (x1 : Int32) (x2 : Int32) (ls : Array Slot), K2 M x1 x2 = some r → (cP dC dI cg kA ca) M s s.heap → lv_has ls 4 [(0, .ref (ca t)), (1, .int x1), (2, .int x2)] → W p l e (rmL 1 0 0) s m args below meth c s.heap [] 0 0 Q (F0 m 2 ls [])) (hf : fX2_nextOpenSack_33 t K2 M x1 x2 = some r) {ls : Array Slot} (hP : (cP dC dI cg kA ca) M s s.heap) (hl : lv_has ls 4 [(0, .ref (ca t)), (1, .int x1), (2, .int x2)]) : W p l e (rmL 1 0 0) s m args below meth c s.heap [] 0 0 Q (F0 m 33 ls []) := by
  have hx := X.hx
  have hb := X.hb
  have hown := X.hown
  have hts := X.hts
  rw [fX2_nextOpenSack_33] at hf
  refine lv_iinc (v := (x2 + 1)) (lv' := [(2, .int (x2 + 1)), (0, .ref (ca t)), (1, .int x1)]) hx hb dX2_nextOpenSack_33 hl (k := 2) rfl (by rfl) (by decide) rfl (fun ls hl => ?_)
  refine lv_goto (tgt := 2) hx hb dX2_nextOpenSack_36 (by decide) ?_
  exact hK2 _ _ _ _ hf hP (lv_sub hl [1, 2, 0] rfl)
set_option maxRecDepth 10000 in
theorem kX2_nextOpenSack_31 {r : Int32} {t : Nat} {M : CS} {x3 : Int32} (X : gX p s m args c cX2_nextOpenSack 4 RX2 (kR kTab kA)) (hret : gRetR p l e (rmL 1 0 0) s m args below meth c cX2_nextOpenSack Q r) (hkt : kc t = 11) (hf : fX2_nextOpenSack_31 t M x3 = some r) {ls : Array Slot} (hP : (cP dC dI cg kA ca) M s s.heap) (hl : lv_has ls 4 [(0, .ref (ca t)), (3, .int x3)]) : W p l e (rmL 1 0 0) s m args below meth c s.heap [] 0 0 Q (F0 m 31 ls []) := by
  have hx := X.hx
  have hb := X.hb
  have hown := X.hown
  have hts := X.hts
  rw [fX2_nextOpenSack_31] at hf
  refine lv_iload_n hx hb dX2_nextOpenSack_31 rfl (lv_at hl 1 rfl) ?_
  cases hf
  exact hret _ _ dX2_nextOpenSack_32
set_option maxRecDepth 10000 in
theorem kX2_nextOpenSack_10 {r : Int32} {t : Nat} {K2 : CS → Int32 → Int32 → Option (Int32)} {M : CS} {x1 : Int32} {x2 : Int32} (X : gX p s m args c cX2_nextOpenSack 4 RX2 (kR kTab kA)) (hret : gRetR p l e (rmL 1 0 0) s m args below meth c cX2_nextOpenSack Q r) (hkt : kc t = 11) (hK2 : ∀ (M : CS) (x1 : Int32) (x2 : Int32) (ls : Array Slot), K2 M x1 x2 = some r → (cP dC dI cg kA ca) M s s.heap → lv_has ls 4 [(0, .ref (ca t)), (1, .int x1), (2, .int x2)] → W p l e (rmL 1 0 0) s m args below meth c s.heap [] 0 0 Q (F0 m 2 ls [])) (hf : fX2_nextOpenSack_10 t K2 M x1 x2 = some r) {ls : Array Slot} (hP : (cP dC dI cg kA ca) M s s.heap) (hl : lv_has ls 4 [(0, .ref (ca t)), (1, .int x1), (2, .int x2)]) : W p l e (rmL 1 0 0) s m args below meth c s.heap [] 0 0 Q (F0 m 10 ls []) := by
  have hx := X.hx
  have hb := X.hb
  have hown := X.hown
  have hts := X.hts
  rw [fX2_nextOpenSack_10] at hf
  refine lv_iload_n hx hb dX2_nextOpenSack_10 rfl (lv_at hl 1 rfl) ?_
  refine lv_iload_n hx hb dX2_nextOpenSack_11 rfl (lv_at hl 2 rfl) ?_
  refine lv_iadd hx hb dX2_nextOpenSack_12 ?_
  refine lv_aload_n hx hb dX2_nextOpenSack_13 rfl (lv_at hl 0 rfl) ?_
  refine cr_get (k := 6) X hP hkt rfl cv11_6 rfl cinX2 (by decide) rfl tw311 dX2_nextOpenSack_14 ?_
  obtain ⟨g1, hf⟩ := gd hf
  refine lv_irem hx hb dX2_nextOpenSack_17 g1 ?_
  refine lv_istore_n (lv' := [(3, .int ((x1 + x2) - (x1 + x2) / (M.1 t 6) * (M.1 t 6))), (0, .ref (ca t)), (1, .int x1), (2, .int x2)]) hx hb dX2_nextOpenSack_18 rfl hl (by decide) rfl (fun ls hl => ?_)
  refine lv_aload_n hx hb dX2_nextOpenSack_19 rfl (lv_at hl 1 rfl) ?_
  refine cr_get (k := 1) X hP hkt rfl cv11_1 rfl cinX2 (by decide) rfl tw300 dX2_nextOpenSack_20 ?_
  refine lv_iload_n hx hb dX2_nextOpenSack_23 rfl (lv_at hl 0 rfl) ?_
  obtain ⟨g2, hf⟩ := gd hf
  refine cr_aald (f := fun i => (t + 2) + 15 + i) X hP (kc_sacks hkt) rfl (fun _ => rfl) rfl g2 dX2_nextOpenSack_24 ?_
  refine cr_get (k := 3) X hP (kc_sack (kc_sacks hkt) g2) rfl cv19_3 rfl cinX4 (by decide) rfl tw263 dX2_nextOpenSack_25 ?_
  refine lv_if_eq (tgt := 33) hx hb dX2_nextOpenSack_28 (by decide) (fun c1 => ?_) (fun c1 => ?_)
  · exact kX2_nextOpenSack_33 X hret hkt hK2 (ifp c1 hf) hP (lv_sub hl [1, 2, 3] rfl)
  · exact kX2_nextOpenSack_31 X hret hkt (ifn c1 hf) hP (lv_sub hl [1, 0] rfl)
set_option maxRecDepth 10000 in
theorem kX2_nextOpenSack_2 {r : Int32} {t : Nat} (X : gX p s m args c cX2_nextOpenSack 4 RX2 (kR kTab kA)) (hret : gRetR p l e (rmL 1 0 0) s m args below meth c cX2_nextOpenSack Q r) (hkt : kc t = 11) : ∀ (n : Nat) (M : CS) (x1 : Int32) (x2 : Int32) (ls : Array Slot), fX2_nextOpenSack_2 t n M x1 x2 = some r → (cP dC dI cg kA ca) M s s.heap → lv_has ls 4 [(0, .ref (ca t)), (1, .int x1), (2, .int x2)] → W p l e (rmL 1 0 0) s m args below meth c s.heap [] 0 0 Q (F0 m 2 ls []) := by
  intro n
  induction n with
  | zero => intro M x1 x2 ls hf; cases hf
  | succ k ih =>
    intro M x1 x2 ls hf hP hl
    have hx := X.hx
    have hb := X.hb
    have hown := X.hown
    have hts := X.hts
    rw [fX2_nextOpenSack_2] at hf
    try dsimp only at hf
    refine lv_iload_n hx hb dX2_nextOpenSack_2 rfl (lv_at hl 2 rfl) ?_
    refine lv_aload_n hx hb dX2_nextOpenSack_3 rfl (lv_at hl 0 rfl) ?_
    refine cr_get (k := 6) X hP hkt rfl cv11_6 rfl cinX2 (by decide) rfl tw311 dX2_nextOpenSack_4 ?_
    refine lv_icmp_ge (tgt := 39) hx hb dX2_nextOpenSack_7 (by decide) (fun c1 => ?_) (fun c1 => ?_)
    · exact kX2_nextOpenSack_39 X hret hkt (ifp c1 hf) hP (lv_sub hl [0] rfl)
    · exact kX2_nextOpenSack_10 X hret hkt ih (ifn c1 hf) hP (lv_sub hl [0, 1, 2] rfl)
set_option maxRecDepth 10000 in
theorem kX2_nextOpenSack_0 {r : Int32} {t : Nat} {M : CS} {a1 : Int32} (X : gX p s m args c cX2_nextOpenSack 4 RX2 (kR kTab kA)) (hret : gRetR p l e (rmL 1 0 0) s m args below meth c cX2_nextOpenSack Q r) (hkt : kc t = 11) (hf : fX2_nextOpenSack_0 t M a1 = some r) {ls : Array Slot} (hP : (cP dC dI cg kA ca) M s s.heap) (hl : lv_has ls 4 [(0, .ref (ca t)), (1, .int a1)]) : W p l e (rmL 1 0 0) s m args below meth c s.heap [] 0 0 Q (F0 m 0 ls []) := by
  have hx := X.hx
  have hb := X.hb
  have hown := X.hown
  have hts := X.hts
  rw [fX2_nextOpenSack_0] at hf
  refine lv_iconst (v := 1) hx hb dX2_nextOpenSack_0 (by decide) ?_
  refine lv_istore_n (lv' := [(2, .int 1), (0, .ref (ca t)), (1, .int a1)]) hx hb dX2_nextOpenSack_1 rfl hl (by decide) rfl (fun ls hl => ?_)
  exact kX2_nextOpenSack_2 X hret hkt FU _ _ _ _ hf hP (lv_sub hl [1, 2, 0] rfl)
theorem vX2_nextOpenSack {l : Launch} {dC : Nat → ClassId} {dI : Nat → Nat → Nat} {cg : Nat → ClassId} {kA : String → Nat → Nat} {ca : Nat → Nat} {M : CS} {r : Int32} {t : Nat} {a1 : Int32} (hkt : kc t = 11) (hf : fX2_nextOpenSack M t a1 = some r) : gMetR l yX2_nextOpenSack cX2_nextOpenSack 4 (some .int) 1 (gB (cP dC dI cg kA ca) (kR kTab kA) M) [.ref (ca t), .int a1] r := gEntryR (ty := .int) (by decide) rfl rfl (Nat.le_of_ble_eq_true rfl) (fun _ h => h.2) (fun p e s m args below meth c Q ls X hB hret hl => 
  kX2_nextOpenSack_0 X hret hkt hf hB.1 (lv_sub hl [0, 1] rfl))
set_option maxRecDepth 10000 in
theorem kX2_starve_23 {S1 : CS} {t : Nat} {b1 : Nat} {M : CS} {H : Heap} {locs : List Loc} {ls : Array Slot} (X : gX p s m args c cX2_starve 3 RX2 (kR kTab kA)) (hret : gRetV p l e (rmL 1 0 0) s m args below meth c cX2_starve (cΩ ca) (cP dC dI cg kA ca) Q S1) (hkt : kc t = 11) (hkb1 : kc b1 = 19) (hf : fX2_starve_23 t b1 M = some S1) (hP : (cP dC dI cg kA ca) M s H) (hS : va_S (Fr (cΩ ca) s.heap.size) s.heap H locs) (hl : lv_has ls 3 [(0, .ref (ca t))]) : W p l e (rmL 1 0 0) s m args below meth c H locs 0 0 Q (F0 m 23 ls []) := by
  have hx := X.hx
  have hb := X.hb
  have hown := X.hown
  have hts := X.hts
  rw [fX2_starve_23] at hf
  cases hf
  exact hret _ _ _ _ dX2_starve_23 hP hS
set_option maxRecDepth 10000 in
theorem kX2_starve_10 {S1 : CS} {t : Nat} {b1 : Nat} {M : CS} {x2 : Int32} {H : Heap} {locs : List Loc} {ls : Array Slot} (X : gX p s m args c cX2_starve 3 RX2 (kR kTab kA)) (hret : gRetV p l e (rmL 1 0 0) s m args below meth c cX2_starve (cΩ ca) (cP dC dI cg kA ca) Q S1) (hkt : kc t = 11) (hkb1 : kc b1 = 19) (hf : fX2_starve_10 t b1 M x2 = some S1) (hP : (cP dC dI cg kA ca) M s H) (hS : va_S (Fr (cΩ ca) s.heap.size) s.heap H locs) (hl : lv_has ls 3 [(0, .ref (ca t)), (2, .int x2)]) : W p l e (rmL 1 0 0) s m args below meth c H locs 0 0 Q (F0 m 10 ls []) := by
  have hx := X.hx
  have hb := X.hb
  have hown := X.hown
  have hts := X.hts
  rw [fX2_starve_10] at hf
  refine lv_aload_n hx hb dX2_starve_10 rfl (lv_at hl 0 rfl) ?_
  refine cr_get (k := 4) X hP hkt rfl cv11_4 rfl cinX2 (by decide) rfl tw306 dX2_starve_11 ?_
  refine lv_dup hx hb dX2_starve_14 rfl ?_
  refine cr_get (k := 3) X hP (kc_totals hkt) rfl cv17_3 rfl cinX9 (by decide) rfl tw180 dX2_starve_15 ?_
  refine lv_iload_n hx hb dX2_starve_18 rfl (lv_at hl 1 rfl) ?_
  refine lv_iadd hx hb dX2_starve_19 ?_
  refine cr_put (k := 3) X hP hS (kc_totals hkt) rfl cs17_3 rfl cinX9 tyX9_ok nmX9 (by decide) rfl rfl rfl rfl tw180 dX2_starve_20 (fun H locs hP hS => ?_)
  exact kX2_starve_23 X hret hkt hkb1 hf hP hS (lv_sub hl [0] rfl)
set_option maxRecDepth 10000 in
theorem kX2_starve_0 {S1 : CS} {t : Nat} {b1 : Nat} {M : CS} {a2 : Int32} {H : Heap} {locs : List Loc} {ls : Array Slot} (X : gX p s m args c cX2_starve 3 RX2 (kR kTab kA)) (hret : gRetV p l e (rmL 1 0 0) s m args below meth c cX2_starve (cΩ ca) (cP dC dI cg kA ca) Q S1) (hkt : kc t = 11) (hkb1 : kc b1 = 19) (hf : fX2_starve_0 t b1 M a2 = some S1) (hP : (cP dC dI cg kA ca) M s H) (hS : va_S (Fr (cΩ ca) s.heap.size) s.heap H locs) (hl : lv_has ls 3 [(0, .ref (ca t)), (1, .ref (ca b1)), (2, .int a2)]) : W p l e (rmL 1 0 0) s m args below meth c H locs 0 0 Q (F0 m 0 ls []) := by
  have hx := X.hx
  have hb := X.hb
  have hown := X.hown
  have hts := X.hts
  rw [fX2_starve_0] at hf
  refine lv_aload_n hx hb dX2_starve_0 rfl (lv_at hl 1 rfl) ?_
  refine lv_dup hx hb dX2_starve_1 rfl ?_
  refine cr_get (k := 2) X hP hkb1 rfl cv19_2 rfl cinX4 (by decide) rfl tw259 dX2_starve_2 ?_
  refine lv_iload_n hx hb dX2_starve_5 rfl (lv_at hl 2 rfl) ?_
  refine lv_isub hx hb dX2_starve_6 ?_
  refine cr_put (k := 2) X hP hS hkb1 rfl cs19_2 rfl cinX4 tyX4_ok nmX4 (by decide) rfl rfl rfl rfl tw259 dX2_starve_7 (fun H locs hP hS => ?_)
  exact kX2_starve_10 X hret hkt hkb1 hf hP hS (lv_sub hl [0, 2] rfl)
theorem vX2_starve {l : Launch} {dC : Nat → ClassId} {dI : Nat → Nat → Nat} {cg : Nat → ClassId} {kA : String → Nat → Nat} {ca : Nat → Nat} {M S1 : CS} {t : Nat} {b1 : Nat} {a2 : Int32} (hkt : kc t = 11) (hkb1 : kc b1 = 19) (hf : fX2_starve M t b1 a2 = some S1) : gMetV l yX2_starve cX2_starve 3 1 (cΩ ca) (cP dC dI cg kA ca) (kR kTab kA) [.ref (ca t), .ref (ca b1), .int a2] M S1 := gEntryV (by decide) cOK (Nat.le_of_ble_eq_true rfl) (fun p e s m args below meth c Q ls X hP hS hret hl => 
  kX2_starve_0 X hret hkt hkb1 hf hP hS (lv_sub hl [0, 1, 2] rfl))
set_option maxRecDepth 10000 in
theorem kX2_busiestOpenSack_57 {r : Int32} {t : Nat} {M : CS} {x1 : Int32} (X : gX p s m args c cX2_busiestOpenSack 4 RX2 (kR kTab kA)) (hret : gRetR p l e (rmL 1 0 0) s m args below meth c cX2_busiestOpenSack Q r) (hkt : kc t = 11) (hf : fX2_busiestOpenSack_57 t M x1 = some r) {ls : Array Slot} (hP : (cP dC dI cg kA ca) M s s.heap) (hl : lv_has ls 4 [(0, .ref (ca t)), (1, .int x1)]) : W p l e (rmL 1 0 0) s m args below meth c s.heap [] 0 0 Q (F0 m 57 ls []) := by
  have hx := X.hx
  have hb := X.hb
  have hown := X.hown
  have hts := X.hts
  rw [fX2_busiestOpenSack_57] at hf
  refine lv_iload_n hx hb dX2_busiestOpenSack_57 rfl (lv_at hl 1 rfl) ?_
  cases hf
  exact hret _ _ dX2_busiestOpenSack_58
set_option maxRecDepth 10000 in
theorem kX2_busiestOpenSack_51 {r : Int32} {t : Nat} {K6 : CS → Int32 → Int32 → Int32 → Option (Int32)} {M : CS} {x1 : Int32} {x2 : Int32} {x3 : Int32} (X : gX p s m args c cX2_busiestOpenSack 4 RX2 (kR kTab kA)) (hret : gRetR p l e (rmL 1 0 0) s m args below meth c cX2_busiestOpenSack Q r) (hkt : kc t = 11) (hK6 : ∀ (M : CS) (x1 : Int32) (x2 : Int32) (x3 : Int32) (ls : Array Slot), K6 M x1 x2 x3 = some r → (cP dC dI cg kA ca) M s s.heap → lv_has ls 4 [(0, .ref (ca t)), (1, .int x1), (2, .int x2), (3, .int x3)] → W p l e (rmL 1 0 0) s m args below meth c s.heap [] 0 0 Q (F0 m 6 ls [])) (hf : fX2_busiestOpenSack_51 t K6 M x1 x2 x3 = some r) {ls : Array Slot} (hP : (cP dC dI cg kA ca) M s s.heap) (hl : lv_has ls 4 [(0, .ref (ca t)), (1, .int x1), (2, .int x2), (3, .int x3)]) : W p l e (rmL 1 0 0) s m args below meth c s.heap [] 0 0 Q (F0 m 51 ls []) := by
  have hx := X.hx
  have hb := X.hb
  have hown := X.hown
  have hts := X.hts
  rw [fX2_busiestOpenSack_51] at hf
  refine lv_iinc (v := (x3 + 1)) (lv' := [(3, .int (x3 + 1)), (0, .ref (ca t)), (1, .int x1), (2, .int x2)]) hx hb dX2_busiestOpenSack_51 hl (k := 3) rfl (by rfl) (by decide) rfl (fun ls hl => ?_)
  refine lv_goto (tgt := 6) hx hb dX2_busiestOpenSack_54 (by decide) ?_
  exact hK6 _ _ _ _ _ hf hP (lv_sub hl [1, 2, 3, 0] rfl)
set_option maxRecDepth 10000 in
theorem kX2_busiestOpenSack_39 {r : Int32} {t : Nat} {K6 : CS → Int32 → Int32 → Int32 → Option (Int32)} {M : CS} {x3 : Int32} (X : gX p s m args c cX2_busiestOpenSack 4 RX2 (kR kTab kA)) (hret : gRetR p l e (rmL 1 0 0) s m args below meth c cX2_busiestOpenSack Q r) (hkt : kc t = 11) (hK6 : ∀ (M : CS) (x1 : Int32) (x2 : Int32) (x3 : Int32) (ls : Array Slot), K6 M x1 x2 x3 = some r → (cP dC dI cg kA ca) M s s.heap → lv_has ls 4 [(0, .ref (ca t)), (1, .int x1), (2, .int x2), (3, .int x3)] → W p l e (rmL 1 0 0) s m args below meth c s.heap [] 0 0 Q (F0 m 6 ls [])) (hf : fX2_busiestOpenSack_39 t K6 M x3 = some r) {ls : Array Slot} (hP : (cP dC dI cg kA ca) M s s.heap) (hl : lv_has ls 4 [(0, .ref (ca t)), (3, .int x3)]) : W p l e (rmL 1 0 0) s m args below meth c s.heap [] 0 0 Q (F0 m 39 ls []) := by
  have hx := X.hx
  have hb := X.hb
  have hown := X.hown
  have hts := X.hts
  rw [fX2_busiestOpenSack_39] at hf
  refine lv_aload_n hx hb dX2_busiestOpenSack_39 rfl (lv_at hl 0 rfl) ?_
  refine cr_get (k := 1) X hP hkt rfl cv11_1 rfl cinX2 (by decide) rfl tw300 dX2_busiestOpenSack_40 ?_
  refine lv_iload_n hx hb dX2_busiestOpenSack_43 rfl (lv_at hl 1 rfl) ?_
  obtain ⟨g1, hf⟩ := gd hf
  refine cr_aald (f := fun i => (t + 2) + 15 + i) X hP (kc_sacks hkt) rfl (fun _ => rfl) rfl g1 dX2_busiestOpenSack_44 ?_
  refine cr_get (k := 2) X hP (kc_sack (kc_sacks hkt) g1) rfl cv19_2 rfl cinX4 (by decide) rfl tw259 dX2_busiestOpenSack_45 ?_
  refine lv_istore_n (lv' := [(2, .int (M.1 ((t + 2) + 15 + x3.toNatClampNeg) 2)), (0, .ref (ca t)), (3, .int x3)]) hx hb dX2_busiestOpenSack_48 rfl hl (by decide) rfl (fun ls hl => ?_)
  refine lv_iload_n hx hb dX2_busiestOpenSack_49 rfl (lv_at hl 2 rfl) ?_
  refine lv_istore_n (lv' := [(1, .int x3), (2, .int (M.1 ((t + 2) + 15 + x3.toNatClampNeg) 2)), (0, .ref (ca t)), (3, .int x3)]) hx hb dX2_busiestOpenSack_50 rfl hl (by decide) rfl (fun ls hl => ?_)
  exact kX2_busiestOpenSack_51 X hret hkt hK6 hf hP (lv_sub hl [2, 0, 1, 3] rfl)
set_option maxRecDepth 10000 in
theorem kX2_busiestOpenSack_26 {r : Int32} {t : Nat} {K6 : CS → Int32 → Int32 → Int32 → Option (Int32)} {M : CS} {x1 : Int32} {x2 : Int32} {x3 : Int32} (X : gX p s m args c cX2_busiestOpenSack 4 RX2 (kR kTab kA)) (hret : gRetR p l e (rmL 1 0 0) s m args below meth c cX2_busiestOpenSack Q r) (hkt : kc t = 11) (hK6 : ∀ (M : CS) (x1 : Int32) (x2 : Int32) (x3 : Int32) (ls : Array Slot), K6 M x1 x2 x3 = some r → (cP dC dI cg kA ca) M s s.heap → lv_has ls 4 [(0, .ref (ca t)), (1, .int x1), (2, .int x2), (3, .int x3)] → W p l e (rmL 1 0 0) s m args below meth c s.heap [] 0 0 Q (F0 m 6 ls [])) (hf : fX2_busiestOpenSack_26 t K6 M x1 x2 x3 = some r) {ls : Array Slot} (hP : (cP dC dI cg kA ca) M s s.heap) (hl : lv_has ls 4 [(0, .ref (ca t)), (1, .int x1), (2, .int x2), (3, .int x3)]) : W p l e (rmL 1 0 0) s m args below meth c s.heap [] 0 0 Q (F0 m 26 ls []) := by
  have hx := X.hx
  have hb := X.hb
  have hown := X.hown
  have hts := X.hts
  rw [fX2_busiestOpenSack_26] at hf
  refine lv_aload_n hx hb dX2_busiestOpenSack_26 rfl (lv_at hl 0 rfl) ?_
  refine cr_get (k := 1) X hP hkt rfl cv11_1 rfl cinX2 (by decide) rfl tw300 dX2_busiestOpenSack_27 ?_
  refine lv_iload_n hx hb dX2_busiestOpenSack_30 rfl (lv_at hl 3 rfl) ?_
  obtain ⟨g1, hf⟩ := gd hf
  refine cr_aald (f := fun i => (t + 2) + 15 + i) X hP (kc_sacks hkt) rfl (fun _ => rfl) rfl g1 dX2_busiestOpenSack_31 ?_
  refine cr_get (k := 2) X hP (kc_sack (kc_sacks hkt) g1) rfl cv19_2 rfl cinX4 (by decide) rfl tw259 dX2_busiestOpenSack_32 ?_
  refine lv_iload_n hx hb dX2_busiestOpenSack_35 rfl (lv_at hl 2 rfl) ?_
  refine lv_icmp_le (tgt := 51) hx hb dX2_busiestOpenSack_36 (by decide) (fun c1 => ?_) (fun c1 => ?_)
  · exact kX2_busiestOpenSack_51 X hret hkt hK6 (ifp c1 hf) hP (lv_sub hl [0, 1, 2, 3] rfl)
  · exact kX2_busiestOpenSack_39 X hret hkt hK6 (ifn c1 hf) hP (lv_sub hl [0, 3] rfl)
set_option maxRecDepth 10000 in
theorem kX2_busiestOpenSack_14 {r : Int32} {t : Nat} {K6 : CS → Int32 → Int32 → Int32 → Option (Int32)} {M : CS} {x1 : Int32} {x2 : Int32} {x3 : Int32} (X : gX p s m args c cX2_busiestOpenSack 4 RX2 (kR kTab kA)) (hret : gRetR p l e (rmL 1 0 0) s m args below meth c cX2_busiestOpenSack Q r) (hkt : kc t = 11) (hK6 : ∀ (M : CS) (x1 : Int32) (x2 : Int32) (x3 : Int32) (ls : Array Slot), K6 M x1 x2 x3 = some r → (cP dC dI cg kA ca) M s s.heap → lv_has ls 4 [(0, .ref (ca t)), (1, .int x1), (2, .int x2), (3, .int x3)] → W p l e (rmL 1 0 0) s m args below meth c s.heap [] 0 0 Q (F0 m 6 ls [])) (hf : fX2_busiestOpenSack_14 t K6 M x1 x2 x3 = some r) {ls : Array Slot} (hP : (cP dC dI cg kA ca) M s s.heap) (hl : lv_has ls 4 [(0, .ref (ca t)), (1, .int x1), (2, .int x2), (3, .int x3)]) : W p l e (rmL 1 0 0) s m args below meth c s.heap [] 0 0 Q (F0 m 14 ls []) := by
  have hx := X.hx
  have hb := X.hb
  have hown := X.hown
  have hts := X.hts
  rw [fX2_busiestOpenSack_14] at hf
  refine lv_aload_n hx hb dX2_busiestOpenSack_14 rfl (lv_at hl 0 rfl) ?_
  refine cr_get (k := 1) X hP hkt rfl cv11_1 rfl cinX2 (by decide) rfl tw300 dX2_busiestOpenSack_15 ?_
  refine lv_iload_n hx hb dX2_busiestOpenSack_18 rfl (lv_at hl 3 rfl) ?_
  obtain ⟨g1, hf⟩ := gd hf
  refine cr_aald (f := fun i => (t + 2) + 15 + i) X hP (kc_sacks hkt) rfl (fun _ => rfl) rfl g1 dX2_busiestOpenSack_19 ?_
  refine cr_get (k := 3) X hP (kc_sack (kc_sacks hkt) g1) rfl cv19_3 rfl cinX4 (by decide) rfl tw263 dX2_busiestOpenSack_20 ?_
  refine lv_if_eq (tgt := 51) hx hb dX2_busiestOpenSack_23 (by decide) (fun c1 => ?_) (fun c1 => ?_)
  · exact kX2_busiestOpenSack_51 X hret hkt hK6 (ifp c1 hf) hP (lv_sub hl [0, 1, 2, 3] rfl)
  · exact kX2_busiestOpenSack_26 X hret hkt hK6 (ifn c1 hf) hP (lv_sub hl [0, 1, 2, 3] rfl)
set_option maxRecDepth 10000 in
theorem kX2_busiestOpenSack_6 {r : Int32} {t : Nat} (X : gX p s m args c cX2_busiestOpenSack 4 RX2 (kR kTab kA)) (hret : gRetR p l e (rmL 1 0 0) s m args below meth c cX2_busiestOpenSack Q r) (hkt : kc t = 11) : ∀ (n : Nat) (M : CS) (x1 : Int32) (x2 : Int32) (x3 : Int32) (ls : Array Slot), fX2_busiestOpenSack_6 t n M x1 x2 x3 = some r → (cP dC dI cg kA ca) M s s.heap → lv_has ls 4 [(0, .ref (ca t)), (1, .int x1), (2, .int x2), (3, .int x3)] → W p l e (rmL 1 0 0) s m args below meth c s.heap [] 0 0 Q (F0 m 6 ls []) := by
  intro n
  induction n with
  | zero => intro M x1 x2 x3 ls hf; cases hf
  | succ k ih =>
    intro M x1 x2 x3 ls hf hP hl
    have hx := X.hx
    have hb := X.hb
    have hown := X.hown
    have hts := X.hts
    rw [fX2_busiestOpenSack_6] at hf
    try dsimp only at hf
    refine lv_iload_n hx hb dX2_busiestOpenSack_6 rfl (lv_at hl 3 rfl) ?_
    refine lv_aload_n hx hb dX2_busiestOpenSack_7 rfl (lv_at hl 0 rfl) ?_
    refine cr_get (k := 6) X hP hkt rfl cv11_6 rfl cinX2 (by decide) rfl tw311 dX2_busiestOpenSack_8 ?_
    refine lv_icmp_ge (tgt := 57) hx hb dX2_busiestOpenSack_11 (by decide) (fun c1 => ?_) (fun c1 => ?_)
    · exact kX2_busiestOpenSack_57 X hret hkt (ifp c1 hf) hP (lv_sub hl [0, 1] rfl)
    · exact kX2_busiestOpenSack_14 X hret hkt ih (ifn c1 hf) hP (lv_sub hl [0, 1, 2, 3] rfl)
set_option maxRecDepth 10000 in
theorem kX2_busiestOpenSack_0 {r : Int32} {t : Nat} {M : CS} (X : gX p s m args c cX2_busiestOpenSack 4 RX2 (kR kTab kA)) (hret : gRetR p l e (rmL 1 0 0) s m args below meth c cX2_busiestOpenSack Q r) (hkt : kc t = 11) (hf : fX2_busiestOpenSack_0 t M = some r) {ls : Array Slot} (hP : (cP dC dI cg kA ca) M s s.heap) (hl : lv_has ls 4 [(0, .ref (ca t))]) : W p l e (rmL 1 0 0) s m args below meth c s.heap [] 0 0 Q (F0 m 0 ls []) := by
  have hx := X.hx
  have hb := X.hb
  have hown := X.hown
  have hts := X.hts
  rw [fX2_busiestOpenSack_0] at hf
  refine lv_iconst (v := (-1)) hx hb dX2_busiestOpenSack_0 (by decide) ?_
  refine lv_istore_n (lv' := [(1, .int (-1)), (0, .ref (ca t))]) hx hb dX2_busiestOpenSack_1 rfl hl (by decide) rfl (fun ls hl => ?_)
  refine lv_iconst (v := 0) hx hb dX2_busiestOpenSack_2 (by decide) ?_
  refine lv_istore_n (lv' := [(2, .int 0), (1, .int (-1)), (0, .ref (ca t))]) hx hb dX2_busiestOpenSack_3 rfl hl (by decide) rfl (fun ls hl => ?_)
  refine lv_iconst (v := 0) hx hb dX2_busiestOpenSack_4 (by decide) ?_
  refine lv_istore_n (lv' := [(3, .int 0), (2, .int 0), (1, .int (-1)), (0, .ref (ca t))]) hx hb dX2_busiestOpenSack_5 rfl hl (by decide) rfl (fun ls hl => ?_)
  exact kX2_busiestOpenSack_6 X hret hkt FU _ _ _ _ _ hf hP (lv_sub hl [3, 2, 1, 0] rfl)
theorem vX2_busiestOpenSack {l : Launch} {dC : Nat → ClassId} {dI : Nat → Nat → Nat} {cg : Nat → ClassId} {kA : String → Nat → Nat} {ca : Nat → Nat} {M : CS} {r : Int32} {t : Nat} (hkt : kc t = 11) (hf : fX2_busiestOpenSack M t  = some r) : gMetR l yX2_busiestOpenSack cX2_busiestOpenSack 4 (some .int) 1 (gB (cP dC dI cg kA ca) (kR kTab kA) M) [.ref (ca t)] r := gEntryR (ty := .int) (by decide) rfl rfl (Nat.le_of_ble_eq_true rfl) (fun _ h => h.2) (fun p e s m args below meth c Q ls X hB hret hl => 
  kX2_busiestOpenSack_0 X hret hkt hf hB.1 (lv_sub hl [0] rfl))
set_option maxRecDepth 10000 in
theorem kX2_reasonAgainst_63 {r : Int32} {t : Nat} {M : CS} {s0 : Int32} (X : gX p s m args c cX2_reasonAgainst 2 RX2 (kR kTab kA)) (hret : gRetR p l e (rmL 1 0 0) s m args below meth c cX2_reasonAgainst Q r) (hkt : kc t = 11) (hf : fX2_reasonAgainst_63 t M s0 = some r) {ls : Array Slot} (hP : (cP dC dI cg kA ca) M s s.heap) (hl : lv_has ls 2 [(0, .ref (ca t))]) : W p l e (rmL 1 0 0) s m args below meth c s.heap [] 0 0 Q (F0 m 63 ls [.int s0]) := by
  have hx := X.hx
  have hb := X.hb
  have hown := X.hown
  have hts := X.hts
  rw [fX2_reasonAgainst_63] at hf
  cases hf
  exact hret _ _ dX2_reasonAgainst_63
set_option maxRecDepth 10000 in
theorem kX2_reasonAgainst_62 {r : Int32} {t : Nat} {M : CS} (X : gX p s m args c cX2_reasonAgainst 2 RX2 (kR kTab kA)) (hret : gRetR p l e (rmL 1 0 0) s m args below meth c cX2_reasonAgainst Q r) (hkt : kc t = 11) (hf : fX2_reasonAgainst_62 t M = some r) {ls : Array Slot} (hP : (cP dC dI cg kA ca) M s s.heap) (hl : lv_has ls 2 [(0, .ref (ca t))]) : W p l e (rmL 1 0 0) s m args below meth c s.heap [] 0 0 Q (F0 m 62 ls []) := by
  have hx := X.hx
  have hb := X.hb
  have hown := X.hown
  have hts := X.hts
  rw [fX2_reasonAgainst_62] at hf
  refine lv_iconst (v := 0) hx hb dX2_reasonAgainst_62 (by decide) ?_
  exact kX2_reasonAgainst_63 X hret hkt hf hP (lv_sub hl [0] rfl)
set_option maxRecDepth 10000 in
theorem kX2_reasonAgainst_58 {r : Int32} {t : Nat} {M : CS} (X : gX p s m args c cX2_reasonAgainst 2 RX2 (kR kTab kA)) (hret : gRetR p l e (rmL 1 0 0) s m args below meth c cX2_reasonAgainst Q r) (hkt : kc t = 11) (hf : fX2_reasonAgainst_58 t M = some r) {ls : Array Slot} (hP : (cP dC dI cg kA ca) M s s.heap) (hl : lv_has ls 2 [(0, .ref (ca t))]) : W p l e (rmL 1 0 0) s m args below meth c s.heap [] 0 0 Q (F0 m 58 ls []) := by
  have hx := X.hx
  have hb := X.hb
  have hown := X.hown
  have hts := X.hts
  rw [fX2_reasonAgainst_58] at hf
  refine lv_iconst (v := 3) hx hb dX2_reasonAgainst_58 (by decide) ?_
  refine lv_goto (tgt := 63) hx hb dX2_reasonAgainst_59 (by decide) ?_
  exact kX2_reasonAgainst_63 X hret hkt hf hP (lv_sub hl [0] rfl)
set_option maxRecDepth 10000 in
theorem kX2_reasonAgainst_34 {r : Int32} {t : Nat} {M : CS} {x1 : Int32} (X : gX p s m args c cX2_reasonAgainst 2 RX2 (kR kTab kA)) (hret : gRetR p l e (rmL 1 0 0) s m args below meth c cX2_reasonAgainst Q r) (hkt : kc t = 11) (hf : fX2_reasonAgainst_34 t M x1 = some r) {ls : Array Slot} (hP : (cP dC dI cg kA ca) M s s.heap) (hl : lv_has ls 2 [(0, .ref (ca t)), (1, .int x1)]) : W p l e (rmL 1 0 0) s m args below meth c s.heap [] 0 0 Q (F0 m 34 ls []) := by
  have hx := X.hx
  have hb := X.hb
  have hown := X.hown
  have hts := X.hts
  rw [fX2_reasonAgainst_34] at hf
  refine lv_aload_n hx hb dX2_reasonAgainst_34 rfl (lv_at hl 0 rfl) ?_
  refine cr_get (k := 0) X hP hkt rfl cv11_0 rfl cinX2 (by decide) rfl tw297 dX2_reasonAgainst_35 ?_
  refine lv_iload_n hx hb dX2_reasonAgainst_38 rfl (lv_at hl 1 rfl) ?_
  obtain ⟨g1, hf⟩ := gd hf
  refine cr_aald (f := fun i => (t + 1) + 8 + i) X hP (kc_cats hkt) rfl (fun _ => rfl) rfl g1 dX2_reasonAgainst_39 ?_
  refine cr_get (k := 2) X hP (kc_cat (kc_cats hkt) g1) rfl cv18_2 rfl cinX0 (by decide) rfl tw222 dX2_reasonAgainst_40 ?_
  refine lv_aload_n hx hb dX2_reasonAgainst_43 rfl (lv_at hl 0 rfl) ?_
  refine cr_get (k := 0) X hP hkt rfl cv11_0 rfl cinX2 (by decide) rfl tw297 dX2_reasonAgainst_44 ?_
  refine lv_aload_n hx hb dX2_reasonAgainst_47 rfl (lv_at hl 0 rfl) ?_
  refine cr_get (k := 8) X hP hkt rfl cv11_8 rfl cinX2 (by decide) rfl tw316 dX2_reasonAgainst_48 ?_
  obtain ⟨g2, hf⟩ := gd hf
  refine cr_aald (f := fun i => (t + 1) + 8 + i) X hP (kc_cats hkt) rfl (fun _ => rfl) rfl g2 dX2_reasonAgainst_51 ?_
  refine cr_get (k := 2) X hP (kc_cat (kc_cats hkt) g2) rfl cv18_2 rfl cinX0 (by decide) rfl tw222 dX2_reasonAgainst_52 ?_
  refine lv_icmp_ne (tgt := 62) hx hb dX2_reasonAgainst_55 (by decide) (fun c1 => ?_) (fun c1 => ?_)
  · exact kX2_reasonAgainst_62 X hret hkt (ifn c1 hf) hP (lv_sub hl [0] rfl)
  · exact kX2_reasonAgainst_58 X hret hkt (ifp c1 hf) hP (lv_sub hl [0] rfl)
set_option maxRecDepth 10000 in
theorem kX2_reasonAgainst_26 {r : Int32} {t : Nat} {M : CS} {x1 : Int32} (X : gX p s m args c cX2_reasonAgainst 2 RX2 (kR kTab kA)) (hret : gRetR p l e (rmL 1 0 0) s m args below meth c cX2_reasonAgainst Q r) (hkt : kc t = 11) (hf : fX2_reasonAgainst_26 t M x1 = some r) {ls : Array Slot} (hP : (cP dC dI cg kA ca) M s s.heap) (hl : lv_has ls 2 [(0, .ref (ca t)), (1, .int x1)]) : W p l e (rmL 1 0 0) s m args below meth c s.heap [] 0 0 Q (F0 m 26 ls []) := by
  have hx := X.hx
  have hb := X.hb
  have hown := X.hown
  have hts := X.hts
  rw [fX2_reasonAgainst_26] at hf
  refine lv_iload_n hx hb dX2_reasonAgainst_26 rfl (lv_at hl 1 rfl) ?_
  refine lv_aload_n hx hb dX2_reasonAgainst_27 rfl (lv_at hl 0 rfl) ?_
  refine cr_get (k := 8) X hP hkt rfl cv11_8 rfl cinX2 (by decide) rfl tw316 dX2_reasonAgainst_28 ?_
  refine lv_icmp_eq (tgt := 62) hx hb dX2_reasonAgainst_31 (by decide) (fun c1 => ?_) (fun c1 => ?_)
  · exact kX2_reasonAgainst_62 X hret hkt (ifp c1 hf) hP (lv_sub hl [0] rfl)
  · exact kX2_reasonAgainst_34 X hret hkt (ifn c1 hf) hP (lv_sub hl [0, 1] rfl)
set_option maxRecDepth 10000 in
theorem kX2_reasonAgainst_24 {r : Int32} {t : Nat} {M : CS} (X : gX p s m args c cX2_reasonAgainst 2 RX2 (kR kTab kA)) (hret : gRetR p l e (rmL 1 0 0) s m args below meth c cX2_reasonAgainst Q r) (hkt : kc t = 11) (hf : fX2_reasonAgainst_24 t M = some r) {ls : Array Slot} (hP : (cP dC dI cg kA ca) M s s.heap) (hl : lv_has ls 2 [(0, .ref (ca t))]) : W p l e (rmL 1 0 0) s m args below meth c s.heap [] 0 0 Q (F0 m 24 ls []) := by
  have hx := X.hx
  have hb := X.hb
  have hown := X.hown
  have hts := X.hts
  rw [fX2_reasonAgainst_24] at hf
  refine lv_iconst (v := 2) hx hb dX2_reasonAgainst_24 (by decide) ?_
  cases hf
  exact hret _ _ dX2_reasonAgainst_25
set_option maxRecDepth 10000 in
theorem kX2_reasonAgainst_10 {r : Int32} {t : Nat} {M : CS} {x1 : Int32} (X : gX p s m args c cX2_reasonAgainst 2 RX2 (kR kTab kA)) (hret : gRetR p l e (rmL 1 0 0) s m args below meth c cX2_reasonAgainst Q r) (hkt : kc t = 11) (hf : fX2_reasonAgainst_10 t M x1 = some r) {ls : Array Slot} (hP : (cP dC dI cg kA ca) M s s.heap) (hl : lv_has ls 2 [(0, .ref (ca t)), (1, .int x1)]) : W p l e (rmL 1 0 0) s m args below meth c s.heap [] 0 0 Q (F0 m 10 ls []) := by
  have hx := X.hx
  have hb := X.hb
  have hown := X.hown
  have hts := X.hts
  rw [fX2_reasonAgainst_10] at hf
  refine lv_aload_n hx hb dX2_reasonAgainst_10 rfl (lv_at hl 0 rfl) ?_
  refine cr_get (k := 0) X hP hkt rfl cv11_0 rfl cinX2 (by decide) rfl tw297 dX2_reasonAgainst_11 ?_
  refine lv_iload_n hx hb dX2_reasonAgainst_14 rfl (lv_at hl 1 rfl) ?_
  obtain ⟨g1, hf⟩ := gd hf
  refine cr_aald (f := fun i => (t + 1) + 8 + i) X hP (kc_cats hkt) rfl (fun _ => rfl) rfl g1 dX2_reasonAgainst_15 ?_
  refine cr_get (k := 3) X hP (kc_cat (kc_cats hkt) g1) rfl cv18_3 rfl cinX0 (by decide) rfl tw225 dX2_reasonAgainst_16 ?_
  refine lv_bipush (v := 12) hx hb dX2_reasonAgainst_19 (by decide) ?_
  refine lv_icmp_lt (tgt := 26) hx hb dX2_reasonAgainst_21 (by decide) (fun c1 => ?_) (fun c1 => ?_)
  · exact kX2_reasonAgainst_26 X hret hkt (ifp c1 hf) hP (lv_sub hl [0, 1] rfl)
  · exact kX2_reasonAgainst_24 X hret hkt (ifn c1 hf) hP (lv_sub hl [0] rfl)
set_option maxRecDepth 10000 in
theorem kX2_reasonAgainst_8 {r : Int32} {t : Nat} {M : CS} (X : gX p s m args c cX2_reasonAgainst 2 RX2 (kR kTab kA)) (hret : gRetR p l e (rmL 1 0 0) s m args below meth c cX2_reasonAgainst Q r) (hkt : kc t = 11) (hf : fX2_reasonAgainst_8 t M = some r) {ls : Array Slot} (hP : (cP dC dI cg kA ca) M s s.heap) (hl : lv_has ls 2 [(0, .ref (ca t))]) : W p l e (rmL 1 0 0) s m args below meth c s.heap [] 0 0 Q (F0 m 8 ls []) := by
  have hx := X.hx
  have hb := X.hb
  have hown := X.hown
  have hts := X.hts
  rw [fX2_reasonAgainst_8] at hf
  refine lv_iconst (v := 1) hx hb dX2_reasonAgainst_8 (by decide) ?_
  cases hf
  exact hret _ _ dX2_reasonAgainst_9
set_option maxRecDepth 10000 in
theorem kX2_reasonAgainst_0 {r : Int32} {t : Nat} {M : CS} {a1 : Int32} (X : gX p s m args c cX2_reasonAgainst 2 RX2 (kR kTab kA)) (hret : gRetR p l e (rmL 1 0 0) s m args below meth c cX2_reasonAgainst Q r) (hkt : kc t = 11) (hf : fX2_reasonAgainst_0 t M a1 = some r) {ls : Array Slot} (hP : (cP dC dI cg kA ca) M s s.heap) (hl : lv_has ls 2 [(0, .ref (ca t)), (1, .int a1)]) : W p l e (rmL 1 0 0) s m args below meth c s.heap [] 0 0 Q (F0 m 0 ls []) := by
  have hx := X.hx
  have hb := X.hb
  have hown := X.hown
  have hts := X.hts
  rw [fX2_reasonAgainst_0] at hf
  refine lv_aload_n hx hb dX2_reasonAgainst_0 rfl (lv_at hl 0 rfl) ?_
  refine cr_get (k := 8) X hP hkt rfl cv11_8 rfl cinX2 (by decide) rfl tw316 dX2_reasonAgainst_1 ?_
  refine lv_iconst (v := (-1)) hx hb dX2_reasonAgainst_4 (by decide) ?_
  refine lv_icmp_ne (tgt := 10) hx hb dX2_reasonAgainst_5 (by decide) (fun c1 => ?_) (fun c1 => ?_)
  · exact kX2_reasonAgainst_10 X hret hkt (ifn c1 hf) hP (lv_sub hl [0, 1] rfl)
  · exact kX2_reasonAgainst_8 X hret hkt (ifp c1 hf) hP (lv_sub hl [0] rfl)
theorem vX2_reasonAgainst {l : Launch} {dC : Nat → ClassId} {dI : Nat → Nat → Nat} {cg : Nat → ClassId} {kA : String → Nat → Nat} {ca : Nat → Nat} {M : CS} {r : Int32} {t : Nat} {a1 : Int32} (hkt : kc t = 11) (hf : fX2_reasonAgainst M t a1 = some r) : gMetR l yX2_reasonAgainst cX2_reasonAgainst 2 (some .int) 1 (gB (cP dC dI cg kA ca) (kR kTab kA) M) [.ref (ca t), .int a1] r := gEntryR (ty := .int) (by decide) rfl rfl (Nat.le_of_ble_eq_true rfl) (fun _ h => h.2) (fun p e s m args below meth c Q ls X hB hret hl => 
  kX2_reasonAgainst_0 X hret hkt hf hB.1 (lv_sub hl [0, 1] rfl))
set_option maxRecDepth 10000 in
theorem kX2_swearIn_33 {S1 : CS} {t : Nat} {M : CS} {H : Heap} {locs : List Loc} {ls : Array Slot} (X : gX p s m args c cX2_swearIn 2 RX2 (kR kTab kA)) (hret : gRetV p l e (rmL 1 0 0) s m args below meth c cX2_swearIn (cΩ ca) (cP dC dI cg kA ca) Q S1) (hkt : kc t = 11) (hf : fX2_swearIn_33 t M = some S1) (hP : (cP dC dI cg kA ca) M s H) (hS : va_S (Fr (cΩ ca) s.heap.size) s.heap H locs) (hl : lv_has ls 2 [(0, .ref (ca t))]) : W p l e (rmL 1 0 0) s m args below meth c H locs 0 0 Q (F0 m 33 ls []) := by
  have hx := X.hx
  have hb := X.hb
  have hown := X.hown
  have hts := X.hts
  rw [fX2_swearIn_33] at hf
  cases hf
  exact hret _ _ _ _ dX2_swearIn_33 hP hS
set_option maxRecDepth 10000 in
theorem kX2_swearIn_20 {S1 : CS} {t : Nat} {M : CS} {H : Heap} {locs : List Loc} {ls : Array Slot} (X : gX p s m args c cX2_swearIn 2 RX2 (kR kTab kA)) (hret : gRetV p l e (rmL 1 0 0) s m args below meth c cX2_swearIn (cΩ ca) (cP dC dI cg kA ca) Q S1) (hkt : kc t = 11) (hf : fX2_swearIn_20 t M = some S1) (hP : (cP dC dI cg kA ca) M s H) (hS : va_S (Fr (cΩ ca) s.heap.size) s.heap H locs) (hl : lv_has ls 2 [(0, .ref (ca t))]) : W p l e (rmL 1 0 0) s m args below meth c H locs 0 0 Q (F0 m 20 ls []) := by
  have hx := X.hx
  have hb := X.hb
  have hown := X.hown
  have hts := X.hts
  rw [fX2_swearIn_20] at hf
  refine lv_aload_n hx hb dX2_swearIn_20 rfl (lv_at hl 0 rfl) ?_
  refine cr_get (k := 4) X hP hkt rfl cv11_4 rfl cinX2 (by decide) rfl tw306 dX2_swearIn_21 ?_
  refine lv_dup hx hb dX2_swearIn_24 rfl ?_
  refine cr_get (k := 4) X hP (kc_totals hkt) rfl cv17_4 rfl cinX9 (by decide) rfl tw183 dX2_swearIn_25 ?_
  refine lv_iconst (v := 1) hx hb dX2_swearIn_28 (by decide) ?_
  refine lv_iadd hx hb dX2_swearIn_29 ?_
  refine cr_put (k := 4) X hP hS (kc_totals hkt) rfl cs17_4 rfl cinX9 tyX9_ok nmX9 (by decide) rfl rfl rfl rfl tw183 dX2_swearIn_30 (fun H locs hP hS => ?_)
  exact kX2_swearIn_33 X hret hkt hf hP hS (lv_sub hl [0] rfl)
set_option maxRecDepth 10000 in
theorem kX2_swearIn_5 {S1 : CS} {t : Nat} {M : CS} {x1 : Int32} {H : Heap} {locs : List Loc} {ls : Array Slot} (X : gX p s m args c cX2_swearIn 2 RX2 (kR kTab kA)) (hret : gRetV p l e (rmL 1 0 0) s m args below meth c cX2_swearIn (cΩ ca) (cP dC dI cg kA ca) Q S1) (hkt : kc t = 11) (hf : fX2_swearIn_5 t M x1 = some S1) (hP : (cP dC dI cg kA ca) M s H) (hS : va_S (Fr (cΩ ca) s.heap.size) s.heap H locs) (hl : lv_has ls 2 [(0, .ref (ca t)), (1, .int x1)]) : W p l e (rmL 1 0 0) s m args below meth c H locs 0 0 Q (F0 m 5 ls []) := by
  have hx := X.hx
  have hb := X.hb
  have hown := X.hown
  have hts := X.hts
  rw [fX2_swearIn_5] at hf
  refine lv_aload_n hx hb dX2_swearIn_5 rfl (lv_at hl 0 rfl) ?_
  refine cr_get (k := 0) X hP hkt rfl cv11_0 rfl cinX2 (by decide) rfl tw297 dX2_swearIn_6 ?_
  refine lv_iload_n hx hb dX2_swearIn_9 rfl (lv_at hl 1 rfl) ?_
  obtain ⟨g1, hf⟩ := gd hf
  refine cr_aald (f := fun i => (t + 1) + 8 + i) X hP (kc_cats hkt) rfl (fun _ => rfl) rfl g1 dX2_swearIn_10 ?_
  refine lv_dup hx hb dX2_swearIn_11 rfl ?_
  refine cr_get (k := 5) X hP (kc_cat (kc_cats hkt) g1) rfl cv18_5 rfl cinX0 (by decide) rfl tw230 dX2_swearIn_12 ?_
  refine lv_iconst (v := 1) hx hb dX2_swearIn_15 (by decide) ?_
  refine lv_iadd hx hb dX2_swearIn_16 ?_
  refine cr_put (k := 5) X hP hS (kc_cat (kc_cats hkt) g1) rfl cs18_5 rfl cinX0 tyX0_ok nmX0 (by decide) rfl rfl rfl rfl tw230 dX2_swearIn_17 (fun H locs hP hS => ?_)
  exact kX2_swearIn_20 X hret hkt hf hP hS (lv_sub hl [0] rfl)
set_option maxRecDepth 10000 in
theorem kX2_swearIn_0 {S1 : CS} {t : Nat} {M : CS} {a1 : Int32} {H : Heap} {locs : List Loc} {ls : Array Slot} (X : gX p s m args c cX2_swearIn 2 RX2 (kR kTab kA)) (hret : gRetV p l e (rmL 1 0 0) s m args below meth c cX2_swearIn (cΩ ca) (cP dC dI cg kA ca) Q S1) (hkt : kc t = 11) (hf : fX2_swearIn_0 t M a1 = some S1) (hP : (cP dC dI cg kA ca) M s H) (hS : va_S (Fr (cΩ ca) s.heap.size) s.heap H locs) (hl : lv_has ls 2 [(0, .ref (ca t)), (1, .int a1)]) : W p l e (rmL 1 0 0) s m args below meth c H locs 0 0 Q (F0 m 0 ls []) := by
  have hx := X.hx
  have hb := X.hb
  have hown := X.hown
  have hts := X.hts
  rw [fX2_swearIn_0] at hf
  refine lv_aload_n hx hb dX2_swearIn_0 rfl (lv_at hl 0 rfl) ?_
  refine lv_iload_n hx hb dX2_swearIn_1 rfl (lv_at hl 1 rfl) ?_
  refine cr_put (k := 8) X hP hS hkt rfl cs11_8 rfl cinX2 tyX2_ok nmX2 (by decide) rfl rfl rfl rfl tw316 dX2_swearIn_2 (fun H locs hP hS => ?_)
  exact kX2_swearIn_5 X hret hkt hf hP hS (lv_sub hl [0, 1] rfl)
theorem vX2_swearIn {l : Launch} {dC : Nat → ClassId} {dI : Nat → Nat → Nat} {cg : Nat → ClassId} {kA : String → Nat → Nat} {ca : Nat → Nat} {M S1 : CS} {t : Nat} {a1 : Int32} (hkt : kc t = 11) (hf : fX2_swearIn M t a1 = some S1) : gMetV l yX2_swearIn cX2_swearIn 2 1 (cΩ ca) (cP dC dI cg kA ca) (kR kTab kA) [.ref (ca t), .int a1] M S1 := gEntryV (by decide) cOK (Nat.le_of_ble_eq_true rfl) (fun p e s m args below meth c Q ls X hP hS hret hl => 
  kX2_swearIn_0 X hret hkt hf hP hS (lv_sub hl [0, 1] rfl))
set_option maxRecDepth 10000 in
theorem kX2_openFlaps_33 {r : Int32} {t : Nat} {M : CS} {x1 : Int32} (X : gX p s m args c cX2_openFlaps 3 RX2 (kR kTab kA)) (hret : gRetR p l e (rmL 1 0 0) s m args below meth c cX2_openFlaps Q r) (hkt : kc t = 11) (hf : fX2_openFlaps_33 t M x1 = some r) {ls : Array Slot} (hP : (cP dC dI cg kA ca) M s s.heap) (hl : lv_has ls 3 [(0, .ref (ca t)), (1, .int x1)]) : W p l e (rmL 1 0 0) s m args below meth c s.heap [] 0 0 Q (F0 m 33 ls []) := by
  have hx := X.hx
  have hb := X.hb
  have hown := X.hown
  have hts := X.hts
  rw [fX2_openFlaps_33] at hf
  refine lv_iload_n hx hb dX2_openFlaps_33 rfl (lv_at hl 1 rfl) ?_
  cases hf
  exact hret _ _ dX2_openFlaps_34
set_option maxRecDepth 10000 in
theorem kX2_openFlaps_27 {r : Int32} {t : Nat} {K4 : CS → Int32 → Int32 → Option (Int32)} {M : CS} {x1 : Int32} {x2 : Int32} (X : gX p s m args c cX2_openFlaps 3 RX2 (kR kTab kA)) (hret : gRetR p l e (rmL 1 0 0) s m args below meth c cX2_openFlaps Q r) (hkt : kc t = 11) (hK4 : ∀ (M : CS) (x1 : Int32) (x2 : Int32) (ls : Array Slot), K4 M x1 x2 = some r → (cP dC dI cg kA ca) M s s.heap → lv_has ls 3 [(0, .ref (ca t)), (1, .int x1), (2, .int x2)] → W p l e (rmL 1 0 0) s m args below meth c s.heap [] 0 0 Q (F0 m 4 ls [])) (hf : fX2_openFlaps_27 t K4 M x1 x2 = some r) {ls : Array Slot} (hP : (cP dC dI cg kA ca) M s s.heap) (hl : lv_has ls 3 [(0, .ref (ca t)), (1, .int x1), (2, .int x2)]) : W p l e (rmL 1 0 0) s m args below meth c s.heap [] 0 0 Q (F0 m 27 ls []) := by
  have hx := X.hx
  have hb := X.hb
  have hown := X.hown
  have hts := X.hts
  rw [fX2_openFlaps_27] at hf
  refine lv_iinc (v := (x2 + 1)) (lv' := [(2, .int (x2 + 1)), (0, .ref (ca t)), (1, .int x1)]) hx hb dX2_openFlaps_27 hl (k := 2) rfl (by rfl) (by decide) rfl (fun ls hl => ?_)
  refine lv_goto (tgt := 4) hx hb dX2_openFlaps_30 (by decide) ?_
  exact hK4 _ _ _ _ hf hP (lv_sub hl [1, 2, 0] rfl)
set_option maxRecDepth 10000 in
theorem kX2_openFlaps_24 {r : Int32} {t : Nat} {K4 : CS → Int32 → Int32 → Option (Int32)} {M : CS} {x1 : Int32} {x2 : Int32} (X : gX p s m args c cX2_openFlaps 3 RX2 (kR kTab kA)) (hret : gRetR p l e (rmL 1 0 0) s m args below meth c cX2_openFlaps Q r) (hkt : kc t = 11) (hK4 : ∀ (M : CS) (x1 : Int32) (x2 : Int32) (ls : Array Slot), K4 M x1 x2 = some r → (cP dC dI cg kA ca) M s s.heap → lv_has ls 3 [(0, .ref (ca t)), (1, .int x1), (2, .int x2)] → W p l e (rmL 1 0 0) s m args below meth c s.heap [] 0 0 Q (F0 m 4 ls [])) (hf : fX2_openFlaps_24 t K4 M x1 x2 = some r) {ls : Array Slot} (hP : (cP dC dI cg kA ca) M s s.heap) (hl : lv_has ls 3 [(0, .ref (ca t)), (1, .int x1), (2, .int x2)]) : W p l e (rmL 1 0 0) s m args below meth c s.heap [] 0 0 Q (F0 m 24 ls []) := by
  have hx := X.hx
  have hb := X.hb
  have hown := X.hown
  have hts := X.hts
  rw [fX2_openFlaps_24] at hf
  refine lv_iinc (v := (x1 + 1)) (lv' := [(1, .int (x1 + 1)), (0, .ref (ca t)), (2, .int x2)]) hx hb dX2_openFlaps_24 hl (k := 1) rfl (by rfl) (by decide) rfl (fun ls hl => ?_)
  exact kX2_openFlaps_27 X hret hkt hK4 hf hP (lv_sub hl [1, 0, 2] rfl)
set_option maxRecDepth 10000 in
theorem kX2_openFlaps_12 {r : Int32} {t : Nat} {K4 : CS → Int32 → Int32 → Option (Int32)} {M : CS} {x1 : Int32} {x2 : Int32} (X : gX p s m args c cX2_openFlaps 3 RX2 (kR kTab kA)) (hret : gRetR p l e (rmL 1 0 0) s m args below meth c cX2_openFlaps Q r) (hkt : kc t = 11) (hK4 : ∀ (M : CS) (x1 : Int32) (x2 : Int32) (ls : Array Slot), K4 M x1 x2 = some r → (cP dC dI cg kA ca) M s s.heap → lv_has ls 3 [(0, .ref (ca t)), (1, .int x1), (2, .int x2)] → W p l e (rmL 1 0 0) s m args below meth c s.heap [] 0 0 Q (F0 m 4 ls [])) (hf : fX2_openFlaps_12 t K4 M x1 x2 = some r) {ls : Array Slot} (hP : (cP dC dI cg kA ca) M s s.heap) (hl : lv_has ls 3 [(0, .ref (ca t)), (1, .int x1), (2, .int x2)]) : W p l e (rmL 1 0 0) s m args below meth c s.heap [] 0 0 Q (F0 m 12 ls []) := by
  have hx := X.hx
  have hb := X.hb
  have hown := X.hown
  have hts := X.hts
  rw [fX2_openFlaps_12] at hf
  refine lv_aload_n hx hb dX2_openFlaps_12 rfl (lv_at hl 0 rfl) ?_
  refine cr_get (k := 1) X hP hkt rfl cv11_1 rfl cinX2 (by decide) rfl tw300 dX2_openFlaps_13 ?_
  refine lv_iload_n hx hb dX2_openFlaps_16 rfl (lv_at hl 2 rfl) ?_
  obtain ⟨g1, hf⟩ := gd hf
  refine cr_aald (f := fun i => (t + 2) + 15 + i) X hP (kc_sacks hkt) rfl (fun _ => rfl) rfl g1 dX2_openFlaps_17 ?_
  refine cr_get (k := 3) X hP (kc_sack (kc_sacks hkt) g1) rfl cv19_3 rfl cinX4 (by decide) rfl tw263 dX2_openFlaps_18 ?_
  refine lv_if_eq (tgt := 27) hx hb dX2_openFlaps_21 (by decide) (fun c1 => ?_) (fun c1 => ?_)
  · exact kX2_openFlaps_27 X hret hkt hK4 (ifp c1 hf) hP (lv_sub hl [0, 1, 2] rfl)
  · exact kX2_openFlaps_24 X hret hkt hK4 (ifn c1 hf) hP (lv_sub hl [0, 1, 2] rfl)
set_option maxRecDepth 10000 in
theorem kX2_openFlaps_4 {r : Int32} {t : Nat} (X : gX p s m args c cX2_openFlaps 3 RX2 (kR kTab kA)) (hret : gRetR p l e (rmL 1 0 0) s m args below meth c cX2_openFlaps Q r) (hkt : kc t = 11) : ∀ (n : Nat) (M : CS) (x1 : Int32) (x2 : Int32) (ls : Array Slot), fX2_openFlaps_4 t n M x1 x2 = some r → (cP dC dI cg kA ca) M s s.heap → lv_has ls 3 [(0, .ref (ca t)), (1, .int x1), (2, .int x2)] → W p l e (rmL 1 0 0) s m args below meth c s.heap [] 0 0 Q (F0 m 4 ls []) := by
  intro n
  induction n with
  | zero => intro M x1 x2 ls hf; cases hf
  | succ k ih =>
    intro M x1 x2 ls hf hP hl
    have hx := X.hx
    have hb := X.hb
    have hown := X.hown
    have hts := X.hts
    rw [fX2_openFlaps_4] at hf
    try dsimp only at hf
    refine lv_iload_n hx hb dX2_openFlaps_4 rfl (lv_at hl 2 rfl) ?_
    refine lv_aload_n hx hb dX2_openFlaps_5 rfl (lv_at hl 0 rfl) ?_
    refine cr_get (k := 6) X hP hkt rfl cv11_6 rfl cinX2 (by decide) rfl tw311 dX2_openFlaps_6 ?_
    refine lv_icmp_ge (tgt := 33) hx hb dX2_openFlaps_9 (by decide) (fun c1 => ?_) (fun c1 => ?_)
    · exact kX2_openFlaps_33 X hret hkt (ifp c1 hf) hP (lv_sub hl [0, 1] rfl)
    · exact kX2_openFlaps_12 X hret hkt ih (ifn c1 hf) hP (lv_sub hl [0, 1, 2] rfl)
set_option maxRecDepth 10000 in
theorem kX2_openFlaps_0 {r : Int32} {t : Nat} {M : CS} (X : gX p s m args c cX2_openFlaps 3 RX2 (kR kTab kA)) (hret : gRetR p l e (rmL 1 0 0) s m args below meth c cX2_openFlaps Q r) (hkt : kc t = 11) (hf : fX2_openFlaps_0 t M = some r) {ls : Array Slot} (hP : (cP dC dI cg kA ca) M s s.heap) (hl : lv_has ls 3 [(0, .ref (ca t))]) : W p l e (rmL 1 0 0) s m args below meth c s.heap [] 0 0 Q (F0 m 0 ls []) := by
  have hx := X.hx
  have hb := X.hb
  have hown := X.hown
  have hts := X.hts
  rw [fX2_openFlaps_0] at hf
  refine lv_iconst (v := 0) hx hb dX2_openFlaps_0 (by decide) ?_
  refine lv_istore_n (lv' := [(1, .int 0), (0, .ref (ca t))]) hx hb dX2_openFlaps_1 rfl hl (by decide) rfl (fun ls hl => ?_)
  refine lv_iconst (v := 0) hx hb dX2_openFlaps_2 (by decide) ?_
  refine lv_istore_n (lv' := [(2, .int 0), (1, .int 0), (0, .ref (ca t))]) hx hb dX2_openFlaps_3 rfl hl (by decide) rfl (fun ls hl => ?_)
  exact kX2_openFlaps_4 X hret hkt FU _ _ _ _ hf hP (lv_sub hl [2, 1, 0] rfl)
theorem vX2_openFlaps {l : Launch} {dC : Nat → ClassId} {dI : Nat → Nat → Nat} {cg : Nat → ClassId} {kA : String → Nat → Nat} {ca : Nat → Nat} {M : CS} {r : Int32} {t : Nat} (hkt : kc t = 11) (hf : fX2_openFlaps M t  = some r) : gMetR l yX2_openFlaps cX2_openFlaps 3 (some .int) 1 (gB (cP dC dI cg kA ca) (kR kTab kA) M) [.ref (ca t)] r := gEntryR (ty := .int) (by decide) rfl rfl (Nat.le_of_ble_eq_true rfl) (fun _ h => h.2) (fun p e s m args below meth c Q ls X hB hret hl => 
  kX2_openFlaps_0 X hret hkt hf hB.1 (lv_sub hl [0] rfl))
set_option maxRecDepth 10000 in
theorem kX2_miceOfAll_30 {r : Int32} {t : Nat} {M : CS} {x1 : Int32} (X : gX p s m args c cX2_miceOfAll 3 RX2 (kR kTab kA)) (hret : gRetR p l e (rmL 1 0 0) s m args below meth c cX2_miceOfAll Q r) (hkt : kc t = 11) (hf : fX2_miceOfAll_30 t M x1 = some r) {ls : Array Slot} (hP : (cP dC dI cg kA ca) M s s.heap) (hl : lv_has ls 3 [(0, .ref (ca t)), (1, .int x1)]) : W p l e (rmL 1 0 0) s m args below meth c s.heap [] 0 0 Q (F0 m 30 ls []) := by
  have hx := X.hx
  have hb := X.hb
  have hown := X.hown
  have hts := X.hts
  rw [fX2_miceOfAll_30] at hf
  refine lv_iload_n hx hb dX2_miceOfAll_30 rfl (lv_at hl 1 rfl) ?_
  cases hf
  exact hret _ _ dX2_miceOfAll_31
set_option maxRecDepth 10000 in
theorem kX2_miceOfAll_12 {r : Int32} {t : Nat} {K4 : CS → Int32 → Int32 → Option (Int32)} {M : CS} {x1 : Int32} {x2 : Int32} (X : gX p s m args c cX2_miceOfAll 3 RX2 (kR kTab kA)) (hret : gRetR p l e (rmL 1 0 0) s m args below meth c cX2_miceOfAll Q r) (hkt : kc t = 11) (hK4 : ∀ (M : CS) (x1 : Int32) (x2 : Int32) (ls : Array Slot), K4 M x1 x2 = some r → (cP dC dI cg kA ca) M s s.heap → lv_has ls 3 [(0, .ref (ca t)), (1, .int x1), (2, .int x2)] → W p l e (rmL 1 0 0) s m args below meth c s.heap [] 0 0 Q (F0 m 4 ls [])) (hf : fX2_miceOfAll_12 t K4 M x1 x2 = some r) {ls : Array Slot} (hP : (cP dC dI cg kA ca) M s s.heap) (hl : lv_has ls 3 [(0, .ref (ca t)), (1, .int x1), (2, .int x2)]) : W p l e (rmL 1 0 0) s m args below meth c s.heap [] 0 0 Q (F0 m 12 ls []) := by
  have hx := X.hx
  have hb := X.hb
  have hown := X.hown
  have hts := X.hts
  rw [fX2_miceOfAll_12] at hf
  refine lv_iload_n hx hb dX2_miceOfAll_12 rfl (lv_at hl 1 rfl) ?_
  refine lv_aload_n hx hb dX2_miceOfAll_13 rfl (lv_at hl 0 rfl) ?_
  refine cr_get (k := 1) X hP hkt rfl cv11_1 rfl cinX2 (by decide) rfl tw300 dX2_miceOfAll_14 ?_
  refine lv_iload_n hx hb dX2_miceOfAll_17 rfl (lv_at hl 2 rfl) ?_
  obtain ⟨g1, hf⟩ := gd hf
  refine cr_aald (f := fun i => (t + 2) + 15 + i) X hP (kc_sacks hkt) rfl (fun _ => rfl) rfl g1 dX2_miceOfAll_18 ?_
  refine cr_get (k := 2) X hP (kc_sack (kc_sacks hkt) g1) rfl cv19_2 rfl cinX4 (by decide) rfl tw259 dX2_miceOfAll_19 ?_
  refine lv_iadd hx hb dX2_miceOfAll_22 ?_
  refine lv_istore_n (lv' := [(1, .int (x1 + (M.1 ((t + 2) + 15 + x2.toNatClampNeg) 2))), (0, .ref (ca t)), (2, .int x2)]) hx hb dX2_miceOfAll_23 rfl hl (by decide) rfl (fun ls hl => ?_)
  refine lv_iinc (v := (x2 + 1)) (lv' := [(2, .int (x2 + 1)), (1, .int (x1 + (M.1 ((t + 2) + 15 + x2.toNatClampNeg) 2))), (0, .ref (ca t))]) hx hb dX2_miceOfAll_24 hl (k := 2) rfl (by rfl) (by decide) rfl (fun ls hl => ?_)
  refine lv_goto (tgt := 4) hx hb dX2_miceOfAll_27 (by decide) ?_
  exact hK4 _ _ _ _ hf hP (lv_sub hl [2, 1, 0] rfl)
set_option maxRecDepth 10000 in
theorem kX2_miceOfAll_4 {r : Int32} {t : Nat} (X : gX p s m args c cX2_miceOfAll 3 RX2 (kR kTab kA)) (hret : gRetR p l e (rmL 1 0 0) s m args below meth c cX2_miceOfAll Q r) (hkt : kc t = 11) : ∀ (n : Nat) (M : CS) (x1 : Int32) (x2 : Int32) (ls : Array Slot), fX2_miceOfAll_4 t n M x1 x2 = some r → (cP dC dI cg kA ca) M s s.heap → lv_has ls 3 [(0, .ref (ca t)), (1, .int x1), (2, .int x2)] → W p l e (rmL 1 0 0) s m args below meth c s.heap [] 0 0 Q (F0 m 4 ls []) := by
  intro n
  induction n with
  | zero => intro M x1 x2 ls hf; cases hf
  | succ k ih =>
    intro M x1 x2 ls hf hP hl
    have hx := X.hx
    have hb := X.hb
    have hown := X.hown
    have hts := X.hts
    rw [fX2_miceOfAll_4] at hf
    try dsimp only at hf
    refine lv_iload_n hx hb dX2_miceOfAll_4 rfl (lv_at hl 2 rfl) ?_
    refine lv_aload_n hx hb dX2_miceOfAll_5 rfl (lv_at hl 0 rfl) ?_
    refine cr_get (k := 6) X hP hkt rfl cv11_6 rfl cinX2 (by decide) rfl tw311 dX2_miceOfAll_6 ?_
    refine lv_icmp_ge (tgt := 30) hx hb dX2_miceOfAll_9 (by decide) (fun c1 => ?_) (fun c1 => ?_)
    · exact kX2_miceOfAll_30 X hret hkt (ifp c1 hf) hP (lv_sub hl [0, 1] rfl)
    · exact kX2_miceOfAll_12 X hret hkt ih (ifn c1 hf) hP (lv_sub hl [0, 1, 2] rfl)
set_option maxRecDepth 10000 in
theorem kX2_miceOfAll_0 {r : Int32} {t : Nat} {M : CS} (X : gX p s m args c cX2_miceOfAll 3 RX2 (kR kTab kA)) (hret : gRetR p l e (rmL 1 0 0) s m args below meth c cX2_miceOfAll Q r) (hkt : kc t = 11) (hf : fX2_miceOfAll_0 t M = some r) {ls : Array Slot} (hP : (cP dC dI cg kA ca) M s s.heap) (hl : lv_has ls 3 [(0, .ref (ca t))]) : W p l e (rmL 1 0 0) s m args below meth c s.heap [] 0 0 Q (F0 m 0 ls []) := by
  have hx := X.hx
  have hb := X.hb
  have hown := X.hown
  have hts := X.hts
  rw [fX2_miceOfAll_0] at hf
  refine lv_iconst (v := 0) hx hb dX2_miceOfAll_0 (by decide) ?_
  refine lv_istore_n (lv' := [(1, .int 0), (0, .ref (ca t))]) hx hb dX2_miceOfAll_1 rfl hl (by decide) rfl (fun ls hl => ?_)
  refine lv_iconst (v := 0) hx hb dX2_miceOfAll_2 (by decide) ?_
  refine lv_istore_n (lv' := [(2, .int 0), (1, .int 0), (0, .ref (ca t))]) hx hb dX2_miceOfAll_3 rfl hl (by decide) rfl (fun ls hl => ?_)
  exact kX2_miceOfAll_4 X hret hkt FU _ _ _ _ hf hP (lv_sub hl [2, 1, 0] rfl)
theorem vX2_miceOfAll {l : Launch} {dC : Nat → ClassId} {dI : Nat → Nat → Nat} {cg : Nat → ClassId} {kA : String → Nat → Nat} {ca : Nat → Nat} {M : CS} {r : Int32} {t : Nat} (hkt : kc t = 11) (hf : fX2_miceOfAll M t  = some r) : gMetR l yX2_miceOfAll cX2_miceOfAll 3 (some .int) 1 (gB (cP dC dI cg kA ca) (kR kTab kA) M) [.ref (ca t)] r := gEntryR (ty := .int) (by decide) rfl rfl (Nat.le_of_ble_eq_true rfl) (fun _ h => h.2) (fun p e s m args below meth c Q ls X hB hret hl => 
  kX2_miceOfAll_0 X hret hkt hf hB.1 (lv_sub hl [0] rfl))
set_option maxRecDepth 10000 in
theorem kX2_miceOfAllBackwards_31 {r : Int32} {t : Nat} {M : CS} {x1 : Int32} (X : gX p s m args c cX2_miceOfAllBackwards 3 RX2 (kR kTab kA)) (hret : gRetR p l e (rmL 1 0 0) s m args below meth c cX2_miceOfAllBackwards Q r) (hkt : kc t = 11) (hf : fX2_miceOfAllBackwards_31 t M x1 = some r) {ls : Array Slot} (hP : (cP dC dI cg kA ca) M s s.heap) (hl : lv_has ls 3 [(0, .ref (ca t)), (1, .int x1)]) : W p l e (rmL 1 0 0) s m args below meth c s.heap [] 0 0 Q (F0 m 31 ls []) := by
  have hx := X.hx
  have hb := X.hb
  have hown := X.hown
  have hts := X.hts
  rw [fX2_miceOfAllBackwards_31] at hf
  refine lv_iload_n hx hb dX2_miceOfAllBackwards_31 rfl (lv_at hl 1 rfl) ?_
  cases hf
  exact hret _ _ dX2_miceOfAllBackwards_32
set_option maxRecDepth 10000 in
theorem kX2_miceOfAllBackwards_13 {r : Int32} {t : Nat} {K9 : CS → Int32 → Int32 → Option (Int32)} {M : CS} {x1 : Int32} {x2 : Int32} (X : gX p s m args c cX2_miceOfAllBackwards 3 RX2 (kR kTab kA)) (hret : gRetR p l e (rmL 1 0 0) s m args below meth c cX2_miceOfAllBackwards Q r) (hkt : kc t = 11) (hK9 : ∀ (M : CS) (x1 : Int32) (x2 : Int32) (ls : Array Slot), K9 M x1 x2 = some r → (cP dC dI cg kA ca) M s s.heap → lv_has ls 3 [(0, .ref (ca t)), (1, .int x1), (2, .int x2)] → W p l e (rmL 1 0 0) s m args below meth c s.heap [] 0 0 Q (F0 m 9 ls [])) (hf : fX2_miceOfAllBackwards_13 t K9 M x1 x2 = some r) {ls : Array Slot} (hP : (cP dC dI cg kA ca) M s s.heap) (hl : lv_has ls 3 [(0, .ref (ca t)), (1, .int x1), (2, .int x2)]) : W p l e (rmL 1 0 0) s m args below meth c s.heap [] 0 0 Q (F0 m 13 ls []) := by
  have hx := X.hx
  have hb := X.hb
  have hown := X.hown
  have hts := X.hts
  rw [fX2_miceOfAllBackwards_13] at hf
  refine lv_iload_n hx hb dX2_miceOfAllBackwards_13 rfl (lv_at hl 1 rfl) ?_
  refine lv_aload_n hx hb dX2_miceOfAllBackwards_14 rfl (lv_at hl 0 rfl) ?_
  refine cr_get (k := 1) X hP hkt rfl cv11_1 rfl cinX2 (by decide) rfl tw300 dX2_miceOfAllBackwards_15 ?_
  refine lv_iload_n hx hb dX2_miceOfAllBackwards_18 rfl (lv_at hl 2 rfl) ?_
  obtain ⟨g1, hf⟩ := gd hf
  refine cr_aald (f := fun i => (t + 2) + 15 + i) X hP (kc_sacks hkt) rfl (fun _ => rfl) rfl g1 dX2_miceOfAllBackwards_19 ?_
  refine cr_get (k := 2) X hP (kc_sack (kc_sacks hkt) g1) rfl cv19_2 rfl cinX4 (by decide) rfl tw259 dX2_miceOfAllBackwards_20 ?_
  refine lv_iadd hx hb dX2_miceOfAllBackwards_23 ?_
  refine lv_istore_n (lv' := [(1, .int (x1 + (M.1 ((t + 2) + 15 + x2.toNatClampNeg) 2))), (0, .ref (ca t)), (2, .int x2)]) hx hb dX2_miceOfAllBackwards_24 rfl hl (by decide) rfl (fun ls hl => ?_)
  refine lv_iinc (v := (x2 + (-1))) (lv' := [(2, .int (x2 + (-1))), (1, .int (x1 + (M.1 ((t + 2) + 15 + x2.toNatClampNeg) 2))), (0, .ref (ca t))]) hx hb dX2_miceOfAllBackwards_25 hl (k := 2) rfl (by rfl) (by decide) rfl (fun ls hl => ?_)
  refine lv_goto (tgt := 9) hx hb dX2_miceOfAllBackwards_28 (by decide) ?_
  exact hK9 _ _ _ _ hf hP (lv_sub hl [2, 1, 0] rfl)
set_option maxRecDepth 10000 in
theorem kX2_miceOfAllBackwards_9 {r : Int32} {t : Nat} (X : gX p s m args c cX2_miceOfAllBackwards 3 RX2 (kR kTab kA)) (hret : gRetR p l e (rmL 1 0 0) s m args below meth c cX2_miceOfAllBackwards Q r) (hkt : kc t = 11) : ∀ (n : Nat) (M : CS) (x1 : Int32) (x2 : Int32) (ls : Array Slot), fX2_miceOfAllBackwards_9 t n M x1 x2 = some r → (cP dC dI cg kA ca) M s s.heap → lv_has ls 3 [(0, .ref (ca t)), (1, .int x1), (2, .int x2)] → W p l e (rmL 1 0 0) s m args below meth c s.heap [] 0 0 Q (F0 m 9 ls []) := by
  intro n
  induction n with
  | zero => intro M x1 x2 ls hf; cases hf
  | succ k ih =>
    intro M x1 x2 ls hf hP hl
    have hx := X.hx
    have hb := X.hb
    have hown := X.hown
    have hts := X.hts
    rw [fX2_miceOfAllBackwards_9] at hf
    try dsimp only at hf
    refine lv_iload_n hx hb dX2_miceOfAllBackwards_9 rfl (lv_at hl 2 rfl) ?_
    refine lv_if_lt (tgt := 31) hx hb dX2_miceOfAllBackwards_10 (by decide) (fun c1 => ?_) (fun c1 => ?_)
    · exact kX2_miceOfAllBackwards_31 X hret hkt (ifp c1 hf) hP (lv_sub hl [0, 1] rfl)
    · exact kX2_miceOfAllBackwards_13 X hret hkt ih (ifn c1 hf) hP (lv_sub hl [0, 1, 2] rfl)
set_option maxRecDepth 10000 in
theorem kX2_miceOfAllBackwards_0 {r : Int32} {t : Nat} {M : CS} (X : gX p s m args c cX2_miceOfAllBackwards 3 RX2 (kR kTab kA)) (hret : gRetR p l e (rmL 1 0 0) s m args below meth c cX2_miceOfAllBackwards Q r) (hkt : kc t = 11) (hf : fX2_miceOfAllBackwards_0 t M = some r) {ls : Array Slot} (hP : (cP dC dI cg kA ca) M s s.heap) (hl : lv_has ls 3 [(0, .ref (ca t))]) : W p l e (rmL 1 0 0) s m args below meth c s.heap [] 0 0 Q (F0 m 0 ls []) := by
  have hx := X.hx
  have hb := X.hb
  have hown := X.hown
  have hts := X.hts
  rw [fX2_miceOfAllBackwards_0] at hf
  refine lv_iconst (v := 0) hx hb dX2_miceOfAllBackwards_0 (by decide) ?_
  refine lv_istore_n (lv' := [(1, .int 0), (0, .ref (ca t))]) hx hb dX2_miceOfAllBackwards_1 rfl hl (by decide) rfl (fun ls hl => ?_)
  refine lv_aload_n hx hb dX2_miceOfAllBackwards_2 rfl (lv_at hl 1 rfl) ?_
  refine cr_get (k := 6) X hP hkt rfl cv11_6 rfl cinX2 (by decide) rfl tw311 dX2_miceOfAllBackwards_3 ?_
  refine lv_iconst (v := 1) hx hb dX2_miceOfAllBackwards_6 (by decide) ?_
  refine lv_isub hx hb dX2_miceOfAllBackwards_7 ?_
  refine lv_istore_n (lv' := [(2, .int ((M.1 t 6) - 1)), (1, .int 0), (0, .ref (ca t))]) hx hb dX2_miceOfAllBackwards_8 rfl hl (by decide) rfl (fun ls hl => ?_)
  exact kX2_miceOfAllBackwards_9 X hret hkt FU _ _ _ _ hf hP (lv_sub hl [2, 1, 0] rfl)
theorem vX2_miceOfAllBackwards {l : Launch} {dC : Nat → ClassId} {dI : Nat → Nat → Nat} {cg : Nat → ClassId} {kA : String → Nat → Nat} {ca : Nat → Nat} {M : CS} {r : Int32} {t : Nat} (hkt : kc t = 11) (hf : fX2_miceOfAllBackwards M t  = some r) : gMetR l yX2_miceOfAllBackwards cX2_miceOfAllBackwards 3 (some .int) 1 (gB (cP dC dI cg kA ca) (kR kTab kA) M) [.ref (ca t)] r := gEntryR (ty := .int) (by decide) rfl rfl (Nat.le_of_ble_eq_true rfl) (fun _ h => h.2) (fun p e s m args below meth c Q ls X hB hret hl => 
  kX2_miceOfAllBackwards_0 X hret hkt hf hB.1 (lv_sub hl [0] rfl))
set_option maxRecDepth 10000 in
theorem kX2_grainOfAll_30 {r : Int32} {t : Nat} {M : CS} {x1 : Int32} (X : gX p s m args c cX2_grainOfAll 3 RX2 (kR kTab kA)) (hret : gRetR p l e (rmL 1 0 0) s m args below meth c cX2_grainOfAll Q r) (hkt : kc t = 11) (hf : fX2_grainOfAll_30 t M x1 = some r) {ls : Array Slot} (hP : (cP dC dI cg kA ca) M s s.heap) (hl : lv_has ls 3 [(0, .ref (ca t)), (1, .int x1)]) : W p l e (rmL 1 0 0) s m args below meth c s.heap [] 0 0 Q (F0 m 30 ls []) := by
  have hx := X.hx
  have hb := X.hb
  have hown := X.hown
  have hts := X.hts
  rw [fX2_grainOfAll_30] at hf
  refine lv_iload_n hx hb dX2_grainOfAll_30 rfl (lv_at hl 1 rfl) ?_
  cases hf
  exact hret _ _ dX2_grainOfAll_31
set_option maxRecDepth 10000 in
theorem kX2_grainOfAll_12 {r : Int32} {t : Nat} {K4 : CS → Int32 → Int32 → Option (Int32)} {M : CS} {x1 : Int32} {x2 : Int32} (X : gX p s m args c cX2_grainOfAll 3 RX2 (kR kTab kA)) (hret : gRetR p l e (rmL 1 0 0) s m args below meth c cX2_grainOfAll Q r) (hkt : kc t = 11) (hK4 : ∀ (M : CS) (x1 : Int32) (x2 : Int32) (ls : Array Slot), K4 M x1 x2 = some r → (cP dC dI cg kA ca) M s s.heap → lv_has ls 3 [(0, .ref (ca t)), (1, .int x1), (2, .int x2)] → W p l e (rmL 1 0 0) s m args below meth c s.heap [] 0 0 Q (F0 m 4 ls [])) (hf : fX2_grainOfAll_12 t K4 M x1 x2 = some r) {ls : Array Slot} (hP : (cP dC dI cg kA ca) M s s.heap) (hl : lv_has ls 3 [(0, .ref (ca t)), (1, .int x1), (2, .int x2)]) : W p l e (rmL 1 0 0) s m args below meth c s.heap [] 0 0 Q (F0 m 12 ls []) := by
  have hx := X.hx
  have hb := X.hb
  have hown := X.hown
  have hts := X.hts
  rw [fX2_grainOfAll_12] at hf
  refine lv_iload_n hx hb dX2_grainOfAll_12 rfl (lv_at hl 1 rfl) ?_
  refine lv_aload_n hx hb dX2_grainOfAll_13 rfl (lv_at hl 0 rfl) ?_
  refine cr_get (k := 1) X hP hkt rfl cv11_1 rfl cinX2 (by decide) rfl tw300 dX2_grainOfAll_14 ?_
  refine lv_iload_n hx hb dX2_grainOfAll_17 rfl (lv_at hl 2 rfl) ?_
  obtain ⟨g1, hf⟩ := gd hf
  refine cr_aald (f := fun i => (t + 2) + 15 + i) X hP (kc_sacks hkt) rfl (fun _ => rfl) rfl g1 dX2_grainOfAll_18 ?_
  refine cr_get (k := 1) X hP (kc_sack (kc_sacks hkt) g1) rfl cv19_1 rfl cinX4 (by decide) rfl tw256 dX2_grainOfAll_19 ?_
  refine lv_iadd hx hb dX2_grainOfAll_22 ?_
  refine lv_istore_n (lv' := [(1, .int (x1 + (M.1 ((t + 2) + 15 + x2.toNatClampNeg) 1))), (0, .ref (ca t)), (2, .int x2)]) hx hb dX2_grainOfAll_23 rfl hl (by decide) rfl (fun ls hl => ?_)
  refine lv_iinc (v := (x2 + 1)) (lv' := [(2, .int (x2 + 1)), (1, .int (x1 + (M.1 ((t + 2) + 15 + x2.toNatClampNeg) 1))), (0, .ref (ca t))]) hx hb dX2_grainOfAll_24 hl (k := 2) rfl (by rfl) (by decide) rfl (fun ls hl => ?_)
  refine lv_goto (tgt := 4) hx hb dX2_grainOfAll_27 (by decide) ?_
  exact hK4 _ _ _ _ hf hP (lv_sub hl [2, 1, 0] rfl)
set_option maxRecDepth 10000 in
theorem kX2_grainOfAll_4 {r : Int32} {t : Nat} (X : gX p s m args c cX2_grainOfAll 3 RX2 (kR kTab kA)) (hret : gRetR p l e (rmL 1 0 0) s m args below meth c cX2_grainOfAll Q r) (hkt : kc t = 11) : ∀ (n : Nat) (M : CS) (x1 : Int32) (x2 : Int32) (ls : Array Slot), fX2_grainOfAll_4 t n M x1 x2 = some r → (cP dC dI cg kA ca) M s s.heap → lv_has ls 3 [(0, .ref (ca t)), (1, .int x1), (2, .int x2)] → W p l e (rmL 1 0 0) s m args below meth c s.heap [] 0 0 Q (F0 m 4 ls []) := by
  intro n
  induction n with
  | zero => intro M x1 x2 ls hf; cases hf
  | succ k ih =>
    intro M x1 x2 ls hf hP hl
    have hx := X.hx
    have hb := X.hb
    have hown := X.hown
    have hts := X.hts
    rw [fX2_grainOfAll_4] at hf
    try dsimp only at hf
    refine lv_iload_n hx hb dX2_grainOfAll_4 rfl (lv_at hl 2 rfl) ?_
    refine lv_aload_n hx hb dX2_grainOfAll_5 rfl (lv_at hl 0 rfl) ?_
    refine cr_get (k := 6) X hP hkt rfl cv11_6 rfl cinX2 (by decide) rfl tw311 dX2_grainOfAll_6 ?_
    refine lv_icmp_ge (tgt := 30) hx hb dX2_grainOfAll_9 (by decide) (fun c1 => ?_) (fun c1 => ?_)
    · exact kX2_grainOfAll_30 X hret hkt (ifp c1 hf) hP (lv_sub hl [0, 1] rfl)
    · exact kX2_grainOfAll_12 X hret hkt ih (ifn c1 hf) hP (lv_sub hl [0, 1, 2] rfl)
set_option maxRecDepth 10000 in
theorem kX2_grainOfAll_0 {r : Int32} {t : Nat} {M : CS} (X : gX p s m args c cX2_grainOfAll 3 RX2 (kR kTab kA)) (hret : gRetR p l e (rmL 1 0 0) s m args below meth c cX2_grainOfAll Q r) (hkt : kc t = 11) (hf : fX2_grainOfAll_0 t M = some r) {ls : Array Slot} (hP : (cP dC dI cg kA ca) M s s.heap) (hl : lv_has ls 3 [(0, .ref (ca t))]) : W p l e (rmL 1 0 0) s m args below meth c s.heap [] 0 0 Q (F0 m 0 ls []) := by
  have hx := X.hx
  have hb := X.hb
  have hown := X.hown
  have hts := X.hts
  rw [fX2_grainOfAll_0] at hf
  refine lv_iconst (v := 0) hx hb dX2_grainOfAll_0 (by decide) ?_
  refine lv_istore_n (lv' := [(1, .int 0), (0, .ref (ca t))]) hx hb dX2_grainOfAll_1 rfl hl (by decide) rfl (fun ls hl => ?_)
  refine lv_iconst (v := 0) hx hb dX2_grainOfAll_2 (by decide) ?_
  refine lv_istore_n (lv' := [(2, .int 0), (1, .int 0), (0, .ref (ca t))]) hx hb dX2_grainOfAll_3 rfl hl (by decide) rfl (fun ls hl => ?_)
  exact kX2_grainOfAll_4 X hret hkt FU _ _ _ _ hf hP (lv_sub hl [2, 1, 0] rfl)
theorem vX2_grainOfAll {l : Launch} {dC : Nat → ClassId} {dI : Nat → Nat → Nat} {cg : Nat → ClassId} {kA : String → Nat → Nat} {ca : Nat → Nat} {M : CS} {r : Int32} {t : Nat} (hkt : kc t = 11) (hf : fX2_grainOfAll M t  = some r) : gMetR l yX2_grainOfAll cX2_grainOfAll 3 (some .int) 1 (gB (cP dC dI cg kA ca) (kR kTab kA) M) [.ref (ca t)] r := gEntryR (ty := .int) (by decide) rfl rfl (Nat.le_of_ble_eq_true rfl) (fun _ h => h.2) (fun p e s m args below meth c Q ls X hB hret hl => 
  kX2_grainOfAll_0 X hret hkt hf hB.1 (lv_sub hl [0] rfl))
set_option maxRecDepth 10000 in
theorem kX2_catsAddUp_71 {r : Int32} {t : Nat} {M : CS} {s0 : Int32} (X : gX p s m args c cX2_catsAddUp 4 RX2 (kR kTab kA)) (hret : gRetR p l e (rmL 1 0 0) s m args below meth c cX2_catsAddUp Q r) (hkt : kc t = 11) (hf : fX2_catsAddUp_71 t M s0 = some r) {ls : Array Slot} (hP : (cP dC dI cg kA ca) M s s.heap) (hl : lv_has ls 4 [(0, .ref (ca t))]) : W p l e (rmL 1 0 0) s m args below meth c s.heap [] 0 0 Q (F0 m 71 ls [.int s0]) := by
  have hx := X.hx
  have hb := X.hb
  have hown := X.hown
  have hts := X.hts
  rw [fX2_catsAddUp_71] at hf
  cases hf
  exact hret _ _ dX2_catsAddUp_71
set_option maxRecDepth 10000 in
theorem kX2_catsAddUp_70 {r : Int32} {t : Nat} {M : CS} (X : gX p s m args c cX2_catsAddUp 4 RX2 (kR kTab kA)) (hret : gRetR p l e (rmL 1 0 0) s m args below meth c cX2_catsAddUp Q r) (hkt : kc t = 11) (hf : fX2_catsAddUp_70 t M = some r) {ls : Array Slot} (hP : (cP dC dI cg kA ca) M s s.heap) (hl : lv_has ls 4 [(0, .ref (ca t))]) : W p l e (rmL 1 0 0) s m args below meth c s.heap [] 0 0 Q (F0 m 70 ls []) := by
  have hx := X.hx
  have hb := X.hb
  have hown := X.hown
  have hts := X.hts
  rw [fX2_catsAddUp_70] at hf
  refine lv_iconst (v := 0) hx hb dX2_catsAddUp_70 (by decide) ?_
  exact kX2_catsAddUp_71 X hret hkt hf hP (lv_sub hl [0] rfl)
set_option maxRecDepth 10000 in
theorem kX2_catsAddUp_66 {r : Int32} {t : Nat} {M : CS} (X : gX p s m args c cX2_catsAddUp 4 RX2 (kR kTab kA)) (hret : gRetR p l e (rmL 1 0 0) s m args below meth c cX2_catsAddUp Q r) (hkt : kc t = 11) (hf : fX2_catsAddUp_66 t M = some r) {ls : Array Slot} (hP : (cP dC dI cg kA ca) M s s.heap) (hl : lv_has ls 4 [(0, .ref (ca t))]) : W p l e (rmL 1 0 0) s m args below meth c s.heap [] 0 0 Q (F0 m 66 ls []) := by
  have hx := X.hx
  have hb := X.hb
  have hown := X.hown
  have hts := X.hts
  rw [fX2_catsAddUp_66] at hf
  refine lv_iconst (v := 1) hx hb dX2_catsAddUp_66 (by decide) ?_
  refine lv_goto (tgt := 71) hx hb dX2_catsAddUp_67 (by decide) ?_
  exact kX2_catsAddUp_71 X hret hkt hf hP (lv_sub hl [0] rfl)
set_option maxRecDepth 10000 in
theorem kX2_catsAddUp_55 {r : Int32} {t : Nat} {M : CS} {x2 : Int32} (X : gX p s m args c cX2_catsAddUp 4 RX2 (kR kTab kA)) (hret : gRetR p l e (rmL 1 0 0) s m args below meth c cX2_catsAddUp Q r) (hkt : kc t = 11) (hf : fX2_catsAddUp_55 t M x2 = some r) {ls : Array Slot} (hP : (cP dC dI cg kA ca) M s s.heap) (hl : lv_has ls 4 [(0, .ref (ca t)), (2, .int x2)]) : W p l e (rmL 1 0 0) s m args below meth c s.heap [] 0 0 Q (F0 m 55 ls []) := by
  have hx := X.hx
  have hb := X.hb
  have hown := X.hown
  have hts := X.hts
  rw [fX2_catsAddUp_55] at hf
  refine lv_iload_n hx hb dX2_catsAddUp_55 rfl (lv_at hl 1 rfl) ?_
  refine lv_aload_n hx hb dX2_catsAddUp_56 rfl (lv_at hl 0 rfl) ?_
  refine cr_get (k := 4) X hP hkt rfl cv11_4 rfl cinX2 (by decide) rfl tw306 dX2_catsAddUp_57 ?_
  refine cr_get (k := 4) X hP (kc_totals hkt) rfl cv17_4 rfl cinX9 (by decide) rfl tw183 dX2_catsAddUp_60 ?_
  refine lv_icmp_ne (tgt := 70) hx hb dX2_catsAddUp_63 (by decide) (fun c1 => ?_) (fun c1 => ?_)
  · exact kX2_catsAddUp_70 X hret hkt (ifn c1 hf) hP (lv_sub hl [0] rfl)
  · exact kX2_catsAddUp_66 X hret hkt (ifp c1 hf) hP (lv_sub hl [0] rfl)
set_option maxRecDepth 10000 in
theorem kX2_catsAddUp_44 {r : Int32} {t : Nat} {M : CS} {x1 : Int32} {x2 : Int32} (X : gX p s m args c cX2_catsAddUp 4 RX2 (kR kTab kA)) (hret : gRetR p l e (rmL 1 0 0) s m args below meth c cX2_catsAddUp Q r) (hkt : kc t = 11) (hf : fX2_catsAddUp_44 t M x1 x2 = some r) {ls : Array Slot} (hP : (cP dC dI cg kA ca) M s s.heap) (hl : lv_has ls 4 [(0, .ref (ca t)), (1, .int x1), (2, .int x2)]) : W p l e (rmL 1 0 0) s m args below meth c s.heap [] 0 0 Q (F0 m 44 ls []) := by
  have hx := X.hx
  have hb := X.hb
  have hown := X.hown
  have hts := X.hts
  rw [fX2_catsAddUp_44] at hf
  refine lv_iload_n hx hb dX2_catsAddUp_44 rfl (lv_at hl 1 rfl) ?_
  refine lv_aload_n hx hb dX2_catsAddUp_45 rfl (lv_at hl 0 rfl) ?_
  refine cr_get (k := 4) X hP hkt rfl cv11_4 rfl cinX2 (by decide) rfl tw306 dX2_catsAddUp_46 ?_
  refine cr_get (k := 0) X hP (kc_totals hkt) rfl cv17_0 rfl cinX9 (by decide) rfl tw171 dX2_catsAddUp_49 ?_
  refine lv_icmp_ne (tgt := 70) hx hb dX2_catsAddUp_52 (by decide) (fun c1 => ?_) (fun c1 => ?_)
  · exact kX2_catsAddUp_70 X hret hkt (ifn c1 hf) hP (lv_sub hl [0] rfl)
  · exact kX2_catsAddUp_55 X hret hkt (ifp c1 hf) hP (lv_sub hl [0, 2] rfl)
set_option maxRecDepth 10000 in
theorem kX2_catsAddUp_14 {r : Int32} {t : Nat} {K6 : CS → Int32 → Int32 → Int32 → Option (Int32)} {M : CS} {x1 : Int32} {x2 : Int32} {x3 : Int32} (X : gX p s m args c cX2_catsAddUp 4 RX2 (kR kTab kA)) (hret : gRetR p l e (rmL 1 0 0) s m args below meth c cX2_catsAddUp Q r) (hkt : kc t = 11) (hK6 : ∀ (M : CS) (x1 : Int32) (x2 : Int32) (x3 : Int32) (ls : Array Slot), K6 M x1 x2 x3 = some r → (cP dC dI cg kA ca) M s s.heap → lv_has ls 4 [(0, .ref (ca t)), (1, .int x1), (2, .int x2), (3, .int x3)] → W p l e (rmL 1 0 0) s m args below meth c s.heap [] 0 0 Q (F0 m 6 ls [])) (hf : fX2_catsAddUp_14 t K6 M x1 x2 x3 = some r) {ls : Array Slot} (hP : (cP dC dI cg kA ca) M s s.heap) (hl : lv_has ls 4 [(0, .ref (ca t)), (1, .int x1), (2, .int x2), (3, .int x3)]) : W p l e (rmL 1 0 0) s m args below meth c s.heap [] 0 0 Q (F0 m 14 ls []) := by
  have hx := X.hx
  have hb := X.hb
  have hown := X.hown
  have hts := X.hts
  rw [fX2_catsAddUp_14] at hf
  refine lv_iload_n hx hb dX2_catsAddUp_14 rfl (lv_at hl 1 rfl) ?_
  refine lv_aload_n hx hb dX2_catsAddUp_15 rfl (lv_at hl 0 rfl) ?_
  refine cr_get (k := 0) X hP hkt rfl cv11_0 rfl cinX2 (by decide) rfl tw297 dX2_catsAddUp_16 ?_
  refine lv_iload_n hx hb dX2_catsAddUp_19 rfl (lv_at hl 3 rfl) ?_
  obtain ⟨g1, hf⟩ := gd hf
  refine cr_aald (f := fun i => (t + 1) + 8 + i) X hP (kc_cats hkt) rfl (fun _ => rfl) rfl g1 dX2_catsAddUp_20 ?_
  refine cr_get (k := 4) X hP (kc_cat (kc_cats hkt) g1) rfl cv18_4 rfl cinX0 (by decide) rfl tw227 dX2_catsAddUp_21 ?_
  refine lv_iadd hx hb dX2_catsAddUp_24 ?_
  refine lv_istore_n (lv' := [(1, .int (x1 + (M.1 ((t + 1) + 8 + x3.toNatClampNeg) 4))), (0, .ref (ca t)), (2, .int x2), (3, .int x3)]) hx hb dX2_catsAddUp_25 rfl hl (by decide) rfl (fun ls hl => ?_)
  refine lv_iload_n hx hb dX2_catsAddUp_26 rfl (lv_at hl 2 rfl) ?_
  refine lv_aload_n hx hb dX2_catsAddUp_27 rfl (lv_at hl 1 rfl) ?_
  refine cr_get (k := 0) X hP hkt rfl cv11_0 rfl cinX2 (by decide) rfl tw297 dX2_catsAddUp_28 ?_
  refine lv_iload_n hx hb dX2_catsAddUp_31 rfl (lv_at hl 3 rfl) ?_
  obtain ⟨g2, hf⟩ := gd hf
  refine cr_aald (f := fun i => (t + 1) + 8 + i) X hP (kc_cats hkt) rfl (fun _ => rfl) rfl g2 dX2_catsAddUp_32 ?_
  refine cr_get (k := 5) X hP (kc_cat (kc_cats hkt) g2) rfl cv18_5 rfl cinX0 (by decide) rfl tw230 dX2_catsAddUp_33 ?_
  refine lv_iadd hx hb dX2_catsAddUp_36 ?_
  refine lv_istore_n (lv' := [(2, .int (x2 + (M.1 ((t + 1) + 8 + x3.toNatClampNeg) 5))), (1, .int (x1 + (M.1 ((t + 1) + 8 + x3.toNatClampNeg) 4))), (0, .ref (ca t)), (3, .int x3)]) hx hb dX2_catsAddUp_37 rfl hl (by decide) rfl (fun ls hl => ?_)
  refine lv_iinc (v := (x3 + 1)) (lv' := [(3, .int (x3 + 1)), (2, .int (x2 + (M.1 ((t + 1) + 8 + x3.toNatClampNeg) 5))), (1, .int (x1 + (M.1 ((t + 1) + 8 + x3.toNatClampNeg) 4))), (0, .ref (ca t))]) hx hb dX2_catsAddUp_38 hl (k := 3) rfl (by rfl) (by decide) rfl (fun ls hl => ?_)
  refine lv_goto (tgt := 6) hx hb dX2_catsAddUp_41 (by decide) ?_
  exact hK6 _ _ _ _ _ hf hP (lv_sub hl [3, 2, 1, 0] rfl)
set_option maxRecDepth 10000 in
theorem kX2_catsAddUp_6 {r : Int32} {t : Nat} (X : gX p s m args c cX2_catsAddUp 4 RX2 (kR kTab kA)) (hret : gRetR p l e (rmL 1 0 0) s m args below meth c cX2_catsAddUp Q r) (hkt : kc t = 11) : ∀ (n : Nat) (M : CS) (x1 : Int32) (x2 : Int32) (x3 : Int32) (ls : Array Slot), fX2_catsAddUp_6 t n M x1 x2 x3 = some r → (cP dC dI cg kA ca) M s s.heap → lv_has ls 4 [(0, .ref (ca t)), (1, .int x1), (2, .int x2), (3, .int x3)] → W p l e (rmL 1 0 0) s m args below meth c s.heap [] 0 0 Q (F0 m 6 ls []) := by
  intro n
  induction n with
  | zero => intro M x1 x2 x3 ls hf; cases hf
  | succ k ih =>
    intro M x1 x2 x3 ls hf hP hl
    have hx := X.hx
    have hb := X.hb
    have hown := X.hown
    have hts := X.hts
    rw [fX2_catsAddUp_6] at hf
    try dsimp only at hf
    refine lv_iload_n hx hb dX2_catsAddUp_6 rfl (lv_at hl 3 rfl) ?_
    refine lv_aload_n hx hb dX2_catsAddUp_7 rfl (lv_at hl 0 rfl) ?_
    refine cr_get (k := 5) X hP hkt rfl cv11_5 rfl cinX2 (by decide) rfl tw308 dX2_catsAddUp_8 ?_
    refine lv_icmp_ge (tgt := 44) hx hb dX2_catsAddUp_11 (by decide) (fun c1 => ?_) (fun c1 => ?_)
    · exact kX2_catsAddUp_44 X hret hkt (ifp c1 hf) hP (lv_sub hl [0, 1, 2] rfl)
    · exact kX2_catsAddUp_14 X hret hkt ih (ifn c1 hf) hP (lv_sub hl [0, 1, 2, 3] rfl)
set_option maxRecDepth 10000 in
theorem kX2_catsAddUp_0 {r : Int32} {t : Nat} {M : CS} (X : gX p s m args c cX2_catsAddUp 4 RX2 (kR kTab kA)) (hret : gRetR p l e (rmL 1 0 0) s m args below meth c cX2_catsAddUp Q r) (hkt : kc t = 11) (hf : fX2_catsAddUp_0 t M = some r) {ls : Array Slot} (hP : (cP dC dI cg kA ca) M s s.heap) (hl : lv_has ls 4 [(0, .ref (ca t))]) : W p l e (rmL 1 0 0) s m args below meth c s.heap [] 0 0 Q (F0 m 0 ls []) := by
  have hx := X.hx
  have hb := X.hb
  have hown := X.hown
  have hts := X.hts
  rw [fX2_catsAddUp_0] at hf
  refine lv_iconst (v := 0) hx hb dX2_catsAddUp_0 (by decide) ?_
  refine lv_istore_n (lv' := [(1, .int 0), (0, .ref (ca t))]) hx hb dX2_catsAddUp_1 rfl hl (by decide) rfl (fun ls hl => ?_)
  refine lv_iconst (v := 0) hx hb dX2_catsAddUp_2 (by decide) ?_
  refine lv_istore_n (lv' := [(2, .int 0), (1, .int 0), (0, .ref (ca t))]) hx hb dX2_catsAddUp_3 rfl hl (by decide) rfl (fun ls hl => ?_)
  refine lv_iconst (v := 0) hx hb dX2_catsAddUp_4 (by decide) ?_
  refine lv_istore_n (lv' := [(3, .int 0), (2, .int 0), (1, .int 0), (0, .ref (ca t))]) hx hb dX2_catsAddUp_5 rfl hl (by decide) rfl (fun ls hl => ?_)
  exact kX2_catsAddUp_6 X hret hkt FU _ _ _ _ _ hf hP (lv_sub hl [3, 2, 1, 0] rfl)
theorem vX2_catsAddUp {l : Launch} {dC : Nat → ClassId} {dI : Nat → Nat → Nat} {cg : Nat → ClassId} {kA : String → Nat → Nat} {ca : Nat → Nat} {M : CS} {r : Int32} {t : Nat} (hkt : kc t = 11) (hf : fX2_catsAddUp M t  = some r) : gMetR l yX2_catsAddUp cX2_catsAddUp 4 (some .boolean) 1 (gB (cP dC dI cg kA ca) (kR kTab kA) M) [.ref (ca t)] r := gEntryR (ty := .boolean) (by decide) rfl (bq_n hf) (Nat.le_of_ble_eq_true rfl) (fun _ h => h.2) (fun p e s m args below meth c Q ls X hB hret hl => 
  kX2_catsAddUp_0 X hret hkt (bq_f hf) hB.1 (lv_sub hl [0] rfl))
set_option maxRecDepth 10000 in
theorem kX4_copyFrom_40 {S1 : CS} {t : Nat} {b1 : Nat} {M : CS} {H : Heap} {locs : List Loc} {ls : Array Slot} (X : gX p s m args c cX4_copyFrom 2 RX4 (kR kTab kA)) (hret : gRetV p l e (rmL 1 0 0) s m args below meth c cX4_copyFrom (cΩ ca) (cP dC dI cg kA ca) Q S1) (hkt : kc t = 19) (hkb1 : kc b1 = 19) (hf : fX4_copyFrom_40 t b1 M = some S1) (hP : (cP dC dI cg kA ca) M s H) (hS : va_S (Fr (cΩ ca) s.heap.size) s.heap H locs) (hl : lv_has ls 2 [(0, .ref (ca t))]) : W p l e (rmL 1 0 0) s m args below meth c H locs 0 0 Q (F0 m 40 ls []) := by
  have hx := X.hx
  have hb := X.hb
  have hown := X.hown
  have hts := X.hts
  rw [fX4_copyFrom_40] at hf
  cases hf
  exact hret _ _ _ _ dX4_copyFrom_40 hP hS
set_option maxRecDepth 10000 in
theorem kX4_copyFrom_32 {S1 : CS} {t : Nat} {b1 : Nat} {M : CS} {H : Heap} {locs : List Loc} {ls : Array Slot} (X : gX p s m args c cX4_copyFrom 2 RX4 (kR kTab kA)) (hret : gRetV p l e (rmL 1 0 0) s m args below meth c cX4_copyFrom (cΩ ca) (cP dC dI cg kA ca) Q S1) (hkt : kc t = 19) (hkb1 : kc b1 = 19) (hf : fX4_copyFrom_32 t b1 M = some S1) (hP : (cP dC dI cg kA ca) M s H) (hS : va_S (Fr (cΩ ca) s.heap.size) s.heap H locs) (hl : lv_has ls 2 [(0, .ref (ca t)), (1, .ref (ca b1))]) : W p l e (rmL 1 0 0) s m args below meth c H locs 0 0 Q (F0 m 32 ls []) := by
  have hx := X.hx
  have hb := X.hb
  have hown := X.hown
  have hts := X.hts
  rw [fX4_copyFrom_32] at hf
  refine lv_aload_n hx hb dX4_copyFrom_32 rfl (lv_at hl 0 rfl) ?_
  refine lv_aload_n hx hb dX4_copyFrom_33 rfl (lv_at hl 1 rfl) ?_
  refine cr_get (k := 4) X hP hkb1 rfl cv19_4 rfl cinX4 (by decide) rfl tw266 dX4_copyFrom_34 ?_
  refine cr_put (k := 4) X hP hS hkt rfl cs19_4 rfl cinX4 tyX4_ok nmX4 (by decide) rfl rfl rfl rfl tw266 dX4_copyFrom_37 (fun H locs hP hS => ?_)
  exact kX4_copyFrom_40 X hret hkt hkb1 hf hP hS (lv_sub hl [0] rfl)
set_option maxRecDepth 10000 in
theorem kX4_copyFrom_24 {S1 : CS} {t : Nat} {b1 : Nat} {M : CS} {H : Heap} {locs : List Loc} {ls : Array Slot} (X : gX p s m args c cX4_copyFrom 2 RX4 (kR kTab kA)) (hret : gRetV p l e (rmL 1 0 0) s m args below meth c cX4_copyFrom (cΩ ca) (cP dC dI cg kA ca) Q S1) (hkt : kc t = 19) (hkb1 : kc b1 = 19) (hf : fX4_copyFrom_24 t b1 M = some S1) (hP : (cP dC dI cg kA ca) M s H) (hS : va_S (Fr (cΩ ca) s.heap.size) s.heap H locs) (hl : lv_has ls 2 [(0, .ref (ca t)), (1, .ref (ca b1))]) : W p l e (rmL 1 0 0) s m args below meth c H locs 0 0 Q (F0 m 24 ls []) := by
  have hx := X.hx
  have hb := X.hb
  have hown := X.hown
  have hts := X.hts
  rw [fX4_copyFrom_24] at hf
  refine lv_aload_n hx hb dX4_copyFrom_24 rfl (lv_at hl 0 rfl) ?_
  refine lv_aload_n hx hb dX4_copyFrom_25 rfl (lv_at hl 1 rfl) ?_
  refine cr_get (k := 3) X hP hkb1 rfl cv19_3 rfl cinX4 (by decide) rfl tw262 dX4_copyFrom_26 ?_
  obtain ⟨g1, hf⟩ := gd hf
  refine cr_put (k := 3) X hP hS hkt rfl cs19_3 rfl cinX4 tyX4_ok nmX4 (by decide) rfl rfl (nz g1) (fz g1) tw262 dX4_copyFrom_29 (fun H locs hP hS => ?_)
  exact kX4_copyFrom_32 X hret hkt hkb1 hf hP hS (lv_sub hl [0, 1] rfl)
set_option maxRecDepth 10000 in
theorem kX4_copyFrom_16 {S1 : CS} {t : Nat} {b1 : Nat} {M : CS} {H : Heap} {locs : List Loc} {ls : Array Slot} (X : gX p s m args c cX4_copyFrom 2 RX4 (kR kTab kA)) (hret : gRetV p l e (rmL 1 0 0) s m args below meth c cX4_copyFrom (cΩ ca) (cP dC dI cg kA ca) Q S1) (hkt : kc t = 19) (hkb1 : kc b1 = 19) (hf : fX4_copyFrom_16 t b1 M = some S1) (hP : (cP dC dI cg kA ca) M s H) (hS : va_S (Fr (cΩ ca) s.heap.size) s.heap H locs) (hl : lv_has ls 2 [(0, .ref (ca t)), (1, .ref (ca b1))]) : W p l e (rmL 1 0 0) s m args below meth c H locs 0 0 Q (F0 m 16 ls []) := by
  have hx := X.hx
  have hb := X.hb
  have hown := X.hown
  have hts := X.hts
  rw [fX4_copyFrom_16] at hf
  refine lv_aload_n hx hb dX4_copyFrom_16 rfl (lv_at hl 0 rfl) ?_
  refine lv_aload_n hx hb dX4_copyFrom_17 rfl (lv_at hl 1 rfl) ?_
  refine cr_get (k := 2) X hP hkb1 rfl cv19_2 rfl cinX4 (by decide) rfl tw258 dX4_copyFrom_18 ?_
  refine cr_put (k := 2) X hP hS hkt rfl cs19_2 rfl cinX4 tyX4_ok nmX4 (by decide) rfl rfl rfl rfl tw258 dX4_copyFrom_21 (fun H locs hP hS => ?_)
  exact kX4_copyFrom_24 X hret hkt hkb1 hf hP hS (lv_sub hl [0, 1] rfl)
set_option maxRecDepth 10000 in
theorem kX4_copyFrom_8 {S1 : CS} {t : Nat} {b1 : Nat} {M : CS} {H : Heap} {locs : List Loc} {ls : Array Slot} (X : gX p s m args c cX4_copyFrom 2 RX4 (kR kTab kA)) (hret : gRetV p l e (rmL 1 0 0) s m args below meth c cX4_copyFrom (cΩ ca) (cP dC dI cg kA ca) Q S1) (hkt : kc t = 19) (hkb1 : kc b1 = 19) (hf : fX4_copyFrom_8 t b1 M = some S1) (hP : (cP dC dI cg kA ca) M s H) (hS : va_S (Fr (cΩ ca) s.heap.size) s.heap H locs) (hl : lv_has ls 2 [(0, .ref (ca t)), (1, .ref (ca b1))]) : W p l e (rmL 1 0 0) s m args below meth c H locs 0 0 Q (F0 m 8 ls []) := by
  have hx := X.hx
  have hb := X.hb
  have hown := X.hown
  have hts := X.hts
  rw [fX4_copyFrom_8] at hf
  refine lv_aload_n hx hb dX4_copyFrom_8 rfl (lv_at hl 0 rfl) ?_
  refine lv_aload_n hx hb dX4_copyFrom_9 rfl (lv_at hl 1 rfl) ?_
  refine cr_get (k := 1) X hP hkb1 rfl cv19_1 rfl cinX4 (by decide) rfl tw254 dX4_copyFrom_10 ?_
  refine cr_put (k := 1) X hP hS hkt rfl cs19_1 rfl cinX4 tyX4_ok nmX4 (by decide) rfl rfl rfl rfl tw254 dX4_copyFrom_13 (fun H locs hP hS => ?_)
  exact kX4_copyFrom_16 X hret hkt hkb1 hf hP hS (lv_sub hl [0, 1] rfl)
set_option maxRecDepth 10000 in
theorem kX4_copyFrom_0 {S1 : CS} {t : Nat} {b1 : Nat} {M : CS} {H : Heap} {locs : List Loc} {ls : Array Slot} (X : gX p s m args c cX4_copyFrom 2 RX4 (kR kTab kA)) (hret : gRetV p l e (rmL 1 0 0) s m args below meth c cX4_copyFrom (cΩ ca) (cP dC dI cg kA ca) Q S1) (hkt : kc t = 19) (hkb1 : kc b1 = 19) (hf : fX4_copyFrom_0 t b1 M = some S1) (hP : (cP dC dI cg kA ca) M s H) (hS : va_S (Fr (cΩ ca) s.heap.size) s.heap H locs) (hl : lv_has ls 2 [(0, .ref (ca t)), (1, .ref (ca b1))]) : W p l e (rmL 1 0 0) s m args below meth c H locs 0 0 Q (F0 m 0 ls []) := by
  have hx := X.hx
  have hb := X.hb
  have hown := X.hown
  have hts := X.hts
  rw [fX4_copyFrom_0] at hf
  refine lv_aload_n hx hb dX4_copyFrom_0 rfl (lv_at hl 0 rfl) ?_
  refine lv_aload_n hx hb dX4_copyFrom_1 rfl (lv_at hl 1 rfl) ?_
  refine cr_name X hP hkb1 rfl cv19_0 rfl cinX4 (by decide) rfl tw251 dX4_copyFrom_2 (fun n1 hn1 => ?_)
  refine cr_putN X hP hS hkt rfl cs19_0 rfl cinX4 tyX4_ok nmX4 (by decide) rfl rfl rfl rfl hn1 tw251 dX4_copyFrom_5 (fun H locs hP hS => ?_)
  exact kX4_copyFrom_8 X hret hkt hkb1 hf hP hS (lv_sub hl [0, 1] rfl)
theorem vX4_copyFrom {l : Launch} {dC : Nat → ClassId} {dI : Nat → Nat → Nat} {cg : Nat → ClassId} {kA : String → Nat → Nat} {ca : Nat → Nat} {M S1 : CS} {t : Nat} {b1 : Nat} (hkt : kc t = 19) (hkb1 : kc b1 = 19) (hf : fX4_copyFrom M t b1 = some S1) : gMetV l yX4_copyFrom cX4_copyFrom 2 1 (cΩ ca) (cP dC dI cg kA ca) (kR kTab kA) [.ref (ca t), .ref (ca b1)] M S1 := gEntryV (by decide) cOK (Nat.le_of_ble_eq_true rfl) (fun p e s m args below meth c Q ls X hP hS hret hl => 
  kX4_copyFrom_0 X hret hkt hkb1 hf hP hS (lv_sub hl [0, 1] rfl))
set_option maxRecDepth 10000 in
theorem kX7_copyFrom_16 {S1 : CS} {t : Nat} {b1 : Nat} {M : CS} {H : Heap} {locs : List Loc} {ls : Array Slot} (X : gX p s m args c cX7_copyFrom 2 RX7 (kR kTab kA)) (hret : gRetV p l e (rmL 1 0 0) s m args below meth c cX7_copyFrom (cΩ ca) (cP dC dI cg kA ca) Q S1) (hkt : kc t = 20) (hkb1 : kc b1 = 20) (hf : fX7_copyFrom_16 t b1 M = some S1) (hP : (cP dC dI cg kA ca) M s H) (hS : va_S (Fr (cΩ ca) s.heap.size) s.heap H locs) (hl : lv_has ls 2 [(0, .ref (ca t))]) : W p l e (rmL 1 0 0) s m args below meth c H locs 0 0 Q (F0 m 16 ls []) := by
  have hx := X.hx
  have hb := X.hb
  have hown := X.hown
  have hts := X.hts
  rw [fX7_copyFrom_16] at hf
  cases hf
  exact hret _ _ _ _ dX7_copyFrom_16 hP hS
set_option maxRecDepth 10000 in
theorem kX7_copyFrom_8 {S1 : CS} {t : Nat} {b1 : Nat} {M : CS} {H : Heap} {locs : List Loc} {ls : Array Slot} (X : gX p s m args c cX7_copyFrom 2 RX7 (kR kTab kA)) (hret : gRetV p l e (rmL 1 0 0) s m args below meth c cX7_copyFrom (cΩ ca) (cP dC dI cg kA ca) Q S1) (hkt : kc t = 20) (hkb1 : kc b1 = 20) (hf : fX7_copyFrom_8 t b1 M = some S1) (hP : (cP dC dI cg kA ca) M s H) (hS : va_S (Fr (cΩ ca) s.heap.size) s.heap H locs) (hl : lv_has ls 2 [(0, .ref (ca t)), (1, .ref (ca b1))]) : W p l e (rmL 1 0 0) s m args below meth c H locs 0 0 Q (F0 m 8 ls []) := by
  have hx := X.hx
  have hb := X.hb
  have hown := X.hown
  have hts := X.hts
  rw [fX7_copyFrom_8] at hf
  refine lv_aload_n hx hb dX7_copyFrom_8 rfl (lv_at hl 0 rfl) ?_
  refine lv_aload_n hx hb dX7_copyFrom_9 rfl (lv_at hl 1 rfl) ?_
  refine cr_get (k := 1) X hP hkb1 rfl cv20_1 rfl cinX7 (by decide) rfl tw289 dX7_copyFrom_10 ?_
  refine cr_put (k := 1) X hP hS hkt rfl cs20_1 rfl cinX7 tyX7_ok nmX7 (by decide) rfl rfl rfl rfl tw289 dX7_copyFrom_13 (fun H locs hP hS => ?_)
  exact kX7_copyFrom_16 X hret hkt hkb1 hf hP hS (lv_sub hl [0] rfl)
set_option maxRecDepth 10000 in
theorem kX7_copyFrom_0 {S1 : CS} {t : Nat} {b1 : Nat} {M : CS} {H : Heap} {locs : List Loc} {ls : Array Slot} (X : gX p s m args c cX7_copyFrom 2 RX7 (kR kTab kA)) (hret : gRetV p l e (rmL 1 0 0) s m args below meth c cX7_copyFrom (cΩ ca) (cP dC dI cg kA ca) Q S1) (hkt : kc t = 20) (hkb1 : kc b1 = 20) (hf : fX7_copyFrom_0 t b1 M = some S1) (hP : (cP dC dI cg kA ca) M s H) (hS : va_S (Fr (cΩ ca) s.heap.size) s.heap H locs) (hl : lv_has ls 2 [(0, .ref (ca t)), (1, .ref (ca b1))]) : W p l e (rmL 1 0 0) s m args below meth c H locs 0 0 Q (F0 m 0 ls []) := by
  have hx := X.hx
  have hb := X.hb
  have hown := X.hown
  have hts := X.hts
  rw [fX7_copyFrom_0] at hf
  refine lv_aload_n hx hb dX7_copyFrom_0 rfl (lv_at hl 0 rfl) ?_
  refine lv_aload_n hx hb dX7_copyFrom_1 rfl (lv_at hl 1 rfl) ?_
  refine cr_get (k := 0) X hP hkb1 rfl cv20_0 rfl cinX7 (by decide) rfl tw286 dX7_copyFrom_2 ?_
  refine cr_put (k := 0) X hP hS hkt rfl cs20_0 rfl cinX7 tyX7_ok nmX7 (by decide) rfl rfl rfl rfl tw286 dX7_copyFrom_5 (fun H locs hP hS => ?_)
  exact kX7_copyFrom_8 X hret hkt hkb1 hf hP hS (lv_sub hl [0, 1] rfl)
theorem vX7_copyFrom {l : Launch} {dC : Nat → ClassId} {dI : Nat → Nat → Nat} {cg : Nat → ClassId} {kA : String → Nat → Nat} {ca : Nat → Nat} {M S1 : CS} {t : Nat} {b1 : Nat} (hkt : kc t = 20) (hkb1 : kc b1 = 20) (hf : fX7_copyFrom M t b1 = some S1) : gMetV l yX7_copyFrom cX7_copyFrom 2 1 (cΩ ca) (cP dC dI cg kA ca) (kR kTab kA) [.ref (ca t), .ref (ca b1)] M S1 := gEntryV (by decide) cOK (Nat.le_of_ble_eq_true rfl) (fun p e s m args below meth c Q ls X hP hS hret hl => 
  kX7_copyFrom_0 X hret hkt hkb1 hf hP hS (lv_sub hl [0, 1] rfl))
set_option maxRecDepth 10000 in
theorem kX8_append_33 {S1 : CS} {M : CS} {H : Heap} {locs : List Loc} {ls : Array Slot} (X : gX p s m args c cX8_append 2 RX8 (kR kTab kA)) (hret : gRetV p l e (rmL 1 0 0) s m args below meth c cX8_append (cΩ ca) (cP dC dI cg kA ca) Q S1) (hf : fX8_append_33 M = some S1) (hP : (cP dC dI cg kA ca) M s H) (hS : va_S (Fr (cΩ ca) s.heap.size) s.heap H locs) (hl : lv_has ls 2 [(0, .ref (ca 1))]) : W p l e (rmL 1 0 0) s m args below meth c H locs 0 0 Q (F0 m 33 ls []) := by
  have hx := X.hx
  have hb := X.hb
  have hown := X.hown
  have hts := X.hts
  rw [fX8_append_33] at hf
  cases hf
  exact hret _ _ _ _ dX8_append_33 hP hS
set_option maxRecDepth 10000 in
theorem kX8_append_23 {S1 : CS} {M : CS} {H : Heap} {locs : List Loc} {ls : Array Slot} (X : gX p s m args c cX8_append 2 RX8 (kR kTab kA)) (hret : gRetV p l e (rmL 1 0 0) s m args below meth c cX8_append (cΩ ca) (cP dC dI cg kA ca) Q S1) (hf : fX8_append_23 M = some S1) (hP : (cP dC dI cg kA ca) M s H) (hS : va_S (Fr (cΩ ca) s.heap.size) s.heap H locs) (hl : lv_has ls 2 [(0, .ref (ca 1))]) : W p l e (rmL 1 0 0) s m args below meth c H locs 0 0 Q (F0 m 23 ls []) := by
  have hx := X.hx
  have hb := X.hb
  have hown := X.hown
  have hts := X.hts
  rw [fX8_append_23] at hf
  refine lv_aload_n hx hb dX8_append_23 rfl (lv_at hl 0 rfl) ?_
  refine lv_dup hx hb dX8_append_24 rfl ?_
  refine cr_get (k := 2) X hP (rfl : kc 1 = 1) rfl cv1_2 rfl cinX8 (by decide) rfl tw90 dX8_append_25 ?_
  refine lv_iconst (v := 1) hx hb dX8_append_28 (by decide) ?_
  refine lv_iadd hx hb dX8_append_29 ?_
  refine cr_put (k := 2) X hP hS (rfl : kc 1 = 1) rfl cs1_2 rfl cinX8 tyX8_ok nmX8 (by decide) rfl rfl rfl rfl tw90 dX8_append_30 (fun H locs hP hS => ?_)
  exact kX8_append_33 X hret hf hP hS (lv_sub hl [0] rfl)
set_option maxRecDepth 10000 in
theorem kX8_append_12 {S1 : CS} {M : CS} {x1 : Int32} {H : Heap} {locs : List Loc} {ls : Array Slot} (X : gX p s m args c cX8_append 2 RX8 (kR kTab kA)) (hret : gRetV p l e (rmL 1 0 0) s m args below meth c cX8_append (cΩ ca) (cP dC dI cg kA ca) Q S1) (hf : fX8_append_12 M x1 = some S1) (hP : (cP dC dI cg kA ca) M s H) (hS : va_S (Fr (cΩ ca) s.heap.size) s.heap H locs) (hl : lv_has ls 2 [(0, .ref (ca 1)), (1, .int x1)]) : W p l e (rmL 1 0 0) s m args below meth c H locs 0 0 Q (F0 m 12 ls []) := by
  have hx := X.hx
  have hb := X.hb
  have hown := X.hown
  have hts := X.hts
  rw [fX8_append_12] at hf
  refine lv_aload_n hx hb dX8_append_12 rfl (lv_at hl 0 rfl) ?_
  refine cr_get (k := 0) X hP (rfl : kc 1 = 1) rfl cv1_0 rfl cinX8 (by decide) rfl tw86 dX8_append_13 ?_
  refine lv_aload_n hx hb dX8_append_16 rfl (lv_at hl 0 rfl) ?_
  refine cr_get (k := 2) X hP (rfl : kc 1 = 1) rfl cv1_2 rfl cinX8 (by decide) rfl tw90 dX8_append_17 ?_
  refine lv_iload_n hx hb dX8_append_20 rfl (lv_at hl 1 rfl) ?_
  refine lv_i2b hx hb dX8_append_21 rfl ?_
  obtain ⟨g1, hf⟩ := gd hf
  refine cr_bast X hP hS (rfl : kc 2 = 2) rfl (fun _ _ => rfl) g1 dX8_append_22 (fun H locs hP hS => ?_)
  exact kX8_append_23 X hret hf hP hS (lv_sub hl [0] rfl)
set_option maxRecDepth 10000 in
theorem kX8_append_0 {S1 : CS} {M : CS} {a1 : Int32} {H : Heap} {locs : List Loc} {ls : Array Slot} (X : gX p s m args c cX8_append 2 RX8 (kR kTab kA)) (hret : gRetV p l e (rmL 1 0 0) s m args below meth c cX8_append (cΩ ca) (cP dC dI cg kA ca) Q S1) (hf : fX8_append_0 M a1 = some S1) (hP : (cP dC dI cg kA ca) M s H) (hS : va_S (Fr (cΩ ca) s.heap.size) s.heap H locs) (hl : lv_has ls 2 [(0, .ref (ca 1)), (1, .int a1)]) : W p l e (rmL 1 0 0) s m args below meth c H locs 0 0 Q (F0 m 0 ls []) := by
  have hx := X.hx
  have hb := X.hb
  have hown := X.hown
  have hts := X.hts
  rw [fX8_append_0] at hf
  refine lv_aload_n hx hb dX8_append_0 rfl (lv_at hl 0 rfl) ?_
  refine cr_get (k := 2) X hP (rfl : kc 1 = 1) rfl cv1_2 rfl cinX8 (by decide) rfl tw90 dX8_append_1 ?_
  refine lv_aload_n hx hb dX8_append_4 rfl (lv_at hl 0 rfl) ?_
  refine cr_get (k := 0) X hP (rfl : kc 1 = 1) rfl cv1_0 rfl cinX8 (by decide) rfl tw86 dX8_append_5 ?_
  refine cr_alen (v := 600) X hP (rfl : kc 2 = 2) rfl (fun _ => rfl) rfl rfl dX8_append_8 ?_
  refine lv_icmp_ge (tgt := 33) hx hb dX8_append_9 (by decide) (fun c1 => ?_) (fun c1 => ?_)
  · exact kX8_append_33 X hret (ifp c1 hf) hP hS (lv_sub hl [0] rfl)
  · exact kX8_append_12 X hret (ifn c1 hf) hP hS (lv_sub hl [0, 1] rfl)
theorem vX8_append {l : Launch} {dC : Nat → ClassId} {dI : Nat → Nat → Nat} {cg : Nat → ClassId} {kA : String → Nat → Nat} {ca : Nat → Nat} {M S1 : CS} {a1 : Int32} (hf : fX8_append M a1 = some S1) : gMetV l yX8_append cX8_append 2 1 (cΩ ca) (cP dC dI cg kA ca) (kR kTab kA) [.ref (ca 1), .int a1] M S1 := gEntryV (by decide) cOK (Nat.le_of_ble_eq_true rfl) (fun p e s m args below meth c Q ls X hP hS hret hl => 
  kX8_append_0 X hret hf hP hS (lv_sub hl [0, 1] rfl))
set_option maxRecDepth 10000 in
theorem kX8_begin_15 {S1 : CS} {M : CS} {H : Heap} {locs : List Loc} {ls : Array Slot} (X : gX p s m args c cX8_begin 1 RX8 (kR kTab kA)) (hret : gRetV p l e (rmL 1 0 0) s m args below meth c cX8_begin (cΩ ca) (cP dC dI cg kA ca) Q S1) (hf : fX8_begin_15 M = some S1) (hP : (cP dC dI cg kA ca) M s H) (hS : va_S (Fr (cΩ ca) s.heap.size) s.heap H locs) (hl : lv_has ls 1 [(0, .ref (ca 1))]) : W p l e (rmL 1 0 0) s m args below meth c H locs 0 0 Q (F0 m 15 ls []) := by
  have hx := X.hx
  have hb := X.hb
  have hown := X.hown
  have hts := X.hts
  rw [fX8_begin_15] at hf
  cases hf
  exact hret _ _ _ _ dX8_begin_15 hP hS
set_option maxRecDepth 10000 in
theorem kX8_begin_10 {S1 : CS} {M : CS} {H : Heap} {locs : List Loc} {ls : Array Slot} (X : gX p s m args c cX8_begin 1 RX8 (kR kTab kA)) (hret : gRetV p l e (rmL 1 0 0) s m args below meth c cX8_begin (cΩ ca) (cP dC dI cg kA ca) Q S1) (hf : fX8_begin_10 M = some S1) (hP : (cP dC dI cg kA ca) M s H) (hS : va_S (Fr (cΩ ca) s.heap.size) s.heap H locs) (hl : lv_has ls 1 [(0, .ref (ca 1))]) : W p l e (rmL 1 0 0) s m args below meth c H locs 0 0 Q (F0 m 10 ls []) := by
  have hx := X.hx
  have hb := X.hb
  have hown := X.hown
  have hts := X.hts
  rw [fX8_begin_10] at hf
  refine lv_aload_n hx hb dX8_begin_10 rfl (lv_at hl 0 rfl) ?_
  refine lv_iconst (v := (-1)) hx hb dX8_begin_11 (by decide) ?_
  refine cr_put (k := 8) X hP hS (rfl : kc 1 = 1) rfl cs1_8 rfl cinX8 tyX8_ok nmX8 (by decide) rfl rfl rfl rfl tw97 dX8_begin_12 (fun H locs hP hS => ?_)
  exact kX8_begin_15 X hret hf hP hS (lv_sub hl [0] rfl)
set_option maxRecDepth 10000 in
theorem kX8_begin_5 {S1 : CS} {M : CS} {H : Heap} {locs : List Loc} {ls : Array Slot} (X : gX p s m args c cX8_begin 1 RX8 (kR kTab kA)) (hret : gRetV p l e (rmL 1 0 0) s m args below meth c cX8_begin (cΩ ca) (cP dC dI cg kA ca) Q S1) (hf : fX8_begin_5 M = some S1) (hP : (cP dC dI cg kA ca) M s H) (hS : va_S (Fr (cΩ ca) s.heap.size) s.heap H locs) (hl : lv_has ls 1 [(0, .ref (ca 1))]) : W p l e (rmL 1 0 0) s m args below meth c H locs 0 0 Q (F0 m 5 ls []) := by
  have hx := X.hx
  have hb := X.hb
  have hown := X.hown
  have hts := X.hts
  rw [fX8_begin_5] at hf
  refine lv_aload_n hx hb dX8_begin_5 rfl (lv_at hl 0 rfl) ?_
  refine lv_iconst (v := 0) hx hb dX8_begin_6 (by decide) ?_
  refine cr_put (k := 7) X hP hS (rfl : kc 1 = 1) rfl cs1_7 rfl cinX8 tyX8_ok nmX8 (by decide) rfl rfl rfl rfl tw96 dX8_begin_7 (fun H locs hP hS => ?_)
  exact kX8_begin_10 X hret hf hP hS (lv_sub hl [0] rfl)
set_option maxRecDepth 10000 in
theorem kX8_begin_0 {S1 : CS} {M : CS} {H : Heap} {locs : List Loc} {ls : Array Slot} (X : gX p s m args c cX8_begin 1 RX8 (kR kTab kA)) (hret : gRetV p l e (rmL 1 0 0) s m args below meth c cX8_begin (cΩ ca) (cP dC dI cg kA ca) Q S1) (hf : fX8_begin_0 M = some S1) (hP : (cP dC dI cg kA ca) M s H) (hS : va_S (Fr (cΩ ca) s.heap.size) s.heap H locs) (hl : lv_has ls 1 [(0, .ref (ca 1))]) : W p l e (rmL 1 0 0) s m args below meth c H locs 0 0 Q (F0 m 0 ls []) := by
  have hx := X.hx
  have hb := X.hb
  have hown := X.hown
  have hts := X.hts
  rw [fX8_begin_0] at hf
  refine lv_aload_n hx hb dX8_begin_0 rfl (lv_at hl 0 rfl) ?_
  refine lv_iconst (v := 0) hx hb dX8_begin_1 (by decide) ?_
  refine cr_put (k := 3) X hP hS (rfl : kc 1 = 1) rfl cs1_3 rfl cinX8 tyX8_ok nmX8 (by decide) rfl rfl rfl rfl tw91 dX8_begin_2 (fun H locs hP hS => ?_)
  exact kX8_begin_5 X hret hf hP hS (lv_sub hl [0] rfl)
theorem vX8_begin {l : Launch} {dC : Nat → ClassId} {dI : Nat → Nat → Nat} {cg : Nat → ClassId} {kA : String → Nat → Nat} {ca : Nat → Nat} {M S1 : CS} (hf : fX8_begin M  = some S1) : gMetV l yX8_begin cX8_begin 1 1 (cΩ ca) (cP dC dI cg kA ca) (kR kTab kA) [.ref (ca 1)] M S1 := gEntryV (by decide) cOK (Nat.le_of_ble_eq_true rfl) (fun p e s m args below meth c Q ls X hP hS hret hl => 
  kX8_begin_0 X hret hf hP hS (lv_sub hl [0] rfl))
set_option maxRecDepth 10000 in
theorem kX8_fail_13 {r : Int32} {S1 : CS} {M : CS} {H : Heap} {locs : List Loc} {ls : Array Slot} (X : gX p s m args c cX8_fail 2 RX8 (kR kTab kA)) (hret : gRetI p l e (rmL 1 0 0) s m args below meth c cX8_fail (cΩ ca) (cP dC dI cg kA ca) Q r S1) (hf : fX8_fail_13 M = some (r, S1)) (hP : (cP dC dI cg kA ca) M s H) (hS : va_S (Fr (cΩ ca) s.heap.size) s.heap H locs) (hl : lv_has ls 2 [(0, .ref (ca 1))]) : W p l e (rmL 1 0 0) s m args below meth c H locs 0 0 Q (F0 m 13 ls []) := by
  have hx := X.hx
  have hb := X.hb
  have hown := X.hown
  have hts := X.hts
  rw [fX8_fail_13] at hf
  refine lv_iconst (v := 0) hx hb dX8_fail_13 (by decide) ?_
  cases hf
  exact hret _ _ _ _ dX8_fail_14 hP hS
set_option maxRecDepth 10000 in
theorem kX8_fail_5 {r : Int32} {S1 : CS} {M : CS} {H : Heap} {locs : List Loc} {ls : Array Slot} (X : gX p s m args c cX8_fail 2 RX8 (kR kTab kA)) (hret : gRetI p l e (rmL 1 0 0) s m args below meth c cX8_fail (cΩ ca) (cP dC dI cg kA ca) Q r S1) (hf : fX8_fail_5 M = some (r, S1)) (hP : (cP dC dI cg kA ca) M s H) (hS : va_S (Fr (cΩ ca) s.heap.size) s.heap H locs) (hl : lv_has ls 2 [(0, .ref (ca 1))]) : W p l e (rmL 1 0 0) s m args below meth c H locs 0 0 Q (F0 m 5 ls []) := by
  have hx := X.hx
  have hb := X.hb
  have hown := X.hown
  have hts := X.hts
  rw [fX8_fail_5] at hf
  refine lv_aload_n hx hb dX8_fail_5 rfl (lv_at hl 0 rfl) ?_
  refine lv_aload_n hx hb dX8_fail_6 rfl (lv_at hl 0 rfl) ?_
  refine cr_get (k := 5) X hP (rfl : kc 1 = 1) rfl cv1_5 rfl cinX8 (by decide) rfl tw93 dX8_fail_7 ?_
  refine cr_put (k := 8) X hP hS (rfl : kc 1 = 1) rfl cs1_8 rfl cinX8 tyX8_ok nmX8 (by decide) rfl rfl rfl rfl tw97 dX8_fail_10 (fun H locs hP hS => ?_)
  exact kX8_fail_13 X hret hf hP hS (lv_sub hl [0] rfl)
set_option maxRecDepth 10000 in
theorem kX8_fail_0 {r : Int32} {S1 : CS} {M : CS} {a1 : Int32} {H : Heap} {locs : List Loc} {ls : Array Slot} (X : gX p s m args c cX8_fail 2 RX8 (kR kTab kA)) (hret : gRetI p l e (rmL 1 0 0) s m args below meth c cX8_fail (cΩ ca) (cP dC dI cg kA ca) Q r S1) (hf : fX8_fail_0 M a1 = some (r, S1)) (hP : (cP dC dI cg kA ca) M s H) (hS : va_S (Fr (cΩ ca) s.heap.size) s.heap H locs) (hl : lv_has ls 2 [(0, .ref (ca 1)), (1, .int a1)]) : W p l e (rmL 1 0 0) s m args below meth c H locs 0 0 Q (F0 m 0 ls []) := by
  have hx := X.hx
  have hb := X.hb
  have hown := X.hown
  have hts := X.hts
  rw [fX8_fail_0] at hf
  refine lv_aload_n hx hb dX8_fail_0 rfl (lv_at hl 0 rfl) ?_
  refine lv_iload_n hx hb dX8_fail_1 rfl (lv_at hl 1 rfl) ?_
  refine cr_put (k := 7) X hP hS (rfl : kc 1 = 1) rfl cs1_7 rfl cinX8 tyX8_ok nmX8 (by decide) rfl rfl rfl rfl tw96 dX8_fail_2 (fun H locs hP hS => ?_)
  exact kX8_fail_5 X hret hf hP hS (lv_sub hl [0] rfl)
theorem vX8_fail {l : Launch} {dC : Nat → ClassId} {dI : Nat → Nat → Nat} {cg : Nat → ClassId} {kA : String → Nat → Nat} {ca : Nat → Nat} {M S1 : CS} {r : Int32} {a1 : Int32} (hf : fX8_fail M a1 = some (r, S1)) : gMetI l yX8_fail cX8_fail 2 (some .boolean) 1 (cΩ ca) (cP dC dI cg kA ca) (kR kTab kA) [.ref (ca 1), .int a1] M r S1 := gEntryI (ty := .boolean) (by decide) rfl (bz_n hf) cOK (Nat.le_of_ble_eq_true rfl) (fun p e s m args below meth c Q ls X hP hS hret hl => 
  kX8_fail_0 X hret (bz_f hf) hP hS (lv_sub hl [0, 1] rfl))
set_option maxRecDepth 10000 in
theorem kX8_tokenLength_0 {r : Int32} {M : CS} (X : gX p s m args c cX8_tokenLength 1 RX8 (kR kTab kA)) (hret : gRetR p l e (rmL 1 0 0) s m args below meth c cX8_tokenLength Q r) (hf : fX8_tokenLength_0 M = some r) {ls : Array Slot} (hP : (cP dC dI cg kA ca) M s s.heap) (hl : lv_has ls 1 [(0, .ref (ca 1))]) : W p l e (rmL 1 0 0) s m args below meth c s.heap [] 0 0 Q (F0 m 0 ls []) := by
  have hx := X.hx
  have hb := X.hb
  have hown := X.hown
  have hts := X.hts
  rw [fX8_tokenLength_0] at hf
  refine lv_aload_n hx hb dX8_tokenLength_0 rfl (lv_at hl 0 rfl) ?_
  refine cr_get (k := 3) X hP (rfl : kc 1 = 1) rfl cv1_3 rfl cinX8 (by decide) rfl tw91 dX8_tokenLength_1 ?_
  refine lv_aload_n hx hb dX8_tokenLength_4 rfl (lv_at hl 0 rfl) ?_
  refine cr_get (k := 5) X hP (rfl : kc 1 = 1) rfl cv1_5 rfl cinX8 (by decide) rfl tw93 dX8_tokenLength_5 ?_
  refine lv_isub hx hb dX8_tokenLength_8 ?_
  cases hf
  exact hret _ _ dX8_tokenLength_9
theorem vX8_tokenLength {l : Launch} {dC : Nat → ClassId} {dI : Nat → Nat → Nat} {cg : Nat → ClassId} {kA : String → Nat → Nat} {ca : Nat → Nat} {M : CS} {r : Int32} (hf : fX8_tokenLength M  = some r) : gMetR l yX8_tokenLength cX8_tokenLength 1 (some .int) 1 (gB (cP dC dI cg kA ca) (kR kTab kA) M) [.ref (ca 1)] r := gEntryR (ty := .int) (by decide) rfl rfl (Nat.le_of_ble_eq_true rfl) (fun _ h => h.2) (fun p e s m args below meth c Q ls X hB hret hl => 
  kX8_tokenLength_0 X hret hf hB.1 (lv_sub hl [0] rfl))
set_option maxRecDepth 10000 in
theorem kX8_kindOf_53 {r : Int32} {M : CS} {s0 : Int32} (X : gX p s m args c cX8_kindOf 1 RX8 (kR kTab kA)) (hret : gRetR p l e (rmL 1 0 0) s m args below meth c cX8_kindOf Q r) (hf : fX8_kindOf_53 M s0 = some r) {ls : Array Slot} (hP : (cP dC dI cg kA ca) M s s.heap) (hl : lv_has ls 1 []) : W p l e (rmL 1 0 0) s m args below meth c s.heap [] 0 0 Q (F0 m 53 ls [.int s0]) := by
  have hx := X.hx
  have hb := X.hb
  have hown := X.hown
  have hts := X.hts
  rw [fX8_kindOf_53] at hf
  cases hf
  exact hret _ _ dX8_kindOf_53
set_option maxRecDepth 10000 in
theorem kX8_kindOf_48 {r : Int32} {M : CS} (X : gX p s m args c cX8_kindOf 1 RX8 (kR kTab kA)) (hret : gRetR p l e (rmL 1 0 0) s m args below meth c cX8_kindOf Q r) (hf : fX8_kindOf_48 M = some r) {ls : Array Slot} (hP : (cP dC dI cg kA ca) M s s.heap) (hl : lv_has ls 1 []) : W p l e (rmL 1 0 0) s m args below meth c s.heap [] 0 0 Q (F0 m 48 ls []) := by
  have hx := X.hx
  have hb := X.hb
  have hown := X.hown
  have hts := X.hts
  rw [fX8_kindOf_48] at hf
  refine lv_iconst (v := 4) hx hb dX8_kindOf_48 (by decide) ?_
  refine lv_goto (tgt := 53) hx hb dX8_kindOf_49 (by decide) ?_
  exact kX8_kindOf_53 X hret hf hP (lv_sub hl [] rfl)
set_option maxRecDepth 10000 in
theorem kX8_kindOf_52 {r : Int32} {M : CS} (X : gX p s m args c cX8_kindOf 1 RX8 (kR kTab kA)) (hret : gRetR p l e (rmL 1 0 0) s m args below meth c cX8_kindOf Q r) (hf : fX8_kindOf_52 M = some r) {ls : Array Slot} (hP : (cP dC dI cg kA ca) M s s.heap) (hl : lv_has ls 1 []) : W p l e (rmL 1 0 0) s m args below meth c s.heap [] 0 0 Q (F0 m 52 ls []) := by
  have hx := X.hx
  have hb := X.hb
  have hown := X.hown
  have hts := X.hts
  rw [fX8_kindOf_52] at hf
  refine lv_iconst (v := 5) hx hb dX8_kindOf_52 (by decide) ?_
  exact kX8_kindOf_53 X hret hf hP (lv_sub hl [] rfl)
set_option maxRecDepth 10000 in
theorem kX8_kindOf_42 {r : Int32} {M : CS} {x0 : Int32} (X : gX p s m args c cX8_kindOf 1 RX8 (kR kTab kA)) (hret : gRetR p l e (rmL 1 0 0) s m args below meth c cX8_kindOf Q r) (hf : fX8_kindOf_42 M x0 = some r) {ls : Array Slot} (hP : (cP dC dI cg kA ca) M s s.heap) (hl : lv_has ls 1 [(0, .int x0)]) : W p l e (rmL 1 0 0) s m args below meth c s.heap [] 0 0 Q (F0 m 42 ls []) := by
  have hx := X.hx
  have hb := X.hb
  have hown := X.hown
  have hts := X.hts
  rw [fX8_kindOf_42] at hf
  refine lv_iload_n hx hb dX8_kindOf_42 rfl (lv_at hl 0 rfl) ?_
  refine lv_bipush (v := 10) hx hb dX8_kindOf_43 (by decide) ?_
  refine lv_icmp_ne (tgt := 52) hx hb dX8_kindOf_45 (by decide) (fun c1 => ?_) (fun c1 => ?_)
  · exact kX8_kindOf_52 X hret (ifn c1 hf) hP (lv_sub hl [] rfl)
  · exact kX8_kindOf_48 X hret (ifp c1 hf) hP (lv_sub hl [] rfl)
set_option maxRecDepth 10000 in
theorem kX8_kindOf_36 {r : Int32} {M : CS} {x0 : Int32} (X : gX p s m args c cX8_kindOf 1 RX8 (kR kTab kA)) (hret : gRetR p l e (rmL 1 0 0) s m args below meth c cX8_kindOf Q r) (hf : fX8_kindOf_36 M x0 = some r) {ls : Array Slot} (hP : (cP dC dI cg kA ca) M s s.heap) (hl : lv_has ls 1 [(0, .int x0)]) : W p l e (rmL 1 0 0) s m args below meth c s.heap [] 0 0 Q (F0 m 36 ls []) := by
  have hx := X.hx
  have hb := X.hb
  have hown := X.hown
  have hts := X.hts
  rw [fX8_kindOf_36] at hf
  refine lv_iload_n hx hb dX8_kindOf_36 rfl (lv_at hl 0 rfl) ?_
  refine lv_bipush (v := 32) hx hb dX8_kindOf_37 (by decide) ?_
  refine lv_icmp_eq (tgt := 48) hx hb dX8_kindOf_39 (by decide) (fun c1 => ?_) (fun c1 => ?_)
  · exact kX8_kindOf_48 X hret (ifp c1 hf) hP (lv_sub hl [] rfl)
  · exact kX8_kindOf_42 X hret (ifn c1 hf) hP (lv_sub hl [0] rfl)
set_option maxRecDepth 10000 in
theorem kX8_kindOf_34 {r : Int32} {M : CS} (X : gX p s m args c cX8_kindOf 1 RX8 (kR kTab kA)) (hret : gRetR p l e (rmL 1 0 0) s m args below meth c cX8_kindOf Q r) (hf : fX8_kindOf_34 M = some r) {ls : Array Slot} (hP : (cP dC dI cg kA ca) M s s.heap) (hl : lv_has ls 1 []) : W p l e (rmL 1 0 0) s m args below meth c s.heap [] 0 0 Q (F0 m 34 ls []) := by
  have hx := X.hx
  have hb := X.hb
  have hown := X.hown
  have hts := X.hts
  rw [fX8_kindOf_34] at hf
  refine lv_iconst (v := 3) hx hb dX8_kindOf_34 (by decide) ?_
  cases hf
  exact hret _ _ dX8_kindOf_35
set_option maxRecDepth 10000 in
theorem kX8_kindOf_28 {r : Int32} {M : CS} {x0 : Int32} (X : gX p s m args c cX8_kindOf 1 RX8 (kR kTab kA)) (hret : gRetR p l e (rmL 1 0 0) s m args below meth c cX8_kindOf Q r) (hf : fX8_kindOf_28 M x0 = some r) {ls : Array Slot} (hP : (cP dC dI cg kA ca) M s s.heap) (hl : lv_has ls 1 [(0, .int x0)]) : W p l e (rmL 1 0 0) s m args below meth c s.heap [] 0 0 Q (F0 m 28 ls []) := by
  have hx := X.hx
  have hb := X.hb
  have hown := X.hown
  have hts := X.hts
  rw [fX8_kindOf_28] at hf
  refine lv_iload_n hx hb dX8_kindOf_28 rfl (lv_at hl 0 rfl) ?_
  refine lv_bipush (v := 59) hx hb dX8_kindOf_29 (by decide) ?_
  refine lv_icmp_ne (tgt := 36) hx hb dX8_kindOf_31 (by decide) (fun c1 => ?_) (fun c1 => ?_)
  · exact kX8_kindOf_36 X hret (ifn c1 hf) hP (lv_sub hl [0] rfl)
  · exact kX8_kindOf_34 X hret (ifp c1 hf) hP (lv_sub hl [] rfl)
set_option maxRecDepth 10000 in
theorem kX8_kindOf_26 {r : Int32} {M : CS} (X : gX p s m args c cX8_kindOf 1 RX8 (kR kTab kA)) (hret : gRetR p l e (rmL 1 0 0) s m args below meth c cX8_kindOf Q r) (hf : fX8_kindOf_26 M = some r) {ls : Array Slot} (hP : (cP dC dI cg kA ca) M s s.heap) (hl : lv_has ls 1 []) : W p l e (rmL 1 0 0) s m args below meth c s.heap [] 0 0 Q (F0 m 26 ls []) := by
  have hx := X.hx
  have hb := X.hb
  have hown := X.hown
  have hts := X.hts
  rw [fX8_kindOf_26] at hf
  refine lv_iconst (v := 2) hx hb dX8_kindOf_26 (by decide) ?_
  cases hf
  exact hret _ _ dX8_kindOf_27
set_option maxRecDepth 10000 in
theorem kX8_kindOf_20 {r : Int32} {M : CS} {x0 : Int32} (X : gX p s m args c cX8_kindOf 1 RX8 (kR kTab kA)) (hret : gRetR p l e (rmL 1 0 0) s m args below meth c cX8_kindOf Q r) (hf : fX8_kindOf_20 M x0 = some r) {ls : Array Slot} (hP : (cP dC dI cg kA ca) M s s.heap) (hl : lv_has ls 1 [(0, .int x0)]) : W p l e (rmL 1 0 0) s m args below meth c s.heap [] 0 0 Q (F0 m 20 ls []) := by
  have hx := X.hx
  have hb := X.hb
  have hown := X.hown
  have hts := X.hts
  rw [fX8_kindOf_20] at hf
  refine lv_iload_n hx hb dX8_kindOf_20 rfl (lv_at hl 0 rfl) ?_
  refine lv_bipush (v := 57) hx hb dX8_kindOf_21 (by decide) ?_
  refine lv_icmp_gt (tgt := 28) hx hb dX8_kindOf_23 (by decide) (fun c1 => ?_) (fun c1 => ?_)
  · exact kX8_kindOf_28 X hret (ifp c1 hf) hP (lv_sub hl [0] rfl)
  · exact kX8_kindOf_26 X hret (ifn c1 hf) hP (lv_sub hl [] rfl)
set_option maxRecDepth 10000 in
theorem kX8_kindOf_14 {r : Int32} {M : CS} {x0 : Int32} (X : gX p s m args c cX8_kindOf 1 RX8 (kR kTab kA)) (hret : gRetR p l e (rmL 1 0 0) s m args below meth c cX8_kindOf Q r) (hf : fX8_kindOf_14 M x0 = some r) {ls : Array Slot} (hP : (cP dC dI cg kA ca) M s s.heap) (hl : lv_has ls 1 [(0, .int x0)]) : W p l e (rmL 1 0 0) s m args below meth c s.heap [] 0 0 Q (F0 m 14 ls []) := by
  have hx := X.hx
  have hb := X.hb
  have hown := X.hown
  have hts := X.hts
  rw [fX8_kindOf_14] at hf
  refine lv_iload_n hx hb dX8_kindOf_14 rfl (lv_at hl 0 rfl) ?_
  refine lv_bipush (v := 48) hx hb dX8_kindOf_15 (by decide) ?_
  refine lv_icmp_lt (tgt := 28) hx hb dX8_kindOf_17 (by decide) (fun c1 => ?_) (fun c1 => ?_)
  · exact kX8_kindOf_28 X hret (ifp c1 hf) hP (lv_sub hl [0] rfl)
  · exact kX8_kindOf_20 X hret (ifn c1 hf) hP (lv_sub hl [0] rfl)
set_option maxRecDepth 10000 in
theorem kX8_kindOf_12 {r : Int32} {M : CS} (X : gX p s m args c cX8_kindOf 1 RX8 (kR kTab kA)) (hret : gRetR p l e (rmL 1 0 0) s m args below meth c cX8_kindOf Q r) (hf : fX8_kindOf_12 M = some r) {ls : Array Slot} (hP : (cP dC dI cg kA ca) M s s.heap) (hl : lv_has ls 1 []) : W p l e (rmL 1 0 0) s m args below meth c s.heap [] 0 0 Q (F0 m 12 ls []) := by
  have hx := X.hx
  have hb := X.hb
  have hown := X.hown
  have hts := X.hts
  rw [fX8_kindOf_12] at hf
  refine lv_iconst (v := 1) hx hb dX8_kindOf_12 (by decide) ?_
  cases hf
  exact hret _ _ dX8_kindOf_13
set_option maxRecDepth 10000 in
theorem kX8_kindOf_6 {r : Int32} {M : CS} {x0 : Int32} (X : gX p s m args c cX8_kindOf 1 RX8 (kR kTab kA)) (hret : gRetR p l e (rmL 1 0 0) s m args below meth c cX8_kindOf Q r) (hf : fX8_kindOf_6 M x0 = some r) {ls : Array Slot} (hP : (cP dC dI cg kA ca) M s s.heap) (hl : lv_has ls 1 [(0, .int x0)]) : W p l e (rmL 1 0 0) s m args below meth c s.heap [] 0 0 Q (F0 m 6 ls []) := by
  have hx := X.hx
  have hb := X.hb
  have hown := X.hown
  have hts := X.hts
  rw [fX8_kindOf_6] at hf
  refine lv_iload_n hx hb dX8_kindOf_6 rfl (lv_at hl 0 rfl) ?_
  refine lv_bipush (v := 122) hx hb dX8_kindOf_7 (by decide) ?_
  refine lv_icmp_gt (tgt := 14) hx hb dX8_kindOf_9 (by decide) (fun c1 => ?_) (fun c1 => ?_)
  · exact kX8_kindOf_14 X hret (ifp c1 hf) hP (lv_sub hl [0] rfl)
  · exact kX8_kindOf_12 X hret (ifn c1 hf) hP (lv_sub hl [] rfl)
set_option maxRecDepth 10000 in
theorem kX8_kindOf_0 {r : Int32} {M : CS} {a1 : Int32} (X : gX p s m args c cX8_kindOf 1 RX8 (kR kTab kA)) (hret : gRetR p l e (rmL 1 0 0) s m args below meth c cX8_kindOf Q r) (hf : fX8_kindOf_0 M a1 = some r) {ls : Array Slot} (hP : (cP dC dI cg kA ca) M s s.heap) (hl : lv_has ls 1 [(0, .int a1)]) : W p l e (rmL 1 0 0) s m args below meth c s.heap [] 0 0 Q (F0 m 0 ls []) := by
  have hx := X.hx
  have hb := X.hb
  have hown := X.hown
  have hts := X.hts
  rw [fX8_kindOf_0] at hf
  refine lv_iload_n hx hb dX8_kindOf_0 rfl (lv_at hl 0 rfl) ?_
  refine lv_bipush (v := 97) hx hb dX8_kindOf_1 (by decide) ?_
  refine lv_icmp_lt (tgt := 14) hx hb dX8_kindOf_3 (by decide) (fun c1 => ?_) (fun c1 => ?_)
  · exact kX8_kindOf_14 X hret (ifp c1 hf) hP (lv_sub hl [0] rfl)
  · exact kX8_kindOf_6 X hret (ifn c1 hf) hP (lv_sub hl [0] rfl)
theorem vX8_kindOf {l : Launch} {dC : Nat → ClassId} {dI : Nat → Nat → Nat} {cg : Nat → ClassId} {kA : String → Nat → Nat} {ca : Nat → Nat} {M : CS} {r : Int32} {a1 : Int32} (hf : fX8_kindOf M a1 = some r) : gMetR l yX8_kindOf cX8_kindOf 1 (some .int) 1 (gB (cP dC dI cg kA ca) (kR kTab kA) M) [.int a1] r := gEntryR (ty := .int) (by decide) rfl rfl (Nat.le_of_ble_eq_true rfl) (fun _ h => h.2) (fun p e s m args below meth c Q ls X hB hret hl => 
  kX8_kindOf_0 X hret hf hB.1 (lv_sub hl [0] rfl))
set_option maxRecDepth 10000 in
theorem kX9_copyFrom_64 {S1 : CS} {t : Nat} {b1 : Nat} {M : CS} {H : Heap} {locs : List Loc} {ls : Array Slot} (X : gX p s m args c cX9_copyFrom 2 RX9 (kR kTab kA)) (hret : gRetV p l e (rmL 1 0 0) s m args below meth c cX9_copyFrom (cΩ ca) (cP dC dI cg kA ca) Q S1) (hkt : kc t = 17) (hkb1 : kc b1 = 17) (hf : fX9_copyFrom_64 t b1 M = some S1) (hP : (cP dC dI cg kA ca) M s H) (hS : va_S (Fr (cΩ ca) s.heap.size) s.heap H locs) (hl : lv_has ls 2 [(0, .ref (ca t))]) : W p l e (rmL 1 0 0) s m args below meth c H locs 0 0 Q (F0 m 64 ls []) := by
  have hx := X.hx
  have hb := X.hb
  have hown := X.hown
  have hts := X.hts
  rw [fX9_copyFrom_64] at hf
  cases hf
  exact hret _ _ _ _ dX9_copyFrom_64 hP hS
set_option maxRecDepth 10000 in
theorem kX9_copyFrom_56 {S1 : CS} {t : Nat} {b1 : Nat} {M : CS} {H : Heap} {locs : List Loc} {ls : Array Slot} (X : gX p s m args c cX9_copyFrom 2 RX9 (kR kTab kA)) (hret : gRetV p l e (rmL 1 0 0) s m args below meth c cX9_copyFrom (cΩ ca) (cP dC dI cg kA ca) Q S1) (hkt : kc t = 17) (hkb1 : kc b1 = 17) (hf : fX9_copyFrom_56 t b1 M = some S1) (hP : (cP dC dI cg kA ca) M s H) (hS : va_S (Fr (cΩ ca) s.heap.size) s.heap H locs) (hl : lv_has ls 2 [(0, .ref (ca t)), (1, .ref (ca b1))]) : W p l e (rmL 1 0 0) s m args below meth c H locs 0 0 Q (F0 m 56 ls []) := by
  have hx := X.hx
  have hb := X.hb
  have hown := X.hown
  have hts := X.hts
  rw [fX9_copyFrom_56] at hf
  refine lv_aload_n hx hb dX9_copyFrom_56 rfl (lv_at hl 0 rfl) ?_
  refine lv_aload_n hx hb dX9_copyFrom_57 rfl (lv_at hl 1 rfl) ?_
  refine cr_get (k := 7) X hP hkb1 rfl cv17_7 rfl cinX9 (by decide) rfl tw190 dX9_copyFrom_58 ?_
  refine cr_put (k := 7) X hP hS hkt rfl cs17_7 rfl cinX9 tyX9_ok nmX9 (by decide) rfl rfl rfl rfl tw190 dX9_copyFrom_61 (fun H locs hP hS => ?_)
  exact kX9_copyFrom_64 X hret hkt hkb1 hf hP hS (lv_sub hl [0] rfl)
set_option maxRecDepth 10000 in
theorem kX9_copyFrom_48 {S1 : CS} {t : Nat} {b1 : Nat} {M : CS} {H : Heap} {locs : List Loc} {ls : Array Slot} (X : gX p s m args c cX9_copyFrom 2 RX9 (kR kTab kA)) (hret : gRetV p l e (rmL 1 0 0) s m args below meth c cX9_copyFrom (cΩ ca) (cP dC dI cg kA ca) Q S1) (hkt : kc t = 17) (hkb1 : kc b1 = 17) (hf : fX9_copyFrom_48 t b1 M = some S1) (hP : (cP dC dI cg kA ca) M s H) (hS : va_S (Fr (cΩ ca) s.heap.size) s.heap H locs) (hl : lv_has ls 2 [(0, .ref (ca t)), (1, .ref (ca b1))]) : W p l e (rmL 1 0 0) s m args below meth c H locs 0 0 Q (F0 m 48 ls []) := by
  have hx := X.hx
  have hb := X.hb
  have hown := X.hown
  have hts := X.hts
  rw [fX9_copyFrom_48] at hf
  refine lv_aload_n hx hb dX9_copyFrom_48 rfl (lv_at hl 0 rfl) ?_
  refine lv_aload_n hx hb dX9_copyFrom_49 rfl (lv_at hl 1 rfl) ?_
  refine cr_get (k := 6) X hP hkb1 rfl cv17_6 rfl cinX9 (by decide) rfl tw188 dX9_copyFrom_50 ?_
  refine cr_put (k := 6) X hP hS hkt rfl cs17_6 rfl cinX9 tyX9_ok nmX9 (by decide) rfl rfl rfl rfl tw188 dX9_copyFrom_53 (fun H locs hP hS => ?_)
  exact kX9_copyFrom_56 X hret hkt hkb1 hf hP hS (lv_sub hl [0, 1] rfl)
set_option maxRecDepth 10000 in
theorem kX9_copyFrom_40 {S1 : CS} {t : Nat} {b1 : Nat} {M : CS} {H : Heap} {locs : List Loc} {ls : Array Slot} (X : gX p s m args c cX9_copyFrom 2 RX9 (kR kTab kA)) (hret : gRetV p l e (rmL 1 0 0) s m args below meth c cX9_copyFrom (cΩ ca) (cP dC dI cg kA ca) Q S1) (hkt : kc t = 17) (hkb1 : kc b1 = 17) (hf : fX9_copyFrom_40 t b1 M = some S1) (hP : (cP dC dI cg kA ca) M s H) (hS : va_S (Fr (cΩ ca) s.heap.size) s.heap H locs) (hl : lv_has ls 2 [(0, .ref (ca t)), (1, .ref (ca b1))]) : W p l e (rmL 1 0 0) s m args below meth c H locs 0 0 Q (F0 m 40 ls []) := by
  have hx := X.hx
  have hb := X.hb
  have hown := X.hown
  have hts := X.hts
  rw [fX9_copyFrom_40] at hf
  refine lv_aload_n hx hb dX9_copyFrom_40 rfl (lv_at hl 0 rfl) ?_
  refine lv_aload_n hx hb dX9_copyFrom_41 rfl (lv_at hl 1 rfl) ?_
  refine cr_get (k := 5) X hP hkb1 rfl cv17_5 rfl cinX9 (by decide) rfl tw185 dX9_copyFrom_42 ?_
  refine cr_put (k := 5) X hP hS hkt rfl cs17_5 rfl cinX9 tyX9_ok nmX9 (by decide) rfl rfl rfl rfl tw185 dX9_copyFrom_45 (fun H locs hP hS => ?_)
  exact kX9_copyFrom_48 X hret hkt hkb1 hf hP hS (lv_sub hl [0, 1] rfl)
set_option maxRecDepth 10000 in
theorem kX9_copyFrom_32 {S1 : CS} {t : Nat} {b1 : Nat} {M : CS} {H : Heap} {locs : List Loc} {ls : Array Slot} (X : gX p s m args c cX9_copyFrom 2 RX9 (kR kTab kA)) (hret : gRetV p l e (rmL 1 0 0) s m args below meth c cX9_copyFrom (cΩ ca) (cP dC dI cg kA ca) Q S1) (hkt : kc t = 17) (hkb1 : kc b1 = 17) (hf : fX9_copyFrom_32 t b1 M = some S1) (hP : (cP dC dI cg kA ca) M s H) (hS : va_S (Fr (cΩ ca) s.heap.size) s.heap H locs) (hl : lv_has ls 2 [(0, .ref (ca t)), (1, .ref (ca b1))]) : W p l e (rmL 1 0 0) s m args below meth c H locs 0 0 Q (F0 m 32 ls []) := by
  have hx := X.hx
  have hb := X.hb
  have hown := X.hown
  have hts := X.hts
  rw [fX9_copyFrom_32] at hf
  refine lv_aload_n hx hb dX9_copyFrom_32 rfl (lv_at hl 0 rfl) ?_
  refine lv_aload_n hx hb dX9_copyFrom_33 rfl (lv_at hl 1 rfl) ?_
  refine cr_get (k := 4) X hP hkb1 rfl cv17_4 rfl cinX9 (by decide) rfl tw182 dX9_copyFrom_34 ?_
  refine cr_put (k := 4) X hP hS hkt rfl cs17_4 rfl cinX9 tyX9_ok nmX9 (by decide) rfl rfl rfl rfl tw182 dX9_copyFrom_37 (fun H locs hP hS => ?_)
  exact kX9_copyFrom_40 X hret hkt hkb1 hf hP hS (lv_sub hl [0, 1] rfl)
set_option maxRecDepth 10000 in
theorem kX9_copyFrom_24 {S1 : CS} {t : Nat} {b1 : Nat} {M : CS} {H : Heap} {locs : List Loc} {ls : Array Slot} (X : gX p s m args c cX9_copyFrom 2 RX9 (kR kTab kA)) (hret : gRetV p l e (rmL 1 0 0) s m args below meth c cX9_copyFrom (cΩ ca) (cP dC dI cg kA ca) Q S1) (hkt : kc t = 17) (hkb1 : kc b1 = 17) (hf : fX9_copyFrom_24 t b1 M = some S1) (hP : (cP dC dI cg kA ca) M s H) (hS : va_S (Fr (cΩ ca) s.heap.size) s.heap H locs) (hl : lv_has ls 2 [(0, .ref (ca t)), (1, .ref (ca b1))]) : W p l e (rmL 1 0 0) s m args below meth c H locs 0 0 Q (F0 m 24 ls []) := by
  have hx := X.hx
  have hb := X.hb
  have hown := X.hown
  have hts := X.hts
  rw [fX9_copyFrom_24] at hf
  refine lv_aload_n hx hb dX9_copyFrom_24 rfl (lv_at hl 0 rfl) ?_
  refine lv_aload_n hx hb dX9_copyFrom_25 rfl (lv_at hl 1 rfl) ?_
  refine cr_get (k := 3) X hP hkb1 rfl cv17_3 rfl cinX9 (by decide) rfl tw179 dX9_copyFrom_26 ?_
  refine cr_put (k := 3) X hP hS hkt rfl cs17_3 rfl cinX9 tyX9_ok nmX9 (by decide) rfl rfl rfl rfl tw179 dX9_copyFrom_29 (fun H locs hP hS => ?_)
  exact kX9_copyFrom_32 X hret hkt hkb1 hf hP hS (lv_sub hl [0, 1] rfl)
set_option maxRecDepth 10000 in
theorem kX9_copyFrom_16 {S1 : CS} {t : Nat} {b1 : Nat} {M : CS} {H : Heap} {locs : List Loc} {ls : Array Slot} (X : gX p s m args c cX9_copyFrom 2 RX9 (kR kTab kA)) (hret : gRetV p l e (rmL 1 0 0) s m args below meth c cX9_copyFrom (cΩ ca) (cP dC dI cg kA ca) Q S1) (hkt : kc t = 17) (hkb1 : kc b1 = 17) (hf : fX9_copyFrom_16 t b1 M = some S1) (hP : (cP dC dI cg kA ca) M s H) (hS : va_S (Fr (cΩ ca) s.heap.size) s.heap H locs) (hl : lv_has ls 2 [(0, .ref (ca t)), (1, .ref (ca b1))]) : W p l e (rmL 1 0 0) s m args below meth c H locs 0 0 Q (F0 m 16 ls []) := by
  have hx := X.hx
  have hb := X.hb
  have hown := X.hown
  have hts := X.hts
  rw [fX9_copyFrom_16] at hf
  refine lv_aload_n hx hb dX9_copyFrom_16 rfl (lv_at hl 0 rfl) ?_
  refine lv_aload_n hx hb dX9_copyFrom_17 rfl (lv_at hl 1 rfl) ?_
  refine cr_get (k := 2) X hP hkb1 rfl cv17_2 rfl cinX9 (by decide) rfl tw176 dX9_copyFrom_18 ?_
  refine cr_put (k := 2) X hP hS hkt rfl cs17_2 rfl cinX9 tyX9_ok nmX9 (by decide) rfl rfl rfl rfl tw176 dX9_copyFrom_21 (fun H locs hP hS => ?_)
  exact kX9_copyFrom_24 X hret hkt hkb1 hf hP hS (lv_sub hl [0, 1] rfl)
set_option maxRecDepth 10000 in
theorem kX9_copyFrom_8 {S1 : CS} {t : Nat} {b1 : Nat} {M : CS} {H : Heap} {locs : List Loc} {ls : Array Slot} (X : gX p s m args c cX9_copyFrom 2 RX9 (kR kTab kA)) (hret : gRetV p l e (rmL 1 0 0) s m args below meth c cX9_copyFrom (cΩ ca) (cP dC dI cg kA ca) Q S1) (hkt : kc t = 17) (hkb1 : kc b1 = 17) (hf : fX9_copyFrom_8 t b1 M = some S1) (hP : (cP dC dI cg kA ca) M s H) (hS : va_S (Fr (cΩ ca) s.heap.size) s.heap H locs) (hl : lv_has ls 2 [(0, .ref (ca t)), (1, .ref (ca b1))]) : W p l e (rmL 1 0 0) s m args below meth c H locs 0 0 Q (F0 m 8 ls []) := by
  have hx := X.hx
  have hb := X.hb
  have hown := X.hown
  have hts := X.hts
  rw [fX9_copyFrom_8] at hf
  refine lv_aload_n hx hb dX9_copyFrom_8 rfl (lv_at hl 0 rfl) ?_
  refine lv_aload_n hx hb dX9_copyFrom_9 rfl (lv_at hl 1 rfl) ?_
  refine cr_get (k := 1) X hP hkb1 rfl cv17_1 rfl cinX9 (by decide) rfl tw173 dX9_copyFrom_10 ?_
  refine cr_put (k := 1) X hP hS hkt rfl cs17_1 rfl cinX9 tyX9_ok nmX9 (by decide) rfl rfl rfl rfl tw173 dX9_copyFrom_13 (fun H locs hP hS => ?_)
  exact kX9_copyFrom_16 X hret hkt hkb1 hf hP hS (lv_sub hl [0, 1] rfl)
set_option maxRecDepth 10000 in
theorem kX9_copyFrom_0 {S1 : CS} {t : Nat} {b1 : Nat} {M : CS} {H : Heap} {locs : List Loc} {ls : Array Slot} (X : gX p s m args c cX9_copyFrom 2 RX9 (kR kTab kA)) (hret : gRetV p l e (rmL 1 0 0) s m args below meth c cX9_copyFrom (cΩ ca) (cP dC dI cg kA ca) Q S1) (hkt : kc t = 17) (hkb1 : kc b1 = 17) (hf : fX9_copyFrom_0 t b1 M = some S1) (hP : (cP dC dI cg kA ca) M s H) (hS : va_S (Fr (cΩ ca) s.heap.size) s.heap H locs) (hl : lv_has ls 2 [(0, .ref (ca t)), (1, .ref (ca b1))]) : W p l e (rmL 1 0 0) s m args below meth c H locs 0 0 Q (F0 m 0 ls []) := by
  have hx := X.hx
  have hb := X.hb
  have hown := X.hown
  have hts := X.hts
  rw [fX9_copyFrom_0] at hf
  refine lv_aload_n hx hb dX9_copyFrom_0 rfl (lv_at hl 0 rfl) ?_
  refine lv_aload_n hx hb dX9_copyFrom_1 rfl (lv_at hl 1 rfl) ?_
  refine cr_get (k := 0) X hP hkb1 rfl cv17_0 rfl cinX9 (by decide) rfl tw170 dX9_copyFrom_2 ?_
  refine cr_put (k := 0) X hP hS hkt rfl cs17_0 rfl cinX9 tyX9_ok nmX9 (by decide) rfl rfl rfl rfl tw170 dX9_copyFrom_5 (fun H locs hP hS => ?_)
  exact kX9_copyFrom_8 X hret hkt hkb1 hf hP hS (lv_sub hl [0, 1] rfl)
theorem vX9_copyFrom {l : Launch} {dC : Nat → ClassId} {dI : Nat → Nat → Nat} {cg : Nat → ClassId} {kA : String → Nat → Nat} {ca : Nat → Nat} {M S1 : CS} {t : Nat} {b1 : Nat} (hkt : kc t = 17) (hkb1 : kc b1 = 17) (hf : fX9_copyFrom M t b1 = some S1) : gMetV l yX9_copyFrom cX9_copyFrom 2 1 (cΩ ca) (cP dC dI cg kA ca) (kR kTab kA) [.ref (ca t), .ref (ca b1)] M S1 := gEntryV (by decide) cOK (Nat.le_of_ble_eq_true rfl) (fun p e s m args below meth c Q ls X hP hS hret hl => 
  kX9_copyFrom_0 X hret hkt hkb1 hf hP hS (lv_sub hl [0, 1] rfl))
set_option maxRecDepth 10000 in
theorem kX9_clear_40 {S1 : CS} {t : Nat} {M : CS} {H : Heap} {locs : List Loc} {ls : Array Slot} (X : gX p s m args c cX9_clear 1 RX9 (kR kTab kA)) (hret : gRetV p l e (rmL 1 0 0) s m args below meth c cX9_clear (cΩ ca) (cP dC dI cg kA ca) Q S1) (hkt : kc t = 17) (hf : fX9_clear_40 t M = some S1) (hP : (cP dC dI cg kA ca) M s H) (hS : va_S (Fr (cΩ ca) s.heap.size) s.heap H locs) (hl : lv_has ls 1 [(0, .ref (ca t))]) : W p l e (rmL 1 0 0) s m args below meth c H locs 0 0 Q (F0 m 40 ls []) := by
  have hx := X.hx
  have hb := X.hb
  have hown := X.hown
  have hts := X.hts
  rw [fX9_clear_40] at hf
  cases hf
  exact hret _ _ _ _ dX9_clear_40 hP hS
set_option maxRecDepth 10000 in
theorem kX9_clear_35 {S1 : CS} {t : Nat} {M : CS} {H : Heap} {locs : List Loc} {ls : Array Slot} (X : gX p s m args c cX9_clear 1 RX9 (kR kTab kA)) (hret : gRetV p l e (rmL 1 0 0) s m args below meth c cX9_clear (cΩ ca) (cP dC dI cg kA ca) Q S1) (hkt : kc t = 17) (hf : fX9_clear_35 t M = some S1) (hP : (cP dC dI cg kA ca) M s H) (hS : va_S (Fr (cΩ ca) s.heap.size) s.heap H locs) (hl : lv_has ls 1 [(0, .ref (ca t))]) : W p l e (rmL 1 0 0) s m args below meth c H locs 0 0 Q (F0 m 35 ls []) := by
  have hx := X.hx
  have hb := X.hb
  have hown := X.hown
  have hts := X.hts
  rw [fX9_clear_35] at hf
  refine lv_aload_n hx hb dX9_clear_35 rfl (lv_at hl 0 rfl) ?_
  refine lv_iconst (v := 0) hx hb dX9_clear_36 (by decide) ?_
  refine cr_put (k := 7) X hP hS hkt rfl cs17_7 rfl cinX9 tyX9_ok nmX9 (by decide) rfl rfl rfl rfl tw190 dX9_clear_37 (fun H locs hP hS => ?_)
  exact kX9_clear_40 X hret hkt hf hP hS (lv_sub hl [0] rfl)
set_option maxRecDepth 10000 in
theorem kX9_clear_30 {S1 : CS} {t : Nat} {M : CS} {H : Heap} {locs : List Loc} {ls : Array Slot} (X : gX p s m args c cX9_clear 1 RX9 (kR kTab kA)) (hret : gRetV p l e (rmL 1 0 0) s m args below meth c cX9_clear (cΩ ca) (cP dC dI cg kA ca) Q S1) (hkt : kc t = 17) (hf : fX9_clear_30 t M = some S1) (hP : (cP dC dI cg kA ca) M s H) (hS : va_S (Fr (cΩ ca) s.heap.size) s.heap H locs) (hl : lv_has ls 1 [(0, .ref (ca t))]) : W p l e (rmL 1 0 0) s m args below meth c H locs 0 0 Q (F0 m 30 ls []) := by
  have hx := X.hx
  have hb := X.hb
  have hown := X.hown
  have hts := X.hts
  rw [fX9_clear_30] at hf
  refine lv_aload_n hx hb dX9_clear_30 rfl (lv_at hl 0 rfl) ?_
  refine lv_iconst (v := 0) hx hb dX9_clear_31 (by decide) ?_
  refine cr_put (k := 6) X hP hS hkt rfl cs17_6 rfl cinX9 tyX9_ok nmX9 (by decide) rfl rfl rfl rfl tw188 dX9_clear_32 (fun H locs hP hS => ?_)
  exact kX9_clear_35 X hret hkt hf hP hS (lv_sub hl [0] rfl)
set_option maxRecDepth 10000 in
theorem kX9_clear_25 {S1 : CS} {t : Nat} {M : CS} {H : Heap} {locs : List Loc} {ls : Array Slot} (X : gX p s m args c cX9_clear 1 RX9 (kR kTab kA)) (hret : gRetV p l e (rmL 1 0 0) s m args below meth c cX9_clear (cΩ ca) (cP dC dI cg kA ca) Q S1) (hkt : kc t = 17) (hf : fX9_clear_25 t M = some S1) (hP : (cP dC dI cg kA ca) M s H) (hS : va_S (Fr (cΩ ca) s.heap.size) s.heap H locs) (hl : lv_has ls 1 [(0, .ref (ca t))]) : W p l e (rmL 1 0 0) s m args below meth c H locs 0 0 Q (F0 m 25 ls []) := by
  have hx := X.hx
  have hb := X.hb
  have hown := X.hown
  have hts := X.hts
  rw [fX9_clear_25] at hf
  refine lv_aload_n hx hb dX9_clear_25 rfl (lv_at hl 0 rfl) ?_
  refine lv_iconst (v := 0) hx hb dX9_clear_26 (by decide) ?_
  refine cr_put (k := 5) X hP hS hkt rfl cs17_5 rfl cinX9 tyX9_ok nmX9 (by decide) rfl rfl rfl rfl tw185 dX9_clear_27 (fun H locs hP hS => ?_)
  exact kX9_clear_30 X hret hkt hf hP hS (lv_sub hl [0] rfl)
set_option maxRecDepth 10000 in
theorem kX9_clear_20 {S1 : CS} {t : Nat} {M : CS} {H : Heap} {locs : List Loc} {ls : Array Slot} (X : gX p s m args c cX9_clear 1 RX9 (kR kTab kA)) (hret : gRetV p l e (rmL 1 0 0) s m args below meth c cX9_clear (cΩ ca) (cP dC dI cg kA ca) Q S1) (hkt : kc t = 17) (hf : fX9_clear_20 t M = some S1) (hP : (cP dC dI cg kA ca) M s H) (hS : va_S (Fr (cΩ ca) s.heap.size) s.heap H locs) (hl : lv_has ls 1 [(0, .ref (ca t))]) : W p l e (rmL 1 0 0) s m args below meth c H locs 0 0 Q (F0 m 20 ls []) := by
  have hx := X.hx
  have hb := X.hb
  have hown := X.hown
  have hts := X.hts
  rw [fX9_clear_20] at hf
  refine lv_aload_n hx hb dX9_clear_20 rfl (lv_at hl 0 rfl) ?_
  refine lv_iconst (v := 0) hx hb dX9_clear_21 (by decide) ?_
  refine cr_put (k := 4) X hP hS hkt rfl cs17_4 rfl cinX9 tyX9_ok nmX9 (by decide) rfl rfl rfl rfl tw182 dX9_clear_22 (fun H locs hP hS => ?_)
  exact kX9_clear_25 X hret hkt hf hP hS (lv_sub hl [0] rfl)
set_option maxRecDepth 10000 in
theorem kX9_clear_15 {S1 : CS} {t : Nat} {M : CS} {H : Heap} {locs : List Loc} {ls : Array Slot} (X : gX p s m args c cX9_clear 1 RX9 (kR kTab kA)) (hret : gRetV p l e (rmL 1 0 0) s m args below meth c cX9_clear (cΩ ca) (cP dC dI cg kA ca) Q S1) (hkt : kc t = 17) (hf : fX9_clear_15 t M = some S1) (hP : (cP dC dI cg kA ca) M s H) (hS : va_S (Fr (cΩ ca) s.heap.size) s.heap H locs) (hl : lv_has ls 1 [(0, .ref (ca t))]) : W p l e (rmL 1 0 0) s m args below meth c H locs 0 0 Q (F0 m 15 ls []) := by
  have hx := X.hx
  have hb := X.hb
  have hown := X.hown
  have hts := X.hts
  rw [fX9_clear_15] at hf
  refine lv_aload_n hx hb dX9_clear_15 rfl (lv_at hl 0 rfl) ?_
  refine lv_iconst (v := 0) hx hb dX9_clear_16 (by decide) ?_
  refine cr_put (k := 3) X hP hS hkt rfl cs17_3 rfl cinX9 tyX9_ok nmX9 (by decide) rfl rfl rfl rfl tw179 dX9_clear_17 (fun H locs hP hS => ?_)
  exact kX9_clear_20 X hret hkt hf hP hS (lv_sub hl [0] rfl)
set_option maxRecDepth 10000 in
theorem kX9_clear_10 {S1 : CS} {t : Nat} {M : CS} {H : Heap} {locs : List Loc} {ls : Array Slot} (X : gX p s m args c cX9_clear 1 RX9 (kR kTab kA)) (hret : gRetV p l e (rmL 1 0 0) s m args below meth c cX9_clear (cΩ ca) (cP dC dI cg kA ca) Q S1) (hkt : kc t = 17) (hf : fX9_clear_10 t M = some S1) (hP : (cP dC dI cg kA ca) M s H) (hS : va_S (Fr (cΩ ca) s.heap.size) s.heap H locs) (hl : lv_has ls 1 [(0, .ref (ca t))]) : W p l e (rmL 1 0 0) s m args below meth c H locs 0 0 Q (F0 m 10 ls []) := by
  have hx := X.hx
  have hb := X.hb
  have hown := X.hown
  have hts := X.hts
  rw [fX9_clear_10] at hf
  refine lv_aload_n hx hb dX9_clear_10 rfl (lv_at hl 0 rfl) ?_
  refine lv_iconst (v := 0) hx hb dX9_clear_11 (by decide) ?_
  refine cr_put (k := 2) X hP hS hkt rfl cs17_2 rfl cinX9 tyX9_ok nmX9 (by decide) rfl rfl rfl rfl tw176 dX9_clear_12 (fun H locs hP hS => ?_)
  exact kX9_clear_15 X hret hkt hf hP hS (lv_sub hl [0] rfl)
set_option maxRecDepth 10000 in
theorem kX9_clear_5 {S1 : CS} {t : Nat} {M : CS} {H : Heap} {locs : List Loc} {ls : Array Slot} (X : gX p s m args c cX9_clear 1 RX9 (kR kTab kA)) (hret : gRetV p l e (rmL 1 0 0) s m args below meth c cX9_clear (cΩ ca) (cP dC dI cg kA ca) Q S1) (hkt : kc t = 17) (hf : fX9_clear_5 t M = some S1) (hP : (cP dC dI cg kA ca) M s H) (hS : va_S (Fr (cΩ ca) s.heap.size) s.heap H locs) (hl : lv_has ls 1 [(0, .ref (ca t))]) : W p l e (rmL 1 0 0) s m args below meth c H locs 0 0 Q (F0 m 5 ls []) := by
  have hx := X.hx
  have hb := X.hb
  have hown := X.hown
  have hts := X.hts
  rw [fX9_clear_5] at hf
  refine lv_aload_n hx hb dX9_clear_5 rfl (lv_at hl 0 rfl) ?_
  refine lv_iconst (v := 0) hx hb dX9_clear_6 (by decide) ?_
  refine cr_put (k := 1) X hP hS hkt rfl cs17_1 rfl cinX9 tyX9_ok nmX9 (by decide) rfl rfl rfl rfl tw173 dX9_clear_7 (fun H locs hP hS => ?_)
  exact kX9_clear_10 X hret hkt hf hP hS (lv_sub hl [0] rfl)
set_option maxRecDepth 10000 in
theorem kX9_clear_0 {S1 : CS} {t : Nat} {M : CS} {H : Heap} {locs : List Loc} {ls : Array Slot} (X : gX p s m args c cX9_clear 1 RX9 (kR kTab kA)) (hret : gRetV p l e (rmL 1 0 0) s m args below meth c cX9_clear (cΩ ca) (cP dC dI cg kA ca) Q S1) (hkt : kc t = 17) (hf : fX9_clear_0 t M = some S1) (hP : (cP dC dI cg kA ca) M s H) (hS : va_S (Fr (cΩ ca) s.heap.size) s.heap H locs) (hl : lv_has ls 1 [(0, .ref (ca t))]) : W p l e (rmL 1 0 0) s m args below meth c H locs 0 0 Q (F0 m 0 ls []) := by
  have hx := X.hx
  have hb := X.hb
  have hown := X.hown
  have hts := X.hts
  rw [fX9_clear_0] at hf
  refine lv_aload_n hx hb dX9_clear_0 rfl (lv_at hl 0 rfl) ?_
  refine lv_iconst (v := 0) hx hb dX9_clear_1 (by decide) ?_
  refine cr_put (k := 0) X hP hS hkt rfl cs17_0 rfl cinX9 tyX9_ok nmX9 (by decide) rfl rfl rfl rfl tw170 dX9_clear_2 (fun H locs hP hS => ?_)
  exact kX9_clear_5 X hret hkt hf hP hS (lv_sub hl [0] rfl)
theorem vX9_clear {l : Launch} {dC : Nat → ClassId} {dI : Nat → Nat → Nat} {cg : Nat → ClassId} {kA : String → Nat → Nat} {ca : Nat → Nat} {M S1 : CS} {t : Nat} (hkt : kc t = 17) (hf : fX9_clear M t  = some S1) : gMetV l yX9_clear cX9_clear 1 1 (cΩ ca) (cP dC dI cg kA ca) (kR kTab kA) [.ref (ca t)] M S1 := gEntryV (by decide) cOK (Nat.le_of_ble_eq_true rfl) (fun p e s m args below meth c Q ls X hP hS hret hl => 
  kX9_clear_0 X hret hkt hf hP hS (lv_sub hl [0] rfl))
