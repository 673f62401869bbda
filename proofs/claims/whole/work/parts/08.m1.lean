variable {l : Launch} {p : Program} {e : Env} {s : State} {m : MethodId} {args : Array Value} {below : List Frame} {meth : Method} {c : Code} {A : Nat → Prop} {Q : State → Prop}
variable {dC : Nat → ClassId} {dI : Nat → Nat → Nat} {cI : ClassId} {kA : String → Nat → Nat} {ad : Nat → Nat}
def fX11_thrown_0 (M : MS) : Option (Int32) := some (M.1 7)
def fX11_thrown (M : MS) : Option (Int32) := fX11_thrown_0  M
def fX11_inRange_15 (M : MS) (s0 : Int32) : Option (Int32) := some s0
def fX11_inRange_14 (M : MS) : Option (Int32) := fX11_inRange_15 M 0
def fX11_inRange_10 (M : MS) : Option (Int32) := fX11_inRange_15 M 1
def fX11_inRange_5 (M : MS) (x0 : Int32) (x2 : Int32) : Option (Int32) := if x2 < x0 then fX11_inRange_14 M else fX11_inRange_10 M
def fX11_inRange_0 (M : MS) (a1 : Int32) (a2 : Int32) (a3 : Int32) : Option (Int32) := if a1 < a2 then fX11_inRange_14 M else fX11_inRange_5 M a1 a3
def fX11_inRange (M : MS) (a1 : Int32) (a2 : Int32) (a3 : Int32) : Option (Int32) := bq (fX11_inRange_0  M a1 a2 a3)
def fX11_one_9 (M : MS) (s0 : Int32) : Option (Int32) := some s0
def fX11_one_8 (M : MS) : Option (Int32) := fX11_one_9 M 0
def fX11_one_4 (M : MS) : Option (Int32) := fX11_one_9 M 1
def fX11_one_0 (M : MS) (a1 : Int32) : Option (Int32) := if a1 = 0 then fX11_one_8 M else fX11_one_4 M
def fX11_one (M : MS) (a1 : Int32) : Option (Int32) := fX11_one_0  M a1
def fX11_fails_9 (M : MS) (x1 : Int32) : Option (Int32 × MS) := some (x1, M)
def fX11_fails_4 (M : MS) (x1 : Int32) (x2 : Int32) : Option (Int32 × MS) := fX11_fails_9 (va_up M.1 7 x2, M.2) x1
def fX11_fails_0 (M : MS) (a1 : Int32) (a2 : Int32) : Option (Int32 × MS) := if a1 = 0 then fX11_fails_9 M a1 else fX11_fails_4 M a1 a2
def fX11_fails (M : MS) (a1 : Int32) (a2 : Int32) : Option (Int32 × MS) := bz (fX11_fails_0  M a1 a2)
def fX11_copies_29 (M : MS) : Option (MS) := some M
def fX11_copies_23 (K3 : MS → Nat → Nat → Int32 → Int32 → Int32 → Option (MS)) (M : MS) (a1 : Nat) (a3 : Nat) (x1 : Int32) (x3 : Int32) (x4 : Int32) : Option (MS) := K3 M a1 a3 x1 x3 (x4 + 1)
def fX11_copies_11 (K3 : MS → Nat → Nat → Int32 → Int32 → Int32 → Option (MS)) (M : MS) (a1 : Nat) (a3 : Nat) (x1 : Int32) (x3 : Int32) (x4 : Int32) : Option (MS) := if mIs a1 then if gIn (x1 + x4) (mL a1) then if mIs a3 then if gIn (x3 + x4) (mL a3) then fX11_copies_23 K3 (M.1, va_up M.2 a3 (upd (M.2 a3) (x3 + x4).toNatClampNeg (M.2 a1 (x1 + x4).toNatClampNeg))) a1 a3 x1 x3 x4 else none else none else none else none
def fX11_copies_3 : Nat → MS → Nat → Nat → Int32 → Int32 → Int32 → Option (MS)
  | 0 => fun _ _ _ _ _ _ => none
  | k + 1 => fun M a1 a3 x1 x3 x4 => if 257 ≤ x4 then fX11_copies_29 M else fX11_copies_11 (fX11_copies_3 k) M a1 a3 x1 x3 x4
def fX11_copies_0 (M : MS) (a1 : Nat) (a3 : Nat) (a2 : Int32) (a4 : Int32) : Option (MS) := fX11_copies_3 FU M a1 a3 a2 a4 0
def fX11_copies (M : MS) (a1 : Nat) (a2 : Int32) (a3 : Nat) (a4 : Int32) : Option (MS) := fX11_copies_0  M a1 a3 a2 a4
def fX11_begins_44 (M : MS) : Option (MS) := some M
def fX11_begins_37 (M : MS) : Option (MS) := if gIn 5 257 then fX11_begins_44 (M.1, va_up M.2 0 (upd (M.2 0) (5 : Int32).toNatClampNeg (-1))) else none
def fX11_begins_30 (M : MS) : Option (MS) := if gIn 4 257 then fX11_begins_37 (M.1, va_up M.2 0 (upd (M.2 0) (4 : Int32).toNatClampNeg 3)) else none
def fX11_begins_22 (M : MS) : Option (MS) := if gIn 3 257 then fX11_begins_30 (M.1, va_up M.2 0 (upd (M.2 0) (3 : Int32).toNatClampNeg 6)) else none
def fX11_begins_16 (K2 : MS → Int32 → Option (MS)) (M : MS) (x1 : Int32) : Option (MS) := K2 M (x1 + 1)
def fX11_begins_9 (K2 : MS → Int32 → Option (MS)) (M : MS) (x1 : Int32) : Option (MS) := if gIn x1 257 then fX11_begins_16 K2 (M.1, va_up M.2 0 (upd (M.2 0) x1.toNatClampNeg 0)) x1 else none
def fX11_begins_2 : Nat → MS → Int32 → Option (MS)
  | 0 => fun _ _ => none
  | k + 1 => fun M x1 => if 257 ≤ x1 then fX11_begins_22 M else fX11_begins_9 (fX11_begins_2 k) M x1
def fX11_begins_0 (M : MS) : Option (MS) := fX11_begins_2 FU M 0
def fX11_begins (M : MS) : Option (MS) := fX11_begins_0  M
def fX11_ofCat_0 (M : MS) (a1 : Int32) (a2 : Int32) : Option (Int32) := if gIn ((65 + (12 * a1)) + a2) 257 then some (M.2 0 ((65 + (12 * a1)) + a2).toNatClampNeg) else none
def fX11_ofCat (M : MS) (a1 : Int32) (a2 : Int32) : Option (Int32) := fX11_ofCat_0  M a1 a2
def fX11_putsCat_15 (M : MS) : Option (MS) := some M
def fX11_putsCat_0 (M : MS) (a1 : Int32) (a2 : Int32) (a3 : Int32) : Option (MS) := if gIn ((65 + (12 * a1)) + a2) 257 then fX11_putsCat_15 (M.1, va_up M.2 0 (upd (M.2 0) ((65 + (12 * a1)) + a2).toNatClampNeg a3)) else none
def fX11_putsCat (M : MS) (a1 : Int32) (a2 : Int32) (a3 : Int32) : Option (MS) := fX11_putsCat_0  M a1 a2 a3
def fX11_ofSack_0 (M : MS) (a1 : Int32) (a2 : Int32) : Option (Int32) := if gIn ((161 + (12 * a1)) + a2) 257 then some (M.2 0 ((161 + (12 * a1)) + a2).toNatClampNeg) else none
def fX11_ofSack (M : MS) (a1 : Int32) (a2 : Int32) : Option (Int32) := fX11_ofSack_0  M a1 a2
def fX11_putsSack_16 (M : MS) : Option (MS) := some M
def fX11_putsSack_0 (M : MS) (a1 : Int32) (a2 : Int32) (a3 : Int32) : Option (MS) := if gIn ((161 + (12 * a1)) + a2) 257 then fX11_putsSack_16 (M.1, va_up M.2 0 (upd (M.2 0) ((161 + (12 * a1)) + a2).toNatClampNeg a3)) else none
def fX11_putsSack (M : MS) (a1 : Int32) (a2 : Int32) (a3 : Int32) : Option (MS) := fX11_putsSack_0  M a1 a2 a3
def fX11_spells_44 (M : MS) : Option (MS) := some M
def fX11_spells_32 (M : MS) (x1 : Int32) (x5 : Int32) : Option (MS) := if gIn ((x1 + 1) + 3) 257 then fX11_spells_44 (M.1, va_up M.2 0 (upd (M.2 0) ((x1 + 1) + 3).toNatClampNeg x5)) else none
def fX11_spells_20 (M : MS) (x1 : Int32) (x4 : Int32) (x5 : Int32) : Option (MS) := if gIn ((x1 + 1) + 2) 257 then fX11_spells_32 (M.1, va_up M.2 0 (upd (M.2 0) ((x1 + 1) + 2).toNatClampNeg x4)) x1 x5 else none
def fX11_spells_9 (M : MS) (x1 : Int32) (x3 : Int32) (x4 : Int32) (x5 : Int32) : Option (MS) := if gIn ((x1 + 1) + 1) 257 then fX11_spells_20 (M.1, va_up M.2 0 (upd (M.2 0) ((x1 + 1) + 1).toNatClampNeg x3)) x1 x4 x5 else none
def fX11_spells_0 (M : MS) (a1 : Int32) (a2 : Int32) (a3 : Int32) (a4 : Int32) (a5 : Int32) : Option (MS) := if gIn (a1 + 1) 257 then fX11_spells_9 (M.1, va_up M.2 0 (upd (M.2 0) (a1 + 1).toNatClampNeg a2)) a1 a3 a4 a5 else none
def fX11_spells (M : MS) (a1 : Int32) (a2 : Int32) (a3 : Int32) (a4 : Int32) (a5 : Int32) : Option (MS) := fX11_spells_0  M a1 a2 a3 a4 a5
def fX11_addsShift_48 (M : MS) : Option (MS) := some M
def fX11_addsShift_38 (M : MS) : Option (MS) := if gIn 2 257 then if gIn 2 257 then fX11_addsShift_48 (M.1, va_up M.2 0 (upd (M.2 0) (2 : Int32).toNatClampNeg ((M.2 0 (2 : Int32).toNatClampNeg) + 1))) else none else none
def fX11_addsShift_18 (M : MS) (x2 : Int32) : Option (MS) := if gIn 2 257 then if gIn ((233 + (2 * (M.2 0 (2 : Int32).toNatClampNeg))) + 1) 257 then fX11_addsShift_38 (M.1, va_up M.2 0 (upd (M.2 0) ((233 + (2 * (M.2 0 (2 : Int32).toNatClampNeg))) + 1).toNatClampNeg x2)) else none else none
def fX11_addsShift_0 (M : MS) (a1 : Int32) (a2 : Int32) : Option (MS) := if gIn 2 257 then if gIn (233 + (2 * (M.2 0 (2 : Int32).toNatClampNeg))) 257 then fX11_addsShift_18 (M.1, va_up M.2 0 (upd (M.2 0) (233 + (2 * (M.2 0 (2 : Int32).toNatClampNeg))).toNatClampNeg a1)) a2 else none else none
def fX11_addsShift (M : MS) (a1 : Int32) (a2 : Int32) : Option (MS) := fX11_addsShift_0  M a1 a2
def fX11_shiftCat_0 (M : MS) (a1 : Int32) : Option (Int32) := if gIn (233 + (2 * a1)) 257 then some (M.2 0 (233 + (2 * a1)).toNatClampNeg) else none
def fX11_shiftCat (M : MS) (a1 : Int32) : Option (Int32) := fX11_shiftCat_0  M a1
def fX11_shiftHours_0 (M : MS) (a1 : Int32) : Option (Int32) := if gIn ((233 + (2 * a1)) + 1) 257 then some (M.2 0 ((233 + (2 * a1)) + 1).toNatClampNeg) else none
def fX11_shiftHours (M : MS) (a1 : Int32) : Option (Int32) := fX11_shiftHours_0  M a1
def fX11_sumOf_42 (M : MS) (x4 : Int32) : Option (Int32) := some x4
def fX11_sumOf_17 (K6 : MS → Int32 → Int32 → Int32 → Int32 → Int32 → Option (Int32)) (M : MS) (x1 : Int32) (x2 : Int32) (x3 : Int32) (x4 : Int32) (x5 : Int32) : Option (Int32) := if gIn ((x1 + (12 * x5)) + x3) 257 then K6 M x1 x2 x3 (x4 + (M.2 0 ((x1 + (12 * x5)) + x3).toNatClampNeg)) (x5 + 1) else none
def fX11_sumOf_6 : Nat → MS → Int32 → Int32 → Int32 → Int32 → Int32 → Option (Int32)
  | 0 => fun _ _ _ _ _ _ => none
  | k + 1 => fun M x1 x2 x3 x4 x5 => if gIn x2 257 then if (M.2 0 x2.toNatClampNeg) ≤ x5 then fX11_sumOf_42 M x4 else fX11_sumOf_17 (fX11_sumOf_6 k) M x1 x2 x3 x4 x5 else none
def fX11_sumOf_0 (M : MS) (a1 : Int32) (a2 : Int32) (a3 : Int32) : Option (Int32) := fX11_sumOf_6 FU M a1 a2 a3 0 0
def fX11_sumOf (M : MS) (a1 : Int32) (a2 : Int32) (a3 : Int32) : Option (Int32) := fX11_sumOf_0  M a1 a2 a3
def fX11_logs_116 (M : MS) : Option (MS) := some M
def fX11_logs_108 (M : MS) (x3 : Int32) : Option (MS) := if gIn 19 257 then fX11_logs_116 (M.1, va_up M.2 0 (upd (M.2 0) (19 : Int32).toNatClampNeg x3)) else none
def fX11_logs_100 (M : MS) (x2 : Int32) (x3 : Int32) : Option (MS) := if gIn 18 257 then fX11_logs_108 (M.1, va_up M.2 0 (upd (M.2 0) (18 : Int32).toNatClampNeg x2)) x3 else none
def fX11_logs_92 (M : MS) (x1 : Int32) (x2 : Int32) (x3 : Int32) : Option (MS) := if gIn 17 257 then fX11_logs_100 (M.1, va_up M.2 0 (upd (M.2 0) (17 : Int32).toNatClampNeg x1)) x2 x3 else none
def fX11_logs_86 (K34 : MS → Int32 → Int32 → Int32 → Int32 → Option (MS)) (M : MS) (x1 : Int32) (x2 : Int32) (x3 : Int32) (x4 : Int32) : Option (MS) := K34 M x1 x2 x3 (x4 + (-1))
def fX11_logs_80 (K34 : MS → Int32 → Int32 → Int32 → Int32 → Option (MS)) (K42 : MS → Int32 → Int32 → Int32 → Int32 → Int32 → Option (MS)) (M : MS) (x1 : Int32) (x2 : Int32) (x3 : Int32) (x4 : Int32) (x5 : Int32) : Option (MS) := K42 M x1 x2 x3 x4 (x5 + 1)
def fX11_logs_48 (K34 : MS → Int32 → Int32 → Int32 → Int32 → Option (MS)) (K42 : MS → Int32 → Int32 → Int32 → Int32 → Int32 → Option (MS)) (M : MS) (x1 : Int32) (x2 : Int32) (x3 : Int32) (x4 : Int32) (x5 : Int32) : Option (MS) := if gIn (((17 + (3 * x4)) - 3) + x5) 257 then if gIn ((17 + (3 * x4)) + x5) 257 then fX11_logs_80 K34 K42 (M.1, va_up M.2 0 (upd (M.2 0) ((17 + (3 * x4)) + x5).toNatClampNeg (M.2 0 (((17 + (3 * x4)) - 3) + x5).toNatClampNeg))) x1 x2 x3 x4 x5 else none else none
def fX11_logs_42 (K34 : MS → Int32 → Int32 → Int32 → Int32 → Option (MS)) : Nat → MS → Int32 → Int32 → Int32 → Int32 → Int32 → Option (MS)
  | 0 => fun _ _ _ _ _ _ => none
  | k + 1 => fun M x1 x2 x3 x4 x5 => if 3 ≤ x5 then fX11_logs_86 K34 M x1 x2 x3 x4 else fX11_logs_48 K34 (fX11_logs_42 K34 k) M x1 x2 x3 x4 x5
def fX11_logs_39 (K34 : MS → Int32 → Int32 → Int32 → Int32 → Option (MS)) (M : MS) (x1 : Int32) (x2 : Int32) (x3 : Int32) (x4 : Int32) : Option (MS) := fX11_logs_42 K34 FU M x1 x2 x3 x4 0
def fX11_logs_34 : Nat → MS → Int32 → Int32 → Int32 → Int32 → Option (MS)
  | 0 => fun _ _ _ _ _ => none
  | k + 1 => fun M x1 x2 x3 x4 => if x4 ≤ 0 then fX11_logs_92 M x1 x2 x3 else fX11_logs_39 (fX11_logs_34 k) M x1 x2 x3 x4
def fX11_logs_23 (M : MS) (x1 : Int32) (x2 : Int32) (x3 : Int32) : Option (MS) := if gIn 16 257 then fX11_logs_34 FU M x1 x2 x3 ((M.2 0 (16 : Int32).toNatClampNeg) - 1) else none
def fX11_logs_12 (M : MS) (x1 : Int32) (x2 : Int32) (x3 : Int32) : Option (MS) := if gIn 16 257 then if gIn 16 257 then fX11_logs_23 (M.1, va_up M.2 0 (upd (M.2 0) (16 : Int32).toNatClampNeg ((M.2 0 (16 : Int32).toNatClampNeg) + 1))) x1 x2 x3 else none else none
def fX11_logs_0 (M : MS) (a1 : Int32) (a2 : Int32) (a3 : Int32) : Option (MS) := if gIn 16 257 then if 16 ≤ (M.2 0 (16 : Int32).toNatClampNeg) then fX11_logs_23 M a1 a2 a3 else fX11_logs_12 M a1 a2 a3 else none
def fX11_logs (M : MS) (a1 : Int32) (a2 : Int32) (a3 : Int32) : Option (MS) := fX11_logs_0  M a1 a2 a3
def fX11_sets_14 (M : MS) (x3 : Int32) : Option (Int32 × MS) := some (x3, M)
def fX11_sets_0 (M : MS) (a1 : Int32) (a2 : Int32) : Option (Int32 × MS) := if gIn a1 257 then if gIn a1 257 then fX11_sets_14 (M.1, va_up M.2 0 (upd (M.2 0) a1.toNatClampNeg a2)) (M.2 0 a1.toNatClampNeg) else none else none
def fX11_sets (M : MS) (a1 : Int32) (a2 : Int32) : Option (Int32 × MS) := fX11_sets_0  M a1 a2
def fX11_appendWord_39 (M : MS) : Option (MS) := some M
def fX11_appendWord_33 (K3 : MS → Int32 → Int32 → Option (MS)) (M : MS) (x1 : Int32) (x2 : Int32) : Option (MS) := K3 M x1 (x2 + (-8))
def fX11_appendWord_23 (K3 : MS → Int32 → Int32 → Option (MS)) (M : MS) (x1 : Int32) (x2 : Int32) : Option (MS) := fX11_appendWord_33 K3 (va_up M.1 9 ((M.1 9) + 1), M.2) x1 x2
def fX11_appendWord_7 (K3 : MS → Int32 → Int32 → Option (MS)) (M : MS) (x1 : Int32) (x2 : Int32) : Option (MS) := if gIn (M.1 9) 600 then fX11_appendWord_23 K3 (M.1, va_up M.2 8 (upd (M.2 8) (M.1 9).toNatClampNeg ((x1 >>> (x2 &&& 31)) &&& 255))) x1 x2 else none
def fX11_appendWord_3 : Nat → MS → Int32 → Int32 → Option (MS)
  | 0 => fun _ _ _ => none
  | k + 1 => fun M x1 x2 => if x2 < 0 then fX11_appendWord_39 M else fX11_appendWord_7 (fX11_appendWord_3 k) M x1 x2
def fX11_appendWord_0 (M : MS) (a1 : Int32) : Option (MS) := fX11_appendWord_3 FU M a1 24
def fX11_appendWord (M : MS) (a1 : Int32) : Option (MS) := fX11_appendWord_0  M a1
def fX11_byteAt_18 (M : MS) (s0 : Int32) : Option (Int32) := some s0
def fX11_byteAt_17 (M : MS) : Option (Int32) := fX11_byteAt_18 M (-1)
def fX11_byteAt_8 (M : MS) (x1 : Int32) : Option (Int32) := if gIn x1 600 then fX11_byteAt_18 M (M.2 8 x1.toNatClampNeg) else none
def fX11_byteAt_0 (M : MS) (a1 : Int32) : Option (Int32) := if (M.1 9) ≤ a1 then fX11_byteAt_17 M else fX11_byteAt_8 M a1
def fX11_byteAt (M : MS) (a1 : Int32) : Option (Int32) := fX11_byteAt_0  M a1
def fX11_failsAt_20 (M : MS) : Option (Int32 × MS) := some (0, M)
def fX11_failsAt_12 (M : MS) : Option (Int32 × MS) := fX11_failsAt_20 (va_up M.1 13 (M.1 15), M.2)
def fX11_failsAt_7 (M : MS) (x1 : Int32) : Option (Int32 × MS) := fX11_failsAt_12 (va_up M.1 12 x1, M.2)
def fX11_failsAt_0 (M : MS) (a1 : Int32) : Option (Int32 × MS) := if (M.1 12) = 0 then fX11_failsAt_7 M a1 else fX11_failsAt_20 M
def fX11_failsAt (M : MS) (a1 : Int32) : Option (Int32 × MS) := bz (fX11_failsAt_0  M a1)
def fX11_isNameAt_69 (M : MS) : Option (Int32) := some 1
def fX11_isNameAt_63 (K24 : MS → Int32 → Int32 → Option (Int32)) (M : MS) (x1 : Int32) (x2 : Int32) : Option (Int32) := K24 M x1 (x2 + 1)
def fX11_isNameAt_61 (M : MS) : Option (Int32) := some 0
def fX11_isNameAt_37 (K24 : MS → Int32 → Int32 → Option (Int32)) (M : MS) (x1 : Int32) (x2 : Int32) : Option (Int32) := if gIn ((x1 + 1) + x2) 257 then if gIn ((M.1 15) + x2) 600 then if (M.2 0 ((x1 + 1) + x2).toNatClampNeg) = (M.2 8 ((M.1 15) + x2).toNatClampNeg) then fX11_isNameAt_63 K24 M x1 x2 else fX11_isNameAt_61 M else none else none
def fX11_isNameAt_24 : Nat → MS → Int32 → Int32 → Option (Int32)
  | 0 => fun _ _ _ => none
  | k + 1 => fun M x1 x2 => if ((M.1 14) - (M.1 15)) ≤ x2 then fX11_isNameAt_69 M else fX11_isNameAt_37 (fX11_isNameAt_24 k) M x1 x2
def fX11_isNameAt_22 (M : MS) (x1 : Int32) : Option (Int32) := fX11_isNameAt_24 FU M x1 0
def fX11_isNameAt_20 (M : MS) : Option (Int32) := some 0
def fX11_isNameAt_0 (M : MS) (a1 : Int32) : Option (Int32) := if gIn (a1 + 0) 257 then if (M.2 0 (a1 + 0).toNatClampNeg) = ((M.1 14) - (M.1 15)) then fX11_isNameAt_22 M a1 else fX11_isNameAt_20 M else none
def fX11_isNameAt (M : MS) (a1 : Int32) : Option (Int32) := bq (fX11_isNameAt_0  M a1)
def fX11_endsText_21 (M : MS) : Option (MS) := some M
def fX11_endsText_13 (M : MS) : Option (MS) := fX11_endsText_21 (va_up M.1 11 (M.1 13), M.2)
def fX11_endsText_5 (M : MS) : Option (MS) := fX11_endsText_13 (va_up M.1 10 (M.1 12), M.2)
def fX11_endsText_0 (M : MS) : Option (MS) := fX11_endsText_5 (va_up M.1 9 0, M.2)
def fX11_endsText (M : MS) : Option (MS) := fX11_endsText_0  M
def fX11_errorCode_5 (M : MS) : Option (Int32 × MS) := some ((M.1 10), M)
def fX11_errorCode_0 (M : MS) : Option (Int32 × MS) := fX11_errorCode_5 (va_up M.1 7 0, M.2)
def fX11_errorCode (M : MS) : Option (Int32 × MS) := fX11_errorCode_0  M
def fX11_errorOffset_5 (M : MS) : Option (Int32 × MS) := some ((M.1 11), M)
def fX11_errorOffset_0 (M : MS) : Option (Int32 × MS) := fX11_errorOffset_5 (va_up M.1 7 0, M.2)
def fX11_errorOffset (M : MS) : Option (Int32 × MS) := fX11_errorOffset_0  M
def fX11_clock_5 (M : MS) : Option (Int32 × MS) := if gIn 3 257 then some ((M.2 0 (3 : Int32).toNatClampNeg), M) else none
def fX11_clock_0 (M : MS) : Option (Int32 × MS) := fX11_clock_5 (va_up M.1 7 0, M.2)
def fX11_clock (M : MS) : Option (Int32 × MS) := fX11_clock_0  M
def fX11_catCount_5 (M : MS) : Option (Int32 × MS) := if gIn 0 257 then some ((M.2 0 (0 : Int32).toNatClampNeg), M) else none
def fX11_catCount_0 (M : MS) : Option (Int32 × MS) := fX11_catCount_5 (va_up M.1 7 0, M.2)
def fX11_catCount (M : MS) : Option (Int32 × MS) := fX11_catCount_0  M
def fX11_sackCount_5 (M : MS) : Option (Int32 × MS) := if gIn 1 257 then some ((M.2 0 (1 : Int32).toNatClampNeg), M) else none
def fX11_sackCount_0 (M : MS) : Option (Int32 × MS) := fX11_sackCount_5 (va_up M.1 7 0, M.2)
def fX11_sackCount (M : MS) : Option (Int32 × MS) := fX11_sackCount_0  M
def fX11_shiftCount_5 (M : MS) : Option (Int32 × MS) := if gIn 2 257 then some ((M.2 0 (2 : Int32).toNatClampNeg), M) else none
def fX11_shiftCount_0 (M : MS) : Option (Int32 × MS) := fX11_shiftCount_5 (va_up M.1 7 0, M.2)
def fX11_shiftCount (M : MS) : Option (Int32 × MS) := fX11_shiftCount_0  M
def fX11_swornCat_5 (M : MS) : Option (Int32 × MS) := if gIn 5 257 then some ((M.2 0 (5 : Int32).toNatClampNeg), M) else none
def fX11_swornCat_0 (M : MS) : Option (Int32 × MS) := fX11_swornCat_5 (va_up M.1 7 0, M.2)
def fX11_swornCat (M : MS) : Option (Int32 × MS) := fX11_swornCat_0  M
def fX11_currentShift_5 (M : MS) : Option (Int32 × MS) := if gIn 6 257 then some ((M.2 0 (6 : Int32).toNatClampNeg), M) else none
def fX11_currentShift_0 (M : MS) : Option (Int32 × MS) := fX11_currentShift_5 (va_up M.1 7 0, M.2)
def fX11_currentShift (M : MS) : Option (Int32 × MS) := fX11_currentShift_0  M
def fX11_hoursLeft_5 (M : MS) : Option (Int32 × MS) := if gIn 7 257 then some ((M.2 0 (7 : Int32).toNatClampNeg), M) else none
def fX11_hoursLeft_0 (M : MS) : Option (Int32 × MS) := fX11_hoursLeft_5 (va_up M.1 7 0, M.2)
def fX11_hoursLeft (M : MS) : Option (Int32 × MS) := fX11_hoursLeft_0  M
def fX11_eventCount_5 (M : MS) : Option (Int32 × MS) := if gIn 16 257 then some ((M.2 0 (16 : Int32).toNatClampNeg), M) else none
def fX11_eventCount_0 (M : MS) : Option (Int32 × MS) := fX11_eventCount_5 (va_up M.1 7 0, M.2)
def fX11_eventCount (M : MS) : Option (Int32 × MS) := fX11_eventCount_0  M
def fX11_milk_5 (M : MS) : Option (Int32 × MS) := if gIn 4 257 then some ((M.2 0 (4 : Int32).toNatClampNeg), M) else none
def fX11_milk_0 (M : MS) : Option (Int32 × MS) := fX11_milk_5 (va_up M.1 7 0, M.2)
def fX11_milk (M : MS) : Option (Int32 × MS) := fX11_milk_0  M
def fX11_totalCaught_5 (M : MS) : Option (Int32 × MS) := if gIn 8 257 then some ((M.2 0 (8 : Int32).toNatClampNeg), M) else none
def fX11_totalCaught_0 (M : MS) : Option (Int32 × MS) := fX11_totalCaught_5 (va_up M.1 7 0, M.2)
def fX11_totalCaught (M : MS) : Option (Int32 × MS) := fX11_totalCaught_0  M
def fX11_totalEaten_5 (M : MS) : Option (Int32 × MS) := if gIn 9 257 then some ((M.2 0 (9 : Int32).toNatClampNeg), M) else none
def fX11_totalEaten_0 (M : MS) : Option (Int32 × MS) := fX11_totalEaten_5 (va_up M.1 7 0, M.2)
def fX11_totalEaten (M : MS) : Option (Int32 × MS) := fX11_totalEaten_0  M
def fX11_totalBorn_5 (M : MS) : Option (Int32 × MS) := if gIn 10 257 then some ((M.2 0 (10 : Int32).toNatClampNeg), M) else none
def fX11_totalBorn_0 (M : MS) : Option (Int32 × MS) := fX11_totalBorn_5 (va_up M.1 7 0, M.2)
def fX11_totalBorn (M : MS) : Option (Int32 × MS) := fX11_totalBorn_0  M
def fX11_totalStarved_5 (M : MS) : Option (Int32 × MS) := if gIn 11 257 then some ((M.2 0 (11 : Int32).toNatClampNeg), M) else none
def fX11_totalStarved_0 (M : MS) : Option (Int32 × MS) := fX11_totalStarved_5 (va_up M.1 7 0, M.2)
def fX11_totalStarved (M : MS) : Option (Int32 × MS) := fX11_totalStarved_0  M
def fX11_totalOaths_5 (M : MS) : Option (Int32 × MS) := if gIn 12 257 then some ((M.2 0 (12 : Int32).toNatClampNeg), M) else none
def fX11_totalOaths_0 (M : MS) : Option (Int32 × MS) := fX11_totalOaths_5 (va_up M.1 7 0, M.2)
def fX11_totalOaths (M : MS) : Option (Int32 × MS) := fX11_totalOaths_0  M
def fX11_totalRefusals_5 (M : MS) : Option (Int32 × MS) := if gIn 13 257 then some ((M.2 0 (13 : Int32).toNatClampNeg), M) else none
def fX11_totalRefusals_0 (M : MS) : Option (Int32 × MS) := fX11_totalRefusals_5 (va_up M.1 7 0, M.2)
def fX11_totalRefusals (M : MS) : Option (Int32 × MS) := fX11_totalRefusals_0  M
def fX11_hourOfDay_5 (M : MS) : Option (Int32 × MS) := if gIn 3 257 then some (((M.2 0 (3 : Int32).toNatClampNeg) - (M.2 0 (3 : Int32).toNatClampNeg) / 24 * 24), M) else none
def fX11_hourOfDay_0 (M : MS) : Option (Int32 × MS) := fX11_hourOfDay_5 (va_up M.1 7 0, M.2)
def fX11_hourOfDay (M : MS) : Option (Int32 × MS) := fX11_hourOfDay_0  M
def fX11_write_20 (M : MS) : Option (MS) := some M
def fX11_write_10 (M : MS) : Option (MS) := fX11_write_20 (va_up M.1 24 ((M.1 24) + 1), M.2)
def fX11_write_0 (M : MS) (a1 : Int32) : Option (MS) := if gIn (M.1 24) 200 then fX11_write_10 (M.1, va_up M.2 23 (upd (M.2 23) (M.1 24).toNatClampNeg a1)) else none
def fX11_write (M : MS) (a1 : Int32) : Option (MS) := fX11_write_0  M a1
def fX11_addsCat_44 (M : MS) : Option (MS) := some M
def fX11_addsCat_34 (M : MS) : Option (MS) := if gIn 0 257 then if gIn 0 257 then fX11_addsCat_44 (M.1, va_up M.2 0 (upd (M.2 0) (0 : Int32).toNatClampNeg ((M.2 0 (0 : Int32).toNatClampNeg) + 1))) else none else none
def fX11_addsCat_25 (M : MS) (x3 : Int32) (x4 : Int32) : Option (MS) := (fX11_putsCat M x4 8 x3).bind fun q => fX11_addsCat_34 q
def fX11_addsCat_16 (M : MS) (x2 : Int32) (x3 : Int32) (x4 : Int32) : Option (MS) := (fX11_putsCat M x4 7 x2).bind fun q => fX11_addsCat_25 q x3 x4
def fX11_addsCat_0 (M : MS) (a1 : Int32) (a2 : Int32) (a3 : Int32) : Option (MS) := if gIn 0 257 then (fX11_putsCat M (M.2 0 (0 : Int32).toNatClampNeg) 0 a1).bind fun q => fX11_addsCat_16 q a2 a3 (M.2 0 (0 : Int32).toNatClampNeg) else none
def fX11_addsCat (M : MS) (a1 : Int32) (a2 : Int32) (a3 : Int32) : Option (MS) := fX11_addsCat_0  M a1 a2 a3
def fX11_addsSack_54 (M : MS) : Option (MS) := some M
def fX11_addsSack_44 (M : MS) : Option (MS) := if gIn 1 257 then if gIn 1 257 then fX11_addsSack_54 (M.1, va_up M.2 0 (upd (M.2 0) (1 : Int32).toNatClampNeg ((M.2 0 (1 : Int32).toNatClampNeg) + 1))) else none else none
def fX11_addsSack_34 (M : MS) (x4 : Int32) (x5 : Int32) : Option (MS) := (fX11_putsSack M x5 9 x4).bind fun q => fX11_addsSack_44 q
def fX11_addsSack_25 (M : MS) (x3 : Int32) (x4 : Int32) (x5 : Int32) : Option (MS) := (fX11_putsSack M x5 8 x3).bind fun q => fX11_addsSack_34 q x4 x5
def fX11_addsSack_16 (M : MS) (x2 : Int32) (x3 : Int32) (x4 : Int32) (x5 : Int32) : Option (MS) := (fX11_putsSack M x5 7 x2).bind fun q => fX11_addsSack_25 q x3 x4 x5
def fX11_addsSack_0 (M : MS) (a1 : Int32) (a2 : Int32) (a3 : Int32) (a4 : Int32) : Option (MS) := if gIn 1 257 then (fX11_putsSack M (M.2 0 (1 : Int32).toNatClampNeg) 0 a1).bind fun q => fX11_addsSack_16 q a2 a3 a4 (M.2 0 (1 : Int32).toNatClampNeg) else none
def fX11_addsSack (M : MS) (a1 : Int32) (a2 : Int32) (a3 : Int32) (a4 : Int32) : Option (MS) := fX11_addsSack_0  M a1 a2 a3 a4
def fX11_swearsIn_34 (M : MS) : Option (MS) := some M
def fX11_swearsIn_29 (M : MS) (s0 : Int32) (s1 : Int32) (s2 : Int32) : Option (MS) := (fX11_putsCat M s2 s1 (s0 + 1)).bind fun q => fX11_swearsIn_34 q
def fX11_swearsIn_18 (M : MS) (x1 : Int32) : Option (MS) := (fX11_ofCat M x1 11).bind fun q => fX11_swearsIn_29 M q 11 x1
def fX11_swearsIn_7 (M : MS) (x1 : Int32) : Option (MS) := if gIn 12 257 then if gIn 12 257 then fX11_swearsIn_18 (M.1, va_up M.2 0 (upd (M.2 0) (12 : Int32).toNatClampNeg ((M.2 0 (12 : Int32).toNatClampNeg) + 1))) x1 else none else none
def fX11_swearsIn_0 (M : MS) (a1 : Int32) : Option (MS) := if gIn 5 257 then fX11_swearsIn_7 (M.1, va_up M.2 0 (upd (M.2 0) (5 : Int32).toNatClampNeg a1)) a1 else none
def fX11_swearsIn (M : MS) (a1 : Int32) : Option (MS) := fX11_swearsIn_0  M a1
def fX11_strength_15 (M : MS) (s0 : Int32) (s1 : Int32) (s2 : Int32) : Option (Int32) := some (if s2 < (s1 - (s0 / 4)) then (s1 - (s0 / 4)) else s2)
def fX11_strength_8 (M : MS) (x1 : Int32) (s0 : Int32) (s1 : Int32) : Option (Int32) := (fX11_ofCat M x1 9).bind fun q => fX11_strength_15 M q s0 s1
def fX11_strength_0 (M : MS) (a1 : Int32) : Option (Int32) := (fX11_ofCat M a1 7).bind fun q => fX11_strength_8 M a1 q 0
def fX11_strength (M : MS) (a1 : Int32) : Option (Int32) := fX11_strength_0  M a1
def fX11_isAble_17 (M : MS) (s0 : Int32) : Option (Int32) := some s0
def fX11_isAble_16 (M : MS) : Option (Int32) := fX11_isAble_17 M 0
def fX11_isAble_12 (M : MS) : Option (Int32) := fX11_isAble_17 M 1
def fX11_isAble_7 (M : MS) (s0 : Int32) : Option (Int32) := if 12 ≤ s0 then fX11_isAble_16 M else fX11_isAble_12 M
def fX11_isAble_0 (M : MS) (a1 : Int32) : Option (Int32) := (fX11_ofCat M a1 9).bind fun q => fX11_isAble_7 M q
def fX11_isAble (M : MS) (a1 : Int32) : Option (Int32) := bq (fX11_isAble_0  M a1)
def fX11_isPawRight_37 (M : MS) (s0 : Int32) : Option (Int32) := some s0
def fX11_isPawRight_32 (M : MS) : Option (Int32) := fX11_isPawRight_37 M 1
def fX11_isPawRight_36 (M : MS) : Option (Int32) := fX11_isPawRight_37 M 0
def fX11_isPawRight_29 (M : MS) (s0 : Int32) (s1 : Int32) : Option (Int32) := if s1 = s0 then fX11_isPawRight_36 M else fX11_isPawRight_32 M
def fX11_isPawRight_17 (M : MS) (s0 : Int32) : Option (Int32) := if gIn 5 257 then (fX11_ofCat M (M.2 0 (5 : Int32).toNatClampNeg) 8).bind fun q => fX11_isPawRight_29 M q s0 else none
def fX11_isPawRight_10 (M : MS) (x1 : Int32) : Option (Int32) := (fX11_ofCat M x1 8).bind fun q => fX11_isPawRight_17 M q
def fX11_isPawRight_0 (M : MS) (a1 : Int32) : Option (Int32) := if gIn 5 257 then if a1 = (M.2 0 (5 : Int32).toNatClampNeg) then fX11_isPawRight_32 M else fX11_isPawRight_10 M a1 else none
def fX11_isPawRight (M : MS) (a1 : Int32) : Option (Int32) := bq (fX11_isPawRight_0  M a1)
set_option maxRecDepth 10000 in
theorem kX11_thrown_0 {r : Int32} {M : MS} (X : gX p s m args c cX11_thrown 1 RX11 (kR kTab kA)) (hret : gRetR p l e (rmL 1 0 0) s m args below meth c cX11_thrown Q r) (hf : fX11_thrown_0 M = some r) {ls : Array Slot} (hP : (mP dC dI cI kA ad) M s s.heap) (hl : lv_has ls 1 [(0, .ref (ad 25))]) : W p l e (rmL 1 0 0) s m args below meth c s.heap [] 0 0 Q (F0 m 0 ls []) := by
  have hx := X.hx
  have hb := X.hb
  have hown := X.hown
  have hts := X.hts
  rw [fX11_thrown_0] at hf
  refine lv_aload_n hx hb dX11_thrown_0 rfl (lv_at hl 0 rfl) ?_
  refine mr_get (k := 7) X hP (by decide) rfl rfl tw1672 dX11_thrown_1 ?_
  cases hf
  exact hret _ _ dX11_thrown_4
theorem vX11_thrown {l : Launch} {dC : Nat → ClassId} {dI : Nat → Nat → Nat} {cI : ClassId} {kA : String → Nat → Nat} {ad : Nat → Nat} {M : MS} {r : Int32} (hf : fX11_thrown M  = some r) : gMetR l yX11_thrown cX11_thrown 1 (some .int) 1 (gB (mP dC dI cI kA ad) (kR kTab kA) M) [.ref (ad 25)] r := gEntryR (ty := .int) (by decide) rfl rfl (Nat.le_of_ble_eq_true rfl) (fun _ h => h.2) (fun p e s m args below meth c Q ls X hB hret hl => 
  kX11_thrown_0 X hret hf hB.1 (lv_sub hl [0] rfl))
set_option maxRecDepth 10000 in
theorem kX11_inRange_15 {r : Int32} {M : MS} {s0 : Int32} (X : gX p s m args c cX11_inRange 3 RX11 (kR kTab kA)) (hret : gRetR p l e (rmL 1 0 0) s m args below meth c cX11_inRange Q r) (hf : fX11_inRange_15 M s0 = some r) {ls : Array Slot} (hP : (mP dC dI cI kA ad) M s s.heap) (hl : lv_has ls 3 []) : W p l e (rmL 1 0 0) s m args below meth c s.heap [] 0 0 Q (F0 m 15 ls [.int s0]) := by
  have hx := X.hx
  have hb := X.hb
  have hown := X.hown
  have hts := X.hts
  rw [fX11_inRange_15] at hf
  cases hf
  exact hret _ _ dX11_inRange_15
set_option maxRecDepth 10000 in
theorem kX11_inRange_14 {r : Int32} {M : MS} (X : gX p s m args c cX11_inRange 3 RX11 (kR kTab kA)) (hret : gRetR p l e (rmL 1 0 0) s m args below meth c cX11_inRange Q r) (hf : fX11_inRange_14 M = some r) {ls : Array Slot} (hP : (mP dC dI cI kA ad) M s s.heap) (hl : lv_has ls 3 []) : W p l e (rmL 1 0 0) s m args below meth c s.heap [] 0 0 Q (F0 m 14 ls []) := by
  have hx := X.hx
  have hb := X.hb
  have hown := X.hown
  have hts := X.hts
  rw [fX11_inRange_14] at hf
  refine lv_iconst (v := 0) hx hb dX11_inRange_14 (by decide) ?_
  exact kX11_inRange_15 X hret hf hP (lv_sub hl [] rfl)
set_option maxRecDepth 10000 in
theorem kX11_inRange_10 {r : Int32} {M : MS} (X : gX p s m args c cX11_inRange 3 RX11 (kR kTab kA)) (hret : gRetR p l e (rmL 1 0 0) s m args below meth c cX11_inRange Q r) (hf : fX11_inRange_10 M = some r) {ls : Array Slot} (hP : (mP dC dI cI kA ad) M s s.heap) (hl : lv_has ls 3 []) : W p l e (rmL 1 0 0) s m args below meth c s.heap [] 0 0 Q (F0 m 10 ls []) := by
  have hx := X.hx
  have hb := X.hb
  have hown := X.hown
  have hts := X.hts
  rw [fX11_inRange_10] at hf
  refine lv_iconst (v := 1) hx hb dX11_inRange_10 (by decide) ?_
  refine lv_goto (tgt := 15) hx hb dX11_inRange_11 (by decide) ?_
  exact kX11_inRange_15 X hret hf hP (lv_sub hl [] rfl)
set_option maxRecDepth 10000 in
theorem kX11_inRange_5 {r : Int32} {M : MS} {x0 : Int32} {x2 : Int32} (X : gX p s m args c cX11_inRange 3 RX11 (kR kTab kA)) (hret : gRetR p l e (rmL 1 0 0) s m args below meth c cX11_inRange Q r) (hf : fX11_inRange_5 M x0 x2 = some r) {ls : Array Slot} (hP : (mP dC dI cI kA ad) M s s.heap) (hl : lv_has ls 3 [(0, .int x0), (2, .int x2)]) : W p l e (rmL 1 0 0) s m args below meth c s.heap [] 0 0 Q (F0 m 5 ls []) := by
  have hx := X.hx
  have hb := X.hb
  have hown := X.hown
  have hts := X.hts
  rw [fX11_inRange_5] at hf
  refine lv_iload_n hx hb dX11_inRange_5 rfl (lv_at hl 0 rfl) ?_
  refine lv_iload_n hx hb dX11_inRange_6 rfl (lv_at hl 1 rfl) ?_
  refine lv_icmp_gt (tgt := 14) hx hb dX11_inRange_7 (by decide) (fun c1 => ?_) (fun c1 => ?_)
  · exact kX11_inRange_14 X hret (ifp c1 hf) hP (lv_sub hl [] rfl)
  · exact kX11_inRange_10 X hret (ifn c1 hf) hP (lv_sub hl [] rfl)
set_option maxRecDepth 10000 in
theorem kX11_inRange_0 {r : Int32} {M : MS} {a1 : Int32} {a2 : Int32} {a3 : Int32} (X : gX p s m args c cX11_inRange 3 RX11 (kR kTab kA)) (hret : gRetR p l e (rmL 1 0 0) s m args below meth c cX11_inRange Q r) (hf : fX11_inRange_0 M a1 a2 a3 = some r) {ls : Array Slot} (hP : (mP dC dI cI kA ad) M s s.heap) (hl : lv_has ls 3 [(0, .int a1), (1, .int a2), (2, .int a3)]) : W p l e (rmL 1 0 0) s m args below meth c s.heap [] 0 0 Q (F0 m 0 ls []) := by
  have hx := X.hx
  have hb := X.hb
  have hown := X.hown
  have hts := X.hts
  rw [fX11_inRange_0] at hf
  refine lv_iload_n hx hb dX11_inRange_0 rfl (lv_at hl 0 rfl) ?_
  refine lv_iload_n hx hb dX11_inRange_1 rfl (lv_at hl 1 rfl) ?_
  refine lv_icmp_lt (tgt := 14) hx hb dX11_inRange_2 (by decide) (fun c1 => ?_) (fun c1 => ?_)
  · exact kX11_inRange_14 X hret (ifp c1 hf) hP (lv_sub hl [] rfl)
  · exact kX11_inRange_5 X hret (ifn c1 hf) hP (lv_sub hl [0, 2] rfl)
theorem vX11_inRange {l : Launch} {dC : Nat → ClassId} {dI : Nat → Nat → Nat} {cI : ClassId} {kA : String → Nat → Nat} {ad : Nat → Nat} {M : MS} {r : Int32} {a1 : Int32} {a2 : Int32} {a3 : Int32} (hf : fX11_inRange M a1 a2 a3 = some r) : gMetR l yX11_inRange cX11_inRange 3 (some .boolean) 1 (gB (mP dC dI cI kA ad) (kR kTab kA) M) [.int a1, .int a2, .int a3] r := gEntryR (ty := .boolean) (by decide) rfl (bq_n hf) (Nat.le_of_ble_eq_true rfl) (fun _ h => h.2) (fun p e s m args below meth c Q ls X hB hret hl => 
  kX11_inRange_0 X hret (bq_f hf) hB.1 (lv_sub hl [0, 1, 2] rfl))
set_option maxRecDepth 10000 in
theorem kX11_one_9 {r : Int32} {M : MS} {s0 : Int32} (X : gX p s m args c cX11_one 1 RX11 (kR kTab kA)) (hret : gRetR p l e (rmL 1 0 0) s m args below meth c cX11_one Q r) (hf : fX11_one_9 M s0 = some r) {ls : Array Slot} (hP : (mP dC dI cI kA ad) M s s.heap) (hl : lv_has ls 1 []) : W p l e (rmL 1 0 0) s m args below meth c s.heap [] 0 0 Q (F0 m 9 ls [.int s0]) := by
  have hx := X.hx
  have hb := X.hb
  have hown := X.hown
  have hts := X.hts
  rw [fX11_one_9] at hf
  cases hf
  exact hret _ _ dX11_one_9
set_option maxRecDepth 10000 in
theorem kX11_one_8 {r : Int32} {M : MS} (X : gX p s m args c cX11_one 1 RX11 (kR kTab kA)) (hret : gRetR p l e (rmL 1 0 0) s m args below meth c cX11_one Q r) (hf : fX11_one_8 M = some r) {ls : Array Slot} (hP : (mP dC dI cI kA ad) M s s.heap) (hl : lv_has ls 1 []) : W p l e (rmL 1 0 0) s m args below meth c s.heap [] 0 0 Q (F0 m 8 ls []) := by
  have hx := X.hx
  have hb := X.hb
  have hown := X.hown
  have hts := X.hts
  rw [fX11_one_8] at hf
  refine lv_iconst (v := 0) hx hb dX11_one_8 (by decide) ?_
  exact kX11_one_9 X hret hf hP (lv_sub hl [] rfl)
set_option maxRecDepth 10000 in
theorem kX11_one_4 {r : Int32} {M : MS} (X : gX p s m args c cX11_one 1 RX11 (kR kTab kA)) (hret : gRetR p l e (rmL 1 0 0) s m args below meth c cX11_one Q r) (hf : fX11_one_4 M = some r) {ls : Array Slot} (hP : (mP dC dI cI kA ad) M s s.heap) (hl : lv_has ls 1 []) : W p l e (rmL 1 0 0) s m args below meth c s.heap [] 0 0 Q (F0 m 4 ls []) := by
  have hx := X.hx
  have hb := X.hb
  have hown := X.hown
  have hts := X.hts
  rw [fX11_one_4] at hf
  refine lv_iconst (v := 1) hx hb dX11_one_4 (by decide) ?_
  refine lv_goto (tgt := 9) hx hb dX11_one_5 (by decide) ?_
  exact kX11_one_9 X hret hf hP (lv_sub hl [] rfl)
set_option maxRecDepth 10000 in
theorem kX11_one_0 {r : Int32} {M : MS} {a1 : Int32} (X : gX p s m args c cX11_one 1 RX11 (kR kTab kA)) (hret : gRetR p l e (rmL 1 0 0) s m args below meth c cX11_one Q r) (hf : fX11_one_0 M a1 = some r) {ls : Array Slot} (hP : (mP dC dI cI kA ad) M s s.heap) (hl : lv_has ls 1 [(0, .int a1)]) : W p l e (rmL 1 0 0) s m args below meth c s.heap [] 0 0 Q (F0 m 0 ls []) := by
  have hx := X.hx
  have hb := X.hb
  have hown := X.hown
  have hts := X.hts
  rw [fX11_one_0] at hf
  refine lv_iload_n hx hb dX11_one_0 rfl (lv_at hl 0 rfl) ?_
  refine lv_if_eq (tgt := 8) hx hb dX11_one_1 (by decide) (fun c1 => ?_) (fun c1 => ?_)
  · exact kX11_one_8 X hret (ifp c1 hf) hP (lv_sub hl [] rfl)
  · exact kX11_one_4 X hret (ifn c1 hf) hP (lv_sub hl [] rfl)
theorem vX11_one {l : Launch} {dC : Nat → ClassId} {dI : Nat → Nat → Nat} {cI : ClassId} {kA : String → Nat → Nat} {ad : Nat → Nat} {M : MS} {r : Int32} {a1 : Int32} (hf : fX11_one M a1 = some r) : gMetR l yX11_one cX11_one 1 (some .int) 1 (gB (mP dC dI cI kA ad) (kR kTab kA) M) [.int a1] r := gEntryR (ty := .int) (by decide) rfl rfl (Nat.le_of_ble_eq_true rfl) (fun _ h => h.2) (fun p e s m args below meth c Q ls X hB hret hl => 
  kX11_one_0 X hret hf hB.1 (lv_sub hl [0] rfl))
set_option maxRecDepth 10000 in
theorem kX11_fails_9 {r : Int32} {S1 : MS} {M : MS} {x1 : Int32} {H : Heap} {locs : List Loc} {ls : Array Slot} (X : gX p s m args c cX11_fails 3 RX11 (kR kTab kA)) (hret : gRetI p l e (rmL 1 0 0) s m args below meth c cX11_fails (mΩ ad) (mP dC dI cI kA ad) Q r S1) (hf : fX11_fails_9 M x1 = some (r, S1)) (hP : (mP dC dI cI kA ad) M s H) (hS : va_S (Fr (mΩ ad) s.heap.size) s.heap H locs) (hl : lv_has ls 3 [(0, .ref (ad 25)), (1, .int x1)]) : W p l e (rmL 1 0 0) s m args below meth c H locs 0 0 Q (F0 m 9 ls []) := by
  have hx := X.hx
  have hb := X.hb
  have hown := X.hown
  have hts := X.hts
  rw [fX11_fails_9] at hf
  refine lv_iload_n hx hb dX11_fails_9 rfl (lv_at hl 1 rfl) ?_
  cases hf
  exact hret _ _ _ _ dX11_fails_10 hP hS
set_option maxRecDepth 10000 in
theorem kX11_fails_4 {r : Int32} {S1 : MS} {M : MS} {x1 : Int32} {x2 : Int32} {H : Heap} {locs : List Loc} {ls : Array Slot} (X : gX p s m args c cX11_fails 3 RX11 (kR kTab kA)) (hret : gRetI p l e (rmL 1 0 0) s m args below meth c cX11_fails (mΩ ad) (mP dC dI cI kA ad) Q r S1) (hf : fX11_fails_4 M x1 x2 = some (r, S1)) (hP : (mP dC dI cI kA ad) M s H) (hS : va_S (Fr (mΩ ad) s.heap.size) s.heap H locs) (hl : lv_has ls 3 [(0, .ref (ad 25)), (1, .int x1), (2, .int x2)]) : W p l e (rmL 1 0 0) s m args below meth c H locs 0 0 Q (F0 m 4 ls []) := by
  have hx := X.hx
  have hb := X.hb
  have hown := X.hown
  have hts := X.hts
  rw [fX11_fails_4] at hf
  refine lv_aload_n hx hb dX11_fails_4 rfl (lv_at hl 0 rfl) ?_
  refine lv_iload_n hx hb dX11_fails_5 rfl (lv_at hl 2 rfl) ?_
  refine mr_put (k := 7) X hP hS (by decide) rfl rfl rfl rfl tw1672 dX11_fails_6 (fun H locs hP hS => ?_)
  exact kX11_fails_9 X hret hf hP hS (lv_sub hl [0, 1] rfl)
set_option maxRecDepth 10000 in
theorem kX11_fails_0 {r : Int32} {S1 : MS} {M : MS} {a1 : Int32} {a2 : Int32} {H : Heap} {locs : List Loc} {ls : Array Slot} (X : gX p s m args c cX11_fails 3 RX11 (kR kTab kA)) (hret : gRetI p l e (rmL 1 0 0) s m args below meth c cX11_fails (mΩ ad) (mP dC dI cI kA ad) Q r S1) (hf : fX11_fails_0 M a1 a2 = some (r, S1)) (hP : (mP dC dI cI kA ad) M s H) (hS : va_S (Fr (mΩ ad) s.heap.size) s.heap H locs) (hl : lv_has ls 3 [(0, .ref (ad 25)), (1, .int a1), (2, .int a2)]) : W p l e (rmL 1 0 0) s m args below meth c H locs 0 0 Q (F0 m 0 ls []) := by
  have hx := X.hx
  have hb := X.hb
  have hown := X.hown
  have hts := X.hts
  rw [fX11_fails_0] at hf
  refine lv_iload_n hx hb dX11_fails_0 rfl (lv_at hl 1 rfl) ?_
  refine lv_if_eq (tgt := 9) hx hb dX11_fails_1 (by decide) (fun c1 => ?_) (fun c1 => ?_)
  · exact kX11_fails_9 X hret (ifp c1 hf) hP hS (lv_sub hl [0, 1] rfl)
  · exact kX11_fails_4 X hret (ifn c1 hf) hP hS (lv_sub hl [0, 1, 2] rfl)
theorem vX11_fails {l : Launch} {dC : Nat → ClassId} {dI : Nat → Nat → Nat} {cI : ClassId} {kA : String → Nat → Nat} {ad : Nat → Nat} {M S1 : MS} {r : Int32} {a1 : Int32} {a2 : Int32} (hf : fX11_fails M a1 a2 = some (r, S1)) : gMetI l yX11_fails cX11_fails 3 (some .boolean) 1 (mΩ ad) (mP dC dI cI kA ad) (kR kTab kA) [.ref (ad 25), .int a1, .int a2] M r S1 := gEntryI (ty := .boolean) (by decide) rfl (bz_n hf) mOK (Nat.le_of_ble_eq_true rfl) (fun p e s m args below meth c Q ls X hP hS hret hl => 
  kX11_fails_0 X hret (bz_f hf) hP hS (lv_sub hl [0, 1, 2] rfl))
set_option maxRecDepth 10000 in
theorem kX11_copies_29 {S1 : MS} {M : MS} {H : Heap} {locs : List Loc} {ls : Array Slot} (X : gX p s m args c cX11_copies 5 RX11 (kR kTab kA)) (hret : gRetV p l e (rmL 1 0 0) s m args below meth c cX11_copies (mΩ ad) (mP dC dI cI kA ad) Q S1) (hf : fX11_copies_29 M = some S1) (hP : (mP dC dI cI kA ad) M s H) (hS : va_S (Fr (mΩ ad) s.heap.size) s.heap H locs) (hl : lv_has ls 5 []) : W p l e (rmL 1 0 0) s m args below meth c H locs 0 0 Q (F0 m 29 ls []) := by
  have hx := X.hx
  have hb := X.hb
  have hown := X.hown
  have hts := X.hts
  rw [fX11_copies_29] at hf
  cases hf
  exact hret _ _ _ _ dX11_copies_29 hP hS
set_option maxRecDepth 10000 in
theorem kX11_copies_23 {S1 : MS} {K3 : MS → Nat → Nat → Int32 → Int32 → Int32 → Option (MS)} {M : MS} {a1 : Nat} {a3 : Nat} {x1 : Int32} {x3 : Int32} {x4 : Int32} {H : Heap} {locs : List Loc} {ls : Array Slot} (X : gX p s m args c cX11_copies 5 RX11 (kR kTab kA)) (hret : gRetV p l e (rmL 1 0 0) s m args below meth c cX11_copies (mΩ ad) (mP dC dI cI kA ad) Q S1) (hK3 : ∀ (M : MS) (a1 : Nat) (a3 : Nat) (x1 : Int32) (x3 : Int32) (x4 : Int32) (H : Heap) (locs : List Loc) (ls : Array Slot), K3 M a1 a3 x1 x3 x4 = some S1 → (mP dC dI cI kA ad) M s H → va_S (Fr (mΩ ad) s.heap.size) s.heap H locs → lv_has ls 5 [(0, .ref (ad a1)), (1, .int x1), (2, .ref (ad a3)), (3, .int x3), (4, .int x4)] → W p l e (rmL 1 0 0) s m args below meth c H locs 0 0 Q (F0 m 3 ls [])) (hf : fX11_copies_23 K3 M a1 a3 x1 x3 x4 = some S1) (hP : (mP dC dI cI kA ad) M s H) (hS : va_S (Fr (mΩ ad) s.heap.size) s.heap H locs) (hl : lv_has ls 5 [(0, .ref (ad a1)), (1, .int x1), (2, .ref (ad a3)), (3, .int x3), (4, .int x4)]) : W p l e (rmL 1 0 0) s m args below meth c H locs 0 0 Q (F0 m 23 ls []) := by
  have hx := X.hx
  have hb := X.hb
  have hown := X.hown
  have hts := X.hts
  rw [fX11_copies_23] at hf
  refine lv_iinc (v := (x4 + 1)) (lv' := [(4, .int (x4 + 1)), (0, .ref (ad a1)), (1, .int x1), (2, .ref (ad a3)), (3, .int x3)]) hx hb dX11_copies_23 hl (k := 4) rfl (by rfl) (by decide) rfl (fun ls hl => ?_)
  refine lv_goto (tgt := 3) hx hb dX11_copies_26 (by decide) ?_
  exact hK3 _ _ _ _ _ _ _ _ _ hf hP hS (lv_sub hl [1, 2, 3, 4, 0] rfl)
set_option maxRecDepth 10000 in
theorem kX11_copies_11 {S1 : MS} {K3 : MS → Nat → Nat → Int32 → Int32 → Int32 → Option (MS)} {M : MS} {a1 : Nat} {a3 : Nat} {x1 : Int32} {x3 : Int32} {x4 : Int32} {H : Heap} {locs : List Loc} {ls : Array Slot} (X : gX p s m args c cX11_copies 5 RX11 (kR kTab kA)) (hret : gRetV p l e (rmL 1 0 0) s m args below meth c cX11_copies (mΩ ad) (mP dC dI cI kA ad) Q S1) (hK3 : ∀ (M : MS) (a1 : Nat) (a3 : Nat) (x1 : Int32) (x3 : Int32) (x4 : Int32) (H : Heap) (locs : List Loc) (ls : Array Slot), K3 M a1 a3 x1 x3 x4 = some S1 → (mP dC dI cI kA ad) M s H → va_S (Fr (mΩ ad) s.heap.size) s.heap H locs → lv_has ls 5 [(0, .ref (ad a1)), (1, .int x1), (2, .ref (ad a3)), (3, .int x3), (4, .int x4)] → W p l e (rmL 1 0 0) s m args below meth c H locs 0 0 Q (F0 m 3 ls [])) (hf : fX11_copies_11 K3 M a1 a3 x1 x3 x4 = some S1) (hP : (mP dC dI cI kA ad) M s H) (hS : va_S (Fr (mΩ ad) s.heap.size) s.heap H locs) (hl : lv_has ls 5 [(0, .ref (ad a1)), (1, .int x1), (2, .ref (ad a3)), (3, .int x3), (4, .int x4)]) : W p l e (rmL 1 0 0) s m args below meth c H locs 0 0 Q (F0 m 11 ls []) := by
  have hx := X.hx
  have hb := X.hb
  have hown := X.hown
  have hts := X.hts
  rw [fX11_copies_11] at hf
  refine lv_aload_n hx hb dX11_copies_11 rfl (lv_at hl 2 rfl) ?_
  refine lv_iload_n hx hb dX11_copies_12 rfl (lv_at hl 3 rfl) ?_
  refine lv_iload hx hb dX11_copies_13 (lv_at hl 4 rfl) ?_
  refine lv_iadd hx hb dX11_copies_15 ?_
  refine lv_aload_n hx hb dX11_copies_16 rfl (lv_at hl 0 rfl) ?_
  refine lv_iload_n hx hb dX11_copies_17 rfl (lv_at hl 1 rfl) ?_
  refine lv_iload hx hb dX11_copies_18 (lv_at hl 4 rfl) ?_
  refine lv_iadd hx hb dX11_copies_20 ?_
  obtain ⟨g1, hf⟩ := gd hf
  obtain ⟨g2, hf⟩ := gd hf
  refine mr_ald (a := a1) X hP (mIs_at g1) g2 dX11_copies_21 ?_
  obtain ⟨g3, hf⟩ := gd hf
  obtain ⟨g4, hf⟩ := gd hf
  refine mr_ast (a := a3) X hP hS (mIs_at g3) g4 dX11_copies_22 (fun H locs hP hS => ?_)
  exact kX11_copies_23 X hret hK3 hf hP hS (lv_sub hl [0, 1, 2, 3, 4] rfl)
set_option maxRecDepth 10000 in
theorem kX11_copies_3 {S1 : MS} (X : gX p s m args c cX11_copies 5 RX11 (kR kTab kA)) (hret : gRetV p l e (rmL 1 0 0) s m args below meth c cX11_copies (mΩ ad) (mP dC dI cI kA ad) Q S1) : ∀ (n : Nat) (M : MS) (a1 : Nat) (a3 : Nat) (x1 : Int32) (x3 : Int32) (x4 : Int32) (H : Heap) (locs : List Loc) (ls : Array Slot), fX11_copies_3 n M a1 a3 x1 x3 x4 = some S1 → (mP dC dI cI kA ad) M s H → va_S (Fr (mΩ ad) s.heap.size) s.heap H locs → lv_has ls 5 [(0, .ref (ad a1)), (1, .int x1), (2, .ref (ad a3)), (3, .int x3), (4, .int x4)] → W p l e (rmL 1 0 0) s m args below meth c H locs 0 0 Q (F0 m 3 ls []) := by
  intro n
  induction n with
  | zero => intro M a1 a3 x1 x3 x4 H locs ls hf; cases hf
  | succ k ih =>
    intro M a1 a3 x1 x3 x4 H locs ls hf hP hS hl
    have hx := X.hx
    have hb := X.hb
    have hown := X.hown
    have hts := X.hts
    rw [fX11_copies_3] at hf
    try dsimp only at hf
    refine lv_iload hx hb dX11_copies_3 (lv_at hl 4 rfl) ?_
    refine lv_sipush (v := 257) hx hb dX11_copies_5 (by decide) ?_
    refine lv_icmp_ge (tgt := 29) hx hb dX11_copies_8 (by decide) (fun c1 => ?_) (fun c1 => ?_)
    · exact kX11_copies_29 X hret (ifp c1 hf) hP hS (lv_sub hl [] rfl)
    · exact kX11_copies_11 X hret ih (ifn c1 hf) hP hS (lv_sub hl [0, 1, 2, 3, 4] rfl)
set_option maxRecDepth 10000 in
theorem kX11_copies_0 {S1 : MS} {M : MS} {a1 : Nat} {a3 : Nat} {a2 : Int32} {a4 : Int32} {H : Heap} {locs : List Loc} {ls : Array Slot} (X : gX p s m args c cX11_copies 5 RX11 (kR kTab kA)) (hret : gRetV p l e (rmL 1 0 0) s m args below meth c cX11_copies (mΩ ad) (mP dC dI cI kA ad) Q S1) (hf : fX11_copies_0 M a1 a3 a2 a4 = some S1) (hP : (mP dC dI cI kA ad) M s H) (hS : va_S (Fr (mΩ ad) s.heap.size) s.heap H locs) (hl : lv_has ls 5 [(0, .ref (ad a1)), (1, .int a2), (2, .ref (ad a3)), (3, .int a4)]) : W p l e (rmL 1 0 0) s m args below meth c H locs 0 0 Q (F0 m 0 ls []) := by
  have hx := X.hx
  have hb := X.hb
  have hown := X.hown
  have hts := X.hts
  rw [fX11_copies_0] at hf
  refine lv_iconst (v := 0) hx hb dX11_copies_0 (by decide) ?_
  refine lv_istore (lv' := [(4, .int 0), (0, .ref (ad a1)), (1, .int a2), (2, .ref (ad a3)), (3, .int a4)]) hx hb dX11_copies_1 hl (by decide) rfl (fun ls hl => ?_)
  exact kX11_copies_3 X hret FU _ _ _ _ _ _ _ _ _ hf hP hS (lv_sub hl [1, 2, 3, 4, 0] rfl)
theorem vX11_copies {l : Launch} {dC : Nat → ClassId} {dI : Nat → Nat → Nat} {cI : ClassId} {kA : String → Nat → Nat} {ad : Nat → Nat} {M S1 : MS} {a1 : Nat} {a2 : Int32} {a3 : Nat} {a4 : Int32} (hf : fX11_copies M a1 a2 a3 a4 = some S1) : gMetV l yX11_copies cX11_copies 5 1 (mΩ ad) (mP dC dI cI kA ad) (kR kTab kA) [.ref (ad a1), .int a2, .ref (ad a3), .int a4] M S1 := gEntryV (by decide) mOK (Nat.le_of_ble_eq_true rfl) (fun p e s m args below meth c Q ls X hP hS hret hl => 
  kX11_copies_0 X hret hf hP hS (lv_sub hl [0, 1, 2, 3] rfl))
set_option maxRecDepth 10000 in
theorem kX11_begins_44 {S1 : MS} {M : MS} {H : Heap} {locs : List Loc} {ls : Array Slot} (X : gX p s m args c cX11_begins 2 RX11 (kR kTab kA)) (hret : gRetV p l e (rmL 1 0 0) s m args below meth c cX11_begins (mΩ ad) (mP dC dI cI kA ad) Q S1) (hf : fX11_begins_44 M = some S1) (hP : (mP dC dI cI kA ad) M s H) (hS : va_S (Fr (mΩ ad) s.heap.size) s.heap H locs) (hl : lv_has ls 2 [(0, .ref (ad 25))]) : W p l e (rmL 1 0 0) s m args below meth c H locs 0 0 Q (F0 m 44 ls []) := by
  have hx := X.hx
  have hb := X.hb
  have hown := X.hown
  have hts := X.hts
  rw [fX11_begins_44] at hf
  cases hf
  exact hret _ _ _ _ dX11_begins_44 hP hS
set_option maxRecDepth 10000 in
theorem kX11_begins_37 {S1 : MS} {M : MS} {H : Heap} {locs : List Loc} {ls : Array Slot} (X : gX p s m args c cX11_begins 2 RX11 (kR kTab kA)) (hret : gRetV p l e (rmL 1 0 0) s m args below meth c cX11_begins (mΩ ad) (mP dC dI cI kA ad) Q S1) (hf : fX11_begins_37 M = some S1) (hP : (mP dC dI cI kA ad) M s H) (hS : va_S (Fr (mΩ ad) s.heap.size) s.heap H locs) (hl : lv_has ls 2 [(0, .ref (ad 25))]) : W p l e (rmL 1 0 0) s m args below meth c H locs 0 0 Q (F0 m 37 ls []) := by
  have hx := X.hx
  have hb := X.hb
  have hown := X.hown
  have hts := X.hts
  rw [fX11_begins_37] at hf
  refine lv_aload_n hx hb dX11_begins_37 rfl (lv_at hl 0 rfl) ?_
  refine mr_get (k := 0) X hP (by decide) rfl rfl tw1665 dX11_begins_38 ?_
  refine lv_iconst (v := 5) hx hb dX11_begins_41 (by decide) ?_
  refine lv_iconst (v := (-1)) hx hb dX11_begins_42 (by decide) ?_
  obtain ⟨g1, hf⟩ := gd hf
  refine mr_ast (a := 0) X hP hS rfl g1 dX11_begins_43 (fun H locs hP hS => ?_)
  exact kX11_begins_44 X hret hf hP hS (lv_sub hl [0] rfl)
set_option maxRecDepth 10000 in
theorem kX11_begins_30 {S1 : MS} {M : MS} {H : Heap} {locs : List Loc} {ls : Array Slot} (X : gX p s m args c cX11_begins 2 RX11 (kR kTab kA)) (hret : gRetV p l e (rmL 1 0 0) s m args below meth c cX11_begins (mΩ ad) (mP dC dI cI kA ad) Q S1) (hf : fX11_begins_30 M = some S1) (hP : (mP dC dI cI kA ad) M s H) (hS : va_S (Fr (mΩ ad) s.heap.size) s.heap H locs) (hl : lv_has ls 2 [(0, .ref (ad 25))]) : W p l e (rmL 1 0 0) s m args below meth c H locs 0 0 Q (F0 m 30 ls []) := by
  have hx := X.hx
  have hb := X.hb
  have hown := X.hown
  have hts := X.hts
  rw [fX11_begins_30] at hf
  refine lv_aload_n hx hb dX11_begins_30 rfl (lv_at hl 0 rfl) ?_
  refine mr_get (k := 0) X hP (by decide) rfl rfl tw1665 dX11_begins_31 ?_
  refine lv_iconst (v := 4) hx hb dX11_begins_34 (by decide) ?_
  refine lv_iconst (v := 3) hx hb dX11_begins_35 (by decide) ?_
  obtain ⟨g1, hf⟩ := gd hf
  refine mr_ast (a := 0) X hP hS rfl g1 dX11_begins_36 (fun H locs hP hS => ?_)
  exact kX11_begins_37 X hret hf hP hS (lv_sub hl [0] rfl)
set_option maxRecDepth 10000 in
theorem kX11_begins_22 {S1 : MS} {M : MS} {H : Heap} {locs : List Loc} {ls : Array Slot} (X : gX p s m args c cX11_begins 2 RX11 (kR kTab kA)) (hret : gRetV p l e (rmL 1 0 0) s m args below meth c cX11_begins (mΩ ad) (mP dC dI cI kA ad) Q S1) (hf : fX11_begins_22 M = some S1) (hP : (mP dC dI cI kA ad) M s H) (hS : va_S (Fr (mΩ ad) s.heap.size) s.heap H locs) (hl : lv_has ls 2 [(0, .ref (ad 25))]) : W p l e (rmL 1 0 0) s m args below meth c H locs 0 0 Q (F0 m 22 ls []) := by
  have hx := X.hx
  have hb := X.hb
  have hown := X.hown
  have hts := X.hts
  rw [fX11_begins_22] at hf
  refine lv_aload_n hx hb dX11_begins_22 rfl (lv_at hl 0 rfl) ?_
  refine mr_get (k := 0) X hP (by decide) rfl rfl tw1665 dX11_begins_23 ?_
  refine lv_iconst (v := 3) hx hb dX11_begins_26 (by decide) ?_
  refine lv_bipush (v := 6) hx hb dX11_begins_27 (by decide) ?_
  obtain ⟨g1, hf⟩ := gd hf
  refine mr_ast (a := 0) X hP hS rfl g1 dX11_begins_29 (fun H locs hP hS => ?_)
  exact kX11_begins_30 X hret hf hP hS (lv_sub hl [0] rfl)
set_option maxRecDepth 10000 in
theorem kX11_begins_16 {S1 : MS} {K2 : MS → Int32 → Option (MS)} {M : MS} {x1 : Int32} {H : Heap} {locs : List Loc} {ls : Array Slot} (X : gX p s m args c cX11_begins 2 RX11 (kR kTab kA)) (hret : gRetV p l e (rmL 1 0 0) s m args below meth c cX11_begins (mΩ ad) (mP dC dI cI kA ad) Q S1) (hK2 : ∀ (M : MS) (x1 : Int32) (H : Heap) (locs : List Loc) (ls : Array Slot), K2 M x1 = some S1 → (mP dC dI cI kA ad) M s H → va_S (Fr (mΩ ad) s.heap.size) s.heap H locs → lv_has ls 2 [(0, .ref (ad 25)), (1, .int x1)] → W p l e (rmL 1 0 0) s m args below meth c H locs 0 0 Q (F0 m 2 ls [])) (hf : fX11_begins_16 K2 M x1 = some S1) (hP : (mP dC dI cI kA ad) M s H) (hS : va_S (Fr (mΩ ad) s.heap.size) s.heap H locs) (hl : lv_has ls 2 [(0, .ref (ad 25)), (1, .int x1)]) : W p l e (rmL 1 0 0) s m args below meth c H locs 0 0 Q (F0 m 16 ls []) := by
  have hx := X.hx
  have hb := X.hb
  have hown := X.hown
  have hts := X.hts
  rw [fX11_begins_16] at hf
  refine lv_iinc (v := (x1 + 1)) (lv' := [(1, .int (x1 + 1)), (0, .ref (ad 25))]) hx hb dX11_begins_16 hl (k := 1) rfl (by rfl) (by decide) rfl (fun ls hl => ?_)
  refine lv_goto (tgt := 2) hx hb dX11_begins_19 (by decide) ?_
  exact hK2 _ _ _ _ _ hf hP hS (lv_sub hl [1, 0] rfl)
set_option maxRecDepth 10000 in
theorem kX11_begins_9 {S1 : MS} {K2 : MS → Int32 → Option (MS)} {M : MS} {x1 : Int32} {H : Heap} {locs : List Loc} {ls : Array Slot} (X : gX p s m args c cX11_begins 2 RX11 (kR kTab kA)) (hret : gRetV p l e (rmL 1 0 0) s m args below meth c cX11_begins (mΩ ad) (mP dC dI cI kA ad) Q S1) (hK2 : ∀ (M : MS) (x1 : Int32) (H : Heap) (locs : List Loc) (ls : Array Slot), K2 M x1 = some S1 → (mP dC dI cI kA ad) M s H → va_S (Fr (mΩ ad) s.heap.size) s.heap H locs → lv_has ls 2 [(0, .ref (ad 25)), (1, .int x1)] → W p l e (rmL 1 0 0) s m args below meth c H locs 0 0 Q (F0 m 2 ls [])) (hf : fX11_begins_9 K2 M x1 = some S1) (hP : (mP dC dI cI kA ad) M s H) (hS : va_S (Fr (mΩ ad) s.heap.size) s.heap H locs) (hl : lv_has ls 2 [(0, .ref (ad 25)), (1, .int x1)]) : W p l e (rmL 1 0 0) s m args below meth c H locs 0 0 Q (F0 m 9 ls []) := by
  have hx := X.hx
  have hb := X.hb
  have hown := X.hown
  have hts := X.hts
  rw [fX11_begins_9] at hf
  refine lv_aload_n hx hb dX11_begins_9 rfl (lv_at hl 0 rfl) ?_
  refine mr_get (k := 0) X hP (by decide) rfl rfl tw1665 dX11_begins_10 ?_
  refine lv_iload_n hx hb dX11_begins_13 rfl (lv_at hl 1 rfl) ?_
  refine lv_iconst (v := 0) hx hb dX11_begins_14 (by decide) ?_
  obtain ⟨g1, hf⟩ := gd hf
  refine mr_ast (a := 0) X hP hS rfl g1 dX11_begins_15 (fun H locs hP hS => ?_)
  exact kX11_begins_16 X hret hK2 hf hP hS (lv_sub hl [0, 1] rfl)
set_option maxRecDepth 10000 in
theorem kX11_begins_2 {S1 : MS} (X : gX p s m args c cX11_begins 2 RX11 (kR kTab kA)) (hret : gRetV p l e (rmL 1 0 0) s m args below meth c cX11_begins (mΩ ad) (mP dC dI cI kA ad) Q S1) : ∀ (n : Nat) (M : MS) (x1 : Int32) (H : Heap) (locs : List Loc) (ls : Array Slot), fX11_begins_2 n M x1 = some S1 → (mP dC dI cI kA ad) M s H → va_S (Fr (mΩ ad) s.heap.size) s.heap H locs → lv_has ls 2 [(0, .ref (ad 25)), (1, .int x1)] → W p l e (rmL 1 0 0) s m args below meth c H locs 0 0 Q (F0 m 2 ls []) := by
  intro n
  induction n with
  | zero => intro M x1 H locs ls hf; cases hf
  | succ k ih =>
    intro M x1 H locs ls hf hP hS hl
    have hx := X.hx
    have hb := X.hb
    have hown := X.hown
    have hts := X.hts
    rw [fX11_begins_2] at hf
    try dsimp only at hf
    refine lv_iload_n hx hb dX11_begins_2 rfl (lv_at hl 1 rfl) ?_
    refine lv_sipush (v := 257) hx hb dX11_begins_3 (by decide) ?_
    refine lv_icmp_ge (tgt := 22) hx hb dX11_begins_6 (by decide) (fun c1 => ?_) (fun c1 => ?_)
    · exact kX11_begins_22 X hret (ifp c1 hf) hP hS (lv_sub hl [0] rfl)
    · exact kX11_begins_9 X hret ih (ifn c1 hf) hP hS (lv_sub hl [0, 1] rfl)
set_option maxRecDepth 10000 in
theorem kX11_begins_0 {S1 : MS} {M : MS} {H : Heap} {locs : List Loc} {ls : Array Slot} (X : gX p s m args c cX11_begins 2 RX11 (kR kTab kA)) (hret : gRetV p l e (rmL 1 0 0) s m args below meth c cX11_begins (mΩ ad) (mP dC dI cI kA ad) Q S1) (hf : fX11_begins_0 M = some S1) (hP : (mP dC dI cI kA ad) M s H) (hS : va_S (Fr (mΩ ad) s.heap.size) s.heap H locs) (hl : lv_has ls 2 [(0, .ref (ad 25))]) : W p l e (rmL 1 0 0) s m args below meth c H locs 0 0 Q (F0 m 0 ls []) := by
  have hx := X.hx
  have hb := X.hb
  have hown := X.hown
  have hts := X.hts
  rw [fX11_begins_0] at hf
  refine lv_iconst (v := 0) hx hb dX11_begins_0 (by decide) ?_
  refine lv_istore_n (lv' := [(1, .int 0), (0, .ref (ad 25))]) hx hb dX11_begins_1 rfl hl (by decide) rfl (fun ls hl => ?_)
  exact kX11_begins_2 X hret FU _ _ _ _ _ hf hP hS (lv_sub hl [1, 0] rfl)
theorem vX11_begins {l : Launch} {dC : Nat → ClassId} {dI : Nat → Nat → Nat} {cI : ClassId} {kA : String → Nat → Nat} {ad : Nat → Nat} {M S1 : MS} (hf : fX11_begins M  = some S1) : gMetV l yX11_begins cX11_begins 2 1 (mΩ ad) (mP dC dI cI kA ad) (kR kTab kA) [.ref (ad 25)] M S1 := gEntryV (by decide) mOK (Nat.le_of_ble_eq_true rfl) (fun p e s m args below meth c Q ls X hP hS hret hl => 
  kX11_begins_0 X hret hf hP hS (lv_sub hl [0] rfl))
set_option maxRecDepth 10000 in
theorem kX11_ofCat_0 {r : Int32} {M : MS} {a1 : Int32} {a2 : Int32} (X : gX p s m args c cX11_ofCat 3 RX11 (kR kTab kA)) (hret : gRetR p l e (rmL 1 0 0) s m args below meth c cX11_ofCat Q r) (hf : fX11_ofCat_0 M a1 a2 = some r) {ls : Array Slot} (hP : (mP dC dI cI kA ad) M s s.heap) (hl : lv_has ls 3 [(0, .ref (ad 25)), (1, .int a1), (2, .int a2)]) : W p l e (rmL 1 0 0) s m args below meth c s.heap [] 0 0 Q (F0 m 0 ls []) := by
  have hx := X.hx
  have hb := X.hb
  have hown := X.hown
  have hts := X.hts
  rw [fX11_ofCat_0] at hf
  refine lv_aload_n hx hb dX11_ofCat_0 rfl (lv_at hl 0 rfl) ?_
  refine mr_get (k := 0) X hP (by decide) rfl rfl tw1665 dX11_ofCat_1 ?_
  refine lv_bipush (v := 65) hx hb dX11_ofCat_4 (by decide) ?_
  refine lv_bipush (v := 12) hx hb dX11_ofCat_6 (by decide) ?_
  refine lv_iload_n hx hb dX11_ofCat_8 rfl (lv_at hl 1 rfl) ?_
  refine lv_imul hx hb dX11_ofCat_9 ?_
  refine lv_iadd hx hb dX11_ofCat_10 ?_
  refine lv_iload_n hx hb dX11_ofCat_11 rfl (lv_at hl 2 rfl) ?_
  refine lv_iadd hx hb dX11_ofCat_12 ?_
  obtain ⟨g1, hf⟩ := gd hf
  refine mr_ald (a := 0) X hP rfl g1 dX11_ofCat_13 ?_
  cases hf
  exact hret _ _ dX11_ofCat_14
theorem vX11_ofCat {l : Launch} {dC : Nat → ClassId} {dI : Nat → Nat → Nat} {cI : ClassId} {kA : String → Nat → Nat} {ad : Nat → Nat} {M : MS} {r : Int32} {a1 : Int32} {a2 : Int32} (hf : fX11_ofCat M a1 a2 = some r) : gMetR l yX11_ofCat cX11_ofCat 3 (some .int) 1 (gB (mP dC dI cI kA ad) (kR kTab kA) M) [.ref (ad 25), .int a1, .int a2] r := gEntryR (ty := .int) (by decide) rfl rfl (Nat.le_of_ble_eq_true rfl) (fun _ h => h.2) (fun p e s m args below meth c Q ls X hB hret hl => 
  kX11_ofCat_0 X hret hf hB.1 (lv_sub hl [0, 1, 2] rfl))
set_option maxRecDepth 10000 in
theorem kX11_putsCat_15 {S1 : MS} {M : MS} {H : Heap} {locs : List Loc} {ls : Array Slot} (X : gX p s m args c cX11_putsCat 4 RX11 (kR kTab kA)) (hret : gRetV p l e (rmL 1 0 0) s m args below meth c cX11_putsCat (mΩ ad) (mP dC dI cI kA ad) Q S1) (hf : fX11_putsCat_15 M = some S1) (hP : (mP dC dI cI kA ad) M s H) (hS : va_S (Fr (mΩ ad) s.heap.size) s.heap H locs) (hl : lv_has ls 4 [(0, .ref (ad 25))]) : W p l e (rmL 1 0 0) s m args below meth c H locs 0 0 Q (F0 m 15 ls []) := by
  have hx := X.hx
  have hb := X.hb
  have hown := X.hown
  have hts := X.hts
  rw [fX11_putsCat_15] at hf
  cases hf
  exact hret _ _ _ _ dX11_putsCat_15 hP hS
set_option maxRecDepth 10000 in
theorem kX11_putsCat_0 {S1 : MS} {M : MS} {a1 : Int32} {a2 : Int32} {a3 : Int32} {H : Heap} {locs : List Loc} {ls : Array Slot} (X : gX p s m args c cX11_putsCat 4 RX11 (kR kTab kA)) (hret : gRetV p l e (rmL 1 0 0) s m args below meth c cX11_putsCat (mΩ ad) (mP dC dI cI kA ad) Q S1) (hf : fX11_putsCat_0 M a1 a2 a3 = some S1) (hP : (mP dC dI cI kA ad) M s H) (hS : va_S (Fr (mΩ ad) s.heap.size) s.heap H locs) (hl : lv_has ls 4 [(0, .ref (ad 25)), (1, .int a1), (2, .int a2), (3, .int a3)]) : W p l e (rmL 1 0 0) s m args below meth c H locs 0 0 Q (F0 m 0 ls []) := by
  have hx := X.hx
  have hb := X.hb
  have hown := X.hown
  have hts := X.hts
  rw [fX11_putsCat_0] at hf
  refine lv_aload_n hx hb dX11_putsCat_0 rfl (lv_at hl 0 rfl) ?_
  refine mr_get (k := 0) X hP (by decide) rfl rfl tw1665 dX11_putsCat_1 ?_
  refine lv_bipush (v := 65) hx hb dX11_putsCat_4 (by decide) ?_
  refine lv_bipush (v := 12) hx hb dX11_putsCat_6 (by decide) ?_
  refine lv_iload_n hx hb dX11_putsCat_8 rfl (lv_at hl 1 rfl) ?_
  refine lv_imul hx hb dX11_putsCat_9 ?_
  refine lv_iadd hx hb dX11_putsCat_10 ?_
  refine lv_iload_n hx hb dX11_putsCat_11 rfl (lv_at hl 2 rfl) ?_
  refine lv_iadd hx hb dX11_putsCat_12 ?_
  refine lv_iload_n hx hb dX11_putsCat_13 rfl (lv_at hl 3 rfl) ?_
  obtain ⟨g1, hf⟩ := gd hf
  refine mr_ast (a := 0) X hP hS rfl g1 dX11_putsCat_14 (fun H locs hP hS => ?_)
  exact kX11_putsCat_15 X hret hf hP hS (lv_sub hl [0] rfl)
theorem vX11_putsCat {l : Launch} {dC : Nat → ClassId} {dI : Nat → Nat → Nat} {cI : ClassId} {kA : String → Nat → Nat} {ad : Nat → Nat} {M S1 : MS} {a1 : Int32} {a2 : Int32} {a3 : Int32} (hf : fX11_putsCat M a1 a2 a3 = some S1) : gMetV l yX11_putsCat cX11_putsCat 4 1 (mΩ ad) (mP dC dI cI kA ad) (kR kTab kA) [.ref (ad 25), .int a1, .int a2, .int a3] M S1 := gEntryV (by decide) mOK (Nat.le_of_ble_eq_true rfl) (fun p e s m args below meth c Q ls X hP hS hret hl => 
  kX11_putsCat_0 X hret hf hP hS (lv_sub hl [0, 1, 2, 3] rfl))
set_option maxRecDepth 10000 in
theorem kX11_ofSack_0 {r : Int32} {M : MS} {a1 : Int32} {a2 : Int32} (X : gX p s m args c cX11_ofSack 3 RX11 (kR kTab kA)) (hret : gRetR p l e (rmL 1 0 0) s m args below meth c cX11_ofSack Q r) (hf : fX11_ofSack_0 M a1 a2 = some r) {ls : Array Slot} (hP : (mP dC dI cI kA ad) M s s.heap) (hl : lv_has ls 3 [(0, .ref (ad 25)), (1, .int a1), (2, .int a2)]) : W p l e (rmL 1 0 0) s m args below meth c s.heap [] 0 0 Q (F0 m 0 ls []) := by
  have hx := X.hx
  have hb := X.hb
  have hown := X.hown
  have hts := X.hts
  rw [fX11_ofSack_0] at hf
  refine lv_aload_n hx hb dX11_ofSack_0 rfl (lv_at hl 0 rfl) ?_
  refine mr_get (k := 0) X hP (by decide) rfl rfl tw1665 dX11_ofSack_1 ?_
  refine lv_sipush (v := 161) hx hb dX11_ofSack_4 (by decide) ?_
  refine lv_bipush (v := 12) hx hb dX11_ofSack_7 (by decide) ?_
  refine lv_iload_n hx hb dX11_ofSack_9 rfl (lv_at hl 1 rfl) ?_
  refine lv_imul hx hb dX11_ofSack_10 ?_
  refine lv_iadd hx hb dX11_ofSack_11 ?_
  refine lv_iload_n hx hb dX11_ofSack_12 rfl (lv_at hl 2 rfl) ?_
  refine lv_iadd hx hb dX11_ofSack_13 ?_
  obtain ⟨g1, hf⟩ := gd hf
  refine mr_ald (a := 0) X hP rfl g1 dX11_ofSack_14 ?_
  cases hf
  exact hret _ _ dX11_ofSack_15
theorem vX11_ofSack {l : Launch} {dC : Nat → ClassId} {dI : Nat → Nat → Nat} {cI : ClassId} {kA : String → Nat → Nat} {ad : Nat → Nat} {M : MS} {r : Int32} {a1 : Int32} {a2 : Int32} (hf : fX11_ofSack M a1 a2 = some r) : gMetR l yX11_ofSack cX11_ofSack 3 (some .int) 1 (gB (mP dC dI cI kA ad) (kR kTab kA) M) [.ref (ad 25), .int a1, .int a2] r := gEntryR (ty := .int) (by decide) rfl rfl (Nat.le_of_ble_eq_true rfl) (fun _ h => h.2) (fun p e s m args below meth c Q ls X hB hret hl => 
  kX11_ofSack_0 X hret hf hB.1 (lv_sub hl [0, 1, 2] rfl))
set_option maxRecDepth 10000 in
theorem kX11_putsSack_16 {S1 : MS} {M : MS} {H : Heap} {locs : List Loc} {ls : Array Slot} (X : gX p s m args c cX11_putsSack 4 RX11 (kR kTab kA)) (hret : gRetV p l e (rmL 1 0 0) s m args below meth c cX11_putsSack (mΩ ad) (mP dC dI cI kA ad) Q S1) (hf : fX11_putsSack_16 M = some S1) (hP : (mP dC dI cI kA ad) M s H) (hS : va_S (Fr (mΩ ad) s.heap.size) s.heap H locs) (hl : lv_has ls 4 [(0, .ref (ad 25))]) : W p l e (rmL 1 0 0) s m args below meth c H locs 0 0 Q (F0 m 16 ls []) := by
  have hx := X.hx
  have hb := X.hb
  have hown := X.hown
  have hts := X.hts
  rw [fX11_putsSack_16] at hf
  cases hf
  exact hret _ _ _ _ dX11_putsSack_16 hP hS
set_option maxRecDepth 10000 in
theorem kX11_putsSack_0 {S1 : MS} {M : MS} {a1 : Int32} {a2 : Int32} {a3 : Int32} {H : Heap} {locs : List Loc} {ls : Array Slot} (X : gX p s m args c cX11_putsSack 4 RX11 (kR kTab kA)) (hret : gRetV p l e (rmL 1 0 0) s m args below meth c cX11_putsSack (mΩ ad) (mP dC dI cI kA ad) Q S1) (hf : fX11_putsSack_0 M a1 a2 a3 = some S1) (hP : (mP dC dI cI kA ad) M s H) (hS : va_S (Fr (mΩ ad) s.heap.size) s.heap H locs) (hl : lv_has ls 4 [(0, .ref (ad 25)), (1, .int a1), (2, .int a2), (3, .int a3)]) : W p l e (rmL 1 0 0) s m args below meth c H locs 0 0 Q (F0 m 0 ls []) := by
  have hx := X.hx
  have hb := X.hb
  have hown := X.hown
  have hts := X.hts
  rw [fX11_putsSack_0] at hf
  refine lv_aload_n hx hb dX11_putsSack_0 rfl (lv_at hl 0 rfl) ?_
  refine mr_get (k := 0) X hP (by decide) rfl rfl tw1665 dX11_putsSack_1 ?_
  refine lv_sipush (v := 161) hx hb dX11_putsSack_4 (by decide) ?_
  refine lv_bipush (v := 12) hx hb dX11_putsSack_7 (by decide) ?_
  refine lv_iload_n hx hb dX11_putsSack_9 rfl (lv_at hl 1 rfl) ?_
  refine lv_imul hx hb dX11_putsSack_10 ?_
  refine lv_iadd hx hb dX11_putsSack_11 ?_
  refine lv_iload_n hx hb dX11_putsSack_12 rfl (lv_at hl 2 rfl) ?_
  refine lv_iadd hx hb dX11_putsSack_13 ?_
  refine lv_iload_n hx hb dX11_putsSack_14 rfl (lv_at hl 3 rfl) ?_
  obtain ⟨g1, hf⟩ := gd hf
  refine mr_ast (a := 0) X hP hS rfl g1 dX11_putsSack_15 (fun H locs hP hS => ?_)
  exact kX11_putsSack_16 X hret hf hP hS (lv_sub hl [0] rfl)
theorem vX11_putsSack {l : Launch} {dC : Nat → ClassId} {dI : Nat → Nat → Nat} {cI : ClassId} {kA : String → Nat → Nat} {ad : Nat → Nat} {M S1 : MS} {a1 : Int32} {a2 : Int32} {a3 : Int32} (hf : fX11_putsSack M a1 a2 a3 = some S1) : gMetV l yX11_putsSack cX11_putsSack 4 1 (mΩ ad) (mP dC dI cI kA ad) (kR kTab kA) [.ref (ad 25), .int a1, .int a2, .int a3] M S1 := gEntryV (by decide) mOK (Nat.le_of_ble_eq_true rfl) (fun p e s m args below meth c Q ls X hP hS hret hl => 
  kX11_putsSack_0 X hret hf hP hS (lv_sub hl [0, 1, 2, 3] rfl))
set_option maxRecDepth 10000 in
theorem kX11_spells_44 {S1 : MS} {M : MS} {H : Heap} {locs : List Loc} {ls : Array Slot} (X : gX p s m args c cX11_spells 6 RX11 (kR kTab kA)) (hret : gRetV p l e (rmL 1 0 0) s m args below meth c cX11_spells (mΩ ad) (mP dC dI cI kA ad) Q S1) (hf : fX11_spells_44 M = some S1) (hP : (mP dC dI cI kA ad) M s H) (hS : va_S (Fr (mΩ ad) s.heap.size) s.heap H locs) (hl : lv_has ls 6 [(0, .ref (ad 25))]) : W p l e (rmL 1 0 0) s m args below meth c H locs 0 0 Q (F0 m 44 ls []) := by
  have hx := X.hx
  have hb := X.hb
  have hown := X.hown
  have hts := X.hts
  rw [fX11_spells_44] at hf
  cases hf
  exact hret _ _ _ _ dX11_spells_44 hP hS
set_option maxRecDepth 10000 in
theorem kX11_spells_32 {S1 : MS} {M : MS} {x1 : Int32} {x5 : Int32} {H : Heap} {locs : List Loc} {ls : Array Slot} (X : gX p s m args c cX11_spells 6 RX11 (kR kTab kA)) (hret : gRetV p l e (rmL 1 0 0) s m args below meth c cX11_spells (mΩ ad) (mP dC dI cI kA ad) Q S1) (hf : fX11_spells_32 M x1 x5 = some S1) (hP : (mP dC dI cI kA ad) M s H) (hS : va_S (Fr (mΩ ad) s.heap.size) s.heap H locs) (hl : lv_has ls 6 [(0, .ref (ad 25)), (1, .int x1), (5, .int x5)]) : W p l e (rmL 1 0 0) s m args below meth c H locs 0 0 Q (F0 m 32 ls []) := by
  have hx := X.hx
  have hb := X.hb
  have hown := X.hown
  have hts := X.hts
  rw [fX11_spells_32] at hf
  refine lv_aload_n hx hb dX11_spells_32 rfl (lv_at hl 0 rfl) ?_
  refine mr_get (k := 0) X hP (by decide) rfl rfl tw1665 dX11_spells_33 ?_
  refine lv_iload_n hx hb dX11_spells_36 rfl (lv_at hl 1 rfl) ?_
  refine lv_iconst (v := 1) hx hb dX11_spells_37 (by decide) ?_
  refine lv_iadd hx hb dX11_spells_38 ?_
  refine lv_iconst (v := 3) hx hb dX11_spells_39 (by decide) ?_
  refine lv_iadd hx hb dX11_spells_40 ?_
  refine lv_iload hx hb dX11_spells_41 (lv_at hl 2 rfl) ?_
  obtain ⟨g1, hf⟩ := gd hf
  refine mr_ast (a := 0) X hP hS rfl g1 dX11_spells_43 (fun H locs hP hS => ?_)
  exact kX11_spells_44 X hret hf hP hS (lv_sub hl [0] rfl)
set_option maxRecDepth 10000 in
theorem kX11_spells_20 {S1 : MS} {M : MS} {x1 : Int32} {x4 : Int32} {x5 : Int32} {H : Heap} {locs : List Loc} {ls : Array Slot} (X : gX p s m args c cX11_spells 6 RX11 (kR kTab kA)) (hret : gRetV p l e (rmL 1 0 0) s m args below meth c cX11_spells (mΩ ad) (mP dC dI cI kA ad) Q S1) (hf : fX11_spells_20 M x1 x4 x5 = some S1) (hP : (mP dC dI cI kA ad) M s H) (hS : va_S (Fr (mΩ ad) s.heap.size) s.heap H locs) (hl : lv_has ls 6 [(0, .ref (ad 25)), (1, .int x1), (4, .int x4), (5, .int x5)]) : W p l e (rmL 1 0 0) s m args below meth c H locs 0 0 Q (F0 m 20 ls []) := by
  have hx := X.hx
  have hb := X.hb
  have hown := X.hown
  have hts := X.hts
  rw [fX11_spells_20] at hf
  refine lv_aload_n hx hb dX11_spells_20 rfl (lv_at hl 0 rfl) ?_
  refine mr_get (k := 0) X hP (by decide) rfl rfl tw1665 dX11_spells_21 ?_
  refine lv_iload_n hx hb dX11_spells_24 rfl (lv_at hl 1 rfl) ?_
  refine lv_iconst (v := 1) hx hb dX11_spells_25 (by decide) ?_
  refine lv_iadd hx hb dX11_spells_26 ?_
  refine lv_iconst (v := 2) hx hb dX11_spells_27 (by decide) ?_
  refine lv_iadd hx hb dX11_spells_28 ?_
  refine lv_iload hx hb dX11_spells_29 (lv_at hl 2 rfl) ?_
  obtain ⟨g1, hf⟩ := gd hf
  refine mr_ast (a := 0) X hP hS rfl g1 dX11_spells_31 (fun H locs hP hS => ?_)
  exact kX11_spells_32 X hret hf hP hS (lv_sub hl [0, 1, 3] rfl)
set_option maxRecDepth 10000 in
theorem kX11_spells_9 {S1 : MS} {M : MS} {x1 : Int32} {x3 : Int32} {x4 : Int32} {x5 : Int32} {H : Heap} {locs : List Loc} {ls : Array Slot} (X : gX p s m args c cX11_spells 6 RX11 (kR kTab kA)) (hret : gRetV p l e (rmL 1 0 0) s m args below meth c cX11_spells (mΩ ad) (mP dC dI cI kA ad) Q S1) (hf : fX11_spells_9 M x1 x3 x4 x5 = some S1) (hP : (mP dC dI cI kA ad) M s H) (hS : va_S (Fr (mΩ ad) s.heap.size) s.heap H locs) (hl : lv_has ls 6 [(0, .ref (ad 25)), (1, .int x1), (3, .int x3), (4, .int x4), (5, .int x5)]) : W p l e (rmL 1 0 0) s m args below meth c H locs 0 0 Q (F0 m 9 ls []) := by
  have hx := X.hx
  have hb := X.hb
  have hown := X.hown
  have hts := X.hts
  rw [fX11_spells_9] at hf
  refine lv_aload_n hx hb dX11_spells_9 rfl (lv_at hl 0 rfl) ?_
  refine mr_get (k := 0) X hP (by decide) rfl rfl tw1665 dX11_spells_10 ?_
  refine lv_iload_n hx hb dX11_spells_13 rfl (lv_at hl 1 rfl) ?_
  refine lv_iconst (v := 1) hx hb dX11_spells_14 (by decide) ?_
  refine lv_iadd hx hb dX11_spells_15 ?_
  refine lv_iconst (v := 1) hx hb dX11_spells_16 (by decide) ?_
  refine lv_iadd hx hb dX11_spells_17 ?_
  refine lv_iload_n hx hb dX11_spells_18 rfl (lv_at hl 2 rfl) ?_
  obtain ⟨g1, hf⟩ := gd hf
  refine mr_ast (a := 0) X hP hS rfl g1 dX11_spells_19 (fun H locs hP hS => ?_)
  exact kX11_spells_20 X hret hf hP hS (lv_sub hl [0, 1, 3, 4] rfl)
set_option maxRecDepth 10000 in
theorem kX11_spells_0 {S1 : MS} {M : MS} {a1 : Int32} {a2 : Int32} {a3 : Int32} {a4 : Int32} {a5 : Int32} {H : Heap} {locs : List Loc} {ls : Array Slot} (X : gX p s m args c cX11_spells 6 RX11 (kR kTab kA)) (hret : gRetV p l e (rmL 1 0 0) s m args below meth c cX11_spells (mΩ ad) (mP dC dI cI kA ad) Q S1) (hf : fX11_spells_0 M a1 a2 a3 a4 a5 = some S1) (hP : (mP dC dI cI kA ad) M s H) (hS : va_S (Fr (mΩ ad) s.heap.size) s.heap H locs) (hl : lv_has ls 6 [(0, .ref (ad 25)), (1, .int a1), (2, .int a2), (3, .int a3), (4, .int a4), (5, .int a5)]) : W p l e (rmL 1 0 0) s m args below meth c H locs 0 0 Q (F0 m 0 ls []) := by
  have hx := X.hx
  have hb := X.hb
  have hown := X.hown
  have hts := X.hts
  rw [fX11_spells_0] at hf
  refine lv_aload_n hx hb dX11_spells_0 rfl (lv_at hl 0 rfl) ?_
  refine mr_get (k := 0) X hP (by decide) rfl rfl tw1665 dX11_spells_1 ?_
  refine lv_iload_n hx hb dX11_spells_4 rfl (lv_at hl 1 rfl) ?_
  refine lv_iconst (v := 1) hx hb dX11_spells_5 (by decide) ?_
  refine lv_iadd hx hb dX11_spells_6 ?_
  refine lv_iload_n hx hb dX11_spells_7 rfl (lv_at hl 2 rfl) ?_
  obtain ⟨g1, hf⟩ := gd hf
  refine mr_ast (a := 0) X hP hS rfl g1 dX11_spells_8 (fun H locs hP hS => ?_)
  exact kX11_spells_9 X hret hf hP hS (lv_sub hl [0, 1, 3, 4, 5] rfl)
theorem vX11_spells {l : Launch} {dC : Nat → ClassId} {dI : Nat → Nat → Nat} {cI : ClassId} {kA : String → Nat → Nat} {ad : Nat → Nat} {M S1 : MS} {a1 : Int32} {a2 : Int32} {a3 : Int32} {a4 : Int32} {a5 : Int32} (hf : fX11_spells M a1 a2 a3 a4 a5 = some S1) : gMetV l yX11_spells cX11_spells 6 1 (mΩ ad) (mP dC dI cI kA ad) (kR kTab kA) [.ref (ad 25), .int a1, .int a2, .int a3, .int a4, .int a5] M S1 := gEntryV (by decide) mOK (Nat.le_of_ble_eq_true rfl) (fun p e s m args below meth c Q ls X hP hS hret hl => 
  kX11_spells_0 X hret hf hP hS (lv_sub hl [0, 1, 2, 3, 4, 5] rfl))
set_option maxRecDepth 10000 in
theorem kX11_addsShift_48 {S1 : MS} {M : MS} {H : Heap} {locs : List Loc} {ls : Array Slot} (X : gX p s m args c cX11_addsShift 3 RX11 (kR kTab kA)) (hret : gRetV p l e (rmL 1 0 0) s m args below meth c cX11_addsShift (mΩ ad) (mP dC dI cI kA ad) Q S1) (hf : fX11_addsShift_48 M = some S1) (hP : (mP dC dI cI kA ad) M s H) (hS : va_S (Fr (mΩ ad) s.heap.size) s.heap H locs) (hl : lv_has ls 3 [(0, .ref (ad 25))]) : W p l e (rmL 1 0 0) s m args below meth c H locs 0 0 Q (F0 m 48 ls []) := by
  have hx := X.hx
  have hb := X.hb
  have hown := X.hown
  have hts := X.hts
  rw [fX11_addsShift_48] at hf
  cases hf
  exact hret _ _ _ _ dX11_addsShift_48 hP hS
set_option maxRecDepth 10000 in
theorem kX11_addsShift_38 {S1 : MS} {M : MS} {H : Heap} {locs : List Loc} {ls : Array Slot} (X : gX p s m args c cX11_addsShift 3 RX11 (kR kTab kA)) (hret : gRetV p l e (rmL 1 0 0) s m args below meth c cX11_addsShift (mΩ ad) (mP dC dI cI kA ad) Q S1) (hf : fX11_addsShift_38 M = some S1) (hP : (mP dC dI cI kA ad) M s H) (hS : va_S (Fr (mΩ ad) s.heap.size) s.heap H locs) (hl : lv_has ls 3 [(0, .ref (ad 25))]) : W p l e (rmL 1 0 0) s m args below meth c H locs 0 0 Q (F0 m 38 ls []) := by
  have hx := X.hx
  have hb := X.hb
  have hown := X.hown
  have hts := X.hts
  rw [fX11_addsShift_38] at hf
  refine lv_aload_n hx hb dX11_addsShift_38 rfl (lv_at hl 0 rfl) ?_
  refine mr_get (k := 0) X hP (by decide) rfl rfl tw1665 dX11_addsShift_39 ?_
  refine lv_iconst (v := 2) hx hb dX11_addsShift_42 (by decide) ?_
  refine lv_dup2_11 hx hb dX11_addsShift_43 rfl rfl ?_
  obtain ⟨g1, hf⟩ := gd hf
  refine mr_ald (a := 0) X hP rfl g1 dX11_addsShift_44 ?_
  refine lv_iconst (v := 1) hx hb dX11_addsShift_45 (by decide) ?_
  refine lv_iadd hx hb dX11_addsShift_46 ?_
  obtain ⟨g2, hf⟩ := gd hf
  refine mr_ast (a := 0) X hP hS rfl g2 dX11_addsShift_47 (fun H locs hP hS => ?_)
  exact kX11_addsShift_48 X hret hf hP hS (lv_sub hl [0] rfl)
set_option maxRecDepth 10000 in
theorem kX11_addsShift_18 {S1 : MS} {M : MS} {x2 : Int32} {H : Heap} {locs : List Loc} {ls : Array Slot} (X : gX p s m args c cX11_addsShift 3 RX11 (kR kTab kA)) (hret : gRetV p l e (rmL 1 0 0) s m args below meth c cX11_addsShift (mΩ ad) (mP dC dI cI kA ad) Q S1) (hf : fX11_addsShift_18 M x2 = some S1) (hP : (mP dC dI cI kA ad) M s H) (hS : va_S (Fr (mΩ ad) s.heap.size) s.heap H locs) (hl : lv_has ls 3 [(0, .ref (ad 25)), (2, .int x2)]) : W p l e (rmL 1 0 0) s m args below meth c H locs 0 0 Q (F0 m 18 ls []) := by
  have hx := X.hx
  have hb := X.hb
  have hown := X.hown
  have hts := X.hts
  rw [fX11_addsShift_18] at hf
  refine lv_aload_n hx hb dX11_addsShift_18 rfl (lv_at hl 0 rfl) ?_
  refine mr_get (k := 0) X hP (by decide) rfl rfl tw1665 dX11_addsShift_19 ?_
  refine lv_sipush (v := 233) hx hb dX11_addsShift_22 (by decide) ?_
  refine lv_iconst (v := 2) hx hb dX11_addsShift_25 (by decide) ?_
  refine lv_aload_n hx hb dX11_addsShift_26 rfl (lv_at hl 0 rfl) ?_
  refine mr_get (k := 0) X hP (by decide) rfl rfl tw1665 dX11_addsShift_27 ?_
  refine lv_iconst (v := 2) hx hb dX11_addsShift_30 (by decide) ?_
  obtain ⟨g1, hf⟩ := gd hf
  refine mr_ald (a := 0) X hP rfl g1 dX11_addsShift_31 ?_
  refine lv_imul hx hb dX11_addsShift_32 ?_
  refine lv_iadd hx hb dX11_addsShift_33 ?_
  refine lv_iconst (v := 1) hx hb dX11_addsShift_34 (by decide) ?_
  refine lv_iadd hx hb dX11_addsShift_35 ?_
  refine lv_iload_n hx hb dX11_addsShift_36 rfl (lv_at hl 1 rfl) ?_
  obtain ⟨g2, hf⟩ := gd hf
  refine mr_ast (a := 0) X hP hS rfl g2 dX11_addsShift_37 (fun H locs hP hS => ?_)
  exact kX11_addsShift_38 X hret hf hP hS (lv_sub hl [0] rfl)
set_option maxRecDepth 10000 in
theorem kX11_addsShift_0 {S1 : MS} {M : MS} {a1 : Int32} {a2 : Int32} {H : Heap} {locs : List Loc} {ls : Array Slot} (X : gX p s m args c cX11_addsShift 3 RX11 (kR kTab kA)) (hret : gRetV p l e (rmL 1 0 0) s m args below meth c cX11_addsShift (mΩ ad) (mP dC dI cI kA ad) Q S1) (hf : fX11_addsShift_0 M a1 a2 = some S1) (hP : (mP dC dI cI kA ad) M s H) (hS : va_S (Fr (mΩ ad) s.heap.size) s.heap H locs) (hl : lv_has ls 3 [(0, .ref (ad 25)), (1, .int a1), (2, .int a2)]) : W p l e (rmL 1 0 0) s m args below meth c H locs 0 0 Q (F0 m 0 ls []) := by
  have hx := X.hx
  have hb := X.hb
  have hown := X.hown
  have hts := X.hts
  rw [fX11_addsShift_0] at hf
  refine lv_aload_n hx hb dX11_addsShift_0 rfl (lv_at hl 0 rfl) ?_
  refine mr_get (k := 0) X hP (by decide) rfl rfl tw1665 dX11_addsShift_1 ?_
  refine lv_sipush (v := 233) hx hb dX11_addsShift_4 (by decide) ?_
  refine lv_iconst (v := 2) hx hb dX11_addsShift_7 (by decide) ?_
  refine lv_aload_n hx hb dX11_addsShift_8 rfl (lv_at hl 0 rfl) ?_
  refine mr_get (k := 0) X hP (by decide) rfl rfl tw1665 dX11_addsShift_9 ?_
  refine lv_iconst (v := 2) hx hb dX11_addsShift_12 (by decide) ?_
  obtain ⟨g1, hf⟩ := gd hf
  refine mr_ald (a := 0) X hP rfl g1 dX11_addsShift_13 ?_
  refine lv_imul hx hb dX11_addsShift_14 ?_
  refine lv_iadd hx hb dX11_addsShift_15 ?_
  refine lv_iload_n hx hb dX11_addsShift_16 rfl (lv_at hl 1 rfl) ?_
  obtain ⟨g2, hf⟩ := gd hf
  refine mr_ast (a := 0) X hP hS rfl g2 dX11_addsShift_17 (fun H locs hP hS => ?_)
  exact kX11_addsShift_18 X hret hf hP hS (lv_sub hl [0, 2] rfl)
theorem vX11_addsShift {l : Launch} {dC : Nat → ClassId} {dI : Nat → Nat → Nat} {cI : ClassId} {kA : String → Nat → Nat} {ad : Nat → Nat} {M S1 : MS} {a1 : Int32} {a2 : Int32} (hf : fX11_addsShift M a1 a2 = some S1) : gMetV l yX11_addsShift cX11_addsShift 3 1 (mΩ ad) (mP dC dI cI kA ad) (kR kTab kA) [.ref (ad 25), .int a1, .int a2] M S1 := gEntryV (by decide) mOK (Nat.le_of_ble_eq_true rfl) (fun p e s m args below meth c Q ls X hP hS hret hl => 
  kX11_addsShift_0 X hret hf hP hS (lv_sub hl [0, 1, 2] rfl))
set_option maxRecDepth 10000 in
theorem kX11_shiftCat_0 {r : Int32} {M : MS} {a1 : Int32} (X : gX p s m args c cX11_shiftCat 2 RX11 (kR kTab kA)) (hret : gRetR p l e (rmL 1 0 0) s m args below meth c cX11_shiftCat Q r) (hf : fX11_shiftCat_0 M a1 = some r) {ls : Array Slot} (hP : (mP dC dI cI kA ad) M s s.heap) (hl : lv_has ls 2 [(0, .ref (ad 25)), (1, .int a1)]) : W p l e (rmL 1 0 0) s m args below meth c s.heap [] 0 0 Q (F0 m 0 ls []) := by
  have hx := X.hx
  have hb := X.hb
  have hown := X.hown
  have hts := X.hts
  rw [fX11_shiftCat_0] at hf
  refine lv_aload_n hx hb dX11_shiftCat_0 rfl (lv_at hl 0 rfl) ?_
  refine mr_get (k := 0) X hP (by decide) rfl rfl tw1665 dX11_shiftCat_1 ?_
  refine lv_sipush (v := 233) hx hb dX11_shiftCat_4 (by decide) ?_
  refine lv_iconst (v := 2) hx hb dX11_shiftCat_7 (by decide) ?_
  refine lv_iload_n hx hb dX11_shiftCat_8 rfl (lv_at hl 1 rfl) ?_
  refine lv_imul hx hb dX11_shiftCat_9 ?_
  refine lv_iadd hx hb dX11_shiftCat_10 ?_
  obtain ⟨g1, hf⟩ := gd hf
  refine mr_ald (a := 0) X hP rfl g1 dX11_shiftCat_11 ?_
  cases hf
  exact hret _ _ dX11_shiftCat_12
theorem vX11_shiftCat {l : Launch} {dC : Nat → ClassId} {dI : Nat → Nat → Nat} {cI : ClassId} {kA : String → Nat → Nat} {ad : Nat → Nat} {M : MS} {r : Int32} {a1 : Int32} (hf : fX11_shiftCat M a1 = some r) : gMetR l yX11_shiftCat cX11_shiftCat 2 (some .int) 1 (gB (mP dC dI cI kA ad) (kR kTab kA) M) [.ref (ad 25), .int a1] r := gEntryR (ty := .int) (by decide) rfl rfl (Nat.le_of_ble_eq_true rfl) (fun _ h => h.2) (fun p e s m args below meth c Q ls X hB hret hl => 
  kX11_shiftCat_0 X hret hf hB.1 (lv_sub hl [0, 1] rfl))
set_option maxRecDepth 10000 in
theorem kX11_shiftHours_0 {r : Int32} {M : MS} {a1 : Int32} (X : gX p s m args c cX11_shiftHours 2 RX11 (kR kTab kA)) (hret : gRetR p l e (rmL 1 0 0) s m args below meth c cX11_shiftHours Q r) (hf : fX11_shiftHours_0 M a1 = some r) {ls : Array Slot} (hP : (mP dC dI cI kA ad) M s s.heap) (hl : lv_has ls 2 [(0, .ref (ad 25)), (1, .int a1)]) : W p l e (rmL 1 0 0) s m args below meth c s.heap [] 0 0 Q (F0 m 0 ls []) := by
  have hx := X.hx
  have hb := X.hb
  have hown := X.hown
  have hts := X.hts
  rw [fX11_shiftHours_0] at hf
  refine lv_aload_n hx hb dX11_shiftHours_0 rfl (lv_at hl 0 rfl) ?_
  refine mr_get (k := 0) X hP (by decide) rfl rfl tw1665 dX11_shiftHours_1 ?_
  refine lv_sipush (v := 233) hx hb dX11_shiftHours_4 (by decide) ?_
  refine lv_iconst (v := 2) hx hb dX11_shiftHours_7 (by decide) ?_
  refine lv_iload_n hx hb dX11_shiftHours_8 rfl (lv_at hl 1 rfl) ?_
  refine lv_imul hx hb dX11_shiftHours_9 ?_
  refine lv_iadd hx hb dX11_shiftHours_10 ?_
  refine lv_iconst (v := 1) hx hb dX11_shiftHours_11 (by decide) ?_
  refine lv_iadd hx hb dX11_shiftHours_12 ?_
  obtain ⟨g1, hf⟩ := gd hf
  refine mr_ald (a := 0) X hP rfl g1 dX11_shiftHours_13 ?_
  cases hf
  exact hret _ _ dX11_shiftHours_14
theorem vX11_shiftHours {l : Launch} {dC : Nat → ClassId} {dI : Nat → Nat → Nat} {cI : ClassId} {kA : String → Nat → Nat} {ad : Nat → Nat} {M : MS} {r : Int32} {a1 : Int32} (hf : fX11_shiftHours M a1 = some r) : gMetR l yX11_shiftHours cX11_shiftHours 2 (some .int) 1 (gB (mP dC dI cI kA ad) (kR kTab kA) M) [.ref (ad 25), .int a1] r := gEntryR (ty := .int) (by decide) rfl rfl (Nat.le_of_ble_eq_true rfl) (fun _ h => h.2) (fun p e s m args below meth c Q ls X hB hret hl => 
  kX11_shiftHours_0 X hret hf hB.1 (lv_sub hl [0, 1] rfl))
set_option maxRecDepth 10000 in
theorem kX11_sumOf_42 {r : Int32} {M : MS} {x4 : Int32} (X : gX p s m args c cX11_sumOf 6 RX11 (kR kTab kA)) (hret : gRetR p l e (rmL 1 0 0) s m args below meth c cX11_sumOf Q r) (hf : fX11_sumOf_42 M x4 = some r) {ls : Array Slot} (hP : (mP dC dI cI kA ad) M s s.heap) (hl : lv_has ls 6 [(0, .ref (ad 25)), (4, .int x4)]) : W p l e (rmL 1 0 0) s m args below meth c s.heap [] 0 0 Q (F0 m 42 ls []) := by
  have hx := X.hx
  have hb := X.hb
  have hown := X.hown
  have hts := X.hts
  rw [fX11_sumOf_42] at hf
  refine lv_iload hx hb dX11_sumOf_42 (lv_at hl 1 rfl) ?_
  cases hf
  exact hret _ _ dX11_sumOf_44
set_option maxRecDepth 10000 in
theorem kX11_sumOf_17 {r : Int32} {K6 : MS → Int32 → Int32 → Int32 → Int32 → Int32 → Option (Int32)} {M : MS} {x1 : Int32} {x2 : Int32} {x3 : Int32} {x4 : Int32} {x5 : Int32} (X : gX p s m args c cX11_sumOf 6 RX11 (kR kTab kA)) (hret : gRetR p l e (rmL 1 0 0) s m args below meth c cX11_sumOf Q r) (hK6 : ∀ (M : MS) (x1 : Int32) (x2 : Int32) (x3 : Int32) (x4 : Int32) (x5 : Int32) (ls : Array Slot), K6 M x1 x2 x3 x4 x5 = some r → (mP dC dI cI kA ad) M s s.heap → lv_has ls 6 [(0, .ref (ad 25)), (1, .int x1), (2, .int x2), (3, .int x3), (4, .int x4), (5, .int x5)] → W p l e (rmL 1 0 0) s m args below meth c s.heap [] 0 0 Q (F0 m 6 ls [])) (hf : fX11_sumOf_17 K6 M x1 x2 x3 x4 x5 = some r) {ls : Array Slot} (hP : (mP dC dI cI kA ad) M s s.heap) (hl : lv_has ls 6 [(0, .ref (ad 25)), (1, .int x1), (2, .int x2), (3, .int x3), (4, .int x4), (5, .int x5)]) : W p l e (rmL 1 0 0) s m args below meth c s.heap [] 0 0 Q (F0 m 17 ls []) := by
  have hx := X.hx
  have hb := X.hb
  have hown := X.hown
  have hts := X.hts
  rw [fX11_sumOf_17] at hf
  refine lv_iload hx hb dX11_sumOf_17 (lv_at hl 4 rfl) ?_
  refine lv_aload_n hx hb dX11_sumOf_19 rfl (lv_at hl 0 rfl) ?_
  refine mr_get (k := 0) X hP (by decide) rfl rfl tw1665 dX11_sumOf_20 ?_
  refine lv_iload_n hx hb dX11_sumOf_23 rfl (lv_at hl 1 rfl) ?_
  refine lv_bipush (v := 12) hx hb dX11_sumOf_24 (by decide) ?_
  refine lv_iload hx hb dX11_sumOf_26 (lv_at hl 5 rfl) ?_
  refine lv_imul hx hb dX11_sumOf_28 ?_
  refine lv_iadd hx hb dX11_sumOf_29 ?_
  refine lv_iload_n hx hb dX11_sumOf_30 rfl (lv_at hl 3 rfl) ?_
  refine lv_iadd hx hb dX11_sumOf_31 ?_
  obtain ⟨g1, hf⟩ := gd hf
  refine mr_ald (a := 0) X hP rfl g1 dX11_sumOf_32 ?_
  refine lv_iadd hx hb dX11_sumOf_33 ?_
  refine lv_istore (lv' := [(4, .int (x4 + (M.2 0 ((x1 + (12 * x5)) + x3).toNatClampNeg))), (0, .ref (ad 25)), (1, .int x1), (2, .int x2), (3, .int x3), (5, .int x5)]) hx hb dX11_sumOf_34 hl (by decide) rfl (fun ls hl => ?_)
  refine lv_iinc (v := (x5 + 1)) (lv' := [(5, .int (x5 + 1)), (4, .int (x4 + (M.2 0 ((x1 + (12 * x5)) + x3).toNatClampNeg))), (0, .ref (ad 25)), (1, .int x1), (2, .int x2), (3, .int x3)]) hx hb dX11_sumOf_36 hl (k := 5) rfl (by rfl) (by decide) rfl (fun ls hl => ?_)
  refine lv_goto (tgt := 6) hx hb dX11_sumOf_39 (by decide) ?_
  exact hK6 _ _ _ _ _ _ _ hf hP (lv_sub hl [2, 3, 4, 5, 1, 0] rfl)
set_option maxRecDepth 10000 in
theorem kX11_sumOf_6 {r : Int32} (X : gX p s m args c cX11_sumOf 6 RX11 (kR kTab kA)) (hret : gRetR p l e (rmL 1 0 0) s m args below meth c cX11_sumOf Q r) : ∀ (n : Nat) (M : MS) (x1 : Int32) (x2 : Int32) (x3 : Int32) (x4 : Int32) (x5 : Int32) (ls : Array Slot), fX11_sumOf_6 n M x1 x2 x3 x4 x5 = some r → (mP dC dI cI kA ad) M s s.heap → lv_has ls 6 [(0, .ref (ad 25)), (1, .int x1), (2, .int x2), (3, .int x3), (4, .int x4), (5, .int x5)] → W p l e (rmL 1 0 0) s m args below meth c s.heap [] 0 0 Q (F0 m 6 ls []) := by
  intro n
  induction n with
  | zero => intro M x1 x2 x3 x4 x5 ls hf; cases hf
  | succ k ih =>
    intro M x1 x2 x3 x4 x5 ls hf hP hl
    have hx := X.hx
    have hb := X.hb
    have hown := X.hown
    have hts := X.hts
    rw [fX11_sumOf_6] at hf
    try dsimp only at hf
    refine lv_iload hx hb dX11_sumOf_6 (lv_at hl 5 rfl) ?_
    refine lv_aload_n hx hb dX11_sumOf_8 rfl (lv_at hl 0 rfl) ?_
    refine mr_get (k := 0) X hP (by decide) rfl rfl tw1665 dX11_sumOf_9 ?_
    refine lv_iload_n hx hb dX11_sumOf_12 rfl (lv_at hl 2 rfl) ?_
    obtain ⟨g1, hf⟩ := gd hf
    refine mr_ald (a := 0) X hP rfl g1 dX11_sumOf_13 ?_
    refine lv_icmp_ge (tgt := 42) hx hb dX11_sumOf_14 (by decide) (fun c1 => ?_) (fun c1 => ?_)
    · exact kX11_sumOf_42 X hret (ifp c1 hf) hP (lv_sub hl [0, 4] rfl)
    · exact kX11_sumOf_17 X hret ih (ifn c1 hf) hP (lv_sub hl [0, 1, 2, 3, 4, 5] rfl)
set_option maxRecDepth 10000 in
theorem kX11_sumOf_0 {r : Int32} {M : MS} {a1 : Int32} {a2 : Int32} {a3 : Int32} (X : gX p s m args c cX11_sumOf 6 RX11 (kR kTab kA)) (hret : gRetR p l e (rmL 1 0 0) s m args below meth c cX11_sumOf Q r) (hf : fX11_sumOf_0 M a1 a2 a3 = some r) {ls : Array Slot} (hP : (mP dC dI cI kA ad) M s s.heap) (hl : lv_has ls 6 [(0, .ref (ad 25)), (1, .int a1), (2, .int a2), (3, .int a3)]) : W p l e (rmL 1 0 0) s m args below meth c s.heap [] 0 0 Q (F0 m 0 ls []) := by
  have hx := X.hx
  have hb := X.hb
  have hown := X.hown
  have hts := X.hts
  rw [fX11_sumOf_0] at hf
  refine lv_iconst (v := 0) hx hb dX11_sumOf_0 (by decide) ?_
  refine lv_istore (lv' := [(4, .int 0), (0, .ref (ad 25)), (1, .int a1), (2, .int a2), (3, .int a3)]) hx hb dX11_sumOf_1 hl (by decide) rfl (fun ls hl => ?_)
  refine lv_iconst (v := 0) hx hb dX11_sumOf_3 (by decide) ?_
  refine lv_istore (lv' := [(5, .int 0), (4, .int 0), (0, .ref (ad 25)), (1, .int a1), (2, .int a2), (3, .int a3)]) hx hb dX11_sumOf_4 hl (by decide) rfl (fun ls hl => ?_)
  exact kX11_sumOf_6 X hret FU _ _ _ _ _ _ _ hf hP (lv_sub hl [2, 3, 4, 5, 1, 0] rfl)
theorem vX11_sumOf {l : Launch} {dC : Nat → ClassId} {dI : Nat → Nat → Nat} {cI : ClassId} {kA : String → Nat → Nat} {ad : Nat → Nat} {M : MS} {r : Int32} {a1 : Int32} {a2 : Int32} {a3 : Int32} (hf : fX11_sumOf M a1 a2 a3 = some r) : gMetR l yX11_sumOf cX11_sumOf 6 (some .int) 1 (gB (mP dC dI cI kA ad) (kR kTab kA) M) [.ref (ad 25), .int a1, .int a2, .int a3] r := gEntryR (ty := .int) (by decide) rfl rfl (Nat.le_of_ble_eq_true rfl) (fun _ h => h.2) (fun p e s m args below meth c Q ls X hB hret hl => 
  kX11_sumOf_0 X hret hf hB.1 (lv_sub hl [0, 1, 2, 3] rfl))
set_option maxRecDepth 10000 in
theorem kX11_logs_116 {S1 : MS} {M : MS} {H : Heap} {locs : List Loc} {ls : Array Slot} (X : gX p s m args c cX11_logs 6 RX11 (kR kTab kA)) (hret : gRetV p l e (rmL 1 0 0) s m args below meth c cX11_logs (mΩ ad) (mP dC dI cI kA ad) Q S1) (hf : fX11_logs_116 M = some S1) (hP : (mP dC dI cI kA ad) M s H) (hS : va_S (Fr (mΩ ad) s.heap.size) s.heap H locs) (hl : lv_has ls 6 [(0, .ref (ad 25))]) : W p l e (rmL 1 0 0) s m args below meth c H locs 0 0 Q (F0 m 116 ls []) := by
  have hx := X.hx
  have hb := X.hb
  have hown := X.hown
  have hts := X.hts
  rw [fX11_logs_116] at hf
  cases hf
  exact hret _ _ _ _ dX11_logs_116 hP hS
set_option maxRecDepth 10000 in
theorem kX11_logs_108 {S1 : MS} {M : MS} {x3 : Int32} {H : Heap} {locs : List Loc} {ls : Array Slot} (X : gX p s m args c cX11_logs 6 RX11 (kR kTab kA)) (hret : gRetV p l e (rmL 1 0 0) s m args below meth c cX11_logs (mΩ ad) (mP dC dI cI kA ad) Q S1) (hf : fX11_logs_108 M x3 = some S1) (hP : (mP dC dI cI kA ad) M s H) (hS : va_S (Fr (mΩ ad) s.heap.size) s.heap H locs) (hl : lv_has ls 6 [(0, .ref (ad 25)), (3, .int x3)]) : W p l e (rmL 1 0 0) s m args below meth c H locs 0 0 Q (F0 m 108 ls []) := by
  have hx := X.hx
  have hb := X.hb
  have hown := X.hown
  have hts := X.hts
  rw [fX11_logs_108] at hf
  refine lv_aload_n hx hb dX11_logs_108 rfl (lv_at hl 0 rfl) ?_
  refine mr_get (k := 0) X hP (by decide) rfl rfl tw1665 dX11_logs_109 ?_
  refine lv_bipush (v := 19) hx hb dX11_logs_112 (by decide) ?_
  refine lv_iload_n hx hb dX11_logs_114 rfl (lv_at hl 1 rfl) ?_
  obtain ⟨g1, hf⟩ := gd hf
  refine mr_ast (a := 0) X hP hS rfl g1 dX11_logs_115 (fun H locs hP hS => ?_)
  exact kX11_logs_116 X hret hf hP hS (lv_sub hl [0] rfl)
set_option maxRecDepth 10000 in
theorem kX11_logs_100 {S1 : MS} {M : MS} {x2 : Int32} {x3 : Int32} {H : Heap} {locs : List Loc} {ls : Array Slot} (X : gX p s m args c cX11_logs 6 RX11 (kR kTab kA)) (hret : gRetV p l e (rmL 1 0 0) s m args below meth c cX11_logs (mΩ ad) (mP dC dI cI kA ad) Q S1) (hf : fX11_logs_100 M x2 x3 = some S1) (hP : (mP dC dI cI kA ad) M s H) (hS : va_S (Fr (mΩ ad) s.heap.size) s.heap H locs) (hl : lv_has ls 6 [(0, .ref (ad 25)), (2, .int x2), (3, .int x3)]) : W p l e (rmL 1 0 0) s m args below meth c H locs 0 0 Q (F0 m 100 ls []) := by
  have hx := X.hx
  have hb := X.hb
  have hown := X.hown
  have hts := X.hts
  rw [fX11_logs_100] at hf
  refine lv_aload_n hx hb dX11_logs_100 rfl (lv_at hl 0 rfl) ?_
  refine mr_get (k := 0) X hP (by decide) rfl rfl tw1665 dX11_logs_101 ?_
  refine lv_bipush (v := 18) hx hb dX11_logs_104 (by decide) ?_
  refine lv_iload_n hx hb dX11_logs_106 rfl (lv_at hl 1 rfl) ?_
  obtain ⟨g1, hf⟩ := gd hf
  refine mr_ast (a := 0) X hP hS rfl g1 dX11_logs_107 (fun H locs hP hS => ?_)
  exact kX11_logs_108 X hret hf hP hS (lv_sub hl [0, 2] rfl)
set_option maxRecDepth 10000 in
theorem kX11_logs_92 {S1 : MS} {M : MS} {x1 : Int32} {x2 : Int32} {x3 : Int32} {H : Heap} {locs : List Loc} {ls : Array Slot} (X : gX p s m args c cX11_logs 6 RX11 (kR kTab kA)) (hret : gRetV p l e (rmL 1 0 0) s m args below meth c cX11_logs (mΩ ad) (mP dC dI cI kA ad) Q S1) (hf : fX11_logs_92 M x1 x2 x3 = some S1) (hP : (mP dC dI cI kA ad) M s H) (hS : va_S (Fr (mΩ ad) s.heap.size) s.heap H locs) (hl : lv_has ls 6 [(0, .ref (ad 25)), (1, .int x1), (2, .int x2), (3, .int x3)]) : W p l e (rmL 1 0 0) s m args below meth c H locs 0 0 Q (F0 m 92 ls []) := by
  have hx := X.hx
  have hb := X.hb
  have hown := X.hown
  have hts := X.hts
  rw [fX11_logs_92] at hf
  refine lv_aload_n hx hb dX11_logs_92 rfl (lv_at hl 0 rfl) ?_
  refine mr_get (k := 0) X hP (by decide) rfl rfl tw1665 dX11_logs_93 ?_
  refine lv_bipush (v := 17) hx hb dX11_logs_96 (by decide) ?_
  refine lv_iload_n hx hb dX11_logs_98 rfl (lv_at hl 1 rfl) ?_
  obtain ⟨g1, hf⟩ := gd hf
  refine mr_ast (a := 0) X hP hS rfl g1 dX11_logs_99 (fun H locs hP hS => ?_)
  exact kX11_logs_100 X hret hf hP hS (lv_sub hl [0, 2, 3] rfl)
set_option maxRecDepth 10000 in
theorem kX11_logs_86 {S1 : MS} {K34 : MS → Int32 → Int32 → Int32 → Int32 → Option (MS)} {M : MS} {x1 : Int32} {x2 : Int32} {x3 : Int32} {x4 : Int32} {H : Heap} {locs : List Loc} {ls : Array Slot} (X : gX p s m args c cX11_logs 6 RX11 (kR kTab kA)) (hret : gRetV p l e (rmL 1 0 0) s m args below meth c cX11_logs (mΩ ad) (mP dC dI cI kA ad) Q S1) (hK34 : ∀ (M : MS) (x1 : Int32) (x2 : Int32) (x3 : Int32) (x4 : Int32) (H : Heap) (locs : List Loc) (ls : Array Slot), K34 M x1 x2 x3 x4 = some S1 → (mP dC dI cI kA ad) M s H → va_S (Fr (mΩ ad) s.heap.size) s.heap H locs → lv_has ls 6 [(0, .ref (ad 25)), (1, .int x1), (2, .int x2), (3, .int x3), (4, .int x4)] → W p l e (rmL 1 0 0) s m args below meth c H locs 0 0 Q (F0 m 34 ls [])) (hf : fX11_logs_86 K34 M x1 x2 x3 x4 = some S1) (hP : (mP dC dI cI kA ad) M s H) (hS : va_S (Fr (mΩ ad) s.heap.size) s.heap H locs) (hl : lv_has ls 6 [(0, .ref (ad 25)), (1, .int x1), (2, .int x2), (3, .int x3), (4, .int x4)]) : W p l e (rmL 1 0 0) s m args below meth c H locs 0 0 Q (F0 m 86 ls []) := by
  have hx := X.hx
  have hb := X.hb
  have hown := X.hown
  have hts := X.hts
  rw [fX11_logs_86] at hf
  refine lv_iinc (v := (x4 + (-1))) (lv' := [(4, .int (x4 + (-1))), (0, .ref (ad 25)), (1, .int x1), (2, .int x2), (3, .int x3)]) hx hb dX11_logs_86 hl (k := 4) rfl (by rfl) (by decide) rfl (fun ls hl => ?_)
  refine lv_goto (tgt := 34) hx hb dX11_logs_89 (by decide) ?_
  exact hK34 _ _ _ _ _ _ _ _ hf hP hS (lv_sub hl [1, 2, 3, 4, 0] rfl)
set_option maxRecDepth 10000 in
theorem kX11_logs_80 {S1 : MS} {K34 : MS → Int32 → Int32 → Int32 → Int32 → Option (MS)} {K42 : MS → Int32 → Int32 → Int32 → Int32 → Int32 → Option (MS)} {M : MS} {x1 : Int32} {x2 : Int32} {x3 : Int32} {x4 : Int32} {x5 : Int32} {H : Heap} {locs : List Loc} {ls : Array Slot} (X : gX p s m args c cX11_logs 6 RX11 (kR kTab kA)) (hret : gRetV p l e (rmL 1 0 0) s m args below meth c cX11_logs (mΩ ad) (mP dC dI cI kA ad) Q S1) (hK34 : ∀ (M : MS) (x1 : Int32) (x2 : Int32) (x3 : Int32) (x4 : Int32) (H : Heap) (locs : List Loc) (ls : Array Slot), K34 M x1 x2 x3 x4 = some S1 → (mP dC dI cI kA ad) M s H → va_S (Fr (mΩ ad) s.heap.size) s.heap H locs → lv_has ls 6 [(0, .ref (ad 25)), (1, .int x1), (2, .int x2), (3, .int x3), (4, .int x4)] → W p l e (rmL 1 0 0) s m args below meth c H locs 0 0 Q (F0 m 34 ls [])) (hK42 : ∀ (M : MS) (x1 : Int32) (x2 : Int32) (x3 : Int32) (x4 : Int32) (x5 : Int32) (H : Heap) (locs : List Loc) (ls : Array Slot), K42 M x1 x2 x3 x4 x5 = some S1 → (mP dC dI cI kA ad) M s H → va_S (Fr (mΩ ad) s.heap.size) s.heap H locs → lv_has ls 6 [(0, .ref (ad 25)), (1, .int x1), (2, .int x2), (3, .int x3), (4, .int x4), (5, .int x5)] → W p l e (rmL 1 0 0) s m args below meth c H locs 0 0 Q (F0 m 42 ls [])) (hf : fX11_logs_80 K34 K42 M x1 x2 x3 x4 x5 = some S1) (hP : (mP dC dI cI kA ad) M s H) (hS : va_S (Fr (mΩ ad) s.heap.size) s.heap H locs) (hl : lv_has ls 6 [(0, .ref (ad 25)), (1, .int x1), (2, .int x2), (3, .int x3), (4, .int x4), (5, .int x5)]) : W p l e (rmL 1 0 0) s m args below meth c H locs 0 0 Q (F0 m 80 ls []) := by
  have hx := X.hx
  have hb := X.hb
  have hown := X.hown
  have hts := X.hts
  rw [fX11_logs_80] at hf
  refine lv_iinc (v := (x5 + 1)) (lv' := [(5, .int (x5 + 1)), (0, .ref (ad 25)), (1, .int x1), (2, .int x2), (3, .int x3), (4, .int x4)]) hx hb dX11_logs_80 hl (k := 5) rfl (by rfl) (by decide) rfl (fun ls hl => ?_)
  refine lv_goto (tgt := 42) hx hb dX11_logs_83 (by decide) ?_
  exact hK42 _ _ _ _ _ _ _ _ _ hf hP hS (lv_sub hl [1, 2, 3, 4, 5, 0] rfl)
set_option maxRecDepth 10000 in
theorem kX11_logs_48 {S1 : MS} {K34 : MS → Int32 → Int32 → Int32 → Int32 → Option (MS)} {K42 : MS → Int32 → Int32 → Int32 → Int32 → Int32 → Option (MS)} {M : MS} {x1 : Int32} {x2 : Int32} {x3 : Int32} {x4 : Int32} {x5 : Int32} {H : Heap} {locs : List Loc} {ls : Array Slot} (X : gX p s m args c cX11_logs 6 RX11 (kR kTab kA)) (hret : gRetV p l e (rmL 1 0 0) s m args below meth c cX11_logs (mΩ ad) (mP dC dI cI kA ad) Q S1) (hK34 : ∀ (M : MS) (x1 : Int32) (x2 : Int32) (x3 : Int32) (x4 : Int32) (H : Heap) (locs : List Loc) (ls : Array Slot), K34 M x1 x2 x3 x4 = some S1 → (mP dC dI cI kA ad) M s H → va_S (Fr (mΩ ad) s.heap.size) s.heap H locs → lv_has ls 6 [(0, .ref (ad 25)), (1, .int x1), (2, .int x2), (3, .int x3), (4, .int x4)] → W p l e (rmL 1 0 0) s m args below meth c H locs 0 0 Q (F0 m 34 ls [])) (hK42 : ∀ (M : MS) (x1 : Int32) (x2 : Int32) (x3 : Int32) (x4 : Int32) (x5 : Int32) (H : Heap) (locs : List Loc) (ls : Array Slot), K42 M x1 x2 x3 x4 x5 = some S1 → (mP dC dI cI kA ad) M s H → va_S (Fr (mΩ ad) s.heap.size) s.heap H locs → lv_has ls 6 [(0, .ref (ad 25)), (1, .int x1), (2, .int x2), (3, .int x3), (4, .int x4), (5, .int x5)] → W p l e (rmL 1 0 0) s m args below meth c H locs 0 0 Q (F0 m 42 ls [])) (hf : fX11_logs_48 K34 K42 M x1 x2 x3 x4 x5 = some S1) (hP : (mP dC dI cI kA ad) M s H) (hS : va_S (Fr (mΩ ad) s.heap.size) s.heap H locs) (hl : lv_has ls 6 [(0, .ref (ad 25)), (1, .int x1), (2, .int x2), (3, .int x3), (4, .int x4), (5, .int x5)]) : W p l e (rmL 1 0 0) s m args below meth c H locs 0 0 Q (F0 m 48 ls []) := by
  have hx := X.hx
  have hb := X.hb
  have hown := X.hown
  have hts := X.hts
  rw [fX11_logs_48] at hf
  refine lv_aload_n hx hb dX11_logs_48 rfl (lv_at hl 0 rfl) ?_
  refine mr_get (k := 0) X hP (by decide) rfl rfl tw1665 dX11_logs_49 ?_
  refine lv_bipush (v := 17) hx hb dX11_logs_52 (by decide) ?_
  refine lv_iconst (v := 3) hx hb dX11_logs_54 (by decide) ?_
  refine lv_iload hx hb dX11_logs_55 (lv_at hl 4 rfl) ?_
  refine lv_imul hx hb dX11_logs_57 ?_
  refine lv_iadd hx hb dX11_logs_58 ?_
  refine lv_iload hx hb dX11_logs_59 (lv_at hl 5 rfl) ?_
  refine lv_iadd hx hb dX11_logs_61 ?_
  refine lv_aload_n hx hb dX11_logs_62 rfl (lv_at hl 0 rfl) ?_
  refine mr_get (k := 0) X hP (by decide) rfl rfl tw1665 dX11_logs_63 ?_
  refine lv_bipush (v := 17) hx hb dX11_logs_66 (by decide) ?_
  refine lv_iconst (v := 3) hx hb dX11_logs_68 (by decide) ?_
  refine lv_iload hx hb dX11_logs_69 (lv_at hl 4 rfl) ?_
  refine lv_imul hx hb dX11_logs_71 ?_
  refine lv_iadd hx hb dX11_logs_72 ?_
  refine lv_iconst (v := 3) hx hb dX11_logs_73 (by decide) ?_
  refine lv_isub hx hb dX11_logs_74 ?_
  refine lv_iload hx hb dX11_logs_75 (lv_at hl 5 rfl) ?_
  refine lv_iadd hx hb dX11_logs_77 ?_
  obtain ⟨g1, hf⟩ := gd hf
  refine mr_ald (a := 0) X hP rfl g1 dX11_logs_78 ?_
  obtain ⟨g2, hf⟩ := gd hf
  refine mr_ast (a := 0) X hP hS rfl g2 dX11_logs_79 (fun H locs hP hS => ?_)
  exact kX11_logs_80 X hret hK34 hK42 hf hP hS (lv_sub hl [0, 1, 2, 3, 4, 5] rfl)
set_option maxRecDepth 10000 in
theorem kX11_logs_42 {S1 : MS} {K34 : MS → Int32 → Int32 → Int32 → Int32 → Option (MS)} (X : gX p s m args c cX11_logs 6 RX11 (kR kTab kA)) (hret : gRetV p l e (rmL 1 0 0) s m args below meth c cX11_logs (mΩ ad) (mP dC dI cI kA ad) Q S1) (hK34 : ∀ (M : MS) (x1 : Int32) (x2 : Int32) (x3 : Int32) (x4 : Int32) (H : Heap) (locs : List Loc) (ls : Array Slot), K34 M x1 x2 x3 x4 = some S1 → (mP dC dI cI kA ad) M s H → va_S (Fr (mΩ ad) s.heap.size) s.heap H locs → lv_has ls 6 [(0, .ref (ad 25)), (1, .int x1), (2, .int x2), (3, .int x3), (4, .int x4)] → W p l e (rmL 1 0 0) s m args below meth c H locs 0 0 Q (F0 m 34 ls [])) : ∀ (n : Nat) (M : MS) (x1 : Int32) (x2 : Int32) (x3 : Int32) (x4 : Int32) (x5 : Int32) (H : Heap) (locs : List Loc) (ls : Array Slot), fX11_logs_42 K34 n M x1 x2 x3 x4 x5 = some S1 → (mP dC dI cI kA ad) M s H → va_S (Fr (mΩ ad) s.heap.size) s.heap H locs → lv_has ls 6 [(0, .ref (ad 25)), (1, .int x1), (2, .int x2), (3, .int x3), (4, .int x4), (5, .int x5)] → W p l e (rmL 1 0 0) s m args below meth c H locs 0 0 Q (F0 m 42 ls []) := by
  intro n
  induction n with
  | zero => intro M x1 x2 x3 x4 x5 H locs ls hf; cases hf
  | succ k ih =>
    intro M x1 x2 x3 x4 x5 H locs ls hf hP hS hl
    have hx := X.hx
    have hb := X.hb
    have hown := X.hown
    have hts := X.hts
    rw [fX11_logs_42] at hf
    try dsimp only at hf
    refine lv_iload hx hb dX11_logs_42 (lv_at hl 5 rfl) ?_
    refine lv_iconst (v := 3) hx hb dX11_logs_44 (by decide) ?_
    refine lv_icmp_ge (tgt := 86) hx hb dX11_logs_45 (by decide) (fun c1 => ?_) (fun c1 => ?_)
    · exact kX11_logs_86 X hret hK34 (ifp c1 hf) hP hS (lv_sub hl [0, 1, 2, 3, 4] rfl)
    · exact kX11_logs_48 X hret hK34 ih (ifn c1 hf) hP hS (lv_sub hl [0, 1, 2, 3, 4, 5] rfl)
set_option maxRecDepth 10000 in
theorem kX11_logs_39 {S1 : MS} {K34 : MS → Int32 → Int32 → Int32 → Int32 → Option (MS)} {M : MS} {x1 : Int32} {x2 : Int32} {x3 : Int32} {x4 : Int32} {H : Heap} {locs : List Loc} {ls : Array Slot} (X : gX p s m args c cX11_logs 6 RX11 (kR kTab kA)) (hret : gRetV p l e (rmL 1 0 0) s m args below meth c cX11_logs (mΩ ad) (mP dC dI cI kA ad) Q S1) (hK34 : ∀ (M : MS) (x1 : Int32) (x2 : Int32) (x3 : Int32) (x4 : Int32) (H : Heap) (locs : List Loc) (ls : Array Slot), K34 M x1 x2 x3 x4 = some S1 → (mP dC dI cI kA ad) M s H → va_S (Fr (mΩ ad) s.heap.size) s.heap H locs → lv_has ls 6 [(0, .ref (ad 25)), (1, .int x1), (2, .int x2), (3, .int x3), (4, .int x4)] → W p l e (rmL 1 0 0) s m args below meth c H locs 0 0 Q (F0 m 34 ls [])) (hf : fX11_logs_39 K34 M x1 x2 x3 x4 = some S1) (hP : (mP dC dI cI kA ad) M s H) (hS : va_S (Fr (mΩ ad) s.heap.size) s.heap H locs) (hl : lv_has ls 6 [(0, .ref (ad 25)), (1, .int x1), (2, .int x2), (3, .int x3), (4, .int x4)]) : W p l e (rmL 1 0 0) s m args below meth c H locs 0 0 Q (F0 m 39 ls []) := by
  have hx := X.hx
  have hb := X.hb
  have hown := X.hown
  have hts := X.hts
  rw [fX11_logs_39] at hf
  refine lv_iconst (v := 0) hx hb dX11_logs_39 (by decide) ?_
  refine lv_istore (lv' := [(5, .int 0), (0, .ref (ad 25)), (1, .int x1), (2, .int x2), (3, .int x3), (4, .int x4)]) hx hb dX11_logs_40 hl (by decide) rfl (fun ls hl => ?_)
  exact kX11_logs_42 X hret hK34 FU _ _ _ _ _ _ _ _ _ hf hP hS (lv_sub hl [1, 2, 3, 4, 5, 0] rfl)
set_option maxRecDepth 10000 in
theorem kX11_logs_34 {S1 : MS} (X : gX p s m args c cX11_logs 6 RX11 (kR kTab kA)) (hret : gRetV p l e (rmL 1 0 0) s m args below meth c cX11_logs (mΩ ad) (mP dC dI cI kA ad) Q S1) : ∀ (n : Nat) (M : MS) (x1 : Int32) (x2 : Int32) (x3 : Int32) (x4 : Int32) (H : Heap) (locs : List Loc) (ls : Array Slot), fX11_logs_34 n M x1 x2 x3 x4 = some S1 → (mP dC dI cI kA ad) M s H → va_S (Fr (mΩ ad) s.heap.size) s.heap H locs → lv_has ls 6 [(0, .ref (ad 25)), (1, .int x1), (2, .int x2), (3, .int x3), (4, .int x4)] → W p l e (rmL 1 0 0) s m args below meth c H locs 0 0 Q (F0 m 34 ls []) := by
  intro n
  induction n with
  | zero => intro M x1 x2 x3 x4 H locs ls hf; cases hf
  | succ k ih =>
    intro M x1 x2 x3 x4 H locs ls hf hP hS hl
    have hx := X.hx
    have hb := X.hb
    have hown := X.hown
    have hts := X.hts
    rw [fX11_logs_34] at hf
    try dsimp only at hf
    refine lv_iload hx hb dX11_logs_34 (lv_at hl 4 rfl) ?_
    refine lv_if_le (tgt := 92) hx hb dX11_logs_36 (by decide) (fun c1 => ?_) (fun c1 => ?_)
    · exact kX11_logs_92 X hret (ifp c1 hf) hP hS (lv_sub hl [0, 1, 2, 3] rfl)
    · exact kX11_logs_39 X hret ih (ifn c1 hf) hP hS (lv_sub hl [0, 1, 2, 3, 4] rfl)
set_option maxRecDepth 10000 in
theorem kX11_logs_23 {S1 : MS} {M : MS} {x1 : Int32} {x2 : Int32} {x3 : Int32} {H : Heap} {locs : List Loc} {ls : Array Slot} (X : gX p s m args c cX11_logs 6 RX11 (kR kTab kA)) (hret : gRetV p l e (rmL 1 0 0) s m args below meth c cX11_logs (mΩ ad) (mP dC dI cI kA ad) Q S1) (hf : fX11_logs_23 M x1 x2 x3 = some S1) (hP : (mP dC dI cI kA ad) M s H) (hS : va_S (Fr (mΩ ad) s.heap.size) s.heap H locs) (hl : lv_has ls 6 [(0, .ref (ad 25)), (1, .int x1), (2, .int x2), (3, .int x3)]) : W p l e (rmL 1 0 0) s m args below meth c H locs 0 0 Q (F0 m 23 ls []) := by
  have hx := X.hx
  have hb := X.hb
  have hown := X.hown
  have hts := X.hts
  rw [fX11_logs_23] at hf
  refine lv_aload_n hx hb dX11_logs_23 rfl (lv_at hl 0 rfl) ?_
  refine mr_get (k := 0) X hP (by decide) rfl rfl tw1665 dX11_logs_24 ?_
  refine lv_bipush (v := 16) hx hb dX11_logs_27 (by decide) ?_
  obtain ⟨g1, hf⟩ := gd hf
  refine mr_ald (a := 0) X hP rfl g1 dX11_logs_29 ?_
  refine lv_iconst (v := 1) hx hb dX11_logs_30 (by decide) ?_
  refine lv_isub hx hb dX11_logs_31 ?_
  refine lv_istore (lv' := [(4, .int ((M.2 0 (16 : Int32).toNatClampNeg) - 1)), (0, .ref (ad 25)), (1, .int x1), (2, .int x2), (3, .int x3)]) hx hb dX11_logs_32 hl (by decide) rfl (fun ls hl => ?_)
  exact kX11_logs_34 X hret FU _ _ _ _ _ _ _ _ hf hP hS (lv_sub hl [1, 2, 3, 4, 0] rfl)
set_option maxRecDepth 10000 in
theorem kX11_logs_12 {S1 : MS} {M : MS} {x1 : Int32} {x2 : Int32} {x3 : Int32} {H : Heap} {locs : List Loc} {ls : Array Slot} (X : gX p s m args c cX11_logs 6 RX11 (kR kTab kA)) (hret : gRetV p l e (rmL 1 0 0) s m args below meth c cX11_logs (mΩ ad) (mP dC dI cI kA ad) Q S1) (hf : fX11_logs_12 M x1 x2 x3 = some S1) (hP : (mP dC dI cI kA ad) M s H) (hS : va_S (Fr (mΩ ad) s.heap.size) s.heap H locs) (hl : lv_has ls 6 [(0, .ref (ad 25)), (1, .int x1), (2, .int x2), (3, .int x3)]) : W p l e (rmL 1 0 0) s m args below meth c H locs 0 0 Q (F0 m 12 ls []) := by
  have hx := X.hx
  have hb := X.hb
  have hown := X.hown
  have hts := X.hts
  rw [fX11_logs_12] at hf
  refine lv_aload_n hx hb dX11_logs_12 rfl (lv_at hl 0 rfl) ?_
  refine mr_get (k := 0) X hP (by decide) rfl rfl tw1665 dX11_logs_13 ?_
  refine lv_bipush (v := 16) hx hb dX11_logs_16 (by decide) ?_
  refine lv_dup2_11 hx hb dX11_logs_18 rfl rfl ?_
  obtain ⟨g1, hf⟩ := gd hf
  refine mr_ald (a := 0) X hP rfl g1 dX11_logs_19 ?_
  refine lv_iconst (v := 1) hx hb dX11_logs_20 (by decide) ?_
  refine lv_iadd hx hb dX11_logs_21 ?_
  obtain ⟨g2, hf⟩ := gd hf
  refine mr_ast (a := 0) X hP hS rfl g2 dX11_logs_22 (fun H locs hP hS => ?_)
  exact kX11_logs_23 X hret hf hP hS (lv_sub hl [0, 1, 2, 3] rfl)
set_option maxRecDepth 10000 in
theorem kX11_logs_0 {S1 : MS} {M : MS} {a1 : Int32} {a2 : Int32} {a3 : Int32} {H : Heap} {locs : List Loc} {ls : Array Slot} (X : gX p s m args c cX11_logs 6 RX11 (kR kTab kA)) (hret : gRetV p l e (rmL 1 0 0) s m args below meth c cX11_logs (mΩ ad) (mP dC dI cI kA ad) Q S1) (hf : fX11_logs_0 M a1 a2 a3 = some S1) (hP : (mP dC dI cI kA ad) M s H) (hS : va_S (Fr (mΩ ad) s.heap.size) s.heap H locs) (hl : lv_has ls 6 [(0, .ref (ad 25)), (1, .int a1), (2, .int a2), (3, .int a3)]) : W p l e (rmL 1 0 0) s m args below meth c H locs 0 0 Q (F0 m 0 ls []) := by
  have hx := X.hx
  have hb := X.hb
  have hown := X.hown
  have hts := X.hts
  rw [fX11_logs_0] at hf
  refine lv_aload_n hx hb dX11_logs_0 rfl (lv_at hl 0 rfl) ?_
  refine mr_get (k := 0) X hP (by decide) rfl rfl tw1665 dX11_logs_1 ?_
  refine lv_bipush (v := 16) hx hb dX11_logs_4 (by decide) ?_
  obtain ⟨g1, hf⟩ := gd hf
  refine mr_ald (a := 0) X hP rfl g1 dX11_logs_6 ?_
  refine lv_bipush (v := 16) hx hb dX11_logs_7 (by decide) ?_
  refine lv_icmp_ge (tgt := 23) hx hb dX11_logs_9 (by decide) (fun c1 => ?_) (fun c1 => ?_)
  · exact kX11_logs_23 X hret (ifp c1 hf) hP hS (lv_sub hl [0, 1, 2, 3] rfl)
  · exact kX11_logs_12 X hret (ifn c1 hf) hP hS (lv_sub hl [0, 1, 2, 3] rfl)
theorem vX11_logs {l : Launch} {dC : Nat → ClassId} {dI : Nat → Nat → Nat} {cI : ClassId} {kA : String → Nat → Nat} {ad : Nat → Nat} {M S1 : MS} {a1 : Int32} {a2 : Int32} {a3 : Int32} (hf : fX11_logs M a1 a2 a3 = some S1) : gMetV l yX11_logs cX11_logs 6 1 (mΩ ad) (mP dC dI cI kA ad) (kR kTab kA) [.ref (ad 25), .int a1, .int a2, .int a3] M S1 := gEntryV (by decide) mOK (Nat.le_of_ble_eq_true rfl) (fun p e s m args below meth c Q ls X hP hS hret hl => 
  kX11_logs_0 X hret hf hP hS (lv_sub hl [0, 1, 2, 3] rfl))
set_option maxRecDepth 10000 in
theorem kX11_sets_14 {r : Int32} {S1 : MS} {M : MS} {x3 : Int32} {H : Heap} {locs : List Loc} {ls : Array Slot} (X : gX p s m args c cX11_sets 4 RX11 (kR kTab kA)) (hret : gRetI p l e (rmL 1 0 0) s m args below meth c cX11_sets (mΩ ad) (mP dC dI cI kA ad) Q r S1) (hf : fX11_sets_14 M x3 = some (r, S1)) (hP : (mP dC dI cI kA ad) M s H) (hS : va_S (Fr (mΩ ad) s.heap.size) s.heap H locs) (hl : lv_has ls 4 [(0, .ref (ad 25)), (3, .int x3)]) : W p l e (rmL 1 0 0) s m args below meth c H locs 0 0 Q (F0 m 14 ls []) := by
  have hx := X.hx
  have hb := X.hb
  have hown := X.hown
  have hts := X.hts
  rw [fX11_sets_14] at hf
  refine lv_iload_n hx hb dX11_sets_14 rfl (lv_at hl 1 rfl) ?_
  cases hf
  exact hret _ _ _ _ dX11_sets_15 hP hS
set_option maxRecDepth 10000 in
theorem kX11_sets_0 {r : Int32} {S1 : MS} {M : MS} {a1 : Int32} {a2 : Int32} {H : Heap} {locs : List Loc} {ls : Array Slot} (X : gX p s m args c cX11_sets 4 RX11 (kR kTab kA)) (hret : gRetI p l e (rmL 1 0 0) s m args below meth c cX11_sets (mΩ ad) (mP dC dI cI kA ad) Q r S1) (hf : fX11_sets_0 M a1 a2 = some (r, S1)) (hP : (mP dC dI cI kA ad) M s H) (hS : va_S (Fr (mΩ ad) s.heap.size) s.heap H locs) (hl : lv_has ls 4 [(0, .ref (ad 25)), (1, .int a1), (2, .int a2)]) : W p l e (rmL 1 0 0) s m args below meth c H locs 0 0 Q (F0 m 0 ls []) := by
  have hx := X.hx
  have hb := X.hb
  have hown := X.hown
  have hts := X.hts
  rw [fX11_sets_0] at hf
  refine lv_aload_n hx hb dX11_sets_0 rfl (lv_at hl 0 rfl) ?_
  refine mr_get (k := 0) X hP (by decide) rfl rfl tw1665 dX11_sets_1 ?_
  refine lv_iload_n hx hb dX11_sets_4 rfl (lv_at hl 1 rfl) ?_
  obtain ⟨g1, hf⟩ := gd hf
  refine mr_ald (a := 0) X hP rfl g1 dX11_sets_5 ?_
  refine lv_istore_n (lv' := [(3, .int (M.2 0 a1.toNatClampNeg)), (0, .ref (ad 25)), (1, .int a1), (2, .int a2)]) hx hb dX11_sets_6 rfl hl (by decide) rfl (fun ls hl => ?_)
  refine lv_aload_n hx hb dX11_sets_7 rfl (lv_at hl 1 rfl) ?_
  refine mr_get (k := 0) X hP (by decide) rfl rfl tw1665 dX11_sets_8 ?_
  refine lv_iload_n hx hb dX11_sets_11 rfl (lv_at hl 2 rfl) ?_
  refine lv_iload_n hx hb dX11_sets_12 rfl (lv_at hl 3 rfl) ?_
  obtain ⟨g2, hf⟩ := gd hf
  refine mr_ast (a := 0) X hP hS rfl g2 dX11_sets_13 (fun H locs hP hS => ?_)
  exact kX11_sets_14 X hret hf hP hS (lv_sub hl [1, 0] rfl)
theorem vX11_sets {l : Launch} {dC : Nat → ClassId} {dI : Nat → Nat → Nat} {cI : ClassId} {kA : String → Nat → Nat} {ad : Nat → Nat} {M S1 : MS} {r : Int32} {a1 : Int32} {a2 : Int32} (hf : fX11_sets M a1 a2 = some (r, S1)) : gMetI l yX11_sets cX11_sets 4 (some .int) 1 (mΩ ad) (mP dC dI cI kA ad) (kR kTab kA) [.ref (ad 25), .int a1, .int a2] M r S1 := gEntryI (ty := .int) (by decide) rfl rfl mOK (Nat.le_of_ble_eq_true rfl) (fun p e s m args below meth c Q ls X hP hS hret hl => 
  kX11_sets_0 X hret hf hP hS (lv_sub hl [0, 1, 2] rfl))
set_option maxRecDepth 10000 in
theorem kX11_appendWord_39 {S1 : MS} {M : MS} {H : Heap} {locs : List Loc} {ls : Array Slot} (X : gX p s m args c cX11_appendWord 3 RX11 (kR kTab kA)) (hret : gRetV p l e (rmL 1 0 0) s m args below meth c cX11_appendWord (mΩ ad) (mP dC dI cI kA ad) Q S1) (hf : fX11_appendWord_39 M = some S1) (hP : (mP dC dI cI kA ad) M s H) (hS : va_S (Fr (mΩ ad) s.heap.size) s.heap H locs) (hl : lv_has ls 3 [(0, .ref (ad 25))]) : W p l e (rmL 1 0 0) s m args below meth c H locs 0 0 Q (F0 m 39 ls []) := by
  have hx := X.hx
  have hb := X.hb
  have hown := X.hown
  have hts := X.hts
  rw [fX11_appendWord_39] at hf
  cases hf
  exact hret _ _ _ _ dX11_appendWord_39 hP hS
set_option maxRecDepth 10000 in
theorem kX11_appendWord_33 {S1 : MS} {K3 : MS → Int32 → Int32 → Option (MS)} {M : MS} {x1 : Int32} {x2 : Int32} {H : Heap} {locs : List Loc} {ls : Array Slot} (X : gX p s m args c cX11_appendWord 3 RX11 (kR kTab kA)) (hret : gRetV p l e (rmL 1 0 0) s m args below meth c cX11_appendWord (mΩ ad) (mP dC dI cI kA ad) Q S1) (hK3 : ∀ (M : MS) (x1 : Int32) (x2 : Int32) (H : Heap) (locs : List Loc) (ls : Array Slot), K3 M x1 x2 = some S1 → (mP dC dI cI kA ad) M s H → va_S (Fr (mΩ ad) s.heap.size) s.heap H locs → lv_has ls 3 [(0, .ref (ad 25)), (1, .int x1), (2, .int x2)] → W p l e (rmL 1 0 0) s m args below meth c H locs 0 0 Q (F0 m 3 ls [])) (hf : fX11_appendWord_33 K3 M x1 x2 = some S1) (hP : (mP dC dI cI kA ad) M s H) (hS : va_S (Fr (mΩ ad) s.heap.size) s.heap H locs) (hl : lv_has ls 3 [(0, .ref (ad 25)), (1, .int x1), (2, .int x2)]) : W p l e (rmL 1 0 0) s m args below meth c H locs 0 0 Q (F0 m 33 ls []) := by
  have hx := X.hx
  have hb := X.hb
  have hown := X.hown
  have hts := X.hts
  rw [fX11_appendWord_33] at hf
  refine lv_iinc (v := (x2 + (-8))) (lv' := [(2, .int (x2 + (-8))), (0, .ref (ad 25)), (1, .int x1)]) hx hb dX11_appendWord_33 hl (k := 2) rfl (by rfl) (by decide) rfl (fun ls hl => ?_)
  refine lv_goto (tgt := 3) hx hb dX11_appendWord_36 (by decide) ?_
  exact hK3 _ _ _ _ _ _ hf hP hS (lv_sub hl [1, 2, 0] rfl)
set_option maxRecDepth 10000 in
theorem kX11_appendWord_23 {S1 : MS} {K3 : MS → Int32 → Int32 → Option (MS)} {M : MS} {x1 : Int32} {x2 : Int32} {H : Heap} {locs : List Loc} {ls : Array Slot} (X : gX p s m args c cX11_appendWord 3 RX11 (kR kTab kA)) (hret : gRetV p l e (rmL 1 0 0) s m args below meth c cX11_appendWord (mΩ ad) (mP dC dI cI kA ad) Q S1) (hK3 : ∀ (M : MS) (x1 : Int32) (x2 : Int32) (H : Heap) (locs : List Loc) (ls : Array Slot), K3 M x1 x2 = some S1 → (mP dC dI cI kA ad) M s H → va_S (Fr (mΩ ad) s.heap.size) s.heap H locs → lv_has ls 3 [(0, .ref (ad 25)), (1, .int x1), (2, .int x2)] → W p l e (rmL 1 0 0) s m args below meth c H locs 0 0 Q (F0 m 3 ls [])) (hf : fX11_appendWord_23 K3 M x1 x2 = some S1) (hP : (mP dC dI cI kA ad) M s H) (hS : va_S (Fr (mΩ ad) s.heap.size) s.heap H locs) (hl : lv_has ls 3 [(0, .ref (ad 25)), (1, .int x1), (2, .int x2)]) : W p l e (rmL 1 0 0) s m args below meth c H locs 0 0 Q (F0 m 23 ls []) := by
  have hx := X.hx
  have hb := X.hb
  have hown := X.hown
  have hts := X.hts
  rw [fX11_appendWord_23] at hf
  refine lv_aload_n hx hb dX11_appendWord_23 rfl (lv_at hl 0 rfl) ?_
  refine lv_dup hx hb dX11_appendWord_24 rfl ?_
  refine mr_get (k := 9) X hP (by decide) rfl rfl tw1674 dX11_appendWord_25 ?_
  refine lv_iconst (v := 1) hx hb dX11_appendWord_28 (by decide) ?_
  refine lv_iadd hx hb dX11_appendWord_29 ?_
  refine mr_put (k := 9) X hP hS (by decide) rfl rfl rfl rfl tw1674 dX11_appendWord_30 (fun H locs hP hS => ?_)
  exact kX11_appendWord_33 X hret hK3 hf hP hS (lv_sub hl [0, 1, 2] rfl)
set_option maxRecDepth 10000 in
theorem kX11_appendWord_7 {S1 : MS} {K3 : MS → Int32 → Int32 → Option (MS)} {M : MS} {x1 : Int32} {x2 : Int32} {H : Heap} {locs : List Loc} {ls : Array Slot} (X : gX p s m args c cX11_appendWord 3 RX11 (kR kTab kA)) (hret : gRetV p l e (rmL 1 0 0) s m args below meth c cX11_appendWord (mΩ ad) (mP dC dI cI kA ad) Q S1) (hK3 : ∀ (M : MS) (x1 : Int32) (x2 : Int32) (H : Heap) (locs : List Loc) (ls : Array Slot), K3 M x1 x2 = some S1 → (mP dC dI cI kA ad) M s H → va_S (Fr (mΩ ad) s.heap.size) s.heap H locs → lv_has ls 3 [(0, .ref (ad 25)), (1, .int x1), (2, .int x2)] → W p l e (rmL 1 0 0) s m args below meth c H locs 0 0 Q (F0 m 3 ls [])) (hf : fX11_appendWord_7 K3 M x1 x2 = some S1) (hP : (mP dC dI cI kA ad) M s H) (hS : va_S (Fr (mΩ ad) s.heap.size) s.heap H locs) (hl : lv_has ls 3 [(0, .ref (ad 25)), (1, .int x1), (2, .int x2)]) : W p l e (rmL 1 0 0) s m args below meth c H locs 0 0 Q (F0 m 7 ls []) := by
  have hx := X.hx
  have hb := X.hb
  have hown := X.hown
  have hts := X.hts
  rw [fX11_appendWord_7] at hf
  refine lv_aload_n hx hb dX11_appendWord_7 rfl (lv_at hl 0 rfl) ?_
  refine mr_get (k := 8) X hP (by decide) rfl rfl tw1673 dX11_appendWord_8 ?_
  refine lv_aload_n hx hb dX11_appendWord_11 rfl (lv_at hl 0 rfl) ?_
  refine mr_get (k := 9) X hP (by decide) rfl rfl tw1674 dX11_appendWord_12 ?_
  refine lv_iload_n hx hb dX11_appendWord_15 rfl (lv_at hl 1 rfl) ?_
  refine lv_iload_n hx hb dX11_appendWord_16 rfl (lv_at hl 2 rfl) ?_
  refine lv_ishr hx hb dX11_appendWord_17 ?_
  refine lv_sipush (v := 255) hx hb dX11_appendWord_18 (by decide) ?_
  refine lv_iand hx hb dX11_appendWord_21 ?_
  obtain ⟨g1, hf⟩ := gd hf
  refine mr_ast (a := 8) X hP hS rfl g1 dX11_appendWord_22 (fun H locs hP hS => ?_)
  exact kX11_appendWord_23 X hret hK3 hf hP hS (lv_sub hl [0, 1, 2] rfl)
set_option maxRecDepth 10000 in
theorem kX11_appendWord_3 {S1 : MS} (X : gX p s m args c cX11_appendWord 3 RX11 (kR kTab kA)) (hret : gRetV p l e (rmL 1 0 0) s m args below meth c cX11_appendWord (mΩ ad) (mP dC dI cI kA ad) Q S1) : ∀ (n : Nat) (M : MS) (x1 : Int32) (x2 : Int32) (H : Heap) (locs : List Loc) (ls : Array Slot), fX11_appendWord_3 n M x1 x2 = some S1 → (mP dC dI cI kA ad) M s H → va_S (Fr (mΩ ad) s.heap.size) s.heap H locs → lv_has ls 3 [(0, .ref (ad 25)), (1, .int x1), (2, .int x2)] → W p l e (rmL 1 0 0) s m args below meth c H locs 0 0 Q (F0 m 3 ls []) := by
  intro n
  induction n with
  | zero => intro M x1 x2 H locs ls hf; cases hf
  | succ k ih =>
    intro M x1 x2 H locs ls hf hP hS hl
    have hx := X.hx
    have hb := X.hb
    have hown := X.hown
    have hts := X.hts
    rw [fX11_appendWord_3] at hf
    try dsimp only at hf
    refine lv_iload_n hx hb dX11_appendWord_3 rfl (lv_at hl 2 rfl) ?_
    refine lv_if_lt (tgt := 39) hx hb dX11_appendWord_4 (by decide) (fun c1 => ?_) (fun c1 => ?_)
    · exact kX11_appendWord_39 X hret (ifp c1 hf) hP hS (lv_sub hl [0] rfl)
    · exact kX11_appendWord_7 X hret ih (ifn c1 hf) hP hS (lv_sub hl [0, 1, 2] rfl)
set_option maxRecDepth 10000 in
theorem kX11_appendWord_0 {S1 : MS} {M : MS} {a1 : Int32} {H : Heap} {locs : List Loc} {ls : Array Slot} (X : gX p s m args c cX11_appendWord 3 RX11 (kR kTab kA)) (hret : gRetV p l e (rmL 1 0 0) s m args below meth c cX11_appendWord (mΩ ad) (mP dC dI cI kA ad) Q S1) (hf : fX11_appendWord_0 M a1 = some S1) (hP : (mP dC dI cI kA ad) M s H) (hS : va_S (Fr (mΩ ad) s.heap.size) s.heap H locs) (hl : lv_has ls 3 [(0, .ref (ad 25)), (1, .int a1)]) : W p l e (rmL 1 0 0) s m args below meth c H locs 0 0 Q (F0 m 0 ls []) := by
  have hx := X.hx
  have hb := X.hb
  have hown := X.hown
  have hts := X.hts
  rw [fX11_appendWord_0] at hf
  refine lv_bipush (v := 24) hx hb dX11_appendWord_0 (by decide) ?_
  refine lv_istore_n (lv' := [(2, .int 24), (0, .ref (ad 25)), (1, .int a1)]) hx hb dX11_appendWord_2 rfl hl (by decide) rfl (fun ls hl => ?_)
  exact kX11_appendWord_3 X hret FU _ _ _ _ _ _ hf hP hS (lv_sub hl [1, 2, 0] rfl)
theorem vX11_appendWord {l : Launch} {dC : Nat → ClassId} {dI : Nat → Nat → Nat} {cI : ClassId} {kA : String → Nat → Nat} {ad : Nat → Nat} {M S1 : MS} {a1 : Int32} (hf : fX11_appendWord M a1 = some S1) : gMetV l yX11_appendWord cX11_appendWord 3 1 (mΩ ad) (mP dC dI cI kA ad) (kR kTab kA) [.ref (ad 25), .int a1] M S1 := gEntryV (by decide) mOK (Nat.le_of_ble_eq_true rfl) (fun p e s m args below meth c Q ls X hP hS hret hl => 
  kX11_appendWord_0 X hret hf hP hS (lv_sub hl [0, 1] rfl))
set_option maxRecDepth 10000 in
theorem kX11_byteAt_18 {r : Int32} {M : MS} {s0 : Int32} (X : gX p s m args c cX11_byteAt 2 RX11 (kR kTab kA)) (hret : gRetR p l e (rmL 1 0 0) s m args below meth c cX11_byteAt Q r) (hf : fX11_byteAt_18 M s0 = some r) {ls : Array Slot} (hP : (mP dC dI cI kA ad) M s s.heap) (hl : lv_has ls 2 [(0, .ref (ad 25))]) : W p l e (rmL 1 0 0) s m args below meth c s.heap [] 0 0 Q (F0 m 18 ls [.int s0]) := by
  have hx := X.hx
  have hb := X.hb
  have hown := X.hown
  have hts := X.hts
  rw [fX11_byteAt_18] at hf
  cases hf
  exact hret _ _ dX11_byteAt_18
set_option maxRecDepth 10000 in
theorem kX11_byteAt_17 {r : Int32} {M : MS} (X : gX p s m args c cX11_byteAt 2 RX11 (kR kTab kA)) (hret : gRetR p l e (rmL 1 0 0) s m args below meth c cX11_byteAt Q r) (hf : fX11_byteAt_17 M = some r) {ls : Array Slot} (hP : (mP dC dI cI kA ad) M s s.heap) (hl : lv_has ls 2 [(0, .ref (ad 25))]) : W p l e (rmL 1 0 0) s m args below meth c s.heap [] 0 0 Q (F0 m 17 ls []) := by
  have hx := X.hx
  have hb := X.hb
  have hown := X.hown
  have hts := X.hts
  rw [fX11_byteAt_17] at hf
  refine lv_iconst (v := (-1)) hx hb dX11_byteAt_17 (by decide) ?_
  exact kX11_byteAt_18 X hret hf hP (lv_sub hl [0] rfl)
set_option maxRecDepth 10000 in
theorem kX11_byteAt_8 {r : Int32} {M : MS} {x1 : Int32} (X : gX p s m args c cX11_byteAt 2 RX11 (kR kTab kA)) (hret : gRetR p l e (rmL 1 0 0) s m args below meth c cX11_byteAt Q r) (hf : fX11_byteAt_8 M x1 = some r) {ls : Array Slot} (hP : (mP dC dI cI kA ad) M s s.heap) (hl : lv_has ls 2 [(0, .ref (ad 25)), (1, .int x1)]) : W p l e (rmL 1 0 0) s m args below meth c s.heap [] 0 0 Q (F0 m 8 ls []) := by
  have hx := X.hx
  have hb := X.hb
  have hown := X.hown
  have hts := X.hts
  rw [fX11_byteAt_8] at hf
  refine lv_aload_n hx hb dX11_byteAt_8 rfl (lv_at hl 0 rfl) ?_
  refine mr_get (k := 8) X hP (by decide) rfl rfl tw1673 dX11_byteAt_9 ?_
  refine lv_iload_n hx hb dX11_byteAt_12 rfl (lv_at hl 1 rfl) ?_
  obtain ⟨g1, hf⟩ := gd hf
  refine mr_ald (a := 8) X hP rfl g1 dX11_byteAt_13 ?_
  refine lv_goto (tgt := 18) hx hb dX11_byteAt_14 (by decide) ?_
  exact kX11_byteAt_18 X hret hf hP (lv_sub hl [0] rfl)
set_option maxRecDepth 10000 in
theorem kX11_byteAt_0 {r : Int32} {M : MS} {a1 : Int32} (X : gX p s m args c cX11_byteAt 2 RX11 (kR kTab kA)) (hret : gRetR p l e (rmL 1 0 0) s m args below meth c cX11_byteAt Q r) (hf : fX11_byteAt_0 M a1 = some r) {ls : Array Slot} (hP : (mP dC dI cI kA ad) M s s.heap) (hl : lv_has ls 2 [(0, .ref (ad 25)), (1, .int a1)]) : W p l e (rmL 1 0 0) s m args below meth c s.heap [] 0 0 Q (F0 m 0 ls []) := by
  have hx := X.hx
  have hb := X.hb
  have hown := X.hown
  have hts := X.hts
  rw [fX11_byteAt_0] at hf
  refine lv_iload_n hx hb dX11_byteAt_0 rfl (lv_at hl 1 rfl) ?_
  refine lv_aload_n hx hb dX11_byteAt_1 rfl (lv_at hl 0 rfl) ?_
  refine mr_get (k := 9) X hP (by decide) rfl rfl tw1674 dX11_byteAt_2 ?_
  refine lv_icmp_ge (tgt := 17) hx hb dX11_byteAt_5 (by decide) (fun c1 => ?_) (fun c1 => ?_)
  · exact kX11_byteAt_17 X hret (ifp c1 hf) hP (lv_sub hl [0] rfl)
  · exact kX11_byteAt_8 X hret (ifn c1 hf) hP (lv_sub hl [0, 1] rfl)
theorem vX11_byteAt {l : Launch} {dC : Nat → ClassId} {dI : Nat → Nat → Nat} {cI : ClassId} {kA : String → Nat → Nat} {ad : Nat → Nat} {M : MS} {r : Int32} {a1 : Int32} (hf : fX11_byteAt M a1 = some r) : gMetR l yX11_byteAt cX11_byteAt 2 (some .int) 1 (gB (mP dC dI cI kA ad) (kR kTab kA) M) [.ref (ad 25), .int a1] r := gEntryR (ty := .int) (by decide) rfl rfl (Nat.le_of_ble_eq_true rfl) (fun _ h => h.2) (fun p e s m args below meth c Q ls X hB hret hl => 
  kX11_byteAt_0 X hret hf hB.1 (lv_sub hl [0, 1] rfl))
set_option maxRecDepth 10000 in
theorem kX11_failsAt_20 {r : Int32} {S1 : MS} {M : MS} {H : Heap} {locs : List Loc} {ls : Array Slot} (X : gX p s m args c cX11_failsAt 2 RX11 (kR kTab kA)) (hret : gRetI p l e (rmL 1 0 0) s m args below meth c cX11_failsAt (mΩ ad) (mP dC dI cI kA ad) Q r S1) (hf : fX11_failsAt_20 M = some (r, S1)) (hP : (mP dC dI cI kA ad) M s H) (hS : va_S (Fr (mΩ ad) s.heap.size) s.heap H locs) (hl : lv_has ls 2 [(0, .ref (ad 25))]) : W p l e (rmL 1 0 0) s m args below meth c H locs 0 0 Q (F0 m 20 ls []) := by
  have hx := X.hx
  have hb := X.hb
  have hown := X.hown
  have hts := X.hts
  rw [fX11_failsAt_20] at hf
  refine lv_iconst (v := 0) hx hb dX11_failsAt_20 (by decide) ?_
  cases hf
  exact hret _ _ _ _ dX11_failsAt_21 hP hS
set_option maxRecDepth 10000 in
theorem kX11_failsAt_12 {r : Int32} {S1 : MS} {M : MS} {H : Heap} {locs : List Loc} {ls : Array Slot} (X : gX p s m args c cX11_failsAt 2 RX11 (kR kTab kA)) (hret : gRetI p l e (rmL 1 0 0) s m args below meth c cX11_failsAt (mΩ ad) (mP dC dI cI kA ad) Q r S1) (hf : fX11_failsAt_12 M = some (r, S1)) (hP : (mP dC dI cI kA ad) M s H) (hS : va_S (Fr (mΩ ad) s.heap.size) s.heap H locs) (hl : lv_has ls 2 [(0, .ref (ad 25))]) : W p l e (rmL 1 0 0) s m args below meth c H locs 0 0 Q (F0 m 12 ls []) := by
  have hx := X.hx
  have hb := X.hb
  have hown := X.hown
  have hts := X.hts
  rw [fX11_failsAt_12] at hf
  refine lv_aload_n hx hb dX11_failsAt_12 rfl (lv_at hl 0 rfl) ?_
  refine lv_aload_n hx hb dX11_failsAt_13 rfl (lv_at hl 0 rfl) ?_
  refine mr_get (k := 15) X hP (by decide) rfl rfl tw1680 dX11_failsAt_14 ?_
  refine mr_put (k := 13) X hP hS (by decide) rfl rfl rfl rfl tw1678 dX11_failsAt_17 (fun H locs hP hS => ?_)
  exact kX11_failsAt_20 X hret hf hP hS (lv_sub hl [0] rfl)
set_option maxRecDepth 10000 in
theorem kX11_failsAt_7 {r : Int32} {S1 : MS} {M : MS} {x1 : Int32} {H : Heap} {locs : List Loc} {ls : Array Slot} (X : gX p s m args c cX11_failsAt 2 RX11 (kR kTab kA)) (hret : gRetI p l e (rmL 1 0 0) s m args below meth c cX11_failsAt (mΩ ad) (mP dC dI cI kA ad) Q r S1) (hf : fX11_failsAt_7 M x1 = some (r, S1)) (hP : (mP dC dI cI kA ad) M s H) (hS : va_S (Fr (mΩ ad) s.heap.size) s.heap H locs) (hl : lv_has ls 2 [(0, .ref (ad 25)), (1, .int x1)]) : W p l e (rmL 1 0 0) s m args below meth c H locs 0 0 Q (F0 m 7 ls []) := by
  have hx := X.hx
  have hb := X.hb
  have hown := X.hown
  have hts := X.hts
  rw [fX11_failsAt_7] at hf
  refine lv_aload_n hx hb dX11_failsAt_7 rfl (lv_at hl 0 rfl) ?_
  refine lv_iload_n hx hb dX11_failsAt_8 rfl (lv_at hl 1 rfl) ?_
  refine mr_put (k := 12) X hP hS (by decide) rfl rfl rfl rfl tw1677 dX11_failsAt_9 (fun H locs hP hS => ?_)
  exact kX11_failsAt_12 X hret hf hP hS (lv_sub hl [0] rfl)
set_option maxRecDepth 10000 in
theorem kX11_failsAt_0 {r : Int32} {S1 : MS} {M : MS} {a1 : Int32} {H : Heap} {locs : List Loc} {ls : Array Slot} (X : gX p s m args c cX11_failsAt 2 RX11 (kR kTab kA)) (hret : gRetI p l e (rmL 1 0 0) s m args below meth c cX11_failsAt (mΩ ad) (mP dC dI cI kA ad) Q r S1) (hf : fX11_failsAt_0 M a1 = some (r, S1)) (hP : (mP dC dI cI kA ad) M s H) (hS : va_S (Fr (mΩ ad) s.heap.size) s.heap H locs) (hl : lv_has ls 2 [(0, .ref (ad 25)), (1, .int a1)]) : W p l e (rmL 1 0 0) s m args below meth c H locs 0 0 Q (F0 m 0 ls []) := by
  have hx := X.hx
  have hb := X.hb
  have hown := X.hown
  have hts := X.hts
  rw [fX11_failsAt_0] at hf
  refine lv_aload_n hx hb dX11_failsAt_0 rfl (lv_at hl 0 rfl) ?_
  refine mr_get (k := 12) X hP (by decide) rfl rfl tw1677 dX11_failsAt_1 ?_
  refine lv_if_ne (tgt := 20) hx hb dX11_failsAt_4 (by decide) (fun c1 => ?_) (fun c1 => ?_)
  · exact kX11_failsAt_20 X hret (ifn c1 hf) hP hS (lv_sub hl [0] rfl)
  · exact kX11_failsAt_7 X hret (ifp c1 hf) hP hS (lv_sub hl [0, 1] rfl)
theorem vX11_failsAt {l : Launch} {dC : Nat → ClassId} {dI : Nat → Nat → Nat} {cI : ClassId} {kA : String → Nat → Nat} {ad : Nat → Nat} {M S1 : MS} {r : Int32} {a1 : Int32} (hf : fX11_failsAt M a1 = some (r, S1)) : gMetI l yX11_failsAt cX11_failsAt 2 (some .boolean) 1 (mΩ ad) (mP dC dI cI kA ad) (kR kTab kA) [.ref (ad 25), .int a1] M r S1 := gEntryI (ty := .boolean) (by decide) rfl (bz_n hf) mOK (Nat.le_of_ble_eq_true rfl) (fun p e s m args below meth c Q ls X hP hS hret hl => 
  kX11_failsAt_0 X hret (bz_f hf) hP hS (lv_sub hl [0, 1] rfl))
set_option maxRecDepth 10000 in
theorem kX11_isNameAt_69 {r : Int32} {M : MS} (X : gX p s m args c cX11_isNameAt 3 RX11 (kR kTab kA)) (hret : gRetR p l e (rmL 1 0 0) s m args below meth c cX11_isNameAt Q r) (hf : fX11_isNameAt_69 M = some r) {ls : Array Slot} (hP : (mP dC dI cI kA ad) M s s.heap) (hl : lv_has ls 3 [(0, .ref (ad 25))]) : W p l e (rmL 1 0 0) s m args below meth c s.heap [] 0 0 Q (F0 m 69 ls []) := by
  have hx := X.hx
  have hb := X.hb
  have hown := X.hown
  have hts := X.hts
  rw [fX11_isNameAt_69] at hf
  refine lv_iconst (v := 1) hx hb dX11_isNameAt_69 (by decide) ?_
  cases hf
  exact hret _ _ dX11_isNameAt_70
set_option maxRecDepth 10000 in
theorem kX11_isNameAt_63 {r : Int32} {K24 : MS → Int32 → Int32 → Option (Int32)} {M : MS} {x1 : Int32} {x2 : Int32} (X : gX p s m args c cX11_isNameAt 3 RX11 (kR kTab kA)) (hret : gRetR p l e (rmL 1 0 0) s m args below meth c cX11_isNameAt Q r) (hK24 : ∀ (M : MS) (x1 : Int32) (x2 : Int32) (ls : Array Slot), K24 M x1 x2 = some r → (mP dC dI cI kA ad) M s s.heap → lv_has ls 3 [(0, .ref (ad 25)), (1, .int x1), (2, .int x2)] → W p l e (rmL 1 0 0) s m args below meth c s.heap [] 0 0 Q (F0 m 24 ls [])) (hf : fX11_isNameAt_63 K24 M x1 x2 = some r) {ls : Array Slot} (hP : (mP dC dI cI kA ad) M s s.heap) (hl : lv_has ls 3 [(0, .ref (ad 25)), (1, .int x1), (2, .int x2)]) : W p l e (rmL 1 0 0) s m args below meth c s.heap [] 0 0 Q (F0 m 63 ls []) := by
  have hx := X.hx
  have hb := X.hb
  have hown := X.hown
  have hts := X.hts
  rw [fX11_isNameAt_63] at hf
  refine lv_iinc (v := (x2 + 1)) (lv' := [(2, .int (x2 + 1)), (0, .ref (ad 25)), (1, .int x1)]) hx hb dX11_isNameAt_63 hl (k := 2) rfl (by rfl) (by decide) rfl (fun ls hl => ?_)
  refine lv_goto (tgt := 24) hx hb dX11_isNameAt_66 (by decide) ?_
  exact hK24 _ _ _ _ hf hP (lv_sub hl [1, 2, 0] rfl)
set_option maxRecDepth 10000 in
theorem kX11_isNameAt_61 {r : Int32} {M : MS} (X : gX p s m args c cX11_isNameAt 3 RX11 (kR kTab kA)) (hret : gRetR p l e (rmL 1 0 0) s m args below meth c cX11_isNameAt Q r) (hf : fX11_isNameAt_61 M = some r) {ls : Array Slot} (hP : (mP dC dI cI kA ad) M s s.heap) (hl : lv_has ls 3 [(0, .ref (ad 25))]) : W p l e (rmL 1 0 0) s m args below meth c s.heap [] 0 0 Q (F0 m 61 ls []) := by
  have hx := X.hx
  have hb := X.hb
  have hown := X.hown
  have hts := X.hts
  rw [fX11_isNameAt_61] at hf
  refine lv_iconst (v := 0) hx hb dX11_isNameAt_61 (by decide) ?_
  cases hf
  exact hret _ _ dX11_isNameAt_62
set_option maxRecDepth 10000 in
theorem kX11_isNameAt_37 {r : Int32} {K24 : MS → Int32 → Int32 → Option (Int32)} {M : MS} {x1 : Int32} {x2 : Int32} (X : gX p s m args c cX11_isNameAt 3 RX11 (kR kTab kA)) (hret : gRetR p l e (rmL 1 0 0) s m args below meth c cX11_isNameAt Q r) (hK24 : ∀ (M : MS) (x1 : Int32) (x2 : Int32) (ls : Array Slot), K24 M x1 x2 = some r → (mP dC dI cI kA ad) M s s.heap → lv_has ls 3 [(0, .ref (ad 25)), (1, .int x1), (2, .int x2)] → W p l e (rmL 1 0 0) s m args below meth c s.heap [] 0 0 Q (F0 m 24 ls [])) (hf : fX11_isNameAt_37 K24 M x1 x2 = some r) {ls : Array Slot} (hP : (mP dC dI cI kA ad) M s s.heap) (hl : lv_has ls 3 [(0, .ref (ad 25)), (1, .int x1), (2, .int x2)]) : W p l e (rmL 1 0 0) s m args below meth c s.heap [] 0 0 Q (F0 m 37 ls []) := by
  have hx := X.hx
  have hb := X.hb
  have hown := X.hown
  have hts := X.hts
  rw [fX11_isNameAt_37] at hf
  refine lv_aload_n hx hb dX11_isNameAt_37 rfl (lv_at hl 0 rfl) ?_
  refine mr_get (k := 0) X hP (by decide) rfl rfl tw1665 dX11_isNameAt_38 ?_
  refine lv_iload_n hx hb dX11_isNameAt_41 rfl (lv_at hl 1 rfl) ?_
  refine lv_iconst (v := 1) hx hb dX11_isNameAt_42 (by decide) ?_
  refine lv_iadd hx hb dX11_isNameAt_43 ?_
  refine lv_iload_n hx hb dX11_isNameAt_44 rfl (lv_at hl 2 rfl) ?_
  refine lv_iadd hx hb dX11_isNameAt_45 ?_
  obtain ⟨g1, hf⟩ := gd hf
  refine mr_ald (a := 0) X hP rfl g1 dX11_isNameAt_46 ?_
  refine lv_aload_n hx hb dX11_isNameAt_47 rfl (lv_at hl 0 rfl) ?_
  refine mr_get (k := 8) X hP (by decide) rfl rfl tw1673 dX11_isNameAt_48 ?_
  refine lv_aload_n hx hb dX11_isNameAt_51 rfl (lv_at hl 0 rfl) ?_
  refine mr_get (k := 15) X hP (by decide) rfl rfl tw1680 dX11_isNameAt_52 ?_
  refine lv_iload_n hx hb dX11_isNameAt_55 rfl (lv_at hl 2 rfl) ?_
  refine lv_iadd hx hb dX11_isNameAt_56 ?_
  obtain ⟨g2, hf⟩ := gd hf
  refine mr_ald (a := 8) X hP rfl g2 dX11_isNameAt_57 ?_
  refine lv_icmp_eq (tgt := 63) hx hb dX11_isNameAt_58 (by decide) (fun c1 => ?_) (fun c1 => ?_)
  · exact kX11_isNameAt_63 X hret hK24 (ifp c1 hf) hP (lv_sub hl [0, 1, 2] rfl)
  · exact kX11_isNameAt_61 X hret (ifn c1 hf) hP (lv_sub hl [0] rfl)
set_option maxRecDepth 10000 in
theorem kX11_isNameAt_24 {r : Int32} (X : gX p s m args c cX11_isNameAt 3 RX11 (kR kTab kA)) (hret : gRetR p l e (rmL 1 0 0) s m args below meth c cX11_isNameAt Q r) : ∀ (n : Nat) (M : MS) (x1 : Int32) (x2 : Int32) (ls : Array Slot), fX11_isNameAt_24 n M x1 x2 = some r → (mP dC dI cI kA ad) M s s.heap → lv_has ls 3 [(0, .ref (ad 25)), (1, .int x1), (2, .int x2)] → W p l e (rmL 1 0 0) s m args below meth c s.heap [] 0 0 Q (F0 m 24 ls []) := by
  intro n
  induction n with
  | zero => intro M x1 x2 ls hf; cases hf
  | succ k ih =>
    intro M x1 x2 ls hf hP hl
    have hx := X.hx
    have hb := X.hb
    have hown := X.hown
    have hts := X.hts
    rw [fX11_isNameAt_24] at hf
    try dsimp only at hf
    refine lv_iload_n hx hb dX11_isNameAt_24 rfl (lv_at hl 2 rfl) ?_
    refine lv_aload_n hx hb dX11_isNameAt_25 rfl (lv_at hl 0 rfl) ?_
    refine mr_get (k := 14) X hP (by decide) rfl rfl tw1679 dX11_isNameAt_26 ?_
    refine lv_aload_n hx hb dX11_isNameAt_29 rfl (lv_at hl 0 rfl) ?_
    refine mr_get (k := 15) X hP (by decide) rfl rfl tw1680 dX11_isNameAt_30 ?_
    refine lv_isub hx hb dX11_isNameAt_33 ?_
    refine lv_icmp_ge (tgt := 69) hx hb dX11_isNameAt_34 (by decide) (fun c1 => ?_) (fun c1 => ?_)
    · exact kX11_isNameAt_69 X hret (ifp c1 hf) hP (lv_sub hl [0] rfl)
    · exact kX11_isNameAt_37 X hret ih (ifn c1 hf) hP (lv_sub hl [0, 1, 2] rfl)
set_option maxRecDepth 10000 in
theorem kX11_isNameAt_22 {r : Int32} {M : MS} {x1 : Int32} (X : gX p s m args c cX11_isNameAt 3 RX11 (kR kTab kA)) (hret : gRetR p l e (rmL 1 0 0) s m args below meth c cX11_isNameAt Q r) (hf : fX11_isNameAt_22 M x1 = some r) {ls : Array Slot} (hP : (mP dC dI cI kA ad) M s s.heap) (hl : lv_has ls 3 [(0, .ref (ad 25)), (1, .int x1)]) : W p l e (rmL 1 0 0) s m args below meth c s.heap [] 0 0 Q (F0 m 22 ls []) := by
  have hx := X.hx
  have hb := X.hb
  have hown := X.hown
  have hts := X.hts
  rw [fX11_isNameAt_22] at hf
  refine lv_iconst (v := 0) hx hb dX11_isNameAt_22 (by decide) ?_
  refine lv_istore_n (lv' := [(2, .int 0), (0, .ref (ad 25)), (1, .int x1)]) hx hb dX11_isNameAt_23 rfl hl (by decide) rfl (fun ls hl => ?_)
  exact kX11_isNameAt_24 X hret FU _ _ _ _ hf hP (lv_sub hl [1, 2, 0] rfl)
set_option maxRecDepth 10000 in
theorem kX11_isNameAt_20 {r : Int32} {M : MS} (X : gX p s m args c cX11_isNameAt 3 RX11 (kR kTab kA)) (hret : gRetR p l e (rmL 1 0 0) s m args below meth c cX11_isNameAt Q r) (hf : fX11_isNameAt_20 M = some r) {ls : Array Slot} (hP : (mP dC dI cI kA ad) M s s.heap) (hl : lv_has ls 3 [(0, .ref (ad 25))]) : W p l e (rmL 1 0 0) s m args below meth c s.heap [] 0 0 Q (F0 m 20 ls []) := by
  have hx := X.hx
  have hb := X.hb
  have hown := X.hown
  have hts := X.hts
  rw [fX11_isNameAt_20] at hf
  refine lv_iconst (v := 0) hx hb dX11_isNameAt_20 (by decide) ?_
  cases hf
  exact hret _ _ dX11_isNameAt_21
set_option maxRecDepth 10000 in
theorem kX11_isNameAt_0 {r : Int32} {M : MS} {a1 : Int32} (X : gX p s m args c cX11_isNameAt 3 RX11 (kR kTab kA)) (hret : gRetR p l e (rmL 1 0 0) s m args below meth c cX11_isNameAt Q r) (hf : fX11_isNameAt_0 M a1 = some r) {ls : Array Slot} (hP : (mP dC dI cI kA ad) M s s.heap) (hl : lv_has ls 3 [(0, .ref (ad 25)), (1, .int a1)]) : W p l e (rmL 1 0 0) s m args below meth c s.heap [] 0 0 Q (F0 m 0 ls []) := by
  have hx := X.hx
  have hb := X.hb
  have hown := X.hown
  have hts := X.hts
  rw [fX11_isNameAt_0] at hf
  refine lv_aload_n hx hb dX11_isNameAt_0 rfl (lv_at hl 0 rfl) ?_
  refine mr_get (k := 0) X hP (by decide) rfl rfl tw1665 dX11_isNameAt_1 ?_
  refine lv_iload_n hx hb dX11_isNameAt_4 rfl (lv_at hl 1 rfl) ?_
  refine lv_iconst (v := 0) hx hb dX11_isNameAt_5 (by decide) ?_
  refine lv_iadd hx hb dX11_isNameAt_6 ?_
  obtain ⟨g1, hf⟩ := gd hf
  refine mr_ald (a := 0) X hP rfl g1 dX11_isNameAt_7 ?_
  refine lv_aload_n hx hb dX11_isNameAt_8 rfl (lv_at hl 0 rfl) ?_
  refine mr_get (k := 14) X hP (by decide) rfl rfl tw1679 dX11_isNameAt_9 ?_
  refine lv_aload_n hx hb dX11_isNameAt_12 rfl (lv_at hl 0 rfl) ?_
  refine mr_get (k := 15) X hP (by decide) rfl rfl tw1680 dX11_isNameAt_13 ?_
  refine lv_isub hx hb dX11_isNameAt_16 ?_
  refine lv_icmp_eq (tgt := 22) hx hb dX11_isNameAt_17 (by decide) (fun c1 => ?_) (fun c1 => ?_)
  · exact kX11_isNameAt_22 X hret (ifp c1 hf) hP (lv_sub hl [0, 1] rfl)
  · exact kX11_isNameAt_20 X hret (ifn c1 hf) hP (lv_sub hl [0] rfl)
theorem vX11_isNameAt {l : Launch} {dC : Nat → ClassId} {dI : Nat → Nat → Nat} {cI : ClassId} {kA : String → Nat → Nat} {ad : Nat → Nat} {M : MS} {r : Int32} {a1 : Int32} (hf : fX11_isNameAt M a1 = some r) : gMetR l yX11_isNameAt cX11_isNameAt 3 (some .boolean) 1 (gB (mP dC dI cI kA ad) (kR kTab kA) M) [.ref (ad 25), .int a1] r := gEntryR (ty := .boolean) (by decide) rfl (bq_n hf) (Nat.le_of_ble_eq_true rfl) (fun _ h => h.2) (fun p e s m args below meth c Q ls X hB hret hl => 
  kX11_isNameAt_0 X hret (bq_f hf) hB.1 (lv_sub hl [0, 1] rfl))
set_option maxRecDepth 10000 in
theorem kX11_endsText_21 {S1 : MS} {M : MS} {H : Heap} {locs : List Loc} {ls : Array Slot} (X : gX p s m args c cX11_endsText 1 RX11 (kR kTab kA)) (hret : gRetV p l e (rmL 1 0 0) s m args below meth c cX11_endsText (mΩ ad) (mP dC dI cI kA ad) Q S1) (hf : fX11_endsText_21 M = some S1) (hP : (mP dC dI cI kA ad) M s H) (hS : va_S (Fr (mΩ ad) s.heap.size) s.heap H locs) (hl : lv_has ls 1 [(0, .ref (ad 25))]) : W p l e (rmL 1 0 0) s m args below meth c H locs 0 0 Q (F0 m 21 ls []) := by
  have hx := X.hx
  have hb := X.hb
  have hown := X.hown
  have hts := X.hts
  rw [fX11_endsText_21] at hf
  cases hf
  exact hret _ _ _ _ dX11_endsText_21 hP hS
set_option maxRecDepth 10000 in
theorem kX11_endsText_13 {S1 : MS} {M : MS} {H : Heap} {locs : List Loc} {ls : Array Slot} (X : gX p s m args c cX11_endsText 1 RX11 (kR kTab kA)) (hret : gRetV p l e (rmL 1 0 0) s m args below meth c cX11_endsText (mΩ ad) (mP dC dI cI kA ad) Q S1) (hf : fX11_endsText_13 M = some S1) (hP : (mP dC dI cI kA ad) M s H) (hS : va_S (Fr (mΩ ad) s.heap.size) s.heap H locs) (hl : lv_has ls 1 [(0, .ref (ad 25))]) : W p l e (rmL 1 0 0) s m args below meth c H locs 0 0 Q (F0 m 13 ls []) := by
  have hx := X.hx
  have hb := X.hb
  have hown := X.hown
  have hts := X.hts
  rw [fX11_endsText_13] at hf
  refine lv_aload_n hx hb dX11_endsText_13 rfl (lv_at hl 0 rfl) ?_
  refine lv_aload_n hx hb dX11_endsText_14 rfl (lv_at hl 0 rfl) ?_
  refine mr_get (k := 13) X hP (by decide) rfl rfl tw1678 dX11_endsText_15 ?_
  refine mr_put (k := 11) X hP hS (by decide) rfl rfl rfl rfl tw1676 dX11_endsText_18 (fun H locs hP hS => ?_)
  exact kX11_endsText_21 X hret hf hP hS (lv_sub hl [0] rfl)
set_option maxRecDepth 10000 in
theorem kX11_endsText_5 {S1 : MS} {M : MS} {H : Heap} {locs : List Loc} {ls : Array Slot} (X : gX p s m args c cX11_endsText 1 RX11 (kR kTab kA)) (hret : gRetV p l e (rmL 1 0 0) s m args below meth c cX11_endsText (mΩ ad) (mP dC dI cI kA ad) Q S1) (hf : fX11_endsText_5 M = some S1) (hP : (mP dC dI cI kA ad) M s H) (hS : va_S (Fr (mΩ ad) s.heap.size) s.heap H locs) (hl : lv_has ls 1 [(0, .ref (ad 25))]) : W p l e (rmL 1 0 0) s m args below meth c H locs 0 0 Q (F0 m 5 ls []) := by
  have hx := X.hx
  have hb := X.hb
  have hown := X.hown
  have hts := X.hts
  rw [fX11_endsText_5] at hf
  refine lv_aload_n hx hb dX11_endsText_5 rfl (lv_at hl 0 rfl) ?_
  refine lv_aload_n hx hb dX11_endsText_6 rfl (lv_at hl 0 rfl) ?_
  refine mr_get (k := 12) X hP (by decide) rfl rfl tw1677 dX11_endsText_7 ?_
  refine mr_put (k := 10) X hP hS (by decide) rfl rfl rfl rfl tw1675 dX11_endsText_10 (fun H locs hP hS => ?_)
  exact kX11_endsText_13 X hret hf hP hS (lv_sub hl [0] rfl)
set_option maxRecDepth 10000 in
theorem kX11_endsText_0 {S1 : MS} {M : MS} {H : Heap} {locs : List Loc} {ls : Array Slot} (X : gX p s m args c cX11_endsText 1 RX11 (kR kTab kA)) (hret : gRetV p l e (rmL 1 0 0) s m args below meth c cX11_endsText (mΩ ad) (mP dC dI cI kA ad) Q S1) (hf : fX11_endsText_0 M = some S1) (hP : (mP dC dI cI kA ad) M s H) (hS : va_S (Fr (mΩ ad) s.heap.size) s.heap H locs) (hl : lv_has ls 1 [(0, .ref (ad 25))]) : W p l e (rmL 1 0 0) s m args below meth c H locs 0 0 Q (F0 m 0 ls []) := by
  have hx := X.hx
  have hb := X.hb
  have hown := X.hown
  have hts := X.hts
  rw [fX11_endsText_0] at hf
  refine lv_aload_n hx hb dX11_endsText_0 rfl (lv_at hl 0 rfl) ?_
  refine lv_iconst (v := 0) hx hb dX11_endsText_1 (by decide) ?_
  refine mr_put (k := 9) X hP hS (by decide) rfl rfl rfl rfl tw1674 dX11_endsText_2 (fun H locs hP hS => ?_)
  exact kX11_endsText_5 X hret hf hP hS (lv_sub hl [0] rfl)
theorem vX11_endsText {l : Launch} {dC : Nat → ClassId} {dI : Nat → Nat → Nat} {cI : ClassId} {kA : String → Nat → Nat} {ad : Nat → Nat} {M S1 : MS} (hf : fX11_endsText M  = some S1) : gMetV l yX11_endsText cX11_endsText 1 1 (mΩ ad) (mP dC dI cI kA ad) (kR kTab kA) [.ref (ad 25)] M S1 := gEntryV (by decide) mOK (Nat.le_of_ble_eq_true rfl) (fun p e s m args below meth c Q ls X hP hS hret hl => 
  kX11_endsText_0 X hret hf hP hS (lv_sub hl [0] rfl))
set_option maxRecDepth 10000 in
theorem kX11_errorCode_5 {r : Int32} {S1 : MS} {M : MS} {H : Heap} {locs : List Loc} {ls : Array Slot} (X : gX p s m args c cX11_errorCode 1 RX11 (kR kTab kA)) (hret : gRetI p l e (rmL 1 0 0) s m args below meth c cX11_errorCode (mΩ ad) (mP dC dI cI kA ad) Q r S1) (hf : fX11_errorCode_5 M = some (r, S1)) (hP : (mP dC dI cI kA ad) M s H) (hS : va_S (Fr (mΩ ad) s.heap.size) s.heap H locs) (hl : lv_has ls 1 [(0, .ref (ad 25))]) : W p l e (rmL 1 0 0) s m args below meth c H locs 0 0 Q (F0 m 5 ls []) := by
  have hx := X.hx
  have hb := X.hb
  have hown := X.hown
  have hts := X.hts
  rw [fX11_errorCode_5] at hf
  refine lv_aload_n hx hb dX11_errorCode_5 rfl (lv_at hl 0 rfl) ?_
  refine mr_get (k := 10) X hP (by decide) rfl rfl tw1675 dX11_errorCode_6 ?_
  cases hf
  exact hret _ _ _ _ dX11_errorCode_9 hP hS
set_option maxRecDepth 10000 in
theorem kX11_errorCode_0 {r : Int32} {S1 : MS} {M : MS} {H : Heap} {locs : List Loc} {ls : Array Slot} (X : gX p s m args c cX11_errorCode 1 RX11 (kR kTab kA)) (hret : gRetI p l e (rmL 1 0 0) s m args below meth c cX11_errorCode (mΩ ad) (mP dC dI cI kA ad) Q r S1) (hf : fX11_errorCode_0 M = some (r, S1)) (hP : (mP dC dI cI kA ad) M s H) (hS : va_S (Fr (mΩ ad) s.heap.size) s.heap H locs) (hl : lv_has ls 1 [(0, .ref (ad 25))]) : W p l e (rmL 1 0 0) s m args below meth c H locs 0 0 Q (F0 m 0 ls []) := by
  have hx := X.hx
  have hb := X.hb
  have hown := X.hown
  have hts := X.hts
  rw [fX11_errorCode_0] at hf
  refine lv_aload_n hx hb dX11_errorCode_0 rfl (lv_at hl 0 rfl) ?_
  refine lv_iconst (v := 0) hx hb dX11_errorCode_1 (by decide) ?_
  refine mr_put (k := 7) X hP hS (by decide) rfl rfl rfl rfl tw1672 dX11_errorCode_2 (fun H locs hP hS => ?_)
  exact kX11_errorCode_5 X hret hf hP hS (lv_sub hl [0] rfl)
theorem vX11_errorCode {l : Launch} {dC : Nat → ClassId} {dI : Nat → Nat → Nat} {cI : ClassId} {kA : String → Nat → Nat} {ad : Nat → Nat} {M S1 : MS} {r : Int32} (hf : fX11_errorCode M  = some (r, S1)) : gMetI l yX11_errorCode cX11_errorCode 1 (some .int) 1 (mΩ ad) (mP dC dI cI kA ad) (kR kTab kA) [.ref (ad 25)] M r S1 := gEntryI (ty := .int) (by decide) rfl rfl mOK (Nat.le_of_ble_eq_true rfl) (fun p e s m args below meth c Q ls X hP hS hret hl => 
  kX11_errorCode_0 X hret hf hP hS (lv_sub hl [0] rfl))
set_option maxRecDepth 10000 in
theorem kX11_errorOffset_5 {r : Int32} {S1 : MS} {M : MS} {H : Heap} {locs : List Loc} {ls : Array Slot} (X : gX p s m args c cX11_errorOffset 1 RX11 (kR kTab kA)) (hret : gRetI p l e (rmL 1 0 0) s m args below meth c cX11_errorOffset (mΩ ad) (mP dC dI cI kA ad) Q r S1) (hf : fX11_errorOffset_5 M = some (r, S1)) (hP : (mP dC dI cI kA ad) M s H) (hS : va_S (Fr (mΩ ad) s.heap.size) s.heap H locs) (hl : lv_has ls 1 [(0, .ref (ad 25))]) : W p l e (rmL 1 0 0) s m args below meth c H locs 0 0 Q (F0 m 5 ls []) := by
  have hx := X.hx
  have hb := X.hb
  have hown := X.hown
  have hts := X.hts
  rw [fX11_errorOffset_5] at hf
  refine lv_aload_n hx hb dX11_errorOffset_5 rfl (lv_at hl 0 rfl) ?_
  refine mr_get (k := 11) X hP (by decide) rfl rfl tw1676 dX11_errorOffset_6 ?_
  cases hf
  exact hret _ _ _ _ dX11_errorOffset_9 hP hS
set_option maxRecDepth 10000 in
theorem kX11_errorOffset_0 {r : Int32} {S1 : MS} {M : MS} {H : Heap} {locs : List Loc} {ls : Array Slot} (X : gX p s m args c cX11_errorOffset 1 RX11 (kR kTab kA)) (hret : gRetI p l e (rmL 1 0 0) s m args below meth c cX11_errorOffset (mΩ ad) (mP dC dI cI kA ad) Q r S1) (hf : fX11_errorOffset_0 M = some (r, S1)) (hP : (mP dC dI cI kA ad) M s H) (hS : va_S (Fr (mΩ ad) s.heap.size) s.heap H locs) (hl : lv_has ls 1 [(0, .ref (ad 25))]) : W p l e (rmL 1 0 0) s m args below meth c H locs 0 0 Q (F0 m 0 ls []) := by
  have hx := X.hx
  have hb := X.hb
  have hown := X.hown
  have hts := X.hts
  rw [fX11_errorOffset_0] at hf
  refine lv_aload_n hx hb dX11_errorOffset_0 rfl (lv_at hl 0 rfl) ?_
  refine lv_iconst (v := 0) hx hb dX11_errorOffset_1 (by decide) ?_
  refine mr_put (k := 7) X hP hS (by decide) rfl rfl rfl rfl tw1672 dX11_errorOffset_2 (fun H locs hP hS => ?_)
  exact kX11_errorOffset_5 X hret hf hP hS (lv_sub hl [0] rfl)
theorem vX11_errorOffset {l : Launch} {dC : Nat → ClassId} {dI : Nat → Nat → Nat} {cI : ClassId} {kA : String → Nat → Nat} {ad : Nat → Nat} {M S1 : MS} {r : Int32} (hf : fX11_errorOffset M  = some (r, S1)) : gMetI l yX11_errorOffset cX11_errorOffset 1 (some .int) 1 (mΩ ad) (mP dC dI cI kA ad) (kR kTab kA) [.ref (ad 25)] M r S1 := gEntryI (ty := .int) (by decide) rfl rfl mOK (Nat.le_of_ble_eq_true rfl) (fun p e s m args below meth c Q ls X hP hS hret hl => 
  kX11_errorOffset_0 X hret hf hP hS (lv_sub hl [0] rfl))
set_option maxRecDepth 10000 in
theorem kX11_clock_5 {r : Int32} {S1 : MS} {M : MS} {H : Heap} {locs : List Loc} {ls : Array Slot} (X : gX p s m args c cX11_clock 1 RX11 (kR kTab kA)) (hret : gRetI p l e (rmL 1 0 0) s m args below meth c cX11_clock (mΩ ad) (mP dC dI cI kA ad) Q r S1) (hf : fX11_clock_5 M = some (r, S1)) (hP : (mP dC dI cI kA ad) M s H) (hS : va_S (Fr (mΩ ad) s.heap.size) s.heap H locs) (hl : lv_has ls 1 [(0, .ref (ad 25))]) : W p l e (rmL 1 0 0) s m args below meth c H locs 0 0 Q (F0 m 5 ls []) := by
  have hx := X.hx
  have hb := X.hb
  have hown := X.hown
  have hts := X.hts
  rw [fX11_clock_5] at hf
  refine lv_aload_n hx hb dX11_clock_5 rfl (lv_at hl 0 rfl) ?_
  refine mr_get (k := 0) X hP (by decide) rfl rfl tw1665 dX11_clock_6 ?_
  refine lv_iconst (v := 3) hx hb dX11_clock_9 (by decide) ?_
  obtain ⟨g1, hf⟩ := gd hf
  refine mr_ald (a := 0) X hP rfl g1 dX11_clock_10 ?_
  cases hf
  exact hret _ _ _ _ dX11_clock_11 hP hS
set_option maxRecDepth 10000 in
theorem kX11_clock_0 {r : Int32} {S1 : MS} {M : MS} {H : Heap} {locs : List Loc} {ls : Array Slot} (X : gX p s m args c cX11_clock 1 RX11 (kR kTab kA)) (hret : gRetI p l e (rmL 1 0 0) s m args below meth c cX11_clock (mΩ ad) (mP dC dI cI kA ad) Q r S1) (hf : fX11_clock_0 M = some (r, S1)) (hP : (mP dC dI cI kA ad) M s H) (hS : va_S (Fr (mΩ ad) s.heap.size) s.heap H locs) (hl : lv_has ls 1 [(0, .ref (ad 25))]) : W p l e (rmL 1 0 0) s m args below meth c H locs 0 0 Q (F0 m 0 ls []) := by
  have hx := X.hx
  have hb := X.hb
  have hown := X.hown
  have hts := X.hts
  rw [fX11_clock_0] at hf
  refine lv_aload_n hx hb dX11_clock_0 rfl (lv_at hl 0 rfl) ?_
  refine lv_iconst (v := 0) hx hb dX11_clock_1 (by decide) ?_
  refine mr_put (k := 7) X hP hS (by decide) rfl rfl rfl rfl tw1672 dX11_clock_2 (fun H locs hP hS => ?_)
  exact kX11_clock_5 X hret hf hP hS (lv_sub hl [0] rfl)
theorem vX11_clock {l : Launch} {dC : Nat → ClassId} {dI : Nat → Nat → Nat} {cI : ClassId} {kA : String → Nat → Nat} {ad : Nat → Nat} {M S1 : MS} {r : Int32} (hf : fX11_clock M  = some (r, S1)) : gMetI l yX11_clock cX11_clock 1 (some .int) 1 (mΩ ad) (mP dC dI cI kA ad) (kR kTab kA) [.ref (ad 25)] M r S1 := gEntryI (ty := .int) (by decide) rfl rfl mOK (Nat.le_of_ble_eq_true rfl) (fun p e s m args below meth c Q ls X hP hS hret hl => 
  kX11_clock_0 X hret hf hP hS (lv_sub hl [0] rfl))
set_option maxRecDepth 10000 in
theorem kX11_catCount_5 {r : Int32} {S1 : MS} {M : MS} {H : Heap} {locs : List Loc} {ls : Array Slot} (X : gX p s m args c cX11_catCount 1 RX11 (kR kTab kA)) (hret : gRetI p l e (rmL 1 0 0) s m args below meth c cX11_catCount (mΩ ad) (mP dC dI cI kA ad) Q r S1) (hf : fX11_catCount_5 M = some (r, S1)) (hP : (mP dC dI cI kA ad) M s H) (hS : va_S (Fr (mΩ ad) s.heap.size) s.heap H locs) (hl : lv_has ls 1 [(0, .ref (ad 25))]) : W p l e (rmL 1 0 0) s m args below meth c H locs 0 0 Q (F0 m 5 ls []) := by
  have hx := X.hx
  have hb := X.hb
  have hown := X.hown
  have hts := X.hts
  rw [fX11_catCount_5] at hf
  refine lv_aload_n hx hb dX11_catCount_5 rfl (lv_at hl 0 rfl) ?_
  refine mr_get (k := 0) X hP (by decide) rfl rfl tw1665 dX11_catCount_6 ?_
  refine lv_iconst (v := 0) hx hb dX11_catCount_9 (by decide) ?_
  obtain ⟨g1, hf⟩ := gd hf
  refine mr_ald (a := 0) X hP rfl g1 dX11_catCount_10 ?_
  cases hf
  exact hret _ _ _ _ dX11_catCount_11 hP hS
set_option maxRecDepth 10000 in
theorem kX11_catCount_0 {r : Int32} {S1 : MS} {M : MS} {H : Heap} {locs : List Loc} {ls : Array Slot} (X : gX p s m args c cX11_catCount 1 RX11 (kR kTab kA)) (hret : gRetI p l e (rmL 1 0 0) s m args below meth c cX11_catCount (mΩ ad) (mP dC dI cI kA ad) Q r S1) (hf : fX11_catCount_0 M = some (r, S1)) (hP : (mP dC dI cI kA ad) M s H) (hS : va_S (Fr (mΩ ad) s.heap.size) s.heap H locs) (hl : lv_has ls 1 [(0, .ref (ad 25))]) : W p l e (rmL 1 0 0) s m args below meth c H locs 0 0 Q (F0 m 0 ls []) := by
  have hx := X.hx
  have hb := X.hb
  have hown := X.hown
  have hts := X.hts
  rw [fX11_catCount_0] at hf
  refine lv_aload_n hx hb dX11_catCount_0 rfl (lv_at hl 0 rfl) ?_
  refine lv_iconst (v := 0) hx hb dX11_catCount_1 (by decide) ?_
  refine mr_put (k := 7) X hP hS (by decide) rfl rfl rfl rfl tw1672 dX11_catCount_2 (fun H locs hP hS => ?_)
  exact kX11_catCount_5 X hret hf hP hS (lv_sub hl [0] rfl)
theorem vX11_catCount {l : Launch} {dC : Nat → ClassId} {dI : Nat → Nat → Nat} {cI : ClassId} {kA : String → Nat → Nat} {ad : Nat → Nat} {M S1 : MS} {r : Int32} (hf : fX11_catCount M  = some (r, S1)) : gMetI l yX11_catCount cX11_catCount 1 (some .int) 1 (mΩ ad) (mP dC dI cI kA ad) (kR kTab kA) [.ref (ad 25)] M r S1 := gEntryI (ty := .int) (by decide) rfl rfl mOK (Nat.le_of_ble_eq_true rfl) (fun p e s m args below meth c Q ls X hP hS hret hl => 
  kX11_catCount_0 X hret hf hP hS (lv_sub hl [0] rfl))
set_option maxRecDepth 10000 in
theorem kX11_sackCount_5 {r : Int32} {S1 : MS} {M : MS} {H : Heap} {locs : List Loc} {ls : Array Slot} (X : gX p s m args c cX11_sackCount 1 RX11 (kR kTab kA)) (hret : gRetI p l e (rmL 1 0 0) s m args below meth c cX11_sackCount (mΩ ad) (mP dC dI cI kA ad) Q r S1) (hf : fX11_sackCount_5 M = some (r, S1)) (hP : (mP dC dI cI kA ad) M s H) (hS : va_S (Fr (mΩ ad) s.heap.size) s.heap H locs) (hl : lv_has ls 1 [(0, .ref (ad 25))]) : W p l e (rmL 1 0 0) s m args below meth c H locs 0 0 Q (F0 m 5 ls []) := by
  have hx := X.hx
  have hb := X.hb
  have hown := X.hown
  have hts := X.hts
  rw [fX11_sackCount_5] at hf
  refine lv_aload_n hx hb dX11_sackCount_5 rfl (lv_at hl 0 rfl) ?_
  refine mr_get (k := 0) X hP (by decide) rfl rfl tw1665 dX11_sackCount_6 ?_
  refine lv_iconst (v := 1) hx hb dX11_sackCount_9 (by decide) ?_
  obtain ⟨g1, hf⟩ := gd hf
  refine mr_ald (a := 0) X hP rfl g1 dX11_sackCount_10 ?_
  cases hf
  exact hret _ _ _ _ dX11_sackCount_11 hP hS
set_option maxRecDepth 10000 in
theorem kX11_sackCount_0 {r : Int32} {S1 : MS} {M : MS} {H : Heap} {locs : List Loc} {ls : Array Slot} (X : gX p s m args c cX11_sackCount 1 RX11 (kR kTab kA)) (hret : gRetI p l e (rmL 1 0 0) s m args below meth c cX11_sackCount (mΩ ad) (mP dC dI cI kA ad) Q r S1) (hf : fX11_sackCount_0 M = some (r, S1)) (hP : (mP dC dI cI kA ad) M s H) (hS : va_S (Fr (mΩ ad) s.heap.size) s.heap H locs) (hl : lv_has ls 1 [(0, .ref (ad 25))]) : W p l e (rmL 1 0 0) s m args below meth c H locs 0 0 Q (F0 m 0 ls []) := by
  have hx := X.hx
  have hb := X.hb
  have hown := X.hown
  have hts := X.hts
  rw [fX11_sackCount_0] at hf
  refine lv_aload_n hx hb dX11_sackCount_0 rfl (lv_at hl 0 rfl) ?_
  refine lv_iconst (v := 0) hx hb dX11_sackCount_1 (by decide) ?_
  refine mr_put (k := 7) X hP hS (by decide) rfl rfl rfl rfl tw1672 dX11_sackCount_2 (fun H locs hP hS => ?_)
  exact kX11_sackCount_5 X hret hf hP hS (lv_sub hl [0] rfl)
theorem vX11_sackCount {l : Launch} {dC : Nat → ClassId} {dI : Nat → Nat → Nat} {cI : ClassId} {kA : String → Nat → Nat} {ad : Nat → Nat} {M S1 : MS} {r : Int32} (hf : fX11_sackCount M  = some (r, S1)) : gMetI l yX11_sackCount cX11_sackCount 1 (some .int) 1 (mΩ ad) (mP dC dI cI kA ad) (kR kTab kA) [.ref (ad 25)] M r S1 := gEntryI (ty := .int) (by decide) rfl rfl mOK (Nat.le_of_ble_eq_true rfl) (fun p e s m args below meth c Q ls X hP hS hret hl => 
  kX11_sackCount_0 X hret hf hP hS (lv_sub hl [0] rfl))
set_option maxRecDepth 10000 in
theorem kX11_shiftCount_5 {r : Int32} {S1 : MS} {M : MS} {H : Heap} {locs : List Loc} {ls : Array Slot} (X : gX p s m args c cX11_shiftCount 1 RX11 (kR kTab kA)) (hret : gRetI p l e (rmL 1 0 0) s m args below meth c cX11_shiftCount (mΩ ad) (mP dC dI cI kA ad) Q r S1) (hf : fX11_shiftCount_5 M = some (r, S1)) (hP : (mP dC dI cI kA ad) M s H) (hS : va_S (Fr (mΩ ad) s.heap.size) s.heap H locs) (hl : lv_has ls 1 [(0, .ref (ad 25))]) : W p l e (rmL 1 0 0) s m args below meth c H locs 0 0 Q (F0 m 5 ls []) := by
  have hx := X.hx
  have hb := X.hb
  have hown := X.hown
  have hts := X.hts
  rw [fX11_shiftCount_5] at hf
  refine lv_aload_n hx hb dX11_shiftCount_5 rfl (lv_at hl 0 rfl) ?_
  refine mr_get (k := 0) X hP (by decide) rfl rfl tw1665 dX11_shiftCount_6 ?_
  refine lv_iconst (v := 2) hx hb dX11_shiftCount_9 (by decide) ?_
  obtain ⟨g1, hf⟩ := gd hf
  refine mr_ald (a := 0) X hP rfl g1 dX11_shiftCount_10 ?_
  cases hf
  exact hret _ _ _ _ dX11_shiftCount_11 hP hS
set_option maxRecDepth 10000 in
theorem kX11_shiftCount_0 {r : Int32} {S1 : MS} {M : MS} {H : Heap} {locs : List Loc} {ls : Array Slot} (X : gX p s m args c cX11_shiftCount 1 RX11 (kR kTab kA)) (hret : gRetI p l e (rmL 1 0 0) s m args below meth c cX11_shiftCount (mΩ ad) (mP dC dI cI kA ad) Q r S1) (hf : fX11_shiftCount_0 M = some (r, S1)) (hP : (mP dC dI cI kA ad) M s H) (hS : va_S (Fr (mΩ ad) s.heap.size) s.heap H locs) (hl : lv_has ls 1 [(0, .ref (ad 25))]) : W p l e (rmL 1 0 0) s m args below meth c H locs 0 0 Q (F0 m 0 ls []) := by
  have hx := X.hx
  have hb := X.hb
  have hown := X.hown
  have hts := X.hts
  rw [fX11_shiftCount_0] at hf
  refine lv_aload_n hx hb dX11_shiftCount_0 rfl (lv_at hl 0 rfl) ?_
  refine lv_iconst (v := 0) hx hb dX11_shiftCount_1 (by decide) ?_
  refine mr_put (k := 7) X hP hS (by decide) rfl rfl rfl rfl tw1672 dX11_shiftCount_2 (fun H locs hP hS => ?_)
  exact kX11_shiftCount_5 X hret hf hP hS (lv_sub hl [0] rfl)
theorem vX11_shiftCount {l : Launch} {dC : Nat → ClassId} {dI : Nat → Nat → Nat} {cI : ClassId} {kA : String → Nat → Nat} {ad : Nat → Nat} {M S1 : MS} {r : Int32} (hf : fX11_shiftCount M  = some (r, S1)) : gMetI l yX11_shiftCount cX11_shiftCount 1 (some .int) 1 (mΩ ad) (mP dC dI cI kA ad) (kR kTab kA) [.ref (ad 25)] M r S1 := gEntryI (ty := .int) (by decide) rfl rfl mOK (Nat.le_of_ble_eq_true rfl) (fun p e s m args below meth c Q ls X hP hS hret hl => 
  kX11_shiftCount_0 X hret hf hP hS (lv_sub hl [0] rfl))
set_option maxRecDepth 10000 in
theorem kX11_swornCat_5 {r : Int32} {S1 : MS} {M : MS} {H : Heap} {locs : List Loc} {ls : Array Slot} (X : gX p s m args c cX11_swornCat 1 RX11 (kR kTab kA)) (hret : gRetI p l e (rmL 1 0 0) s m args below meth c cX11_swornCat (mΩ ad) (mP dC dI cI kA ad) Q r S1) (hf : fX11_swornCat_5 M = some (r, S1)) (hP : (mP dC dI cI kA ad) M s H) (hS : va_S (Fr (mΩ ad) s.heap.size) s.heap H locs) (hl : lv_has ls 1 [(0, .ref (ad 25))]) : W p l e (rmL 1 0 0) s m args below meth c H locs 0 0 Q (F0 m 5 ls []) := by
  have hx := X.hx
  have hb := X.hb
  have hown := X.hown
  have hts := X.hts
  rw [fX11_swornCat_5] at hf
  refine lv_aload_n hx hb dX11_swornCat_5 rfl (lv_at hl 0 rfl) ?_
  refine mr_get (k := 0) X hP (by decide) rfl rfl tw1665 dX11_swornCat_6 ?_
  refine lv_iconst (v := 5) hx hb dX11_swornCat_9 (by decide) ?_
  obtain ⟨g1, hf⟩ := gd hf
  refine mr_ald (a := 0) X hP rfl g1 dX11_swornCat_10 ?_
  cases hf
  exact hret _ _ _ _ dX11_swornCat_11 hP hS
set_option maxRecDepth 10000 in
theorem kX11_swornCat_0 {r : Int32} {S1 : MS} {M : MS} {H : Heap} {locs : List Loc} {ls : Array Slot} (X : gX p s m args c cX11_swornCat 1 RX11 (kR kTab kA)) (hret : gRetI p l e (rmL 1 0 0) s m args below meth c cX11_swornCat (mΩ ad) (mP dC dI cI kA ad) Q r S1) (hf : fX11_swornCat_0 M = some (r, S1)) (hP : (mP dC dI cI kA ad) M s H) (hS : va_S (Fr (mΩ ad) s.heap.size) s.heap H locs) (hl : lv_has ls 1 [(0, .ref (ad 25))]) : W p l e (rmL 1 0 0) s m args below meth c H locs 0 0 Q (F0 m 0 ls []) := by
  have hx := X.hx
  have hb := X.hb
  have hown := X.hown
  have hts := X.hts
  rw [fX11_swornCat_0] at hf
  refine lv_aload_n hx hb dX11_swornCat_0 rfl (lv_at hl 0 rfl) ?_
  refine lv_iconst (v := 0) hx hb dX11_swornCat_1 (by decide) ?_
  refine mr_put (k := 7) X hP hS (by decide) rfl rfl rfl rfl tw1672 dX11_swornCat_2 (fun H locs hP hS => ?_)
  exact kX11_swornCat_5 X hret hf hP hS (lv_sub hl [0] rfl)
theorem vX11_swornCat {l : Launch} {dC : Nat → ClassId} {dI : Nat → Nat → Nat} {cI : ClassId} {kA : String → Nat → Nat} {ad : Nat → Nat} {M S1 : MS} {r : Int32} (hf : fX11_swornCat M  = some (r, S1)) : gMetI l yX11_swornCat cX11_swornCat 1 (some .int) 1 (mΩ ad) (mP dC dI cI kA ad) (kR kTab kA) [.ref (ad 25)] M r S1 := gEntryI (ty := .int) (by decide) rfl rfl mOK (Nat.le_of_ble_eq_true rfl) (fun p e s m args below meth c Q ls X hP hS hret hl => 
  kX11_swornCat_0 X hret hf hP hS (lv_sub hl [0] rfl))
set_option maxRecDepth 10000 in
theorem kX11_currentShift_5 {r : Int32} {S1 : MS} {M : MS} {H : Heap} {locs : List Loc} {ls : Array Slot} (X : gX p s m args c cX11_currentShift 1 RX11 (kR kTab kA)) (hret : gRetI p l e (rmL 1 0 0) s m args below meth c cX11_currentShift (mΩ ad) (mP dC dI cI kA ad) Q r S1) (hf : fX11_currentShift_5 M = some (r, S1)) (hP : (mP dC dI cI kA ad) M s H) (hS : va_S (Fr (mΩ ad) s.heap.size) s.heap H locs) (hl : lv_has ls 1 [(0, .ref (ad 25))]) : W p l e (rmL 1 0 0) s m args below meth c H locs 0 0 Q (F0 m 5 ls []) := by
  have hx := X.hx
  have hb := X.hb
  have hown := X.hown
  have hts := X.hts
  rw [fX11_currentShift_5] at hf
  refine lv_aload_n hx hb dX11_currentShift_5 rfl (lv_at hl 0 rfl) ?_
  refine mr_get (k := 0) X hP (by decide) rfl rfl tw1665 dX11_currentShift_6 ?_
  refine lv_bipush (v := 6) hx hb dX11_currentShift_9 (by decide) ?_
  obtain ⟨g1, hf⟩ := gd hf
  refine mr_ald (a := 0) X hP rfl g1 dX11_currentShift_11 ?_
  cases hf
  exact hret _ _ _ _ dX11_currentShift_12 hP hS
set_option maxRecDepth 10000 in
theorem kX11_currentShift_0 {r : Int32} {S1 : MS} {M : MS} {H : Heap} {locs : List Loc} {ls : Array Slot} (X : gX p s m args c cX11_currentShift 1 RX11 (kR kTab kA)) (hret : gRetI p l e (rmL 1 0 0) s m args below meth c cX11_currentShift (mΩ ad) (mP dC dI cI kA ad) Q r S1) (hf : fX11_currentShift_0 M = some (r, S1)) (hP : (mP dC dI cI kA ad) M s H) (hS : va_S (Fr (mΩ ad) s.heap.size) s.heap H locs) (hl : lv_has ls 1 [(0, .ref (ad 25))]) : W p l e (rmL 1 0 0) s m args below meth c H locs 0 0 Q (F0 m 0 ls []) := by
  have hx := X.hx
  have hb := X.hb
  have hown := X.hown
  have hts := X.hts
  rw [fX11_currentShift_0] at hf
  refine lv_aload_n hx hb dX11_currentShift_0 rfl (lv_at hl 0 rfl) ?_
  refine lv_iconst (v := 0) hx hb dX11_currentShift_1 (by decide) ?_
  refine mr_put (k := 7) X hP hS (by decide) rfl rfl rfl rfl tw1672 dX11_currentShift_2 (fun H locs hP hS => ?_)
  exact kX11_currentShift_5 X hret hf hP hS (lv_sub hl [0] rfl)
theorem vX11_currentShift {l : Launch} {dC : Nat → ClassId} {dI : Nat → Nat → Nat} {cI : ClassId} {kA : String → Nat → Nat} {ad : Nat → Nat} {M S1 : MS} {r : Int32} (hf : fX11_currentShift M  = some (r, S1)) : gMetI l yX11_currentShift cX11_currentShift 1 (some .int) 1 (mΩ ad) (mP dC dI cI kA ad) (kR kTab kA) [.ref (ad 25)] M r S1 := gEntryI (ty := .int) (by decide) rfl rfl mOK (Nat.le_of_ble_eq_true rfl) (fun p e s m args below meth c Q ls X hP hS hret hl => 
  kX11_currentShift_0 X hret hf hP hS (lv_sub hl [0] rfl))
set_option maxRecDepth 10000 in
theorem kX11_hoursLeft_5 {r : Int32} {S1 : MS} {M : MS} {H : Heap} {locs : List Loc} {ls : Array Slot} (X : gX p s m args c cX11_hoursLeft 1 RX11 (kR kTab kA)) (hret : gRetI p l e (rmL 1 0 0) s m args below meth c cX11_hoursLeft (mΩ ad) (mP dC dI cI kA ad) Q r S1) (hf : fX11_hoursLeft_5 M = some (r, S1)) (hP : (mP dC dI cI kA ad) M s H) (hS : va_S (Fr (mΩ ad) s.heap.size) s.heap H locs) (hl : lv_has ls 1 [(0, .ref (ad 25))]) : W p l e (rmL 1 0 0) s m args below meth c H locs 0 0 Q (F0 m 5 ls []) := by
  have hx := X.hx
  have hb := X.hb
  have hown := X.hown
  have hts := X.hts
  rw [fX11_hoursLeft_5] at hf
  refine lv_aload_n hx hb dX11_hoursLeft_5 rfl (lv_at hl 0 rfl) ?_
  refine mr_get (k := 0) X hP (by decide) rfl rfl tw1665 dX11_hoursLeft_6 ?_
  refine lv_bipush (v := 7) hx hb dX11_hoursLeft_9 (by decide) ?_
  obtain ⟨g1, hf⟩ := gd hf
  refine mr_ald (a := 0) X hP rfl g1 dX11_hoursLeft_11 ?_
  cases hf
  exact hret _ _ _ _ dX11_hoursLeft_12 hP hS
set_option maxRecDepth 10000 in
theorem kX11_hoursLeft_0 {r : Int32} {S1 : MS} {M : MS} {H : Heap} {locs : List Loc} {ls : Array Slot} (X : gX p s m args c cX11_hoursLeft 1 RX11 (kR kTab kA)) (hret : gRetI p l e (rmL 1 0 0) s m args below meth c cX11_hoursLeft (mΩ ad) (mP dC dI cI kA ad) Q r S1) (hf : fX11_hoursLeft_0 M = some (r, S1)) (hP : (mP dC dI cI kA ad) M s H) (hS : va_S (Fr (mΩ ad) s.heap.size) s.heap H locs) (hl : lv_has ls 1 [(0, .ref (ad 25))]) : W p l e (rmL 1 0 0) s m args below meth c H locs 0 0 Q (F0 m 0 ls []) := by
  have hx := X.hx
  have hb := X.hb
  have hown := X.hown
  have hts := X.hts
  rw [fX11_hoursLeft_0] at hf
  refine lv_aload_n hx hb dX11_hoursLeft_0 rfl (lv_at hl 0 rfl) ?_
  refine lv_iconst (v := 0) hx hb dX11_hoursLeft_1 (by decide) ?_
  refine mr_put (k := 7) X hP hS (by decide) rfl rfl rfl rfl tw1672 dX11_hoursLeft_2 (fun H locs hP hS => ?_)
  exact kX11_hoursLeft_5 X hret hf hP hS (lv_sub hl [0] rfl)
theorem vX11_hoursLeft {l : Launch} {dC : Nat → ClassId} {dI : Nat → Nat → Nat} {cI : ClassId} {kA : String → Nat → Nat} {ad : Nat → Nat} {M S1 : MS} {r : Int32} (hf : fX11_hoursLeft M  = some (r, S1)) : gMetI l yX11_hoursLeft cX11_hoursLeft 1 (some .int) 1 (mΩ ad) (mP dC dI cI kA ad) (kR kTab kA) [.ref (ad 25)] M r S1 := gEntryI (ty := .int) (by decide) rfl rfl mOK (Nat.le_of_ble_eq_true rfl) (fun p e s m args below meth c Q ls X hP hS hret hl => 
  kX11_hoursLeft_0 X hret hf hP hS (lv_sub hl [0] rfl))
set_option maxRecDepth 10000 in
theorem kX11_eventCount_5 {r : Int32} {S1 : MS} {M : MS} {H : Heap} {locs : List Loc} {ls : Array Slot} (X : gX p s m args c cX11_eventCount 1 RX11 (kR kTab kA)) (hret : gRetI p l e (rmL 1 0 0) s m args below meth c cX11_eventCount (mΩ ad) (mP dC dI cI kA ad) Q r S1) (hf : fX11_eventCount_5 M = some (r, S1)) (hP : (mP dC dI cI kA ad) M s H) (hS : va_S (Fr (mΩ ad) s.heap.size) s.heap H locs) (hl : lv_has ls 1 [(0, .ref (ad 25))]) : W p l e (rmL 1 0 0) s m args below meth c H locs 0 0 Q (F0 m 5 ls []) := by
  have hx := X.hx
  have hb := X.hb
  have hown := X.hown
  have hts := X.hts
  rw [fX11_eventCount_5] at hf
  refine lv_aload_n hx hb dX11_eventCount_5 rfl (lv_at hl 0 rfl) ?_
  refine mr_get (k := 0) X hP (by decide) rfl rfl tw1665 dX11_eventCount_6 ?_
  refine lv_bipush (v := 16) hx hb dX11_eventCount_9 (by decide) ?_
  obtain ⟨g1, hf⟩ := gd hf
  refine mr_ald (a := 0) X hP rfl g1 dX11_eventCount_11 ?_
  cases hf
  exact hret _ _ _ _ dX11_eventCount_12 hP hS
set_option maxRecDepth 10000 in
theorem kX11_eventCount_0 {r : Int32} {S1 : MS} {M : MS} {H : Heap} {locs : List Loc} {ls : Array Slot} (X : gX p s m args c cX11_eventCount 1 RX11 (kR kTab kA)) (hret : gRetI p l e (rmL 1 0 0) s m args below meth c cX11_eventCount (mΩ ad) (mP dC dI cI kA ad) Q r S1) (hf : fX11_eventCount_0 M = some (r, S1)) (hP : (mP dC dI cI kA ad) M s H) (hS : va_S (Fr (mΩ ad) s.heap.size) s.heap H locs) (hl : lv_has ls 1 [(0, .ref (ad 25))]) : W p l e (rmL 1 0 0) s m args below meth c H locs 0 0 Q (F0 m 0 ls []) := by
  have hx := X.hx
  have hb := X.hb
  have hown := X.hown
  have hts := X.hts
  rw [fX11_eventCount_0] at hf
  refine lv_aload_n hx hb dX11_eventCount_0 rfl (lv_at hl 0 rfl) ?_
  refine lv_iconst (v := 0) hx hb dX11_eventCount_1 (by decide) ?_
  refine mr_put (k := 7) X hP hS (by decide) rfl rfl rfl rfl tw1672 dX11_eventCount_2 (fun H locs hP hS => ?_)
  exact kX11_eventCount_5 X hret hf hP hS (lv_sub hl [0] rfl)
theorem vX11_eventCount {l : Launch} {dC : Nat → ClassId} {dI : Nat → Nat → Nat} {cI : ClassId} {kA : String → Nat → Nat} {ad : Nat → Nat} {M S1 : MS} {r : Int32} (hf : fX11_eventCount M  = some (r, S1)) : gMetI l yX11_eventCount cX11_eventCount 1 (some .int) 1 (mΩ ad) (mP dC dI cI kA ad) (kR kTab kA) [.ref (ad 25)] M r S1 := gEntryI (ty := .int) (by decide) rfl rfl mOK (Nat.le_of_ble_eq_true rfl) (fun p e s m args below meth c Q ls X hP hS hret hl => 
  kX11_eventCount_0 X hret hf hP hS (lv_sub hl [0] rfl))
set_option maxRecDepth 10000 in
theorem kX11_milk_5 {r : Int32} {S1 : MS} {M : MS} {H : Heap} {locs : List Loc} {ls : Array Slot} (X : gX p s m args c cX11_milk 1 RX11 (kR kTab kA)) (hret : gRetI p l e (rmL 1 0 0) s m args below meth c cX11_milk (mΩ ad) (mP dC dI cI kA ad) Q r S1) (hf : fX11_milk_5 M = some (r, S1)) (hP : (mP dC dI cI kA ad) M s H) (hS : va_S (Fr (mΩ ad) s.heap.size) s.heap H locs) (hl : lv_has ls 1 [(0, .ref (ad 25))]) : W p l e (rmL 1 0 0) s m args below meth c H locs 0 0 Q (F0 m 5 ls []) := by
  have hx := X.hx
  have hb := X.hb
  have hown := X.hown
  have hts := X.hts
  rw [fX11_milk_5] at hf
  refine lv_aload_n hx hb dX11_milk_5 rfl (lv_at hl 0 rfl) ?_
  refine mr_get (k := 0) X hP (by decide) rfl rfl tw1665 dX11_milk_6 ?_
  refine lv_iconst (v := 4) hx hb dX11_milk_9 (by decide) ?_
  obtain ⟨g1, hf⟩ := gd hf
  refine mr_ald (a := 0) X hP rfl g1 dX11_milk_10 ?_
  cases hf
  exact hret _ _ _ _ dX11_milk_11 hP hS
set_option maxRecDepth 10000 in
theorem kX11_milk_0 {r : Int32} {S1 : MS} {M : MS} {H : Heap} {locs : List Loc} {ls : Array Slot} (X : gX p s m args c cX11_milk 1 RX11 (kR kTab kA)) (hret : gRetI p l e (rmL 1 0 0) s m args below meth c cX11_milk (mΩ ad) (mP dC dI cI kA ad) Q r S1) (hf : fX11_milk_0 M = some (r, S1)) (hP : (mP dC dI cI kA ad) M s H) (hS : va_S (Fr (mΩ ad) s.heap.size) s.heap H locs) (hl : lv_has ls 1 [(0, .ref (ad 25))]) : W p l e (rmL 1 0 0) s m args below meth c H locs 0 0 Q (F0 m 0 ls []) := by
  have hx := X.hx
  have hb := X.hb
  have hown := X.hown
  have hts := X.hts
  rw [fX11_milk_0] at hf
  refine lv_aload_n hx hb dX11_milk_0 rfl (lv_at hl 0 rfl) ?_
  refine lv_iconst (v := 0) hx hb dX11_milk_1 (by decide) ?_
  refine mr_put (k := 7) X hP hS (by decide) rfl rfl rfl rfl tw1672 dX11_milk_2 (fun H locs hP hS => ?_)
  exact kX11_milk_5 X hret hf hP hS (lv_sub hl [0] rfl)
theorem vX11_milk {l : Launch} {dC : Nat → ClassId} {dI : Nat → Nat → Nat} {cI : ClassId} {kA : String → Nat → Nat} {ad : Nat → Nat} {M S1 : MS} {r : Int32} (hf : fX11_milk M  = some (r, S1)) : gMetI l yX11_milk cX11_milk 1 (some .int) 1 (mΩ ad) (mP dC dI cI kA ad) (kR kTab kA) [.ref (ad 25)] M r S1 := gEntryI (ty := .int) (by decide) rfl rfl mOK (Nat.le_of_ble_eq_true rfl) (fun p e s m args below meth c Q ls X hP hS hret hl => 
  kX11_milk_0 X hret hf hP hS (lv_sub hl [0] rfl))
set_option maxRecDepth 10000 in
theorem kX11_totalCaught_5 {r : Int32} {S1 : MS} {M : MS} {H : Heap} {locs : List Loc} {ls : Array Slot} (X : gX p s m args c cX11_totalCaught 1 RX11 (kR kTab kA)) (hret : gRetI p l e (rmL 1 0 0) s m args below meth c cX11_totalCaught (mΩ ad) (mP dC dI cI kA ad) Q r S1) (hf : fX11_totalCaught_5 M = some (r, S1)) (hP : (mP dC dI cI kA ad) M s H) (hS : va_S (Fr (mΩ ad) s.heap.size) s.heap H locs) (hl : lv_has ls 1 [(0, .ref (ad 25))]) : W p l e (rmL 1 0 0) s m args below meth c H locs 0 0 Q (F0 m 5 ls []) := by
  have hx := X.hx
  have hb := X.hb
  have hown := X.hown
  have hts := X.hts
  rw [fX11_totalCaught_5] at hf
  refine lv_aload_n hx hb dX11_totalCaught_5 rfl (lv_at hl 0 rfl) ?_
  refine mr_get (k := 0) X hP (by decide) rfl rfl tw1665 dX11_totalCaught_6 ?_
  refine lv_bipush (v := 8) hx hb dX11_totalCaught_9 (by decide) ?_
  obtain ⟨g1, hf⟩ := gd hf
  refine mr_ald (a := 0) X hP rfl g1 dX11_totalCaught_11 ?_
  cases hf
  exact hret _ _ _ _ dX11_totalCaught_12 hP hS
set_option maxRecDepth 10000 in
theorem kX11_totalCaught_0 {r : Int32} {S1 : MS} {M : MS} {H : Heap} {locs : List Loc} {ls : Array Slot} (X : gX p s m args c cX11_totalCaught 1 RX11 (kR kTab kA)) (hret : gRetI p l e (rmL 1 0 0) s m args below meth c cX11_totalCaught (mΩ ad) (mP dC dI cI kA ad) Q r S1) (hf : fX11_totalCaught_0 M = some (r, S1)) (hP : (mP dC dI cI kA ad) M s H) (hS : va_S (Fr (mΩ ad) s.heap.size) s.heap H locs) (hl : lv_has ls 1 [(0, .ref (ad 25))]) : W p l e (rmL 1 0 0) s m args below meth c H locs 0 0 Q (F0 m 0 ls []) := by
  have hx := X.hx
  have hb := X.hb
  have hown := X.hown
  have hts := X.hts
  rw [fX11_totalCaught_0] at hf
  refine lv_aload_n hx hb dX11_totalCaught_0 rfl (lv_at hl 0 rfl) ?_
  refine lv_iconst (v := 0) hx hb dX11_totalCaught_1 (by decide) ?_
  refine mr_put (k := 7) X hP hS (by decide) rfl rfl rfl rfl tw1672 dX11_totalCaught_2 (fun H locs hP hS => ?_)
  exact kX11_totalCaught_5 X hret hf hP hS (lv_sub hl [0] rfl)
theorem vX11_totalCaught {l : Launch} {dC : Nat → ClassId} {dI : Nat → Nat → Nat} {cI : ClassId} {kA : String → Nat → Nat} {ad : Nat → Nat} {M S1 : MS} {r : Int32} (hf : fX11_totalCaught M  = some (r, S1)) : gMetI l yX11_totalCaught cX11_totalCaught 1 (some .int) 1 (mΩ ad) (mP dC dI cI kA ad) (kR kTab kA) [.ref (ad 25)] M r S1 := gEntryI (ty := .int) (by decide) rfl rfl mOK (Nat.le_of_ble_eq_true rfl) (fun p e s m args below meth c Q ls X hP hS hret hl => 
  kX11_totalCaught_0 X hret hf hP hS (lv_sub hl [0] rfl))
set_option maxRecDepth 10000 in
theorem kX11_totalEaten_5 {r : Int32} {S1 : MS} {M : MS} {H : Heap} {locs : List Loc} {ls : Array Slot} (X : gX p s m args c cX11_totalEaten 1 RX11 (kR kTab kA)) (hret : gRetI p l e (rmL 1 0 0) s m args below meth c cX11_totalEaten (mΩ ad) (mP dC dI cI kA ad) Q r S1) (hf : fX11_totalEaten_5 M = some (r, S1)) (hP : (mP dC dI cI kA ad) M s H) (hS : va_S (Fr (mΩ ad) s.heap.size) s.heap H locs) (hl : lv_has ls 1 [(0, .ref (ad 25))]) : W p l e (rmL 1 0 0) s m args below meth c H locs 0 0 Q (F0 m 5 ls []) := by
  have hx := X.hx
  have hb := X.hb
  have hown := X.hown
  have hts := X.hts
  rw [fX11_totalEaten_5] at hf
  refine lv_aload_n hx hb dX11_totalEaten_5 rfl (lv_at hl 0 rfl) ?_
  refine mr_get (k := 0) X hP (by decide) rfl rfl tw1665 dX11_totalEaten_6 ?_
  refine lv_bipush (v := 9) hx hb dX11_totalEaten_9 (by decide) ?_
  obtain ⟨g1, hf⟩ := gd hf
  refine mr_ald (a := 0) X hP rfl g1 dX11_totalEaten_11 ?_
  cases hf
  exact hret _ _ _ _ dX11_totalEaten_12 hP hS
set_option maxRecDepth 10000 in
theorem kX11_totalEaten_0 {r : Int32} {S1 : MS} {M : MS} {H : Heap} {locs : List Loc} {ls : Array Slot} (X : gX p s m args c cX11_totalEaten 1 RX11 (kR kTab kA)) (hret : gRetI p l e (rmL 1 0 0) s m args below meth c cX11_totalEaten (mΩ ad) (mP dC dI cI kA ad) Q r S1) (hf : fX11_totalEaten_0 M = some (r, S1)) (hP : (mP dC dI cI kA ad) M s H) (hS : va_S (Fr (mΩ ad) s.heap.size) s.heap H locs) (hl : lv_has ls 1 [(0, .ref (ad 25))]) : W p l e (rmL 1 0 0) s m args below meth c H locs 0 0 Q (F0 m 0 ls []) := by
  have hx := X.hx
  have hb := X.hb
  have hown := X.hown
  have hts := X.hts
  rw [fX11_totalEaten_0] at hf
  refine lv_aload_n hx hb dX11_totalEaten_0 rfl (lv_at hl 0 rfl) ?_
  refine lv_iconst (v := 0) hx hb dX11_totalEaten_1 (by decide) ?_
  refine mr_put (k := 7) X hP hS (by decide) rfl rfl rfl rfl tw1672 dX11_totalEaten_2 (fun H locs hP hS => ?_)
  exact kX11_totalEaten_5 X hret hf hP hS (lv_sub hl [0] rfl)
theorem vX11_totalEaten {l : Launch} {dC : Nat → ClassId} {dI : Nat → Nat → Nat} {cI : ClassId} {kA : String → Nat → Nat} {ad : Nat → Nat} {M S1 : MS} {r : Int32} (hf : fX11_totalEaten M  = some (r, S1)) : gMetI l yX11_totalEaten cX11_totalEaten 1 (some .int) 1 (mΩ ad) (mP dC dI cI kA ad) (kR kTab kA) [.ref (ad 25)] M r S1 := gEntryI (ty := .int) (by decide) rfl rfl mOK (Nat.le_of_ble_eq_true rfl) (fun p e s m args below meth c Q ls X hP hS hret hl => 
  kX11_totalEaten_0 X hret hf hP hS (lv_sub hl [0] rfl))
set_option maxRecDepth 10000 in
theorem kX11_totalBorn_5 {r : Int32} {S1 : MS} {M : MS} {H : Heap} {locs : List Loc} {ls : Array Slot} (X : gX p s m args c cX11_totalBorn 1 RX11 (kR kTab kA)) (hret : gRetI p l e (rmL 1 0 0) s m args below meth c cX11_totalBorn (mΩ ad) (mP dC dI cI kA ad) Q r S1) (hf : fX11_totalBorn_5 M = some (r, S1)) (hP : (mP dC dI cI kA ad) M s H) (hS : va_S (Fr (mΩ ad) s.heap.size) s.heap H locs) (hl : lv_has ls 1 [(0, .ref (ad 25))]) : W p l e (rmL 1 0 0) s m args below meth c H locs 0 0 Q (F0 m 5 ls []) := by
  have hx := X.hx
  have hb := X.hb
  have hown := X.hown
  have hts := X.hts
  rw [fX11_totalBorn_5] at hf
  refine lv_aload_n hx hb dX11_totalBorn_5 rfl (lv_at hl 0 rfl) ?_
  refine mr_get (k := 0) X hP (by decide) rfl rfl tw1665 dX11_totalBorn_6 ?_
  refine lv_bipush (v := 10) hx hb dX11_totalBorn_9 (by decide) ?_
  obtain ⟨g1, hf⟩ := gd hf
  refine mr_ald (a := 0) X hP rfl g1 dX11_totalBorn_11 ?_
  cases hf
  exact hret _ _ _ _ dX11_totalBorn_12 hP hS
set_option maxRecDepth 10000 in
theorem kX11_totalBorn_0 {r : Int32} {S1 : MS} {M : MS} {H : Heap} {locs : List Loc} {ls : Array Slot} (X : gX p s m args c cX11_totalBorn 1 RX11 (kR kTab kA)) (hret : gRetI p l e (rmL 1 0 0) s m args below meth c cX11_totalBorn (mΩ ad) (mP dC dI cI kA ad) Q r S1) (hf : fX11_totalBorn_0 M = some (r, S1)) (hP : (mP dC dI cI kA ad) M s H) (hS : va_S (Fr (mΩ ad) s.heap.size) s.heap H locs) (hl : lv_has ls 1 [(0, .ref (ad 25))]) : W p l e (rmL 1 0 0) s m args below meth c H locs 0 0 Q (F0 m 0 ls []) := by
  have hx := X.hx
  have hb := X.hb
  have hown := X.hown
  have hts := X.hts
  rw [fX11_totalBorn_0] at hf
  refine lv_aload_n hx hb dX11_totalBorn_0 rfl (lv_at hl 0 rfl) ?_
  refine lv_iconst (v := 0) hx hb dX11_totalBorn_1 (by decide) ?_
  refine mr_put (k := 7) X hP hS (by decide) rfl rfl rfl rfl tw1672 dX11_totalBorn_2 (fun H locs hP hS => ?_)
  exact kX11_totalBorn_5 X hret hf hP hS (lv_sub hl [0] rfl)
theorem vX11_totalBorn {l : Launch} {dC : Nat → ClassId} {dI : Nat → Nat → Nat} {cI : ClassId} {kA : String → Nat → Nat} {ad : Nat → Nat} {M S1 : MS} {r : Int32} (hf : fX11_totalBorn M  = some (r, S1)) : gMetI l yX11_totalBorn cX11_totalBorn 1 (some .int) 1 (mΩ ad) (mP dC dI cI kA ad) (kR kTab kA) [.ref (ad 25)] M r S1 := gEntryI (ty := .int) (by decide) rfl rfl mOK (Nat.le_of_ble_eq_true rfl) (fun p e s m args below meth c Q ls X hP hS hret hl => 
  kX11_totalBorn_0 X hret hf hP hS (lv_sub hl [0] rfl))
set_option maxRecDepth 10000 in
theorem kX11_totalStarved_5 {r : Int32} {S1 : MS} {M : MS} {H : Heap} {locs : List Loc} {ls : Array Slot} (X : gX p s m args c cX11_totalStarved 1 RX11 (kR kTab kA)) (hret : gRetI p l e (rmL 1 0 0) s m args below meth c cX11_totalStarved (mΩ ad) (mP dC dI cI kA ad) Q r S1) (hf : fX11_totalStarved_5 M = some (r, S1)) (hP : (mP dC dI cI kA ad) M s H) (hS : va_S (Fr (mΩ ad) s.heap.size) s.heap H locs) (hl : lv_has ls 1 [(0, .ref (ad 25))]) : W p l e (rmL 1 0 0) s m args below meth c H locs 0 0 Q (F0 m 5 ls []) := by
  have hx := X.hx
  have hb := X.hb
  have hown := X.hown
  have hts := X.hts
  rw [fX11_totalStarved_5] at hf
  refine lv_aload_n hx hb dX11_totalStarved_5 rfl (lv_at hl 0 rfl) ?_
  refine mr_get (k := 0) X hP (by decide) rfl rfl tw1665 dX11_totalStarved_6 ?_
  refine lv_bipush (v := 11) hx hb dX11_totalStarved_9 (by decide) ?_
  obtain ⟨g1, hf⟩ := gd hf
  refine mr_ald (a := 0) X hP rfl g1 dX11_totalStarved_11 ?_
  cases hf
  exact hret _ _ _ _ dX11_totalStarved_12 hP hS
set_option maxRecDepth 10000 in
theorem kX11_totalStarved_0 {r : Int32} {S1 : MS} {M : MS} {H : Heap} {locs : List Loc} {ls : Array Slot} (X : gX p s m args c cX11_totalStarved 1 RX11 (kR kTab kA)) (hret : gRetI p l e (rmL 1 0 0) s m args below meth c cX11_totalStarved (mΩ ad) (mP dC dI cI kA ad) Q r S1) (hf : fX11_totalStarved_0 M = some (r, S1)) (hP : (mP dC dI cI kA ad) M s H) (hS : va_S (Fr (mΩ ad) s.heap.size) s.heap H locs) (hl : lv_has ls 1 [(0, .ref (ad 25))]) : W p l e (rmL 1 0 0) s m args below meth c H locs 0 0 Q (F0 m 0 ls []) := by
  have hx := X.hx
  have hb := X.hb
  have hown := X.hown
  have hts := X.hts
  rw [fX11_totalStarved_0] at hf
  refine lv_aload_n hx hb dX11_totalStarved_0 rfl (lv_at hl 0 rfl) ?_
  refine lv_iconst (v := 0) hx hb dX11_totalStarved_1 (by decide) ?_
  refine mr_put (k := 7) X hP hS (by decide) rfl rfl rfl rfl tw1672 dX11_totalStarved_2 (fun H locs hP hS => ?_)
  exact kX11_totalStarved_5 X hret hf hP hS (lv_sub hl [0] rfl)
theorem vX11_totalStarved {l : Launch} {dC : Nat → ClassId} {dI : Nat → Nat → Nat} {cI : ClassId} {kA : String → Nat → Nat} {ad : Nat → Nat} {M S1 : MS} {r : Int32} (hf : fX11_totalStarved M  = some (r, S1)) : gMetI l yX11_totalStarved cX11_totalStarved 1 (some .int) 1 (mΩ ad) (mP dC dI cI kA ad) (kR kTab kA) [.ref (ad 25)] M r S1 := gEntryI (ty := .int) (by decide) rfl rfl mOK (Nat.le_of_ble_eq_true rfl) (fun p e s m args below meth c Q ls X hP hS hret hl => 
  kX11_totalStarved_0 X hret hf hP hS (lv_sub hl [0] rfl))
set_option maxRecDepth 10000 in
theorem kX11_totalOaths_5 {r : Int32} {S1 : MS} {M : MS} {H : Heap} {locs : List Loc} {ls : Array Slot} (X : gX p s m args c cX11_totalOaths 1 RX11 (kR kTab kA)) (hret : gRetI p l e (rmL 1 0 0) s m args below meth c cX11_totalOaths (mΩ ad) (mP dC dI cI kA ad) Q r S1) (hf : fX11_totalOaths_5 M = some (r, S1)) (hP : (mP dC dI cI kA ad) M s H) (hS : va_S (Fr (mΩ ad) s.heap.size) s.heap H locs) (hl : lv_has ls 1 [(0, .ref (ad 25))]) : W p l e (rmL 1 0 0) s m args below meth c H locs 0 0 Q (F0 m 5 ls []) := by
  have hx := X.hx
  have hb := X.hb
  have hown := X.hown
  have hts := X.hts
  rw [fX11_totalOaths_5] at hf
  refine lv_aload_n hx hb dX11_totalOaths_5 rfl (lv_at hl 0 rfl) ?_
  refine mr_get (k := 0) X hP (by decide) rfl rfl tw1665 dX11_totalOaths_6 ?_
  refine lv_bipush (v := 12) hx hb dX11_totalOaths_9 (by decide) ?_
  obtain ⟨g1, hf⟩ := gd hf
  refine mr_ald (a := 0) X hP rfl g1 dX11_totalOaths_11 ?_
  cases hf
  exact hret _ _ _ _ dX11_totalOaths_12 hP hS
set_option maxRecDepth 10000 in
theorem kX11_totalOaths_0 {r : Int32} {S1 : MS} {M : MS} {H : Heap} {locs : List Loc} {ls : Array Slot} (X : gX p s m args c cX11_totalOaths 1 RX11 (kR kTab kA)) (hret : gRetI p l e (rmL 1 0 0) s m args below meth c cX11_totalOaths (mΩ ad) (mP dC dI cI kA ad) Q r S1) (hf : fX11_totalOaths_0 M = some (r, S1)) (hP : (mP dC dI cI kA ad) M s H) (hS : va_S (Fr (mΩ ad) s.heap.size) s.heap H locs) (hl : lv_has ls 1 [(0, .ref (ad 25))]) : W p l e (rmL 1 0 0) s m args below meth c H locs 0 0 Q (F0 m 0 ls []) := by
  have hx := X.hx
  have hb := X.hb
  have hown := X.hown
  have hts := X.hts
  rw [fX11_totalOaths_0] at hf
  refine lv_aload_n hx hb dX11_totalOaths_0 rfl (lv_at hl 0 rfl) ?_
  refine lv_iconst (v := 0) hx hb dX11_totalOaths_1 (by decide) ?_
  refine mr_put (k := 7) X hP hS (by decide) rfl rfl rfl rfl tw1672 dX11_totalOaths_2 (fun H locs hP hS => ?_)
  exact kX11_totalOaths_5 X hret hf hP hS (lv_sub hl [0] rfl)
theorem vX11_totalOaths {l : Launch} {dC : Nat → ClassId} {dI : Nat → Nat → Nat} {cI : ClassId} {kA : String → Nat → Nat} {ad : Nat → Nat} {M S1 : MS} {r : Int32} (hf : fX11_totalOaths M  = some (r, S1)) : gMetI l yX11_totalOaths cX11_totalOaths 1 (some .int) 1 (mΩ ad) (mP dC dI cI kA ad) (kR kTab kA) [.ref (ad 25)] M r S1 := gEntryI (ty := .int) (by decide) rfl rfl mOK (Nat.le_of_ble_eq_true rfl) (fun p e s m args below meth c Q ls X hP hS hret hl => 
  kX11_totalOaths_0 X hret hf hP hS (lv_sub hl [0] rfl))
set_option maxRecDepth 10000 in
theorem kX11_totalRefusals_5 {r : Int32} {S1 : MS} {M : MS} {H : Heap} {locs : List Loc} {ls : Array Slot} (X : gX p s m args c cX11_totalRefusals 1 RX11 (kR kTab kA)) (hret : gRetI p l e (rmL 1 0 0) s m args below meth c cX11_totalRefusals (mΩ ad) (mP dC dI cI kA ad) Q r S1) (hf : fX11_totalRefusals_5 M = some (r, S1)) (hP : (mP dC dI cI kA ad) M s H) (hS : va_S (Fr (mΩ ad) s.heap.size) s.heap H locs) (hl : lv_has ls 1 [(0, .ref (ad 25))]) : W p l e (rmL 1 0 0) s m args below meth c H locs 0 0 Q (F0 m 5 ls []) := by
  have hx := X.hx
  have hb := X.hb
  have hown := X.hown
  have hts := X.hts
  rw [fX11_totalRefusals_5] at hf
  refine lv_aload_n hx hb dX11_totalRefusals_5 rfl (lv_at hl 0 rfl) ?_
  refine mr_get (k := 0) X hP (by decide) rfl rfl tw1665 dX11_totalRefusals_6 ?_
  refine lv_bipush (v := 13) hx hb dX11_totalRefusals_9 (by decide) ?_
  obtain ⟨g1, hf⟩ := gd hf
  refine mr_ald (a := 0) X hP rfl g1 dX11_totalRefusals_11 ?_
  cases hf
  exact hret _ _ _ _ dX11_totalRefusals_12 hP hS
set_option maxRecDepth 10000 in
theorem kX11_totalRefusals_0 {r : Int32} {S1 : MS} {M : MS} {H : Heap} {locs : List Loc} {ls : Array Slot} (X : gX p s m args c cX11_totalRefusals 1 RX11 (kR kTab kA)) (hret : gRetI p l e (rmL 1 0 0) s m args below meth c cX11_totalRefusals (mΩ ad) (mP dC dI cI kA ad) Q r S1) (hf : fX11_totalRefusals_0 M = some (r, S1)) (hP : (mP dC dI cI kA ad) M s H) (hS : va_S (Fr (mΩ ad) s.heap.size) s.heap H locs) (hl : lv_has ls 1 [(0, .ref (ad 25))]) : W p l e (rmL 1 0 0) s m args below meth c H locs 0 0 Q (F0 m 0 ls []) := by
  have hx := X.hx
  have hb := X.hb
  have hown := X.hown
  have hts := X.hts
  rw [fX11_totalRefusals_0] at hf
  refine lv_aload_n hx hb dX11_totalRefusals_0 rfl (lv_at hl 0 rfl) ?_
  refine lv_iconst (v := 0) hx hb dX11_totalRefusals_1 (by decide) ?_
  refine mr_put (k := 7) X hP hS (by decide) rfl rfl rfl rfl tw1672 dX11_totalRefusals_2 (fun H locs hP hS => ?_)
  exact kX11_totalRefusals_5 X hret hf hP hS (lv_sub hl [0] rfl)
theorem vX11_totalRefusals {l : Launch} {dC : Nat → ClassId} {dI : Nat → Nat → Nat} {cI : ClassId} {kA : String → Nat → Nat} {ad : Nat → Nat} {M S1 : MS} {r : Int32} (hf : fX11_totalRefusals M  = some (r, S1)) : gMetI l yX11_totalRefusals cX11_totalRefusals 1 (some .int) 1 (mΩ ad) (mP dC dI cI kA ad) (kR kTab kA) [.ref (ad 25)] M r S1 := gEntryI (ty := .int) (by decide) rfl rfl mOK (Nat.le_of_ble_eq_true rfl) (fun p e s m args below meth c Q ls X hP hS hret hl => 
  kX11_totalRefusals_0 X hret hf hP hS (lv_sub hl [0] rfl))
set_option maxRecDepth 10000 in
theorem kX11_hourOfDay_5 {r : Int32} {S1 : MS} {M : MS} {H : Heap} {locs : List Loc} {ls : Array Slot} (X : gX p s m args c cX11_hourOfDay 1 RX11 (kR kTab kA)) (hret : gRetI p l e (rmL 1 0 0) s m args below meth c cX11_hourOfDay (mΩ ad) (mP dC dI cI kA ad) Q r S1) (hf : fX11_hourOfDay_5 M = some (r, S1)) (hP : (mP dC dI cI kA ad) M s H) (hS : va_S (Fr (mΩ ad) s.heap.size) s.heap H locs) (hl : lv_has ls 1 [(0, .ref (ad 25))]) : W p l e (rmL 1 0 0) s m args below meth c H locs 0 0 Q (F0 m 5 ls []) := by
  have hx := X.hx
  have hb := X.hb
  have hown := X.hown
  have hts := X.hts
  rw [fX11_hourOfDay_5] at hf
  refine lv_aload_n hx hb dX11_hourOfDay_5 rfl (lv_at hl 0 rfl) ?_
  refine mr_get (k := 0) X hP (by decide) rfl rfl tw1665 dX11_hourOfDay_6 ?_
  refine lv_iconst (v := 3) hx hb dX11_hourOfDay_9 (by decide) ?_
  obtain ⟨g1, hf⟩ := gd hf
  refine mr_ald (a := 0) X hP rfl g1 dX11_hourOfDay_10 ?_
  refine lv_bipush (v := 24) hx hb dX11_hourOfDay_11 (by decide) ?_
  refine lv_irem hx hb dX11_hourOfDay_13 (by decide) ?_
  cases hf
  exact hret _ _ _ _ dX11_hourOfDay_14 hP hS
set_option maxRecDepth 10000 in
theorem kX11_hourOfDay_0 {r : Int32} {S1 : MS} {M : MS} {H : Heap} {locs : List Loc} {ls : Array Slot} (X : gX p s m args c cX11_hourOfDay 1 RX11 (kR kTab kA)) (hret : gRetI p l e (rmL 1 0 0) s m args below meth c cX11_hourOfDay (mΩ ad) (mP dC dI cI kA ad) Q r S1) (hf : fX11_hourOfDay_0 M = some (r, S1)) (hP : (mP dC dI cI kA ad) M s H) (hS : va_S (Fr (mΩ ad) s.heap.size) s.heap H locs) (hl : lv_has ls 1 [(0, .ref (ad 25))]) : W p l e (rmL 1 0 0) s m args below meth c H locs 0 0 Q (F0 m 0 ls []) := by
  have hx := X.hx
  have hb := X.hb
  have hown := X.hown
  have hts := X.hts
  rw [fX11_hourOfDay_0] at hf
  refine lv_aload_n hx hb dX11_hourOfDay_0 rfl (lv_at hl 0 rfl) ?_
  refine lv_iconst (v := 0) hx hb dX11_hourOfDay_1 (by decide) ?_
  refine mr_put (k := 7) X hP hS (by decide) rfl rfl rfl rfl tw1672 dX11_hourOfDay_2 (fun H locs hP hS => ?_)
  exact kX11_hourOfDay_5 X hret hf hP hS (lv_sub hl [0] rfl)
theorem vX11_hourOfDay {l : Launch} {dC : Nat → ClassId} {dI : Nat → Nat → Nat} {cI : ClassId} {kA : String → Nat → Nat} {ad : Nat → Nat} {M S1 : MS} {r : Int32} (hf : fX11_hourOfDay M  = some (r, S1)) : gMetI l yX11_hourOfDay cX11_hourOfDay 1 (some .int) 1 (mΩ ad) (mP dC dI cI kA ad) (kR kTab kA) [.ref (ad 25)] M r S1 := gEntryI (ty := .int) (by decide) rfl rfl mOK (Nat.le_of_ble_eq_true rfl) (fun p e s m args below meth c Q ls X hP hS hret hl => 
  kX11_hourOfDay_0 X hret hf hP hS (lv_sub hl [0] rfl))
set_option maxRecDepth 10000 in
theorem kX11_write_20 {S1 : MS} {M : MS} {H : Heap} {locs : List Loc} {ls : Array Slot} (X : gX p s m args c cX11_write 2 RX11 (kR kTab kA)) (hret : gRetV p l e (rmL 1 0 0) s m args below meth c cX11_write (mΩ ad) (mP dC dI cI kA ad) Q S1) (hf : fX11_write_20 M = some S1) (hP : (mP dC dI cI kA ad) M s H) (hS : va_S (Fr (mΩ ad) s.heap.size) s.heap H locs) (hl : lv_has ls 2 [(0, .ref (ad 25))]) : W p l e (rmL 1 0 0) s m args below meth c H locs 0 0 Q (F0 m 20 ls []) := by
  have hx := X.hx
  have hb := X.hb
  have hown := X.hown
  have hts := X.hts
  rw [fX11_write_20] at hf
  cases hf
  exact hret _ _ _ _ dX11_write_20 hP hS
set_option maxRecDepth 10000 in
theorem kX11_write_10 {S1 : MS} {M : MS} {H : Heap} {locs : List Loc} {ls : Array Slot} (X : gX p s m args c cX11_write 2 RX11 (kR kTab kA)) (hret : gRetV p l e (rmL 1 0 0) s m args below meth c cX11_write (mΩ ad) (mP dC dI cI kA ad) Q S1) (hf : fX11_write_10 M = some S1) (hP : (mP dC dI cI kA ad) M s H) (hS : va_S (Fr (mΩ ad) s.heap.size) s.heap H locs) (hl : lv_has ls 2 [(0, .ref (ad 25))]) : W p l e (rmL 1 0 0) s m args below meth c H locs 0 0 Q (F0 m 10 ls []) := by
  have hx := X.hx
  have hb := X.hb
  have hown := X.hown
  have hts := X.hts
  rw [fX11_write_10] at hf
  refine lv_aload_n hx hb dX11_write_10 rfl (lv_at hl 0 rfl) ?_
  refine lv_dup hx hb dX11_write_11 rfl ?_
  refine mr_get (k := 24) X hP (by decide) rfl rfl tw1689 dX11_write_12 ?_
  refine lv_iconst (v := 1) hx hb dX11_write_15 (by decide) ?_
  refine lv_iadd hx hb dX11_write_16 ?_
  refine mr_put (k := 24) X hP hS (by decide) rfl rfl rfl rfl tw1689 dX11_write_17 (fun H locs hP hS => ?_)
  exact kX11_write_20 X hret hf hP hS (lv_sub hl [0] rfl)
set_option maxRecDepth 10000 in
theorem kX11_write_0 {S1 : MS} {M : MS} {a1 : Int32} {H : Heap} {locs : List Loc} {ls : Array Slot} (X : gX p s m args c cX11_write 2 RX11 (kR kTab kA)) (hret : gRetV p l e (rmL 1 0 0) s m args below meth c cX11_write (mΩ ad) (mP dC dI cI kA ad) Q S1) (hf : fX11_write_0 M a1 = some S1) (hP : (mP dC dI cI kA ad) M s H) (hS : va_S (Fr (mΩ ad) s.heap.size) s.heap H locs) (hl : lv_has ls 2 [(0, .ref (ad 25)), (1, .int a1)]) : W p l e (rmL 1 0 0) s m args below meth c H locs 0 0 Q (F0 m 0 ls []) := by
  have hx := X.hx
  have hb := X.hb
  have hown := X.hown
  have hts := X.hts
  rw [fX11_write_0] at hf
  refine lv_aload_n hx hb dX11_write_0 rfl (lv_at hl 0 rfl) ?_
  refine mr_get (k := 23) X hP (by decide) rfl rfl tw1688 dX11_write_1 ?_
  refine lv_aload_n hx hb dX11_write_4 rfl (lv_at hl 0 rfl) ?_
  refine mr_get (k := 24) X hP (by decide) rfl rfl tw1689 dX11_write_5 ?_
  refine lv_iload_n hx hb dX11_write_8 rfl (lv_at hl 1 rfl) ?_
  obtain ⟨g1, hf⟩ := gd hf
  refine mr_ast (a := 23) X hP hS rfl g1 dX11_write_9 (fun H locs hP hS => ?_)
  exact kX11_write_10 X hret hf hP hS (lv_sub hl [0] rfl)
theorem vX11_write {l : Launch} {dC : Nat → ClassId} {dI : Nat → Nat → Nat} {cI : ClassId} {kA : String → Nat → Nat} {ad : Nat → Nat} {M S1 : MS} {a1 : Int32} (hf : fX11_write M a1 = some S1) : gMetV l yX11_write cX11_write 2 1 (mΩ ad) (mP dC dI cI kA ad) (kR kTab kA) [.ref (ad 25), .int a1] M S1 := gEntryV (by decide) mOK (Nat.le_of_ble_eq_true rfl) (fun p e s m args below meth c Q ls X hP hS hret hl => 
  kX11_write_0 X hret hf hP hS (lv_sub hl [0, 1] rfl))
set_option maxRecDepth 10000 in
theorem kX11_addsCat_44 {S1 : MS} {M : MS} {H : Heap} {locs : List Loc} {ls : Array Slot} (X : gX p s m args c cX11_addsCat 5 RX11 (kR kTab kA)) (hret : gRetV p l e (rmL 2 0 0) s m args below meth c cX11_addsCat (mΩ ad) (mP dC dI cI kA ad) Q S1) (hf : fX11_addsCat_44 M = some S1) (hP : (mP dC dI cI kA ad) M s H) (hS : va_S (Fr (mΩ ad) s.heap.size) s.heap H locs) (hl : lv_has ls 5 [(0, .ref (ad 25))]) : W p l e (rmL 2 0 0) s m args below meth c H locs 0 0 Q (F0 m 44 ls []) := by
  have hx := X.hx
  have hb := X.hb
  have hown := X.hown
  have hts := X.hts
  rw [fX11_addsCat_44] at hf
  cases hf
  exact hret _ _ _ _ dX11_addsCat_44 hP hS
set_option maxRecDepth 10000 in
theorem kX11_addsCat_34 {S1 : MS} {M : MS} {H : Heap} {locs : List Loc} {ls : Array Slot} (X : gX p s m args c cX11_addsCat 5 RX11 (kR kTab kA)) (hret : gRetV p l e (rmL 2 0 0) s m args below meth c cX11_addsCat (mΩ ad) (mP dC dI cI kA ad) Q S1) (hf : fX11_addsCat_34 M = some S1) (hP : (mP dC dI cI kA ad) M s H) (hS : va_S (Fr (mΩ ad) s.heap.size) s.heap H locs) (hl : lv_has ls 5 [(0, .ref (ad 25))]) : W p l e (rmL 2 0 0) s m args below meth c H locs 0 0 Q (F0 m 34 ls []) := by
  have hx := X.hx
  have hb := X.hb
  have hown := X.hown
  have hts := X.hts
  rw [fX11_addsCat_34] at hf
  refine lv_aload_n hx hb dX11_addsCat_34 rfl (lv_at hl 0 rfl) ?_
  refine mr_get (k := 0) X hP (by decide) rfl rfl tw1665 dX11_addsCat_35 ?_
  refine lv_iconst (v := 0) hx hb dX11_addsCat_38 (by decide) ?_
  refine lv_dup2_11 hx hb dX11_addsCat_39 rfl rfl ?_
  obtain ⟨g1, hf⟩ := gd hf
  refine mr_ald (a := 0) X hP rfl g1 dX11_addsCat_40 ?_
  refine lv_iconst (v := 1) hx hb dX11_addsCat_41 (by decide) ?_
  refine lv_iadd hx hb dX11_addsCat_42 ?_
  obtain ⟨g2, hf⟩ := gd hf
  refine mr_ast (a := 0) X hP hS rfl g2 dX11_addsCat_43 (fun H locs hP hS => ?_)
  exact kX11_addsCat_44 X hret hf hP hS (lv_sub hl [0] rfl)
set_option maxRecDepth 10000 in
theorem kX11_addsCat_25 {S1 : MS} {M : MS} {x3 : Int32} {x4 : Int32} {H : Heap} {locs : List Loc} {ls : Array Slot} (X : gX p s m args c cX11_addsCat 5 RX11 (kR kTab kA)) (hret : gRetV p l e (rmL 2 0 0) s m args below meth c cX11_addsCat (mΩ ad) (mP dC dI cI kA ad) Q S1) (hf : fX11_addsCat_25 M x3 x4 = some S1) (hP : (mP dC dI cI kA ad) M s H) (hS : va_S (Fr (mΩ ad) s.heap.size) s.heap H locs) (hl : lv_has ls 5 [(0, .ref (ad 25)), (3, .int x3), (4, .int x4)]) : W p l e (rmL 2 0 0) s m args below meth c H locs 0 0 Q (F0 m 25 ls []) := by
  have hx := X.hx
  have hb := X.hb
  have hown := X.hown
  have hts := X.hts
  rw [fX11_addsCat_25] at hf
  refine lv_aload_n hx hb dX11_addsCat_25 rfl (lv_at hl 0 rfl) ?_
  refine lv_iload hx hb dX11_addsCat_26 (lv_at hl 2 rfl) ?_
  refine lv_bipush (v := 8) hx hb dX11_addsCat_28 (by decide) ?_
  refine lv_iload_n hx hb dX11_addsCat_30 rfl (lv_at hl 1 rfl) ?_
  obtain ⟨q, hc, hf⟩ := bd hf
  refine gCallVV X mOK rfl (vX11_putsCat hc) gRX11_X11_putsCat hdX11_putsCat rfl ⟨by decide, by decide⟩ hP hS (mrec hP) hl.1 (Nat.le_of_ble_eq_true rfl) ⟨Nat.le_refl _, Nat.le_refl _⟩ dX11_addsCat_31 (As := [.int x4, .int 8, .int x3]) (rest := []) rfl (fun H locs hP hS => ?_)
  exact kX11_addsCat_34 X hret hf hP hS (lv_sub hl [0] rfl)
set_option maxRecDepth 10000 in
theorem kX11_addsCat_16 {S1 : MS} {M : MS} {x2 : Int32} {x3 : Int32} {x4 : Int32} {H : Heap} {locs : List Loc} {ls : Array Slot} (X : gX p s m args c cX11_addsCat 5 RX11 (kR kTab kA)) (hret : gRetV p l e (rmL 2 0 0) s m args below meth c cX11_addsCat (mΩ ad) (mP dC dI cI kA ad) Q S1) (hf : fX11_addsCat_16 M x2 x3 x4 = some S1) (hP : (mP dC dI cI kA ad) M s H) (hS : va_S (Fr (mΩ ad) s.heap.size) s.heap H locs) (hl : lv_has ls 5 [(0, .ref (ad 25)), (2, .int x2), (3, .int x3), (4, .int x4)]) : W p l e (rmL 2 0 0) s m args below meth c H locs 0 0 Q (F0 m 16 ls []) := by
  have hx := X.hx
  have hb := X.hb
  have hown := X.hown
  have hts := X.hts
  rw [fX11_addsCat_16] at hf
  refine lv_aload_n hx hb dX11_addsCat_16 rfl (lv_at hl 0 rfl) ?_
  refine lv_iload hx hb dX11_addsCat_17 (lv_at hl 3 rfl) ?_
  refine lv_bipush (v := 7) hx hb dX11_addsCat_19 (by decide) ?_
  refine lv_iload_n hx hb dX11_addsCat_21 rfl (lv_at hl 1 rfl) ?_
  obtain ⟨q, hc, hf⟩ := bd hf
  refine gCallVV X mOK rfl (vX11_putsCat hc) gRX11_X11_putsCat hdX11_putsCat rfl ⟨by decide, by decide⟩ hP hS (mrec hP) hl.1 (Nat.le_of_ble_eq_true rfl) ⟨Nat.le_refl _, Nat.le_refl _⟩ dX11_addsCat_22 (As := [.int x4, .int 7, .int x2]) (rest := []) rfl (fun H locs hP hS => ?_)
  exact kX11_addsCat_25 X hret hf hP hS (lv_sub hl [0, 2, 3] rfl)
set_option maxRecDepth 10000 in
theorem kX11_addsCat_0 {S1 : MS} {M : MS} {a1 : Int32} {a2 : Int32} {a3 : Int32} {H : Heap} {locs : List Loc} {ls : Array Slot} (X : gX p s m args c cX11_addsCat 5 RX11 (kR kTab kA)) (hret : gRetV p l e (rmL 2 0 0) s m args below meth c cX11_addsCat (mΩ ad) (mP dC dI cI kA ad) Q S1) (hf : fX11_addsCat_0 M a1 a2 a3 = some S1) (hP : (mP dC dI cI kA ad) M s H) (hS : va_S (Fr (mΩ ad) s.heap.size) s.heap H locs) (hl : lv_has ls 5 [(0, .ref (ad 25)), (1, .int a1), (2, .int a2), (3, .int a3)]) : W p l e (rmL 2 0 0) s m args below meth c H locs 0 0 Q (F0 m 0 ls []) := by
  have hx := X.hx
  have hb := X.hb
  have hown := X.hown
  have hts := X.hts
  rw [fX11_addsCat_0] at hf
  refine lv_aload_n hx hb dX11_addsCat_0 rfl (lv_at hl 0 rfl) ?_
  refine mr_get (k := 0) X hP (by decide) rfl rfl tw1665 dX11_addsCat_1 ?_
  refine lv_iconst (v := 0) hx hb dX11_addsCat_4 (by decide) ?_
  obtain ⟨g1, hf⟩ := gd hf
  refine mr_ald (a := 0) X hP rfl g1 dX11_addsCat_5 ?_
  refine lv_istore (lv' := [(4, .int (M.2 0 (0 : Int32).toNatClampNeg)), (0, .ref (ad 25)), (1, .int a1), (2, .int a2), (3, .int a3)]) hx hb dX11_addsCat_6 hl (by decide) rfl (fun ls hl => ?_)
  refine lv_aload_n hx hb dX11_addsCat_8 rfl (lv_at hl 1 rfl) ?_
  refine lv_iload hx hb dX11_addsCat_9 (lv_at hl 0 rfl) ?_
  refine lv_iconst (v := 0) hx hb dX11_addsCat_11 (by decide) ?_
  refine lv_iload_n hx hb dX11_addsCat_12 rfl (lv_at hl 2 rfl) ?_
  obtain ⟨q, hc, hf⟩ := bd hf
  refine gCallVV X mOK rfl (vX11_putsCat hc) gRX11_X11_putsCat hdX11_putsCat rfl ⟨by decide, by decide⟩ hP hS (mrec hP) hl.1 (Nat.le_of_ble_eq_true rfl) ⟨Nat.le_refl _, Nat.le_refl _⟩ dX11_addsCat_13 (As := [.int (M.2 0 (0 : Int32).toNatClampNeg), .int 0, .int a1]) (rest := []) rfl (fun H locs hP hS => ?_)
  exact kX11_addsCat_16 X hret hf hP hS (lv_sub hl [1, 3, 4, 0] rfl)
theorem vX11_addsCat {l : Launch} {dC : Nat → ClassId} {dI : Nat → Nat → Nat} {cI : ClassId} {kA : String → Nat → Nat} {ad : Nat → Nat} {M S1 : MS} {a1 : Int32} {a2 : Int32} {a3 : Int32} (hf : fX11_addsCat M a1 a2 a3 = some S1) : gMetV l yX11_addsCat cX11_addsCat 5 2 (mΩ ad) (mP dC dI cI kA ad) (kR kTab kA) [.ref (ad 25), .int a1, .int a2, .int a3] M S1 := gEntryV (by decide) mOK (Nat.le_of_ble_eq_true rfl) (fun p e s m args below meth c Q ls X hP hS hret hl => 
  kX11_addsCat_0 X hret hf hP hS (lv_sub hl [0, 1, 2, 3] rfl))
set_option maxRecDepth 10000 in
theorem kX11_addsSack_54 {S1 : MS} {M : MS} {H : Heap} {locs : List Loc} {ls : Array Slot} (X : gX p s m args c cX11_addsSack 6 RX11 (kR kTab kA)) (hret : gRetV p l e (rmL 2 0 0) s m args below meth c cX11_addsSack (mΩ ad) (mP dC dI cI kA ad) Q S1) (hf : fX11_addsSack_54 M = some S1) (hP : (mP dC dI cI kA ad) M s H) (hS : va_S (Fr (mΩ ad) s.heap.size) s.heap H locs) (hl : lv_has ls 6 [(0, .ref (ad 25))]) : W p l e (rmL 2 0 0) s m args below meth c H locs 0 0 Q (F0 m 54 ls []) := by
  have hx := X.hx
  have hb := X.hb
  have hown := X.hown
  have hts := X.hts
  rw [fX11_addsSack_54] at hf
  cases hf
  exact hret _ _ _ _ dX11_addsSack_54 hP hS
set_option maxRecDepth 10000 in
theorem kX11_addsSack_44 {S1 : MS} {M : MS} {H : Heap} {locs : List Loc} {ls : Array Slot} (X : gX p s m args c cX11_addsSack 6 RX11 (kR kTab kA)) (hret : gRetV p l e (rmL 2 0 0) s m args below meth c cX11_addsSack (mΩ ad) (mP dC dI cI kA ad) Q S1) (hf : fX11_addsSack_44 M = some S1) (hP : (mP dC dI cI kA ad) M s H) (hS : va_S (Fr (mΩ ad) s.heap.size) s.heap H locs) (hl : lv_has ls 6 [(0, .ref (ad 25))]) : W p l e (rmL 2 0 0) s m args below meth c H locs 0 0 Q (F0 m 44 ls []) := by
  have hx := X.hx
  have hb := X.hb
  have hown := X.hown
  have hts := X.hts
  rw [fX11_addsSack_44] at hf
  refine lv_aload_n hx hb dX11_addsSack_44 rfl (lv_at hl 0 rfl) ?_
  refine mr_get (k := 0) X hP (by decide) rfl rfl tw1665 dX11_addsSack_45 ?_
  refine lv_iconst (v := 1) hx hb dX11_addsSack_48 (by decide) ?_
  refine lv_dup2_11 hx hb dX11_addsSack_49 rfl rfl ?_
  obtain ⟨g1, hf⟩ := gd hf
  refine mr_ald (a := 0) X hP rfl g1 dX11_addsSack_50 ?_
  refine lv_iconst (v := 1) hx hb dX11_addsSack_51 (by decide) ?_
  refine lv_iadd hx hb dX11_addsSack_52 ?_
  obtain ⟨g2, hf⟩ := gd hf
  refine mr_ast (a := 0) X hP hS rfl g2 dX11_addsSack_53 (fun H locs hP hS => ?_)
  exact kX11_addsSack_54 X hret hf hP hS (lv_sub hl [0] rfl)
set_option maxRecDepth 10000 in
theorem kX11_addsSack_34 {S1 : MS} {M : MS} {x4 : Int32} {x5 : Int32} {H : Heap} {locs : List Loc} {ls : Array Slot} (X : gX p s m args c cX11_addsSack 6 RX11 (kR kTab kA)) (hret : gRetV p l e (rmL 2 0 0) s m args below meth c cX11_addsSack (mΩ ad) (mP dC dI cI kA ad) Q S1) (hf : fX11_addsSack_34 M x4 x5 = some S1) (hP : (mP dC dI cI kA ad) M s H) (hS : va_S (Fr (mΩ ad) s.heap.size) s.heap H locs) (hl : lv_has ls 6 [(0, .ref (ad 25)), (4, .int x4), (5, .int x5)]) : W p l e (rmL 2 0 0) s m args below meth c H locs 0 0 Q (F0 m 34 ls []) := by
  have hx := X.hx
  have hb := X.hb
  have hown := X.hown
  have hts := X.hts
  rw [fX11_addsSack_34] at hf
  refine lv_aload_n hx hb dX11_addsSack_34 rfl (lv_at hl 0 rfl) ?_
  refine lv_iload hx hb dX11_addsSack_35 (lv_at hl 2 rfl) ?_
  refine lv_bipush (v := 9) hx hb dX11_addsSack_37 (by decide) ?_
  refine lv_iload hx hb dX11_addsSack_39 (lv_at hl 1 rfl) ?_
  obtain ⟨q, hc, hf⟩ := bd hf
  refine gCallVV X mOK rfl (vX11_putsSack hc) gRX11_X11_putsSack hdX11_putsSack rfl ⟨by decide, by decide⟩ hP hS (mrec hP) hl.1 (Nat.le_of_ble_eq_true rfl) ⟨Nat.le_refl _, Nat.le_refl _⟩ dX11_addsSack_41 (As := [.int x5, .int 9, .int x4]) (rest := []) rfl (fun H locs hP hS => ?_)
  exact kX11_addsSack_44 X hret hf hP hS (lv_sub hl [0] rfl)
set_option maxRecDepth 10000 in
theorem kX11_addsSack_25 {S1 : MS} {M : MS} {x3 : Int32} {x4 : Int32} {x5 : Int32} {H : Heap} {locs : List Loc} {ls : Array Slot} (X : gX p s m args c cX11_addsSack 6 RX11 (kR kTab kA)) (hret : gRetV p l e (rmL 2 0 0) s m args below meth c cX11_addsSack (mΩ ad) (mP dC dI cI kA ad) Q S1) (hf : fX11_addsSack_25 M x3 x4 x5 = some S1) (hP : (mP dC dI cI kA ad) M s H) (hS : va_S (Fr (mΩ ad) s.heap.size) s.heap H locs) (hl : lv_has ls 6 [(0, .ref (ad 25)), (3, .int x3), (4, .int x4), (5, .int x5)]) : W p l e (rmL 2 0 0) s m args below meth c H locs 0 0 Q (F0 m 25 ls []) := by
  have hx := X.hx
  have hb := X.hb
  have hown := X.hown
  have hts := X.hts
  rw [fX11_addsSack_25] at hf
  refine lv_aload_n hx hb dX11_addsSack_25 rfl (lv_at hl 0 rfl) ?_
  refine lv_iload hx hb dX11_addsSack_26 (lv_at hl 3 rfl) ?_
  refine lv_bipush (v := 8) hx hb dX11_addsSack_28 (by decide) ?_
  refine lv_iload_n hx hb dX11_addsSack_30 rfl (lv_at hl 1 rfl) ?_
  obtain ⟨q, hc, hf⟩ := bd hf
  refine gCallVV X mOK rfl (vX11_putsSack hc) gRX11_X11_putsSack hdX11_putsSack rfl ⟨by decide, by decide⟩ hP hS (mrec hP) hl.1 (Nat.le_of_ble_eq_true rfl) ⟨Nat.le_refl _, Nat.le_refl _⟩ dX11_addsSack_31 (As := [.int x5, .int 8, .int x3]) (rest := []) rfl (fun H locs hP hS => ?_)
  exact kX11_addsSack_34 X hret hf hP hS (lv_sub hl [0, 2, 3] rfl)
set_option maxRecDepth 10000 in
theorem kX11_addsSack_16 {S1 : MS} {M : MS} {x2 : Int32} {x3 : Int32} {x4 : Int32} {x5 : Int32} {H : Heap} {locs : List Loc} {ls : Array Slot} (X : gX p s m args c cX11_addsSack 6 RX11 (kR kTab kA)) (hret : gRetV p l e (rmL 2 0 0) s m args below meth c cX11_addsSack (mΩ ad) (mP dC dI cI kA ad) Q S1) (hf : fX11_addsSack_16 M x2 x3 x4 x5 = some S1) (hP : (mP dC dI cI kA ad) M s H) (hS : va_S (Fr (mΩ ad) s.heap.size) s.heap H locs) (hl : lv_has ls 6 [(0, .ref (ad 25)), (2, .int x2), (3, .int x3), (4, .int x4), (5, .int x5)]) : W p l e (rmL 2 0 0) s m args below meth c H locs 0 0 Q (F0 m 16 ls []) := by
  have hx := X.hx
  have hb := X.hb
  have hown := X.hown
  have hts := X.hts
  rw [fX11_addsSack_16] at hf
  refine lv_aload_n hx hb dX11_addsSack_16 rfl (lv_at hl 0 rfl) ?_
  refine lv_iload hx hb dX11_addsSack_17 (lv_at hl 4 rfl) ?_
  refine lv_bipush (v := 7) hx hb dX11_addsSack_19 (by decide) ?_
  refine lv_iload_n hx hb dX11_addsSack_21 rfl (lv_at hl 1 rfl) ?_
  obtain ⟨q, hc, hf⟩ := bd hf
  refine gCallVV X mOK rfl (vX11_putsSack hc) gRX11_X11_putsSack hdX11_putsSack rfl ⟨by decide, by decide⟩ hP hS (mrec hP) hl.1 (Nat.le_of_ble_eq_true rfl) ⟨Nat.le_refl _, Nat.le_refl _⟩ dX11_addsSack_22 (As := [.int x5, .int 7, .int x2]) (rest := []) rfl (fun H locs hP hS => ?_)
  exact kX11_addsSack_25 X hret hf hP hS (lv_sub hl [0, 2, 3, 4] rfl)
set_option maxRecDepth 10000 in
theorem kX11_addsSack_0 {S1 : MS} {M : MS} {a1 : Int32} {a2 : Int32} {a3 : Int32} {a4 : Int32} {H : Heap} {locs : List Loc} {ls : Array Slot} (X : gX p s m args c cX11_addsSack 6 RX11 (kR kTab kA)) (hret : gRetV p l e (rmL 2 0 0) s m args below meth c cX11_addsSack (mΩ ad) (mP dC dI cI kA ad) Q S1) (hf : fX11_addsSack_0 M a1 a2 a3 a4 = some S1) (hP : (mP dC dI cI kA ad) M s H) (hS : va_S (Fr (mΩ ad) s.heap.size) s.heap H locs) (hl : lv_has ls 6 [(0, .ref (ad 25)), (1, .int a1), (2, .int a2), (3, .int a3), (4, .int a4)]) : W p l e (rmL 2 0 0) s m args below meth c H locs 0 0 Q (F0 m 0 ls []) := by
  have hx := X.hx
  have hb := X.hb
  have hown := X.hown
  have hts := X.hts
  rw [fX11_addsSack_0] at hf
  refine lv_aload_n hx hb dX11_addsSack_0 rfl (lv_at hl 0 rfl) ?_
  refine mr_get (k := 0) X hP (by decide) rfl rfl tw1665 dX11_addsSack_1 ?_
  refine lv_iconst (v := 1) hx hb dX11_addsSack_4 (by decide) ?_
  obtain ⟨g1, hf⟩ := gd hf
  refine mr_ald (a := 0) X hP rfl g1 dX11_addsSack_5 ?_
  refine lv_istore (lv' := [(5, .int (M.2 0 (1 : Int32).toNatClampNeg)), (0, .ref (ad 25)), (1, .int a1), (2, .int a2), (3, .int a3), (4, .int a4)]) hx hb dX11_addsSack_6 hl (by decide) rfl (fun ls hl => ?_)
  refine lv_aload_n hx hb dX11_addsSack_8 rfl (lv_at hl 1 rfl) ?_
  refine lv_iload hx hb dX11_addsSack_9 (lv_at hl 0 rfl) ?_
  refine lv_iconst (v := 0) hx hb dX11_addsSack_11 (by decide) ?_
  refine lv_iload_n hx hb dX11_addsSack_12 rfl (lv_at hl 2 rfl) ?_
  obtain ⟨q, hc, hf⟩ := bd hf
  refine gCallVV X mOK rfl (vX11_putsSack hc) gRX11_X11_putsSack hdX11_putsSack rfl ⟨by decide, by decide⟩ hP hS (mrec hP) hl.1 (Nat.le_of_ble_eq_true rfl) ⟨Nat.le_refl _, Nat.le_refl _⟩ dX11_addsSack_13 (As := [.int (M.2 0 (1 : Int32).toNatClampNeg), .int 0, .int a1]) (rest := []) rfl (fun H locs hP hS => ?_)
  exact kX11_addsSack_16 X hret hf hP hS (lv_sub hl [1, 3, 4, 5, 0] rfl)
theorem vX11_addsSack {l : Launch} {dC : Nat → ClassId} {dI : Nat → Nat → Nat} {cI : ClassId} {kA : String → Nat → Nat} {ad : Nat → Nat} {M S1 : MS} {a1 : Int32} {a2 : Int32} {a3 : Int32} {a4 : Int32} (hf : fX11_addsSack M a1 a2 a3 a4 = some S1) : gMetV l yX11_addsSack cX11_addsSack 6 2 (mΩ ad) (mP dC dI cI kA ad) (kR kTab kA) [.ref (ad 25), .int a1, .int a2, .int a3, .int a4] M S1 := gEntryV (by decide) mOK (Nat.le_of_ble_eq_true rfl) (fun p e s m args below meth c Q ls X hP hS hret hl => 
  kX11_addsSack_0 X hret hf hP hS (lv_sub hl [0, 1, 2, 3, 4] rfl))
set_option maxRecDepth 10000 in
theorem kX11_swearsIn_34 {S1 : MS} {M : MS} {H : Heap} {locs : List Loc} {ls : Array Slot} (X : gX p s m args c cX11_swearsIn 2 RX11 (kR kTab kA)) (hret : gRetV p l e (rmL 2 0 0) s m args below meth c cX11_swearsIn (mΩ ad) (mP dC dI cI kA ad) Q S1) (hf : fX11_swearsIn_34 M = some S1) (hP : (mP dC dI cI kA ad) M s H) (hS : va_S (Fr (mΩ ad) s.heap.size) s.heap H locs) (hl : lv_has ls 2 [(0, .ref (ad 25))]) : W p l e (rmL 2 0 0) s m args below meth c H locs 0 0 Q (F0 m 34 ls []) := by
  have hx := X.hx
  have hb := X.hb
  have hown := X.hown
  have hts := X.hts
  rw [fX11_swearsIn_34] at hf
  cases hf
  exact hret _ _ _ _ dX11_swearsIn_34 hP hS
set_option maxRecDepth 10000 in
theorem kX11_swearsIn_29 {S1 : MS} {M : MS} {s0 : Int32} {s1 : Int32} {s2 : Int32} {H : Heap} {locs : List Loc} {ls : Array Slot} (X : gX p s m args c cX11_swearsIn 2 RX11 (kR kTab kA)) (hret : gRetV p l e (rmL 2 0 0) s m args below meth c cX11_swearsIn (mΩ ad) (mP dC dI cI kA ad) Q S1) (hf : fX11_swearsIn_29 M s0 s1 s2 = some S1) (hP : (mP dC dI cI kA ad) M s H) (hS : va_S (Fr (mΩ ad) s.heap.size) s.heap H locs) (hl : lv_has ls 2 [(0, .ref (ad 25))]) : W p l e (rmL 2 0 0) s m args below meth c H locs 0 0 Q (F0 m 29 ls [.int s0, .int s1, .int s2, .ref (ad 25)]) := by
  have hx := X.hx
  have hb := X.hb
  have hown := X.hown
  have hts := X.hts
  rw [fX11_swearsIn_29] at hf
  refine lv_iconst (v := 1) hx hb dX11_swearsIn_29 (by decide) ?_
  refine lv_iadd hx hb dX11_swearsIn_30 ?_
  obtain ⟨q, hc, hf⟩ := bd hf
  refine gCallVV X mOK rfl (vX11_putsCat hc) gRX11_X11_putsCat hdX11_putsCat rfl ⟨by decide, by decide⟩ hP hS (mrec hP) hl.1 (Nat.le_of_ble_eq_true rfl) ⟨Nat.le_refl _, Nat.le_refl _⟩ dX11_swearsIn_31 (As := [.int s2, .int s1, .int (s0 + 1)]) (rest := []) rfl (fun H locs hP hS => ?_)
  exact kX11_swearsIn_34 X hret hf hP hS (lv_sub hl [0] rfl)
set_option maxRecDepth 10000 in
theorem kX11_swearsIn_18 {S1 : MS} {M : MS} {x1 : Int32} {H : Heap} {locs : List Loc} {ls : Array Slot} (X : gX p s m args c cX11_swearsIn 2 RX11 (kR kTab kA)) (hret : gRetV p l e (rmL 2 0 0) s m args below meth c cX11_swearsIn (mΩ ad) (mP dC dI cI kA ad) Q S1) (hf : fX11_swearsIn_18 M x1 = some S1) (hP : (mP dC dI cI kA ad) M s H) (hS : va_S (Fr (mΩ ad) s.heap.size) s.heap H locs) (hl : lv_has ls 2 [(0, .ref (ad 25)), (1, .int x1)]) : W p l e (rmL 2 0 0) s m args below meth c H locs 0 0 Q (F0 m 18 ls []) := by
  have hx := X.hx
  have hb := X.hb
  have hown := X.hown
  have hts := X.hts
  rw [fX11_swearsIn_18] at hf
  refine lv_aload_n hx hb dX11_swearsIn_18 rfl (lv_at hl 0 rfl) ?_
  refine lv_iload_n hx hb dX11_swearsIn_19 rfl (lv_at hl 1 rfl) ?_
  refine lv_bipush (v := 11) hx hb dX11_swearsIn_20 (by decide) ?_
  refine lv_aload_n hx hb dX11_swearsIn_22 rfl (lv_at hl 0 rfl) ?_
  refine lv_iload_n hx hb dX11_swearsIn_23 rfl (lv_at hl 1 rfl) ?_
  refine lv_bipush (v := 11) hx hb dX11_swearsIn_24 (by decide) ?_
  obtain ⟨q, hc, hf⟩ := bd hf
  refine gCallVR X rfl (vX11_ofCat hc) gRX11_X11_ofCat hdX11_ofCat rfl ⟨by decide, by decide⟩ (gB_blind mOK) (gB_at mOK X hP) (mrec hP) hl.1 (Nat.le_of_ble_eq_true rfl) ⟨Nat.le_refl _, Nat.le_refl _⟩ dX11_swearsIn_26 (As := [.int x1, .int 11]) (rest := [.int 11, .int x1, .ref (ad 25)]) rfl ?_
  exact kX11_swearsIn_29 X hret hf hP hS (lv_sub hl [0] rfl)
set_option maxRecDepth 10000 in
theorem kX11_swearsIn_7 {S1 : MS} {M : MS} {x1 : Int32} {H : Heap} {locs : List Loc} {ls : Array Slot} (X : gX p s m args c cX11_swearsIn 2 RX11 (kR kTab kA)) (hret : gRetV p l e (rmL 2 0 0) s m args below meth c cX11_swearsIn (mΩ ad) (mP dC dI cI kA ad) Q S1) (hf : fX11_swearsIn_7 M x1 = some S1) (hP : (mP dC dI cI kA ad) M s H) (hS : va_S (Fr (mΩ ad) s.heap.size) s.heap H locs) (hl : lv_has ls 2 [(0, .ref (ad 25)), (1, .int x1)]) : W p l e (rmL 2 0 0) s m args below meth c H locs 0 0 Q (F0 m 7 ls []) := by
  have hx := X.hx
  have hb := X.hb
  have hown := X.hown
  have hts := X.hts
  rw [fX11_swearsIn_7] at hf
  refine lv_aload_n hx hb dX11_swearsIn_7 rfl (lv_at hl 0 rfl) ?_
  refine mr_get (k := 0) X hP (by decide) rfl rfl tw1665 dX11_swearsIn_8 ?_
  refine lv_bipush (v := 12) hx hb dX11_swearsIn_11 (by decide) ?_
  refine lv_dup2_11 hx hb dX11_swearsIn_13 rfl rfl ?_
  obtain ⟨g1, hf⟩ := gd hf
  refine mr_ald (a := 0) X hP rfl g1 dX11_swearsIn_14 ?_
  refine lv_iconst (v := 1) hx hb dX11_swearsIn_15 (by decide) ?_
  refine lv_iadd hx hb dX11_swearsIn_16 ?_
  obtain ⟨g2, hf⟩ := gd hf
  refine mr_ast (a := 0) X hP hS rfl g2 dX11_swearsIn_17 (fun H locs hP hS => ?_)
  exact kX11_swearsIn_18 X hret hf hP hS (lv_sub hl [0, 1] rfl)
set_option maxRecDepth 10000 in
theorem kX11_swearsIn_0 {S1 : MS} {M : MS} {a1 : Int32} {H : Heap} {locs : List Loc} {ls : Array Slot} (X : gX p s m args c cX11_swearsIn 2 RX11 (kR kTab kA)) (hret : gRetV p l e (rmL 2 0 0) s m args below meth c cX11_swearsIn (mΩ ad) (mP dC dI cI kA ad) Q S1) (hf : fX11_swearsIn_0 M a1 = some S1) (hP : (mP dC dI cI kA ad) M s H) (hS : va_S (Fr (mΩ ad) s.heap.size) s.heap H locs) (hl : lv_has ls 2 [(0, .ref (ad 25)), (1, .int a1)]) : W p l e (rmL 2 0 0) s m args below meth c H locs 0 0 Q (F0 m 0 ls []) := by
  have hx := X.hx
  have hb := X.hb
  have hown := X.hown
  have hts := X.hts
  rw [fX11_swearsIn_0] at hf
  refine lv_aload_n hx hb dX11_swearsIn_0 rfl (lv_at hl 0 rfl) ?_
  refine mr_get (k := 0) X hP (by decide) rfl rfl tw1665 dX11_swearsIn_1 ?_
  refine lv_iconst (v := 5) hx hb dX11_swearsIn_4 (by decide) ?_
  refine lv_iload_n hx hb dX11_swearsIn_5 rfl (lv_at hl 1 rfl) ?_
  obtain ⟨g1, hf⟩ := gd hf
  refine mr_ast (a := 0) X hP hS rfl g1 dX11_swearsIn_6 (fun H locs hP hS => ?_)
  exact kX11_swearsIn_7 X hret hf hP hS (lv_sub hl [0, 1] rfl)
theorem vX11_swearsIn {l : Launch} {dC : Nat → ClassId} {dI : Nat → Nat → Nat} {cI : ClassId} {kA : String → Nat → Nat} {ad : Nat → Nat} {M S1 : MS} {a1 : Int32} (hf : fX11_swearsIn M a1 = some S1) : gMetV l yX11_swearsIn cX11_swearsIn 2 2 (mΩ ad) (mP dC dI cI kA ad) (kR kTab kA) [.ref (ad 25), .int a1] M S1 := gEntryV (by decide) mOK (Nat.le_of_ble_eq_true rfl) (fun p e s m args below meth c Q ls X hP hS hret hl => 
  kX11_swearsIn_0 X hret hf hP hS (lv_sub hl [0, 1] rfl))
set_option maxRecDepth 10000 in
theorem kX11_strength_15 {r : Int32} {M : MS} {s0 : Int32} {s1 : Int32} {s2 : Int32} (X : gX p s m args c cX11_strength 2 RX11 (kR kTab kA)) (hret : gRetR p l e (rmL 2 0 0) s m args below meth c cX11_strength Q r) (hf : fX11_strength_15 M s0 s1 s2 = some r) {ls : Array Slot} (hP : (mP dC dI cI kA ad) M s s.heap) (hl : lv_has ls 2 [(0, .ref (ad 25))]) : W p l e (rmL 2 0 0) s m args below meth c s.heap [] 0 0 Q (F0 m 15 ls [.int s0, .int s1, .int s2]) := by
  have hx := X.hx
  have hb := X.hb
  have hown := X.hown
  have hts := X.hts
  rw [fX11_strength_15] at hf
  refine lv_iconst (v := 4) hx hb dX11_strength_15 (by decide) ?_
  refine lv_idiv hx hb dX11_strength_16 (by decide) ?_
  refine lv_isub hx hb dX11_strength_17 ?_
  refine gMax X rfl tw1950 tw574 tw24 tw575 (by decide) hl.1 (Nat.le_of_ble_eq_true rfl) ⟨Nat.zero_le _, Nat.zero_le _⟩ dX11_strength_18 ?_
  cases hf
  exact hret _ _ dX11_strength_21
set_option maxRecDepth 10000 in
theorem kX11_strength_8 {r : Int32} {M : MS} {x1 : Int32} {s0 : Int32} {s1 : Int32} (X : gX p s m args c cX11_strength 2 RX11 (kR kTab kA)) (hret : gRetR p l e (rmL 2 0 0) s m args below meth c cX11_strength Q r) (hf : fX11_strength_8 M x1 s0 s1 = some r) {ls : Array Slot} (hP : (mP dC dI cI kA ad) M s s.heap) (hl : lv_has ls 2 [(0, .ref (ad 25)), (1, .int x1)]) : W p l e (rmL 2 0 0) s m args below meth c s.heap [] 0 0 Q (F0 m 8 ls [.int s0, .int s1]) := by
  have hx := X.hx
  have hb := X.hb
  have hown := X.hown
  have hts := X.hts
  rw [fX11_strength_8] at hf
  refine lv_aload_n hx hb dX11_strength_8 rfl (lv_at hl 0 rfl) ?_
  refine lv_iload_n hx hb dX11_strength_9 rfl (lv_at hl 1 rfl) ?_
  refine lv_bipush (v := 9) hx hb dX11_strength_10 (by decide) ?_
  obtain ⟨q, hc, hf⟩ := bd hf
  refine gCallVR X rfl (vX11_ofCat hc) gRX11_X11_ofCat hdX11_ofCat rfl ⟨by decide, by decide⟩ (gB_blind mOK) (gB_at mOK X hP) (mrec hP) hl.1 (Nat.le_of_ble_eq_true rfl) ⟨Nat.le_refl _, Nat.le_refl _⟩ dX11_strength_12 (As := [.int x1, .int 9]) (rest := [.int s0, .int s1]) rfl ?_
  exact kX11_strength_15 X hret hf hP (lv_sub hl [0] rfl)
set_option maxRecDepth 10000 in
theorem kX11_strength_0 {r : Int32} {M : MS} {a1 : Int32} (X : gX p s m args c cX11_strength 2 RX11 (kR kTab kA)) (hret : gRetR p l e (rmL 2 0 0) s m args below meth c cX11_strength Q r) (hf : fX11_strength_0 M a1 = some r) {ls : Array Slot} (hP : (mP dC dI cI kA ad) M s s.heap) (hl : lv_has ls 2 [(0, .ref (ad 25)), (1, .int a1)]) : W p l e (rmL 2 0 0) s m args below meth c s.heap [] 0 0 Q (F0 m 0 ls []) := by
  have hx := X.hx
  have hb := X.hb
  have hown := X.hown
  have hts := X.hts
  rw [fX11_strength_0] at hf
  refine lv_iconst (v := 0) hx hb dX11_strength_0 (by decide) ?_
  refine lv_aload_n hx hb dX11_strength_1 rfl (lv_at hl 0 rfl) ?_
  refine lv_iload_n hx hb dX11_strength_2 rfl (lv_at hl 1 rfl) ?_
  refine lv_bipush (v := 7) hx hb dX11_strength_3 (by decide) ?_
  obtain ⟨q, hc, hf⟩ := bd hf
  refine gCallVR X rfl (vX11_ofCat hc) gRX11_X11_ofCat hdX11_ofCat rfl ⟨by decide, by decide⟩ (gB_blind mOK) (gB_at mOK X hP) (mrec hP) hl.1 (Nat.le_of_ble_eq_true rfl) ⟨Nat.le_refl _, Nat.le_refl _⟩ dX11_strength_5 (As := [.int a1, .int 7]) (rest := [.int 0]) rfl ?_
  exact kX11_strength_8 X hret hf hP (lv_sub hl [0, 1] rfl)
theorem vX11_strength {l : Launch} {dC : Nat → ClassId} {dI : Nat → Nat → Nat} {cI : ClassId} {kA : String → Nat → Nat} {ad : Nat → Nat} {M : MS} {r : Int32} {a1 : Int32} (hf : fX11_strength M a1 = some r) : gMetR l yX11_strength cX11_strength 2 (some .int) 2 (gB (mP dC dI cI kA ad) (kR kTab kA) M) [.ref (ad 25), .int a1] r := gEntryR (ty := .int) (by decide) rfl rfl (Nat.le_of_ble_eq_true rfl) (fun _ h => h.2) (fun p e s m args below meth c Q ls X hB hret hl => 
  kX11_strength_0 X hret hf hB.1 (lv_sub hl [0, 1] rfl))
set_option maxRecDepth 10000 in
theorem kX11_isAble_17 {r : Int32} {M : MS} {s0 : Int32} (X : gX p s m args c cX11_isAble 2 RX11 (kR kTab kA)) (hret : gRetR p l e (rmL 2 0 0) s m args below meth c cX11_isAble Q r) (hf : fX11_isAble_17 M s0 = some r) {ls : Array Slot} (hP : (mP dC dI cI kA ad) M s s.heap) (hl : lv_has ls 2 [(0, .ref (ad 25))]) : W p l e (rmL 2 0 0) s m args below meth c s.heap [] 0 0 Q (F0 m 17 ls [.int s0]) := by
  have hx := X.hx
  have hb := X.hb
  have hown := X.hown
  have hts := X.hts
  rw [fX11_isAble_17] at hf
  cases hf
  exact hret _ _ dX11_isAble_17
set_option maxRecDepth 10000 in
theorem kX11_isAble_16 {r : Int32} {M : MS} (X : gX p s m args c cX11_isAble 2 RX11 (kR kTab kA)) (hret : gRetR p l e (rmL 2 0 0) s m args below meth c cX11_isAble Q r) (hf : fX11_isAble_16 M = some r) {ls : Array Slot} (hP : (mP dC dI cI kA ad) M s s.heap) (hl : lv_has ls 2 [(0, .ref (ad 25))]) : W p l e (rmL 2 0 0) s m args below meth c s.heap [] 0 0 Q (F0 m 16 ls []) := by
  have hx := X.hx
  have hb := X.hb
  have hown := X.hown
  have hts := X.hts
  rw [fX11_isAble_16] at hf
  refine lv_iconst (v := 0) hx hb dX11_isAble_16 (by decide) ?_
  exact kX11_isAble_17 X hret hf hP (lv_sub hl [0] rfl)
set_option maxRecDepth 10000 in
theorem kX11_isAble_12 {r : Int32} {M : MS} (X : gX p s m args c cX11_isAble 2 RX11 (kR kTab kA)) (hret : gRetR p l e (rmL 2 0 0) s m args below meth c cX11_isAble Q r) (hf : fX11_isAble_12 M = some r) {ls : Array Slot} (hP : (mP dC dI cI kA ad) M s s.heap) (hl : lv_has ls 2 [(0, .ref (ad 25))]) : W p l e (rmL 2 0 0) s m args below meth c s.heap [] 0 0 Q (F0 m 12 ls []) := by
  have hx := X.hx
  have hb := X.hb
  have hown := X.hown
  have hts := X.hts
  rw [fX11_isAble_12] at hf
  refine lv_iconst (v := 1) hx hb dX11_isAble_12 (by decide) ?_
  refine lv_goto (tgt := 17) hx hb dX11_isAble_13 (by decide) ?_
  exact kX11_isAble_17 X hret hf hP (lv_sub hl [0] rfl)
set_option maxRecDepth 10000 in
theorem kX11_isAble_7 {r : Int32} {M : MS} {s0 : Int32} (X : gX p s m args c cX11_isAble 2 RX11 (kR kTab kA)) (hret : gRetR p l e (rmL 2 0 0) s m args below meth c cX11_isAble Q r) (hf : fX11_isAble_7 M s0 = some r) {ls : Array Slot} (hP : (mP dC dI cI kA ad) M s s.heap) (hl : lv_has ls 2 [(0, .ref (ad 25))]) : W p l e (rmL 2 0 0) s m args below meth c s.heap [] 0 0 Q (F0 m 7 ls [.int s0]) := by
  have hx := X.hx
  have hb := X.hb
  have hown := X.hown
  have hts := X.hts
  rw [fX11_isAble_7] at hf
  refine lv_bipush (v := 12) hx hb dX11_isAble_7 (by decide) ?_
  refine lv_icmp_ge (tgt := 16) hx hb dX11_isAble_9 (by decide) (fun c1 => ?_) (fun c1 => ?_)
  · exact kX11_isAble_16 X hret (ifp c1 hf) hP (lv_sub hl [0] rfl)
  · exact kX11_isAble_12 X hret (ifn c1 hf) hP (lv_sub hl [0] rfl)
set_option maxRecDepth 10000 in
theorem kX11_isAble_0 {r : Int32} {M : MS} {a1 : Int32} (X : gX p s m args c cX11_isAble 2 RX11 (kR kTab kA)) (hret : gRetR p l e (rmL 2 0 0) s m args below meth c cX11_isAble Q r) (hf : fX11_isAble_0 M a1 = some r) {ls : Array Slot} (hP : (mP dC dI cI kA ad) M s s.heap) (hl : lv_has ls 2 [(0, .ref (ad 25)), (1, .int a1)]) : W p l e (rmL 2 0 0) s m args below meth c s.heap [] 0 0 Q (F0 m 0 ls []) := by
  have hx := X.hx
  have hb := X.hb
  have hown := X.hown
  have hts := X.hts
  rw [fX11_isAble_0] at hf
  refine lv_aload_n hx hb dX11_isAble_0 rfl (lv_at hl 0 rfl) ?_
  refine lv_iload_n hx hb dX11_isAble_1 rfl (lv_at hl 1 rfl) ?_
  refine lv_bipush (v := 9) hx hb dX11_isAble_2 (by decide) ?_
  obtain ⟨q, hc, hf⟩ := bd hf
  refine gCallVR X rfl (vX11_ofCat hc) gRX11_X11_ofCat hdX11_ofCat rfl ⟨by decide, by decide⟩ (gB_blind mOK) (gB_at mOK X hP) (mrec hP) hl.1 (Nat.le_of_ble_eq_true rfl) ⟨Nat.le_refl _, Nat.le_refl _⟩ dX11_isAble_4 (As := [.int a1, .int 9]) (rest := []) rfl ?_
  exact kX11_isAble_7 X hret hf hP (lv_sub hl [0] rfl)
theorem vX11_isAble {l : Launch} {dC : Nat → ClassId} {dI : Nat → Nat → Nat} {cI : ClassId} {kA : String → Nat → Nat} {ad : Nat → Nat} {M : MS} {r : Int32} {a1 : Int32} (hf : fX11_isAble M a1 = some r) : gMetR l yX11_isAble cX11_isAble 2 (some .boolean) 2 (gB (mP dC dI cI kA ad) (kR kTab kA) M) [.ref (ad 25), .int a1] r := gEntryR (ty := .boolean) (by decide) rfl (bq_n hf) (Nat.le_of_ble_eq_true rfl) (fun _ h => h.2) (fun p e s m args below meth c Q ls X hB hret hl => 
  kX11_isAble_0 X hret (bq_f hf) hB.1 (lv_sub hl [0, 1] rfl))
set_option maxRecDepth 10000 in
theorem kX11_isPawRight_37 {r : Int32} {M : MS} {s0 : Int32} (X : gX p s m args c cX11_isPawRight 2 RX11 (kR kTab kA)) (hret : gRetR p l e (rmL 2 0 0) s m args below meth c cX11_isPawRight Q r) (hf : fX11_isPawRight_37 M s0 = some r) {ls : Array Slot} (hP : (mP dC dI cI kA ad) M s s.heap) (hl : lv_has ls 2 [(0, .ref (ad 25))]) : W p l e (rmL 2 0 0) s m args below meth c s.heap [] 0 0 Q (F0 m 37 ls [.int s0]) := by
  have hx := X.hx
  have hb := X.hb
  have hown := X.hown
  have hts := X.hts
  rw [fX11_isPawRight_37] at hf
  cases hf
  exact hret _ _ dX11_isPawRight_37
set_option maxRecDepth 10000 in
theorem kX11_isPawRight_32 {r : Int32} {M : MS} (X : gX p s m args c cX11_isPawRight 2 RX11 (kR kTab kA)) (hret : gRetR p l e (rmL 2 0 0) s m args below meth c cX11_isPawRight Q r) (hf : fX11_isPawRight_32 M = some r) {ls : Array Slot} (hP : (mP dC dI cI kA ad) M s s.heap) (hl : lv_has ls 2 [(0, .ref (ad 25))]) : W p l e (rmL 2 0 0) s m args below meth c s.heap [] 0 0 Q (F0 m 32 ls []) := by
  have hx := X.hx
  have hb := X.hb
  have hown := X.hown
  have hts := X.hts
  rw [fX11_isPawRight_32] at hf
  refine lv_iconst (v := 1) hx hb dX11_isPawRight_32 (by decide) ?_
  refine lv_goto (tgt := 37) hx hb dX11_isPawRight_33 (by decide) ?_
  exact kX11_isPawRight_37 X hret hf hP (lv_sub hl [0] rfl)
set_option maxRecDepth 10000 in
theorem kX11_isPawRight_36 {r : Int32} {M : MS} (X : gX p s m args c cX11_isPawRight 2 RX11 (kR kTab kA)) (hret : gRetR p l e (rmL 2 0 0) s m args below meth c cX11_isPawRight Q r) (hf : fX11_isPawRight_36 M = some r) {ls : Array Slot} (hP : (mP dC dI cI kA ad) M s s.heap) (hl : lv_has ls 2 [(0, .ref (ad 25))]) : W p l e (rmL 2 0 0) s m args below meth c s.heap [] 0 0 Q (F0 m 36 ls []) := by
  have hx := X.hx
  have hb := X.hb
  have hown := X.hown
  have hts := X.hts
  rw [fX11_isPawRight_36] at hf
  refine lv_iconst (v := 0) hx hb dX11_isPawRight_36 (by decide) ?_
  exact kX11_isPawRight_37 X hret hf hP (lv_sub hl [0] rfl)
set_option maxRecDepth 10000 in
theorem kX11_isPawRight_29 {r : Int32} {M : MS} {s0 : Int32} {s1 : Int32} (X : gX p s m args c cX11_isPawRight 2 RX11 (kR kTab kA)) (hret : gRetR p l e (rmL 2 0 0) s m args below meth c cX11_isPawRight Q r) (hf : fX11_isPawRight_29 M s0 s1 = some r) {ls : Array Slot} (hP : (mP dC dI cI kA ad) M s s.heap) (hl : lv_has ls 2 [(0, .ref (ad 25))]) : W p l e (rmL 2 0 0) s m args below meth c s.heap [] 0 0 Q (F0 m 29 ls [.int s0, .int s1]) := by
  have hx := X.hx
  have hb := X.hb
  have hown := X.hown
  have hts := X.hts
  rw [fX11_isPawRight_29] at hf
  refine lv_icmp_eq (tgt := 36) hx hb dX11_isPawRight_29 (by decide) (fun c1 => ?_) (fun c1 => ?_)
  · exact kX11_isPawRight_36 X hret (ifp c1 hf) hP (lv_sub hl [0] rfl)
  · exact kX11_isPawRight_32 X hret (ifn c1 hf) hP (lv_sub hl [0] rfl)
set_option maxRecDepth 10000 in
theorem kX11_isPawRight_17 {r : Int32} {M : MS} {s0 : Int32} (X : gX p s m args c cX11_isPawRight 2 RX11 (kR kTab kA)) (hret : gRetR p l e (rmL 2 0 0) s m args below meth c cX11_isPawRight Q r) (hf : fX11_isPawRight_17 M s0 = some r) {ls : Array Slot} (hP : (mP dC dI cI kA ad) M s s.heap) (hl : lv_has ls 2 [(0, .ref (ad 25))]) : W p l e (rmL 2 0 0) s m args below meth c s.heap [] 0 0 Q (F0 m 17 ls [.int s0]) := by
  have hx := X.hx
  have hb := X.hb
  have hown := X.hown
  have hts := X.hts
  rw [fX11_isPawRight_17] at hf
  refine lv_aload_n hx hb dX11_isPawRight_17 rfl (lv_at hl 0 rfl) ?_
  refine lv_aload_n hx hb dX11_isPawRight_18 rfl (lv_at hl 0 rfl) ?_
  refine mr_get (k := 0) X hP (by decide) rfl rfl tw1665 dX11_isPawRight_19 ?_
  refine lv_iconst (v := 5) hx hb dX11_isPawRight_22 (by decide) ?_
  obtain ⟨g1, hf⟩ := gd hf
  refine mr_ald (a := 0) X hP rfl g1 dX11_isPawRight_23 ?_
  refine lv_bipush (v := 8) hx hb dX11_isPawRight_24 (by decide) ?_
  obtain ⟨q, hc, hf⟩ := bd hf
  refine gCallVR X rfl (vX11_ofCat hc) gRX11_X11_ofCat hdX11_ofCat rfl ⟨by decide, by decide⟩ (gB_blind mOK) (gB_at mOK X hP) (mrec hP) hl.1 (Nat.le_of_ble_eq_true rfl) ⟨Nat.le_refl _, Nat.le_refl _⟩ dX11_isPawRight_26 (As := [.int (M.2 0 (5 : Int32).toNatClampNeg), .int 8]) (rest := [.int s0]) rfl ?_
  exact kX11_isPawRight_29 X hret hf hP (lv_sub hl [0] rfl)
set_option maxRecDepth 10000 in
theorem kX11_isPawRight_10 {r : Int32} {M : MS} {x1 : Int32} (X : gX p s m args c cX11_isPawRight 2 RX11 (kR kTab kA)) (hret : gRetR p l e (rmL 2 0 0) s m args below meth c cX11_isPawRight Q r) (hf : fX11_isPawRight_10 M x1 = some r) {ls : Array Slot} (hP : (mP dC dI cI kA ad) M s s.heap) (hl : lv_has ls 2 [(0, .ref (ad 25)), (1, .int x1)]) : W p l e (rmL 2 0 0) s m args below meth c s.heap [] 0 0 Q (F0 m 10 ls []) := by
  have hx := X.hx
  have hb := X.hb
  have hown := X.hown
  have hts := X.hts
  rw [fX11_isPawRight_10] at hf
  refine lv_aload_n hx hb dX11_isPawRight_10 rfl (lv_at hl 0 rfl) ?_
  refine lv_iload_n hx hb dX11_isPawRight_11 rfl (lv_at hl 1 rfl) ?_
  refine lv_bipush (v := 8) hx hb dX11_isPawRight_12 (by decide) ?_
  obtain ⟨q, hc, hf⟩ := bd hf
  refine gCallVR X rfl (vX11_ofCat hc) gRX11_X11_ofCat hdX11_ofCat rfl ⟨by decide, by decide⟩ (gB_blind mOK) (gB_at mOK X hP) (mrec hP) hl.1 (Nat.le_of_ble_eq_true rfl) ⟨Nat.le_refl _, Nat.le_refl _⟩ dX11_isPawRight_14 (As := [.int x1, .int 8]) (rest := []) rfl ?_
  exact kX11_isPawRight_17 X hret hf hP (lv_sub hl [0] rfl)
set_option maxRecDepth 10000 in
theorem kX11_isPawRight_0 {r : Int32} {M : MS} {a1 : Int32} (X : gX p s m args c cX11_isPawRight 2 RX11 (kR kTab kA)) (hret : gRetR p l e (rmL 2 0 0) s m args below meth c cX11_isPawRight Q r) (hf : fX11_isPawRight_0 M a1 = some r) {ls : Array Slot} (hP : (mP dC dI cI kA ad) M s s.heap) (hl : lv_has ls 2 [(0, .ref (ad 25)), (1, .int a1)]) : W p l e (rmL 2 0 0) s m args below meth c s.heap [] 0 0 Q (F0 m 0 ls []) := by
  have hx := X.hx
  have hb := X.hb
  have hown := X.hown
  have hts := X.hts
  rw [fX11_isPawRight_0] at hf
  refine lv_iload_n hx hb dX11_isPawRight_0 rfl (lv_at hl 1 rfl) ?_
  refine lv_aload_n hx hb dX11_isPawRight_1 rfl (lv_at hl 0 rfl) ?_
  refine mr_get (k := 0) X hP (by decide) rfl rfl tw1665 dX11_isPawRight_2 ?_
  refine lv_iconst (v := 5) hx hb dX11_isPawRight_5 (by decide) ?_
  obtain ⟨g1, hf⟩ := gd hf
  refine mr_ald (a := 0) X hP rfl g1 dX11_isPawRight_6 ?_
  refine lv_icmp_eq (tgt := 32) hx hb dX11_isPawRight_7 (by decide) (fun c1 => ?_) (fun c1 => ?_)
  · exact kX11_isPawRight_32 X hret (ifp c1 hf) hP (lv_sub hl [0] rfl)
  · exact kX11_isPawRight_10 X hret (ifn c1 hf) hP (lv_sub hl [0, 1] rfl)
theorem vX11_isPawRight {l : Launch} {dC : Nat → ClassId} {dI : Nat → Nat → Nat} {cI : ClassId} {kA : String → Nat → Nat} {ad : Nat → Nat} {M : MS} {r : Int32} {a1 : Int32} (hf : fX11_isPawRight M a1 = some r) : gMetR l yX11_isPawRight cX11_isPawRight 2 (some .boolean) 2 (gB (mP dC dI cI kA ad) (kR kTab kA) M) [.ref (ad 25), .int a1] r := gEntryR (ty := .boolean) (by decide) rfl (bq_n hf) (Nat.le_of_ble_eq_true rfl) (fun _ h => h.2) (fun p e s m args below meth c Q ls X hB hret hl => 
  kX11_isPawRight_0 X hret (bq_f hf) hB.1 (lv_sub hl [0, 1] rfl))
