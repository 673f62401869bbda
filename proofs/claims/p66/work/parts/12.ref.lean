/-! plain programs over the int arrays of a plain granary (no code of this claim; the class is told against them) -/
def fX11_thrown_0 (M : MS) : Option (Int32) := some (M.1 7)
def fX11_thrown (M : MS) : Option (Int32) := fX11_thrown_0  M
def fX11_inRange_15 (M : MS) (s0 : Int32) : Option (Int32) := some s0
def fX11_inRange_14 (M : MS) : Option (Int32) := fX11_inRange_15 M 0
def fX11_inRange_10 (M : MS) : Option (Int32) := fX11_inRange_15 M 1
def fX11_inRange_5 (M : MS) (x0 : Int32) (x2 : Int32) : Option (Int32) := if x2 < x0 then fX11_inRange_14 M else fX11_inRange_10 M
def fX11_inRange_0 (M : MS) (a1 : Int32) (a2 : Int32) (a3 : Int32) : Option (Int32) := if a1 < a2 then fX11_inRange_14 M else fX11_inRange_5 M a1 a3
def fX11_inRange (M : MS) (a1 : Int32) (a2 : Int32) (a3 : Int32) : Option (Int32) := bq (fX11_inRange_0  M a1 a2 a3)
def fX11_one_9 (M : MS) (s0 : Int32) : Option (Int32) := some s0
def fX11_one_8 (M : MS) : Option (Int32) := fX11_one_9 M 0
def fX11_one_4 (M : MS) : Option (Int32) := fX11_one_9 M 1
def fX11_one_0 (M : MS) (a1 : Int32) : Option (Int32) := if a1 = 0 then fX11_one_8 M else fX11_one_4 M
def fX11_one (M : MS) (a1 : Int32) : Option (Int32) := fX11_one_0  M a1
def fX11_fails_9 (M : MS) (x1 : Int32) : Option (Int32 × MS) := some (x1, M)
def fX11_fails_4 (M : MS) (x1 : Int32) (x2 : Int32) : Option (Int32 × MS) := fX11_fails_9 (va_up M.1 7 x2, M.2) x1
def fX11_fails_0 (M : MS) (a1 : Int32) (a2 : Int32) : Option (Int32 × MS) := if a1 = 0 then fX11_fails_9 M a1 else fX11_fails_4 M a1 a2
def fX11_fails (M : MS) (a1 : Int32) (a2 : Int32) : Option (Int32 × MS) := bz (fX11_fails_0  M a1 a2)
def fX11_copies_29 (M : MS) : Option (MS) := some M
def fX11_copies_23 (K3 : MS → Nat → Nat → Int32 → Int32 → Int32 → Option (MS)) (M : MS) (a1 : Nat) (a3 : Nat) (x1 : Int32) (x3 : Int32) (x4 : Int32) : Option (MS) := K3 M a1 a3 x1 x3 (x4 + 1)
def fX11_copies_11 (K3 : MS → Nat → Nat → Int32 → Int32 → Int32 → Option (MS)) (M : MS) (a1 : Nat) (a3 : Nat) (x1 : Int32) (x3 : Int32) (x4 : Int32) : Option (MS) := if mIs a1 then if gIn (x1 + x4) (mL a1) then if mIs a3 then if gIn (x3 + x4) (mL a3) then fX11_copies_23 K3 (M.1, va_up M.2 a3 (upd (M.2 a3) (x3 + x4).toNatClampNeg (M.2 a1 (x1 + x4).toNatClampNeg))) a1 a3 x1 x3 x4 else none else none else none else none
def fX11_copies_3 : Nat → MS → Nat → Nat → Int32 → Int32 → Int32 → Option (MS)
  | 0 => fun _ _ _ _ _ _ => none
  | k + 1 => fun M a1 a3 x1 x3 x4 => if 257 ≤ x4 then fX11_copies_29 M else fX11_copies_11 (fX11_copies_3 k) M a1 a3 x1 x3 x4
def fX11_copies_0 (M : MS) (a1 : Nat) (a3 : Nat) (a2 : Int32) (a4 : Int32) : Option (MS) := fX11_copies_3 FU M a1 a3 a2 a4 0
def fX11_copies (M : MS) (a1 : Nat) (a2 : Int32) (a3 : Nat) (a4 : Int32) : Option (MS) := fX11_copies_0  M a1 a3 a2 a4
def fX11_begins_44 (M : MS) : Option (MS) := some M
def fX11_begins_37 (M : MS) : Option (MS) := if gIn 5 257 then fX11_begins_44 (M.1, va_up M.2 0 (upd (M.2 0) (5 : Int32).toNatClampNeg (-1))) else none
def fX11_begins_30 (M : MS) : Option (MS) := if gIn 4 257 then fX11_begins_37 (M.1, va_up M.2 0 (upd (M.2 0) (4 : Int32).toNatClampNeg 3)) else none
def fX11_begins_22 (M : MS) : Option (MS) := if gIn 3 257 then fX11_begins_30 (M.1, va_up M.2 0 (upd (M.2 0) (3 : Int32).toNatClampNeg 6)) else none
def fX11_begins_16 (K2 : MS → Int32 → Option (MS)) (M : MS) (x1 : Int32) : Option (MS) := K2 M (x1 + 1)
def fX11_begins_9 (K2 : MS → Int32 → Option (MS)) (M : MS) (x1 : Int32) : Option (MS) := if gIn x1 257 then fX11_begins_16 K2 (M.1, va_up M.2 0 (upd (M.2 0) x1.toNatClampNeg 0)) x1 else none
def fX11_begins_2 : Nat → MS → Int32 → Option (MS)
  | 0 => fun _ _ => none
  | k + 1 => fun M x1 => if 257 ≤ x1 then fX11_begins_22 M else fX11_begins_9 (fX11_begins_2 k) M x1
def fX11_begins_0 (M : MS) : Option (MS) := fX11_begins_2 FU M 0
def fX11_begins (M : MS) : Option (MS) := fX11_begins_0  M
def fX11_ofCat_0 (M : MS) (a1 : Int32) (a2 : Int32) : Option (Int32) := if gIn ((65 + (12 * a1)) + a2) 257 then some (M.2 0 ((65 + (12 * a1)) + a2).toNatClampNeg) else none
def fX11_ofCat (M : MS) (a1 : Int32) (a2 : Int32) : Option (Int32) := fX11_ofCat_0  M a1 a2
def fX11_putsCat_15 (M : MS) : Option (MS) := some M
def fX11_putsCat_0 (M : MS) (a1 : Int32) (a2 : Int32) (a3 : Int32) : Option (MS) := if gIn ((65 + (12 * a1)) + a2) 257 then fX11_putsCat_15 (M.1, va_up M.2 0 (upd (M.2 0) ((65 + (12 * a1)) + a2).toNatClampNeg a3)) else none
def fX11_putsCat (M : MS) (a1 : Int32) (a2 : Int32) (a3 : Int32) : Option (MS) := fX11_putsCat_0  M a1 a2 a3
def fX11_ofSack_0 (M : MS) (a1 : Int32) (a2 : Int32) : Option (Int32) := if gIn ((161 + (12 * a1)) + a2) 257 then some (M.2 0 ((161 + (12 * a1)) + a2).toNatClampNeg) else none
def fX11_ofSack (M : MS) (a1 : Int32) (a2 : Int32) : Option (Int32) := fX11_ofSack_0  M a1 a2
def fX11_putsSack_16 (M : MS) : Option (MS) := some M
def fX11_putsSack_0 (M : MS) (a1 : Int32) (a2 : Int32) (a3 : Int32) : Option (MS) := if gIn ((161 + (12 * a1)) + a2) 257 then fX11_putsSack_16 (M.1, va_up M.2 0 (upd (M.2 0) ((161 + (12 * a1)) + a2).toNatClampNeg a3)) else none
def fX11_putsSack (M : MS) (a1 : Int32) (a2 : Int32) (a3 : Int32) : Option (MS) := fX11_putsSack_0  M a1 a2 a3
def fX11_spells_44 (M : MS) : Option (MS) := some M
def fX11_spells_32 (M : MS) (x1 : Int32) (x5 : Int32) : Option (MS) := if gIn ((x1 + 1) + 3) 257 then fX11_spells_44 (M.1, va_up M.2 0 (upd (M.2 0) ((x1 + 1) + 3).toNatClampNeg x5)) else none
def fX11_spells_20 (M : MS) (x1 : Int32) (x4 : Int32) (x5 : Int32) : Option (MS) := if gIn ((x1 + 1) + 2) 257 then fX11_spells_32 (M.1, va_up M.2 0 (upd (M.2 0) ((x1 + 1) + 2).toNatClampNeg x4)) x1 x5 else none
def fX11_spells_9 (M : MS) (x1 : Int32) (x3 : Int32) (x4 : Int32) (x5 : Int32) : Option (MS) := if gIn ((x1 + 1) + 1) 257 then fX11_spells_20 (M.1, va_up M.2 0 (upd (M.2 0) ((x1 + 1) + 1).toNatClampNeg x3)) x1 x4 x5 else none
def fX11_spells_0 (M : MS) (a1 : Int32) (a2 : Int32) (a3 : Int32) (a4 : Int32) (a5 : Int32) : Option (MS) := if gIn (a1 + 1) 257 then fX11_spells_9 (M.1, va_up M.2 0 (upd (M.2 0) (a1 + 1).toNatClampNeg a2)) a1 a3 a4 a5 else none
def fX11_spells (M : MS) (a1 : Int32) (a2 : Int32) (a3 : Int32) (a4 : Int32) (a5 : Int32) : Option (MS) := fX11_spells_0  M a1 a2 a3 a4 a5
def fX11_addsShift_48 (M : MS) : Option (MS) := some M
def fX11_addsShift_38 (M : MS) : Option (MS) := if gIn 2 257 then if gIn 2 257 then fX11_addsShift_48 (M.1, va_up M.2 0 (upd (M.2 0) (2 : Int32).toNatClampNeg ((M.2 0 (2 : Int32).toNatClampNeg) + 1))) else none else none
def fX11_addsShift_18 (M : MS) (x2 : Int32) : Option (MS) := if gIn 2 257 then if gIn ((233 + (2 * (M.2 0 (2 : Int32).toNatClampNeg))) + 1) 257 then fX11_addsShift_38 (M.1, va_up M.2 0 (upd (M.2 0) ((233 + (2 * (M.2 0 (2 : Int32).toNatClampNeg))) + 1).toNatClampNeg x2)) else none else none
def fX11_addsShift_0 (M : MS) (a1 : Int32) (a2 : Int32) : Option (MS) := if gIn 2 257 then if gIn (233 + (2 * (M.2 0 (2 : Int32).toNatClampNeg))) 257 then fX11_addsShift_18 (M.1, va_up M.2 0 (upd (M.2 0) (233 + (2 * (M.2 0 (2 : Int32).toNatClampNeg))).toNatClampNeg a1)) a2 else none else none
def fX11_addsShift (M : MS) (a1 : Int32) (a2 : Int32) : Option (MS) := fX11_addsShift_0  M a1 a2
def fX11_shiftCat_0 (M : MS) (a1 : Int32) : Option (Int32) := if gIn (233 + (2 * a1)) 257 then some (M.2 0 (233 + (2 * a1)).toNatClampNeg) else none
def fX11_shiftCat (M : MS) (a1 : Int32) : Option (Int32) := fX11_shiftCat_0  M a1
def fX11_shiftHours_0 (M : MS) (a1 : Int32) : Option (Int32) := if gIn ((233 + (2 * a1)) + 1) 257 then some (M.2 0 ((233 + (2 * a1)) + 1).toNatClampNeg) else none
def fX11_shiftHours (M : MS) (a1 : Int32) : Option (Int32) := fX11_shiftHours_0  M a1
def fX11_sumOf_42 (M : MS) (x4 : Int32) : Option (Int32) := some x4
def fX11_sumOf_17 (K6 : MS → Int32 → Int32 → Int32 → Int32 → Int32 → Option (Int32)) (M : MS) (x1 : Int32) (x2 : Int32) (x3 : Int32) (x4 : Int32) (x5 : Int32) : Option (Int32) := if gIn ((x1 + (12 * x5)) + x3) 257 then K6 M x1 x2 x3 (x4 + (M.2 0 ((x1 + (12 * x5)) + x3).toNatClampNeg)) (x5 + 1) else none
def fX11_sumOf_6 : Nat → MS → Int32 → Int32 → Int32 → Int32 → Int32 → Option (Int32)
  | 0 => fun _ _ _ _ _ _ => none
  | k + 1 => fun M x1 x2 x3 x4 x5 => if gIn x2 257 then if (M.2 0 x2.toNatClampNeg) ≤ x5 then fX11_sumOf_42 M x4 else fX11_sumOf_17 (fX11_sumOf_6 k) M x1 x2 x3 x4 x5 else none
def fX11_sumOf_0 (M : MS) (a1 : Int32) (a2 : Int32) (a3 : Int32) : Option (Int32) := fX11_sumOf_6 FU M a1 a2 a3 0 0
def fX11_sumOf (M : MS) (a1 : Int32) (a2 : Int32) (a3 : Int32) : Option (Int32) := fX11_sumOf_0  M a1 a2 a3
def fX11_logs_116 (M : MS) : Option (MS) := some M
def fX11_logs_108 (M : MS) (x3 : Int32) : Option (MS) := if gIn 19 257 then fX11_logs_116 (M.1, va_up M.2 0 (upd (M.2 0) (19 : Int32).toNatClampNeg x3)) else none
def fX11_logs_100 (M : MS) (x2 : Int32) (x3 : Int32) : Option (MS) := if gIn 18 257 then fX11_logs_108 (M.1, va_up M.2 0 (upd (M.2 0) (18 : Int32).toNatClampNeg x2)) x3 else none
def fX11_logs_92 (M : MS) (x1 : Int32) (x2 : Int32) (x3 : Int32) : Option (MS) := if gIn 17 257 then fX11_logs_100 (M.1, va_up M.2 0 (upd (M.2 0) (17 : Int32).toNatClampNeg x1)) x2 x3 else none
def fX11_logs_86 (K34 : MS → Int32 → Int32 → Int32 → Int32 → Option (MS)) (M : MS) (x1 : Int32) (x2 : Int32) (x3 : Int32) (x4 : Int32) : Option (MS) := K34 M x1 x2 x3 (x4 + (-1))
def fX11_logs_80 (K34 : MS → Int32 → Int32 → Int32 → Int32 → Option (MS)) (K42 : MS → Int32 → Int32 → Int32 → Int32 → Int32 → Option (MS)) (M : MS) (x1 : Int32) (x2 : Int32) (x3 : Int32) (x4 : Int32) (x5 : Int32) : Option (MS) := K42 M x1 x2 x3 x4 (x5 + 1)
def fX11_logs_48 (K34 : MS → Int32 → Int32 → Int32 → Int32 → Option (MS)) (K42 : MS → Int32 → Int32 → Int32 → Int32 → Int32 → Option (MS)) (M : MS) (x1 : Int32) (x2 : Int32) (x3 : Int32) (x4 : Int32) (x5 : Int32) : Option (MS) := if gIn (((17 + (3 * x4)) - 3) + x5) 257 then if gIn ((17 + (3 * x4)) + x5) 257 then fX11_logs_80 K34 K42 (M.1, va_up M.2 0 (upd (M.2 0) ((17 + (3 * x4)) + x5).toNatClampNeg (M.2 0 (((17 + (3 * x4)) - 3) + x5).toNatClampNeg))) x1 x2 x3 x4 x5 else none else none
def fX11_logs_42 (K34 : MS → Int32 → Int32 → Int32 → Int32 → Option (MS)) : Nat → MS → Int32 → Int32 → Int32 → Int32 → Int32 → Option (MS)
  | 0 => fun _ _ _ _ _ _ => none
  | k + 1 => fun M x1 x2 x3 x4 x5 => if 3 ≤ x5 then fX11_logs_86 K34 M x1 x2 x3 x4 else fX11_logs_48 K34 (fX11_logs_42 K34 k) M x1 x2 x3 x4 x5
def fX11_logs_39 (K34 : MS → Int32 → Int32 → Int32 → Int32 → Option (MS)) (M : MS) (x1 : Int32) (x2 : Int32) (x3 : Int32) (x4 : Int32) : Option (MS) := fX11_logs_42 K34 FU M x1 x2 x3 x4 0
def fX11_logs_34 : Nat → MS → Int32 → Int32 → Int32 → Int32 → Option (MS)
  | 0 => fun _ _ _ _ _ => none
  | k + 1 => fun M x1 x2 x3 x4 => if x4 ≤ 0 then fX11_logs_92 M x1 x2 x3 else fX11_logs_39 (fX11_logs_34 k) M x1 x2 x3 x4
def fX11_logs_23 (M : MS) (x1 : Int32) (x2 : Int32) (x3 : Int32) : Option (MS) := if gIn 16 257 then fX11_logs_34 FU M x1 x2 x3 ((M.2 0 (16 : Int32).toNatClampNeg) - 1) else none
def fX11_logs_12 (M : MS) (x1 : Int32) (x2 : Int32) (x3 : Int32) : Option (MS) := if gIn 16 257 then if gIn 16 257 then fX11_logs_23 (M.1, va_up M.2 0 (upd (M.2 0) (16 : Int32).toNatClampNeg ((M.2 0 (16 : Int32).toNatClampNeg) + 1))) x1 x2 x3 else none else none
def fX11_logs_0 (M : MS) (a1 : Int32) (a2 : Int32) (a3 : Int32) : Option (MS) := if gIn 16 257 then if 16 ≤ (M.2 0 (16 : Int32).toNatClampNeg) then fX11_logs_23 M a1 a2 a3 else fX11_logs_12 M a1 a2 a3 else none
def fX11_logs (M : MS) (a1 : Int32) (a2 : Int32) (a3 : Int32) : Option (MS) := fX11_logs_0  M a1 a2 a3
def fX11_sets_14 (M : MS) (x3 : Int32) : Option (Int32 × MS) := some (x3, M)
def fX11_sets_0 (M : MS) (a1 : Int32) (a2 : Int32) : Option (Int32 × MS) := if gIn a1 257 then if gIn a1 257 then fX11_sets_14 (M.1, va_up M.2 0 (upd (M.2 0) a1.toNatClampNeg a2)) (M.2 0 a1.toNatClampNeg) else none else none
def fX11_sets (M : MS) (a1 : Int32) (a2 : Int32) : Option (Int32 × MS) := fX11_sets_0  M a1 a2
def fX11_appendWord_39 (M : MS) : Option (MS) := some M
def fX11_appendWord_33 (K3 : MS → Int32 → Int32 → Option (MS)) (M : MS) (x1 : Int32) (x2 : Int32) : Option (MS) := K3 M x1 (x2 + (-8))
def fX11_appendWord_23 (K3 : MS → Int32 → Int32 → Option (MS)) (M : MS) (x1 : Int32) (x2 : Int32) : Option (MS) := fX11_appendWord_33 K3 (va_up M.1 9 ((M.1 9) + 1), M.2) x1 x2
def fX11_appendWord_7 (K3 : MS → Int32 → Int32 → Option (MS)) (M : MS) (x1 : Int32) (x2 : Int32) : Option (MS) := if gIn (M.1 9) 600 then fX11_appendWord_23 K3 (M.1, va_up M.2 8 (upd (M.2 8) (M.1 9).toNatClampNeg ((x1 >>> (x2 &&& 31)) &&& 255))) x1 x2 else none
def fX11_appendWord_3 : Nat → MS → Int32 → Int32 → Option (MS)
  | 0 => fun _ _ _ => none
  | k + 1 => fun M x1 x2 => if x2 < 0 then fX11_appendWord_39 M else fX11_appendWord_7 (fX11_appendWord_3 k) M x1 x2
def fX11_appendWord_0 (M : MS) (a1 : Int32) : Option (MS) := fX11_appendWord_3 FU M a1 24
def fX11_appendWord (M : MS) (a1 : Int32) : Option (MS) := fX11_appendWord_0  M a1
def fX11_byteAt_18 (M : MS) (s0 : Int32) : Option (Int32) := some s0
def fX11_byteAt_17 (M : MS) : Option (Int32) := fX11_byteAt_18 M (-1)
def fX11_byteAt_8 (M : MS) (x1 : Int32) : Option (Int32) := if gIn x1 600 then fX11_byteAt_18 M (M.2 8 x1.toNatClampNeg) else none
def fX11_byteAt_0 (M : MS) (a1 : Int32) : Option (Int32) := if (M.1 9) ≤ a1 then fX11_byteAt_17 M else fX11_byteAt_8 M a1
def fX11_byteAt (M : MS) (a1 : Int32) : Option (Int32) := fX11_byteAt_0  M a1
def fX11_failsAt_20 (M : MS) : Option (Int32 × MS) := some (0, M)
def fX11_failsAt_12 (M : MS) : Option (Int32 × MS) := fX11_failsAt_20 (va_up M.1 13 (M.1 15), M.2)
def fX11_failsAt_7 (M : MS) (x1 : Int32) : Option (Int32 × MS) := fX11_failsAt_12 (va_up M.1 12 x1, M.2)
def fX11_failsAt_0 (M : MS) (a1 : Int32) : Option (Int32 × MS) := if (M.1 12) = 0 then fX11_failsAt_7 M a1 else fX11_failsAt_20 M
def fX11_failsAt (M : MS) (a1 : Int32) : Option (Int32 × MS) := bz (fX11_failsAt_0  M a1)
def fX11_isNameAt_69 (M : MS) : Option (Int32) := some 1
def fX11_isNameAt_63 (K24 : MS → Int32 → Int32 → Option (Int32)) (M : MS) (x1 : Int32) (x2 : Int32) : Option (Int32) := K24 M x1 (x2 + 1)
def fX11_isNameAt_61 (M : MS) : Option (Int32) := some 0
def fX11_isNameAt_37 (K24 : MS → Int32 → Int32 → Option (Int32)) (M : MS) (x1 : Int32) (x2 : Int32) : Option (Int32) := if gIn ((x1 + 1) + x2) 257 then if gIn ((M.1 15) + x2) 600 then if (M.2 0 ((x1 + 1) + x2).toNatClampNeg) = (M.2 8 ((M.1 15) + x2).toNatClampNeg) then fX11_isNameAt_63 K24 M x1 x2 else fX11_isNameAt_61 M else none else none
def fX11_isNameAt_24 : Nat → MS → Int32 → Int32 → Option (Int32)
  | 0 => fun _ _ _ => none
  | k + 1 => fun M x1 x2 => if ((M.1 14) - (M.1 15)) ≤ x2 then fX11_isNameAt_69 M else fX11_isNameAt_37 (fX11_isNameAt_24 k) M x1 x2
def fX11_isNameAt_22 (M : MS) (x1 : Int32) : Option (Int32) := fX11_isNameAt_24 FU M x1 0
def fX11_isNameAt_20 (M : MS) : Option (Int32) := some 0
def fX11_isNameAt_0 (M : MS) (a1 : Int32) : Option (Int32) := if gIn (a1 + 0) 257 then if (M.2 0 (a1 + 0).toNatClampNeg) = ((M.1 14) - (M.1 15)) then fX11_isNameAt_22 M a1 else fX11_isNameAt_20 M else none
def fX11_isNameAt (M : MS) (a1 : Int32) : Option (Int32) := bq (fX11_isNameAt_0  M a1)
def fX11_endsText_21 (M : MS) : Option (MS) := some M
def fX11_endsText_13 (M : MS) : Option (MS) := fX11_endsText_21 (va_up M.1 11 (M.1 13), M.2)
def fX11_endsText_5 (M : MS) : Option (MS) := fX11_endsText_13 (va_up M.1 10 (M.1 12), M.2)
def fX11_endsText_0 (M : MS) : Option (MS) := fX11_endsText_5 (va_up M.1 9 0, M.2)
def fX11_endsText (M : MS) : Option (MS) := fX11_endsText_0  M
def fX11_errorCode_5 (M : MS) : Option (Int32 × MS) := some ((M.1 10), M)
def fX11_errorCode_0 (M : MS) : Option (Int32 × MS) := fX11_errorCode_5 (va_up M.1 7 0, M.2)
def fX11_errorCode (M : MS) : Option (Int32 × MS) := fX11_errorCode_0  M
def fX11_errorOffset_5 (M : MS) : Option (Int32 × MS) := some ((M.1 11), M)
def fX11_errorOffset_0 (M : MS) : Option (Int32 × MS) := fX11_errorOffset_5 (va_up M.1 7 0, M.2)
def fX11_errorOffset (M : MS) : Option (Int32 × MS) := fX11_errorOffset_0  M
def fX11_clock_5 (M : MS) : Option (Int32 × MS) := if gIn 3 257 then some ((M.2 0 (3 : Int32).toNatClampNeg), M) else none
def fX11_clock_0 (M : MS) : Option (Int32 × MS) := fX11_clock_5 (va_up M.1 7 0, M.2)
def fX11_clock (M : MS) : Option (Int32 × MS) := fX11_clock_0  M
def fX11_catCount_5 (M : MS) : Option (Int32 × MS) := if gIn 0 257 then some ((M.2 0 (0 : Int32).toNatClampNeg), M) else none
def fX11_catCount_0 (M : MS) : Option (Int32 × MS) := fX11_catCount_5 (va_up M.1 7 0, M.2)
def fX11_catCount (M : MS) : Option (Int32 × MS) := fX11_catCount_0  M
def fX11_sackCount_5 (M : MS) : Option (Int32 × MS) := if gIn 1 257 then some ((M.2 0 (1 : Int32).toNatClampNeg), M) else none
def fX11_sackCount_0 (M : MS) : Option (Int32 × MS) := fX11_sackCount_5 (va_up M.1 7 0, M.2)
def fX11_sackCount (M : MS) : Option (Int32 × MS) := fX11_sackCount_0  M
def fX11_shiftCount_5 (M : MS) : Option (Int32 × MS) := if gIn 2 257 then some ((M.2 0 (2 : Int32).toNatClampNeg), M) else none
def fX11_shiftCount_0 (M : MS) : Option (Int32 × MS) := fX11_shiftCount_5 (va_up M.1 7 0, M.2)
def fX11_shiftCount (M : MS) : Option (Int32 × MS) := fX11_shiftCount_0  M
def fX11_swornCat_5 (M : MS) : Option (Int32 × MS) := if gIn 5 257 then some ((M.2 0 (5 : Int32).toNatClampNeg), M) else none
def fX11_swornCat_0 (M : MS) : Option (Int32 × MS) := fX11_swornCat_5 (va_up M.1 7 0, M.2)
def fX11_swornCat (M : MS) : Option (Int32 × MS) := fX11_swornCat_0  M
def fX11_currentShift_5 (M : MS) : Option (Int32 × MS) := if gIn 6 257 then some ((M.2 0 (6 : Int32).toNatClampNeg), M) else none
def fX11_currentShift_0 (M : MS) : Option (Int32 × MS) := fX11_currentShift_5 (va_up M.1 7 0, M.2)
def fX11_currentShift (M : MS) : Option (Int32 × MS) := fX11_currentShift_0  M
def fX11_hoursLeft_5 (M : MS) : Option (Int32 × MS) := if gIn 7 257 then some ((M.2 0 (7 : Int32).toNatClampNeg), M) else none
def fX11_hoursLeft_0 (M : MS) : Option (Int32 × MS) := fX11_hoursLeft_5 (va_up M.1 7 0, M.2)
def fX11_hoursLeft (M : MS) : Option (Int32 × MS) := fX11_hoursLeft_0  M
def fX11_eventCount_5 (M : MS) : Option (Int32 × MS) := if gIn 16 257 then some ((M.2 0 (16 : Int32).toNatClampNeg), M) else none
def fX11_eventCount_0 (M : MS) : Option (Int32 × MS) := fX11_eventCount_5 (va_up M.1 7 0, M.2)
def fX11_eventCount (M : MS) : Option (Int32 × MS) := fX11_eventCount_0  M
def fX11_milk_5 (M : MS) : Option (Int32 × MS) := if gIn 4 257 then some ((M.2 0 (4 : Int32).toNatClampNeg), M) else none
def fX11_milk_0 (M : MS) : Option (Int32 × MS) := fX11_milk_5 (va_up M.1 7 0, M.2)
def fX11_milk (M : MS) : Option (Int32 × MS) := fX11_milk_0  M
def fX11_totalCaught_5 (M : MS) : Option (Int32 × MS) := if gIn 8 257 then some ((M.2 0 (8 : Int32).toNatClampNeg), M) else none
def fX11_totalCaught_0 (M : MS) : Option (Int32 × MS) := fX11_totalCaught_5 (va_up M.1 7 0, M.2)
def fX11_totalCaught (M : MS) : Option (Int32 × MS) := fX11_totalCaught_0  M
def fX11_totalEaten_5 (M : MS) : Option (Int32 × MS) := if gIn 9 257 then some ((M.2 0 (9 : Int32).toNatClampNeg), M) else none
def fX11_totalEaten_0 (M : MS) : Option (Int32 × MS) := fX11_totalEaten_5 (va_up M.1 7 0, M.2)
def fX11_totalEaten (M : MS) : Option (Int32 × MS) := fX11_totalEaten_0  M
def fX11_totalBorn_5 (M : MS) : Option (Int32 × MS) := if gIn 10 257 then some ((M.2 0 (10 : Int32).toNatClampNeg), M) else none
def fX11_totalBorn_0 (M : MS) : Option (Int32 × MS) := fX11_totalBorn_5 (va_up M.1 7 0, M.2)
def fX11_totalBorn (M : MS) : Option (Int32 × MS) := fX11_totalBorn_0  M
def fX11_totalStarved_5 (M : MS) : Option (Int32 × MS) := if gIn 11 257 then some ((M.2 0 (11 : Int32).toNatClampNeg), M) else none
def fX11_totalStarved_0 (M : MS) : Option (Int32 × MS) := fX11_totalStarved_5 (va_up M.1 7 0, M.2)
def fX11_totalStarved (M : MS) : Option (Int32 × MS) := fX11_totalStarved_0  M
def fX11_totalOaths_5 (M : MS) : Option (Int32 × MS) := if gIn 12 257 then some ((M.2 0 (12 : Int32).toNatClampNeg), M) else none
def fX11_totalOaths_0 (M : MS) : Option (Int32 × MS) := fX11_totalOaths_5 (va_up M.1 7 0, M.2)
def fX11_totalOaths (M : MS) : Option (Int32 × MS) := fX11_totalOaths_0  M
def fX11_totalRefusals_5 (M : MS) : Option (Int32 × MS) := if gIn 13 257 then some ((M.2 0 (13 : Int32).toNatClampNeg), M) else none
def fX11_totalRefusals_0 (M : MS) : Option (Int32 × MS) := fX11_totalRefusals_5 (va_up M.1 7 0, M.2)
def fX11_totalRefusals (M : MS) : Option (Int32 × MS) := fX11_totalRefusals_0  M
def fX11_hourOfDay_5 (M : MS) : Option (Int32 × MS) := if gIn 3 257 then some (((M.2 0 (3 : Int32).toNatClampNeg) - (M.2 0 (3 : Int32).toNatClampNeg) / 24 * 24), M) else none
def fX11_hourOfDay_0 (M : MS) : Option (Int32 × MS) := fX11_hourOfDay_5 (va_up M.1 7 0, M.2)
def fX11_hourOfDay (M : MS) : Option (Int32 × MS) := fX11_hourOfDay_0  M
def fX11_write_20 (M : MS) : Option (MS) := some M
def fX11_write_10 (M : MS) : Option (MS) := fX11_write_20 (va_up M.1 24 ((M.1 24) + 1), M.2)
def fX11_write_0 (M : MS) (a1 : Int32) : Option (MS) := if gIn (M.1 24) 200 then fX11_write_10 (M.1, va_up M.2 23 (upd (M.2 23) (M.1 24).toNatClampNeg a1)) else none
def fX11_write (M : MS) (a1 : Int32) : Option (MS) := fX11_write_0  M a1
def fX11_addsCat_44 (M : MS) : Option (MS) := some M
def fX11_addsCat_34 (M : MS) : Option (MS) := if gIn 0 257 then if gIn 0 257 then fX11_addsCat_44 (M.1, va_up M.2 0 (upd (M.2 0) (0 : Int32).toNatClampNeg ((M.2 0 (0 : Int32).toNatClampNeg) + 1))) else none else none
def fX11_addsCat_25 (M : MS) (x3 : Int32) (x4 : Int32) : Option (MS) := (fX11_putsCat M x4 8 x3).bind fun q => fX11_addsCat_34 q
def fX11_addsCat_16 (M : MS) (x2 : Int32) (x3 : Int32) (x4 : Int32) : Option (MS) := (fX11_putsCat M x4 7 x2).bind fun q => fX11_addsCat_25 q x3 x4
def fX11_addsCat_0 (M : MS) (a1 : Int32) (a2 : Int32) (a3 : Int32) : Option (MS) := if gIn 0 257 then (fX11_putsCat M (M.2 0 (0 : Int32).toNatClampNeg) 0 a1).bind fun q => fX11_addsCat_16 q a2 a3 (M.2 0 (0 : Int32).toNatClampNeg) else none
def fX11_addsCat (M : MS) (a1 : Int32) (a2 : Int32) (a3 : Int32) : Option (MS) := fX11_addsCat_0  M a1 a2 a3
def fX11_addsSack_54 (M : MS) : Option (MS) := some M
def fX11_addsSack_44 (M : MS) : Option (MS) := if gIn 1 257 then if gIn 1 257 then fX11_addsSack_54 (M.1, va_up M.2 0 (upd (M.2 0) (1 : Int32).toNatClampNeg ((M.2 0 (1 : Int32).toNatClampNeg) + 1))) else none else none
def fX11_addsSack_34 (M : MS) (x4 : Int32) (x5 : Int32) : Option (MS) := (fX11_putsSack M x5 9 x4).bind fun q => fX11_addsSack_44 q
def fX11_addsSack_25 (M : MS) (x3 : Int32) (x4 : Int32) (x5 : Int32) : Option (MS) := (fX11_putsSack M x5 8 x3).bind fun q => fX11_addsSack_34 q x4 x5
def fX11_addsSack_16 (M : MS) (x2 : Int32) (x3 : Int32) (x4 : Int32) (x5 : Int32) : Option (MS) := (fX11_putsSack M x5 7 x2).bind fun q => fX11_addsSack_25 q x3 x4 x5
def fX11_addsSack_0 (M : MS) (a1 : Int32) (a2 : Int32) (a3 : Int32) (a4 : Int32) : Option (MS) := if gIn 1 257 then (fX11_putsSack M (M.2 0 (1 : Int32).toNatClampNeg) 0 a1).bind fun q => fX11_addsSack_16 q a2 a3 a4 (M.2 0 (1 : Int32).toNatClampNeg) else none
def fX11_addsSack (M : MS) (a1 : Int32) (a2 : Int32) (a3 : Int32) (a4 : Int32) : Option (MS) := fX11_addsSack_0  M a1 a2 a3 a4
def fX11_swearsIn_34 (M : MS) : Option (MS) := some M
def fX11_swearsIn_29 (M : MS) (s0 : Int32) (s1 : Int32) (s2 : Int32) : Option (MS) := (fX11_putsCat M s2 s1 (s0 + 1)).bind fun q => fX11_swearsIn_34 q
def fX11_swearsIn_18 (M : MS) (x1 : Int32) : Option (MS) := (fX11_ofCat M x1 11).bind fun q => fX11_swearsIn_29 M q 11 x1
def fX11_swearsIn_7 (M : MS) (x1 : Int32) : Option (MS) := if gIn 12 257 then if gIn 12 257 then fX11_swearsIn_18 (M.1, va_up M.2 0 (upd (M.2 0) (12 : Int32).toNatClampNeg ((M.2 0 (12 : Int32).toNatClampNeg) + 1))) x1 else none else none
def fX11_swearsIn_0 (M : MS) (a1 : Int32) : Option (MS) := if gIn 5 257 then fX11_swearsIn_7 (M.1, va_up M.2 0 (upd (M.2 0) (5 : Int32).toNatClampNeg a1)) a1 else none
def fX11_swearsIn (M : MS) (a1 : Int32) : Option (MS) := fX11_swearsIn_0  M a1
def fX11_strength_15 (M : MS) (s0 : Int32) (s1 : Int32) (s2 : Int32) : Option (Int32) := some (if s2 < (s1 - (s0 / 4)) then (s1 - (s0 / 4)) else s2)
def fX11_strength_8 (M : MS) (x1 : Int32) (s0 : Int32) (s1 : Int32) : Option (Int32) := (fX11_ofCat M x1 9).bind fun q => fX11_strength_15 M q s0 s1
def fX11_strength_0 (M : MS) (a1 : Int32) : Option (Int32) := (fX11_ofCat M a1 7).bind fun q => fX11_strength_8 M a1 q 0
def fX11_strength (M : MS) (a1 : Int32) : Option (Int32) := fX11_strength_0  M a1
def fX11_isAble_17 (M : MS) (s0 : Int32) : Option (Int32) := some s0
def fX11_isAble_16 (M : MS) : Option (Int32) := fX11_isAble_17 M 0
def fX11_isAble_12 (M : MS) : Option (Int32) := fX11_isAble_17 M 1
def fX11_isAble_7 (M : MS) (s0 : Int32) : Option (Int32) := if 12 ≤ s0 then fX11_isAble_16 M else fX11_isAble_12 M
def fX11_isAble_0 (M : MS) (a1 : Int32) : Option (Int32) := (fX11_ofCat M a1 9).bind fun q => fX11_isAble_7 M q
def fX11_isAble (M : MS) (a1 : Int32) : Option (Int32) := bq (fX11_isAble_0  M a1)
def fX11_isPawRight_37 (M : MS) (s0 : Int32) : Option (Int32) := some s0
def fX11_isPawRight_32 (M : MS) : Option (Int32) := fX11_isPawRight_37 M 1
def fX11_isPawRight_36 (M : MS) : Option (Int32) := fX11_isPawRight_37 M 0
def fX11_isPawRight_29 (M : MS) (s0 : Int32) (s1 : Int32) : Option (Int32) := if s1 = s0 then fX11_isPawRight_36 M else fX11_isPawRight_32 M
def fX11_isPawRight_17 (M : MS) (s0 : Int32) : Option (Int32) := if gIn 5 257 then (fX11_ofCat M (M.2 0 (5 : Int32).toNatClampNeg) 8).bind fun q => fX11_isPawRight_29 M q s0 else none
def fX11_isPawRight_10 (M : MS) (x1 : Int32) : Option (Int32) := (fX11_ofCat M x1 8).bind fun q => fX11_isPawRight_17 M q
def fX11_isPawRight_0 (M : MS) (a1 : Int32) : Option (Int32) := if gIn 5 257 then if a1 = (M.2 0 (5 : Int32).toNatClampNeg) then fX11_isPawRight_32 M else fX11_isPawRight_10 M a1 else none
def fX11_isPawRight (M : MS) (a1 : Int32) : Option (Int32) := bq (fX11_isPawRight_0  M a1)
def fX11_rests_20 (M : MS) : Option (MS) := some M
def fX11_rests_12 (M : MS) (x2 : Int32) (s0 : Int32) (s1 : Int32) (s2 : Int32) (s3 : Int32) : Option (MS) := (fX11_putsCat M s3 s2 (if s1 < (s0 - x2) then (s0 - x2) else s1)).bind fun q => fX11_rests_20 q
def fX11_rests_0 (M : MS) (a1 : Int32) (a2 : Int32) : Option (MS) := (fX11_ofCat M a1 9).bind fun q => fX11_rests_12 M a2 q 0 9 a1
def fX11_rests (M : MS) (a1 : Int32) (a2 : Int32) : Option (MS) := fX11_rests_0  M a1 a2
def fX11_isOpenSack_16 (M : MS) (s0 : Int32) : Option (Int32) := some s0
def fX11_isOpenSack_15 (M : MS) : Option (Int32) := fX11_isOpenSack_16 M 0
def fX11_isOpenSack_11 (M : MS) : Option (Int32) := fX11_isOpenSack_16 M 1
def fX11_isOpenSack_7 (M : MS) (s0 : Int32) : Option (Int32) := if s0 = 1 then fX11_isOpenSack_11 M else fX11_isOpenSack_15 M
def fX11_isOpenSack_0 (M : MS) (a1 : Int32) : Option (Int32) := (fX11_ofSack M a1 9).bind fun q => fX11_isOpenSack_7 M q
def fX11_isOpenSack (M : MS) (a1 : Int32) : Option (Int32) := bq (fX11_isOpenSack_0  M a1)
def fX11_starve_27 (M : MS) : Option (MS) := some M
def fX11_starve_16 (M : MS) (x2 : Int32) : Option (MS) := if gIn 11 257 then if gIn 11 257 then fX11_starve_27 (M.1, va_up M.2 0 (upd (M.2 0) (11 : Int32).toNatClampNeg ((M.2 0 (11 : Int32).toNatClampNeg) + x2))) else none else none
def fX11_starve_11 (M : MS) (x2 : Int32) (s0 : Int32) (s1 : Int32) (s2 : Int32) : Option (MS) := (fX11_putsSack M s2 s1 (s0 - x2)).bind fun q => fX11_starve_16 q x2
def fX11_starve_0 (M : MS) (a1 : Int32) (a2 : Int32) : Option (MS) := (fX11_ofSack M a1 8).bind fun q => fX11_starve_11 M a2 q 8 a1
def fX11_starve (M : MS) (a1 : Int32) (a2 : Int32) : Option (MS) := fX11_starve_0  M a1 a2
def fX11_breeds_50 (M : MS) : Option (MS) := some M
def fX11_breeds_39 (M : MS) (x2 : Int32) : Option (MS) := if gIn 10 257 then if gIn 10 257 then fX11_breeds_50 (M.1, va_up M.2 0 (upd (M.2 0) (10 : Int32).toNatClampNeg ((M.2 0 (10 : Int32).toNatClampNeg) + x2))) else none else none
def fX11_breeds_34 (M : MS) (x2 : Int32) (s0 : Int32) (s1 : Int32) (s2 : Int32) : Option (MS) := (fX11_putsSack M s2 s1 (s0 + x2)).bind fun q => fX11_breeds_39 q x2
def fX11_breeds_18 (M : MS) (x1 : Int32) (s0 : Int32) (s1 : Int32) (s2 : Int32) : Option (MS) := (fX11_ofSack M x1 8).bind fun q => fX11_breeds_34 M (if (s1 - s0) < s2 then (s1 - s0) else s2) q 8 x1
def fX11_breeds_7 (M : MS) (x1 : Int32) (s0 : Int32) : Option (MS) := (fX11_ofSack M x1 8).bind fun q => fX11_breeds_18 M x1 q 99 (s0 / 2)
def fX11_breeds_0 (M : MS) (a1 : Int32) : Option (MS) := (fX11_ofSack M a1 8).bind fun q => fX11_breeds_7 M a1 q
def fX11_breeds (M : MS) (a1 : Int32) : Option (MS) := fX11_breeds_0  M a1
def fX11_openMany_10 (M : MS) (s0 : Int32) : Option (Int32) := some s0
def fX11_openMany_0 (M : MS) : Option (Int32) := (fX11_sumOf M 161 1 9).bind fun q => fX11_openMany_10 M q
def fX11_openMany (M : MS) : Option (Int32) := fX11_openMany_0  M
def fX11_mayAddMice_19 (M : MS) (s0 : Int32) : Option (Int32) := some s0
def fX11_mayAddMice_18 (M : MS) : Option (Int32) := fX11_mayAddMice_19 M 0
def fX11_mayAddMice_14 (M : MS) : Option (Int32) := fX11_mayAddMice_19 M 1
def fX11_mayAddMice_7 (M : MS) (x2 : Int32) (s0 : Int32) : Option (Int32) := if 99 < (s0 + x2) then fX11_mayAddMice_18 M else fX11_mayAddMice_14 M
def fX11_mayAddMice_0 (M : MS) (a1 : Int32) (a2 : Int32) : Option (Int32) := (fX11_ofSack M a1 8).bind fun q => fX11_mayAddMice_7 M a2 q
def fX11_mayAddMice (M : MS) (a1 : Int32) (a2 : Int32) : Option (Int32) := bq (fX11_mayAddMice_0  M a1 a2)
def fX11_addsMice_34 (M : MS) (s0 : Int32) : Option (Int32 × MS) := some (s0, M)
def fX11_addsMice_27 (M : MS) (x1 : Int32) : Option (Int32 × MS) := (fX11_ofSack M x1 8).bind fun q => fX11_addsMice_34 M q
def fX11_addsMice_16 (M : MS) (x1 : Int32) (x2 : Int32) : Option (Int32 × MS) := if gIn 14 257 then if gIn 14 257 then fX11_addsMice_27 (M.1, va_up M.2 0 (upd (M.2 0) (14 : Int32).toNatClampNeg ((M.2 0 (14 : Int32).toNatClampNeg) + x2))) x1 else none else none
def fX11_addsMice_11 (M : MS) (x1 : Int32) (x2 : Int32) (s0 : Int32) (s1 : Int32) (s2 : Int32) : Option (Int32 × MS) := (fX11_putsSack M s2 s1 (s0 + x2)).bind fun q => fX11_addsMice_16 q x1 x2
def fX11_addsMice_0 (M : MS) (a1 : Int32) (a2 : Int32) : Option (Int32 × MS) := (fX11_ofSack M a1 8).bind fun q => fX11_addsMice_11 M a1 a2 q 8 a1
def fX11_addsMice (M : MS) (a1 : Int32) (a2 : Int32) : Option (Int32 × MS) := fX11_addsMice_0  M a1 a2
def fX11_mayAddGrain_20 (M : MS) (s0 : Int32) : Option (Int32) := some s0
def fX11_mayAddGrain_19 (M : MS) : Option (Int32) := fX11_mayAddGrain_20 M 0
def fX11_mayAddGrain_15 (M : MS) : Option (Int32) := fX11_mayAddGrain_20 M 1
def fX11_mayAddGrain_7 (M : MS) (x2 : Int32) (s0 : Int32) : Option (Int32) := if 9999 < (s0 + x2) then fX11_mayAddGrain_19 M else fX11_mayAddGrain_15 M
def fX11_mayAddGrain_0 (M : MS) (a1 : Int32) (a2 : Int32) : Option (Int32) := (fX11_ofSack M a1 7).bind fun q => fX11_mayAddGrain_7 M a2 q
def fX11_mayAddGrain (M : MS) (a1 : Int32) (a2 : Int32) : Option (Int32) := bq (fX11_mayAddGrain_0  M a1 a2)
def fX11_addsGrain_34 (M : MS) (s0 : Int32) : Option (Int32 × MS) := some (s0, M)
def fX11_addsGrain_27 (M : MS) (x1 : Int32) : Option (Int32 × MS) := (fX11_ofSack M x1 7).bind fun q => fX11_addsGrain_34 M q
def fX11_addsGrain_16 (M : MS) (x1 : Int32) (x2 : Int32) : Option (Int32 × MS) := if gIn 15 257 then if gIn 15 257 then fX11_addsGrain_27 (M.1, va_up M.2 0 (upd (M.2 0) (15 : Int32).toNatClampNeg ((M.2 0 (15 : Int32).toNatClampNeg) + x2))) x1 else none else none
def fX11_addsGrain_11 (M : MS) (x1 : Int32) (x2 : Int32) (s0 : Int32) (s1 : Int32) (s2 : Int32) : Option (Int32 × MS) := (fX11_putsSack M s2 s1 (s0 + x2)).bind fun q => fX11_addsGrain_16 q x1 x2
def fX11_addsGrain_0 (M : MS) (a1 : Int32) (a2 : Int32) : Option (Int32 × MS) := (fX11_ofSack M a1 7).bind fun q => fX11_addsGrain_11 M a1 a2 q 7 a1
def fX11_addsGrain (M : MS) (a1 : Int32) (a2 : Int32) : Option (Int32 × MS) := fX11_addsGrain_0  M a1 a2
def fX11_remembers_80 (M : MS) : Option (MS) := some M
def fX11_remembers_70 (M : MS) : Option (MS) := fX11_remembers_80 (va_up M.1 5 ((M.1 5) + 1), M.2)
def fX11_remembers_50 (M : MS) : Option (MS) := (fX11_copies M 0 0 4 (257 * (M.1 5))).bind fun q => fX11_remembers_70 q
def fX11_remembers_40 (M : MS) : Option (MS) := fX11_remembers_50 (va_up M.1 5 ((M.1 5) - 1), M.2)
def fX11_remembers_34 (K11 : MS → Int32 → Option (MS)) (M : MS) (x1 : Int32) : Option (MS) := K11 M (x1 + 1)
def fX11_remembers_18 (K11 : MS → Int32 → Option (MS)) (M : MS) (x1 : Int32) : Option (MS) := if gIn (x1 + 257) 2056 then if gIn x1 2056 then fX11_remembers_34 K11 (M.1, va_up M.2 4 (upd (M.2 4) x1.toNatClampNeg (M.2 4 (x1 + 257).toNatClampNeg))) x1 else none else none
def fX11_remembers_11 : Nat → MS → Int32 → Option (MS)
  | 0 => fun _ _ => none
  | k + 1 => fun M x1 => if 1799 ≤ x1 then fX11_remembers_40 M else fX11_remembers_18 (fX11_remembers_11 k) M x1
def fX11_remembers_9 (M : MS) : Option (MS) := fX11_remembers_11 FU M 0
def fX11_remembers_0 (M : MS) : Option (MS) := if (M.1 5) = 8 then fX11_remembers_9 M else fX11_remembers_50 M
def fX11_remembers (M : MS) : Option (MS) := fX11_remembers_0  M
def fX11_goesAside_13 (M : MS) : Option (MS) := some M
def fX11_goesAside_0 (M : MS) : Option (MS) := (fX11_copies M 0 0 2 0).bind fun q => fX11_goesAside_13 q
def fX11_goesAside (M : MS) : Option (MS) := fX11_goesAside_0  M
def fX11_goesBack_13 (M : MS) (x1 : Int32) : Option (Int32 × MS) := some (x1, M)
def fX11_goesBack_0 (M : MS) (a1 : Int32) : Option (Int32 × MS) := (fX11_copies M 2 0 0 0).bind fun q => fX11_goesBack_13 q a1
def fX11_goesBack (M : MS) (a1 : Int32) : Option (Int32 × MS) := fX11_goesBack_0  M a1
def fX11_appendInput_47 (M : MS) : Option (Int32 × MS) := some ((M.1 9), M)
def fX11_appendInput_41 (M : MS) (x5 : Int32) : Option (Int32 × MS) := (fX11_appendWord M x5).bind fun q => fX11_appendInput_47 q
def fX11_appendInput_35 (M : MS) (x4 : Int32) (x5 : Int32) : Option (Int32 × MS) := (fX11_appendWord M x4).bind fun q => fX11_appendInput_41 q x5
def fX11_appendInput_30 (M : MS) (x3 : Int32) (x4 : Int32) (x5 : Int32) : Option (Int32 × MS) := (fX11_appendWord M x3).bind fun q => fX11_appendInput_35 q x4 x5
def fX11_appendInput_25 (M : MS) (x2 : Int32) (x3 : Int32) (x4 : Int32) (x5 : Int32) : Option (Int32 × MS) := (fX11_appendWord M x2).bind fun q => fX11_appendInput_30 q x3 x4 x5
def fX11_appendInput_20 (M : MS) (x1 : Int32) (x2 : Int32) (x3 : Int32) (x4 : Int32) (x5 : Int32) : Option (Int32 × MS) := (fX11_appendWord M x1).bind fun q => fX11_appendInput_25 q x2 x3 x4 x5
def fX11_appendInput_18 (M : MS) : Option (Int32 × MS) := some ((-1), M)
def fX11_appendInput_5 (M : MS) (x1 : Int32) (x2 : Int32) (x3 : Int32) (x4 : Int32) (x5 : Int32) : Option (Int32 × MS) := if ((M.1 9) + 20) ≤ 600 then fX11_appendInput_20 M x1 x2 x3 x4 x5 else fX11_appendInput_18 M
def fX11_appendInput_0 (M : MS) (a1 : Int32) (a2 : Int32) (a3 : Int32) (a4 : Int32) (a5 : Int32) : Option (Int32 × MS) := fX11_appendInput_5 (va_up M.1 7 0, M.2) a1 a2 a3 a4 a5
def fX11_appendInput (M : MS) (a1 : Int32) (a2 : Int32) (a3 : Int32) (a4 : Int32) (a5 : Int32) : Option (Int32 × MS) := fX11_appendInput_0  M a1 a2 a3 a4 a5
def fX11_truncateInput_24 (M : MS) : Option (Int32 × MS) := some (1, M)
def fX11_truncateInput_19 (M : MS) (x1 : Int32) : Option (Int32 × MS) := fX11_truncateInput_24 (va_up M.1 9 x1, M.2)
def fX11_truncateInput_17 (M : MS) : Option (Int32 × MS) := some (0, M)
def fX11_truncateInput_14 (M : MS) (x1 : Int32) (s0 : Int32) : Option (Int32 × MS) := if s0 = 0 then fX11_truncateInput_17 M else fX11_truncateInput_19 M x1
def fX11_truncateInput_5 (M : MS) (x1 : Int32) : Option (Int32 × MS) := (fX11_inRange M x1 0 (M.1 9)).bind fun q => fX11_truncateInput_14 M x1 q
def fX11_truncateInput_0 (M : MS) (a1 : Int32) : Option (Int32 × MS) := fX11_truncateInput_5 (va_up M.1 7 0, M.2) a1
def fX11_truncateInput (M : MS) (a1 : Int32) : Option (Int32 × MS) := bz (fX11_truncateInput_0  M a1)
def fX11_isLetter_12 (M : MS) (s0 : Int32) : Option (Int32) := some s0
def fX11_isLetter_5 (M : MS) (s0 : Int32) : Option (Int32) := (fX11_inRange M s0 97 122).bind fun q => fX11_isLetter_12 M q
def fX11_isLetter_0 (M : MS) (a1 : Int32) : Option (Int32) := (fX11_byteAt M a1).bind fun q => fX11_isLetter_5 M q
def fX11_isLetter (M : MS) (a1 : Int32) : Option (Int32) := bq (fX11_isLetter_0  M a1)
def fX11_seesNumber_40 (M : MS) : Option (Int32 × MS) := some (1, M)
def fX11_seesNumber_32 (M : MS) : Option (Int32 × MS) := fX11_seesNumber_40 (va_up M.1 18 (M.1 16), M.2)
def fX11_seesNumber_31 (M : MS) (s0 : Int32) : Option (Int32 × MS) := some (s0, M)
def fX11_seesNumber_26 (M : MS) : Option (Int32 × MS) := (fX11_failsAt M 2).bind fun q => fX11_seesNumber_31 q.2 q.1
def fX11_seesNumber_23 (M : MS) (s0 : Int32) : Option (Int32 × MS) := if s0 = 0 then fX11_seesNumber_26 M else fX11_seesNumber_32 M
def fX11_seesNumber_14 (M : MS) (x1 : Int32) (x2 : Int32) : Option (Int32 × MS) := (fX11_inRange M (M.1 16) x1 x2).bind fun q => fX11_seesNumber_23 M q
def fX11_seesNumber_13 (M : MS) (s0 : Int32) : Option (Int32 × MS) := some (s0, M)
def fX11_seesNumber_8 (M : MS) : Option (Int32 × MS) := (fX11_failsAt M 1).bind fun q => fX11_seesNumber_13 q.2 q.1
def fX11_seesNumber_0 (M : MS) (a1 : Int32) (a2 : Int32) : Option (Int32 × MS) := if (M.1 17) = 2 then fX11_seesNumber_14 M a1 a2 else fX11_seesNumber_8 M
def fX11_seesNumber (M : MS) (a1 : Int32) (a2 : Int32) : Option (Int32 × MS) := bz (fX11_seesNumber_0  M a1 a2)
def fX11_seesName_35 (M : MS) (s0 : Int32) : Option (Int32 × MS) := some (s0, M)
def fX11_seesName_34 (M : MS) : Option (Int32 × MS) := fX11_seesName_35 M 0
def fX11_seesName_30 (M : MS) : Option (Int32 × MS) := fX11_seesName_35 M 1
def fX11_seesName_27 (M : MS) (s0 : Int32) : Option (Int32 × MS) := if s0 = 0 then fX11_seesName_34 M else fX11_seesName_30 M
def fX11_seesName_22 (M : MS) : Option (Int32 × MS) := (fX11_failsAt M 1).bind fun q => fX11_seesName_27 q.2 q.1
def fX11_seesName_8 (M : MS) : Option (Int32 × MS) := if ((M.1 14) - (M.1 15)) ≤ 6 then fX11_seesName_30 M else fX11_seesName_22 M
def fX11_seesName_0 (M : MS) : Option (Int32 × MS) := if (M.1 17) = 1 then fX11_seesName_8 M else fX11_seesName_22 M
def fX11_seesName (M : MS) : Option (Int32 × MS) := bz (fX11_seesName_0  M)
def fX11_nameHere_33 (M : MS) : Option (Int32) := some (-1)
def fX11_nameHere_27 (K2 : MS → Int32 → Int32 → Int32 → Option (Int32)) (M : MS) (x1 : Int32) (x2 : Int32) (x3 : Int32) : Option (Int32) := K2 M x1 x2 (x3 + 1)
def fX11_nameHere_25 (M : MS) (x3 : Int32) : Option (Int32) := some x3
def fX11_nameHere_22 (K2 : MS → Int32 → Int32 → Int32 → Option (Int32)) (M : MS) (x1 : Int32) (x2 : Int32) (x3 : Int32) (s0 : Int32) : Option (Int32) := if s0 = 0 then fX11_nameHere_27 K2 M x1 x2 x3 else fX11_nameHere_25 M x3
def fX11_nameHere_12 (K2 : MS → Int32 → Int32 → Int32 → Option (Int32)) (M : MS) (x1 : Int32) (x2 : Int32) (x3 : Int32) : Option (Int32) := (fX11_isNameAt M (x1 + (12 * x3))).bind fun q => fX11_nameHere_22 K2 M x1 x2 x3 q
def fX11_nameHere_2 : Nat → MS → Int32 → Int32 → Int32 → Option (Int32)
  | 0 => fun _ _ _ _ => none
  | k + 1 => fun M x1 x2 x3 => if gIn x2 257 then if (M.2 0 x2.toNatClampNeg) ≤ x3 then fX11_nameHere_33 M else fX11_nameHere_12 (fX11_nameHere_2 k) M x1 x2 x3 else none
def fX11_nameHere_0 (M : MS) (a1 : Int32) (a2 : Int32) : Option (Int32) := fX11_nameHere_2 FU M a1 a2 0
def fX11_nameHere (M : MS) (a1 : Int32) (a2 : Int32) : Option (Int32) := fX11_nameHere_0  M a1 a2
def fX11_noCat_26 (M : MS) (s0 : Int32) : Option (Int32 × MS) := some (s0, M)
def fX11_noCat_22 (M : MS) (s0 : Int32) : Option (Int32 × MS) := (fX11_fails M s0 1).bind fun q => fX11_noCat_26 q.2 q.1
def fX11_noCat_21 (M : MS) : Option (Int32 × MS) := fX11_noCat_22 M 0
def fX11_noCat_17 (M : MS) : Option (Int32 × MS) := fX11_noCat_22 M 1
def fX11_noCat_14 (M : MS) (s0 : Int32) : Option (Int32 × MS) := if s0 = 0 then fX11_noCat_17 M else fX11_noCat_21 M
def fX11_noCat_0 (M : MS) (a1 : Int32) : Option (Int32 × MS) := if gIn 0 257 then (fX11_inRange M a1 0 ((M.2 0 (0 : Int32).toNatClampNeg) - 1)).bind fun q => fX11_noCat_14 M q else none
def fX11_noCat (M : MS) (a1 : Int32) : Option (Int32 × MS) := bz (fX11_noCat_0  M a1)
def fX11_noSack_26 (M : MS) (s0 : Int32) : Option (Int32 × MS) := some (s0, M)
def fX11_noSack_22 (M : MS) (s0 : Int32) : Option (Int32 × MS) := (fX11_fails M s0 1).bind fun q => fX11_noSack_26 q.2 q.1
def fX11_noSack_21 (M : MS) : Option (Int32 × MS) := fX11_noSack_22 M 0
def fX11_noSack_17 (M : MS) : Option (Int32 × MS) := fX11_noSack_22 M 1
def fX11_noSack_14 (M : MS) (s0 : Int32) : Option (Int32 × MS) := if s0 = 0 then fX11_noSack_17 M else fX11_noSack_21 M
def fX11_noSack_0 (M : MS) (a1 : Int32) : Option (Int32 × MS) := if gIn 1 257 then (fX11_inRange M a1 0 ((M.2 0 (1 : Int32).toNatClampNeg) - 1)).bind fun q => fX11_noSack_14 M q else none
def fX11_noSack (M : MS) (a1 : Int32) : Option (Int32 × MS) := bz (fX11_noSack_0  M a1)
def fX11_noShift_26 (M : MS) (s0 : Int32) : Option (Int32 × MS) := some (s0, M)
def fX11_noShift_22 (M : MS) (s0 : Int32) : Option (Int32 × MS) := (fX11_fails M s0 1).bind fun q => fX11_noShift_26 q.2 q.1
def fX11_noShift_21 (M : MS) : Option (Int32 × MS) := fX11_noShift_22 M 0
def fX11_noShift_17 (M : MS) : Option (Int32 × MS) := fX11_noShift_22 M 1
def fX11_noShift_14 (M : MS) (s0 : Int32) : Option (Int32 × MS) := if s0 = 0 then fX11_noShift_17 M else fX11_noShift_21 M
def fX11_noShift_0 (M : MS) (a1 : Int32) : Option (Int32 × MS) := if gIn 2 257 then (fX11_inRange M a1 0 ((M.2 0 (2 : Int32).toNatClampNeg) - 1)).bind fun q => fX11_noShift_14 M q else none
def fX11_noShift (M : MS) (a1 : Int32) : Option (Int32 × MS) := bz (fX11_noShift_0  M a1)
def fX11_noHours_21 (M : MS) (s0 : Int32) : Option (Int32 × MS) := some (s0, M)
def fX11_noHours_17 (M : MS) (x2 : Int32) (s0 : Int32) : Option (Int32 × MS) := (fX11_fails M s0 x2).bind fun q => fX11_noHours_21 q.2 q.1
def fX11_noHours_16 (M : MS) (x2 : Int32) : Option (Int32 × MS) := fX11_noHours_17 M x2 0
def fX11_noHours_12 (M : MS) (x2 : Int32) : Option (Int32 × MS) := fX11_noHours_17 M x2 1
def fX11_noHours_9 (M : MS) (x2 : Int32) (s0 : Int32) : Option (Int32 × MS) := if s0 = 0 then fX11_noHours_12 M x2 else fX11_noHours_16 M x2
def fX11_noHours_0 (M : MS) (a1 : Int32) (a2 : Int32) : Option (Int32 × MS) := (fX11_inRange M a1 0 200).bind fun q => fX11_noHours_9 M a2 q
def fX11_noHours (M : MS) (a1 : Int32) (a2 : Int32) : Option (Int32 × MS) := bz (fX11_noHours_0  M a1 a2)
def fX11_logged_34 (M : MS) (s0 : Int32) : Option (Int32) := some s0
def fX11_logged_33 (M : MS) : Option (Int32) := fX11_logged_34 M (-1)
def fX11_logged_17 (M : MS) (x1 : Int32) (x2 : Int32) : Option (Int32) := if gIn ((17 + (3 * x1)) + x2) 257 then fX11_logged_34 M (M.2 0 ((17 + (3 * x1)) + x2).toNatClampNeg) else none
def fX11_logged_14 (M : MS) (x1 : Int32) (x2 : Int32) (s0 : Int32) : Option (Int32) := if s0 = 0 then fX11_logged_33 M else fX11_logged_17 M x1 x2
def fX11_logged_0 (M : MS) (a1 : Int32) (a2 : Int32) : Option (Int32) := if gIn 16 257 then (fX11_inRange M a1 0 ((M.2 0 (16 : Int32).toNatClampNeg) - 1)).bind fun q => fX11_logged_14 M a1 a2 q else none
def fX11_logged (M : MS) (a1 : Int32) (a2 : Int32) : Option (Int32) := fX11_logged_0  M a1 a2
def fX11_miceBackwards_31 (M : MS) (x1 : Int32) : Option (Int32) := some x1
def fX11_miceBackwards_23 (K11 : MS → Int32 → Int32 → Option (Int32)) (M : MS) (x2 : Int32) (s0 : Int32) (s1 : Int32) : Option (Int32) := K11 M (s1 + s0) (x2 + (-1))
def fX11_miceBackwards_15 (K11 : MS → Int32 → Int32 → Option (Int32)) (M : MS) (x1 : Int32) (x2 : Int32) : Option (Int32) := (fX11_ofSack M x2 8).bind fun q => fX11_miceBackwards_23 K11 M x2 q x1
def fX11_miceBackwards_11 : Nat → MS → Int32 → Int32 → Option (Int32)
  | 0 => fun _ _ _ => none
  | k + 1 => fun M x1 x2 => if x2 < 0 then fX11_miceBackwards_31 M x1 else fX11_miceBackwards_15 (fX11_miceBackwards_11 k) M x1 x2
def fX11_miceBackwards_0 (M : MS) : Option (Int32) := if gIn 1 257 then fX11_miceBackwards_11 FU M 0 ((M.2 0 (1 : Int32).toNatClampNeg) - 1) else none
def fX11_miceBackwards (M : MS) : Option (Int32) := fX11_miceBackwards_0  M
def fX11_undo_57 (M : MS) : Option (Int32 × MS) := some ((M.1 5), M)
def fX11_undo_37 (M : MS) : Option (Int32 × MS) := (fX11_copies M 4 (257 * (M.1 5)) 0 0).bind fun q => fX11_undo_57 q
def fX11_undo_27 (M : MS) : Option (Int32 × MS) := fX11_undo_37 (va_up M.1 5 ((M.1 5) - 1), M.2)
def fX11_undo_25 (M : MS) : Option (Int32 × MS) := some (0, M)
def fX11_undo_22 (M : MS) (s0 : Int32) : Option (Int32 × MS) := if s0 = 0 then fX11_undo_27 M else fX11_undo_25 M
def fX11_undo_18 (M : MS) (s0 : Int32) : Option (Int32 × MS) := (fX11_fails M s0 1).bind fun q => fX11_undo_22 q.2 q.1
def fX11_undo_17 (M : MS) : Option (Int32 × MS) := fX11_undo_18 M 0
def fX11_undo_13 (M : MS) : Option (Int32 × MS) := fX11_undo_18 M 1
def fX11_undo_5 (M : MS) : Option (Int32 × MS) := if (M.1 5) = 0 then fX11_undo_13 M else fX11_undo_17 M
def fX11_undo_0 (M : MS) : Option (Int32 × MS) := fX11_undo_5 (va_up M.1 7 0, M.2)
def fX11_undo (M : MS) : Option (Int32 × MS) := fX11_undo_0  M
def fX11_outputByte_29 (M : MS) (s0 : Int32) : Option (Int32 × MS) := some (s0, M)
def fX11_outputByte_28 (M : MS) : Option (Int32 × MS) := fX11_outputByte_29 M (-1)
def fX11_outputByte_19 (M : MS) (x1 : Int32) : Option (Int32 × MS) := if gIn x1 200 then fX11_outputByte_29 M (M.2 23 x1.toNatClampNeg) else none
def fX11_outputByte_16 (M : MS) (x1 : Int32) (s0 : Int32) : Option (Int32 × MS) := if s0 = 0 then fX11_outputByte_28 M else fX11_outputByte_19 M x1
def fX11_outputByte_5 (M : MS) (x1 : Int32) : Option (Int32 × MS) := (fX11_inRange M x1 0 ((M.1 24) - 1)).bind fun q => fX11_outputByte_16 M x1 q
def fX11_outputByte_0 (M : MS) (a1 : Int32) : Option (Int32 × MS) := fX11_outputByte_5 (va_up M.1 7 0, M.2) a1
def fX11_outputByte (M : MS) (a1 : Int32) : Option (Int32 × MS) := fX11_outputByte_0  M a1
def fX11_saveState_23 (M : MS) : Option (Int32 × MS) := if gIn 3 257 then some ((M.2 0 (3 : Int32).toNatClampNeg), M) else none
def fX11_saveState_18 (M : MS) : Option (Int32 × MS) := fX11_saveState_23 (va_up M.1 6 1, M.2)
def fX11_saveState_5 (M : MS) : Option (Int32 × MS) := (fX11_copies M 0 0 3 0).bind fun q => fX11_saveState_18 q
def fX11_saveState_0 (M : MS) : Option (Int32 × MS) := fX11_saveState_5 (va_up M.1 7 0, M.2)
def fX11_saveState (M : MS) : Option (Int32 × MS) := fX11_saveState_0  M
def fX11_restoreState_45 (M : MS) : Option (Int32 × MS) := if gIn 3 257 then some ((M.2 0 (3 : Int32).toNatClampNeg), M) else none
def fX11_restoreState_40 (M : MS) : Option (Int32 × MS) := fX11_restoreState_45 (va_up M.1 5 0, M.2)
def fX11_restoreState_27 (M : MS) : Option (Int32 × MS) := (fX11_copies M 3 0 0 0).bind fun q => fX11_restoreState_40 q
def fX11_restoreState_25 (M : MS) : Option (Int32 × MS) := some (0, M)
def fX11_restoreState_22 (M : MS) (s0 : Int32) : Option (Int32 × MS) := if s0 = 0 then fX11_restoreState_27 M else fX11_restoreState_25 M
def fX11_restoreState_18 (M : MS) (s0 : Int32) : Option (Int32 × MS) := (fX11_fails M s0 1).bind fun q => fX11_restoreState_22 q.2 q.1
def fX11_restoreState_17 (M : MS) : Option (Int32 × MS) := fX11_restoreState_18 M 0
def fX11_restoreState_13 (M : MS) : Option (Int32 × MS) := fX11_restoreState_18 M 1
def fX11_restoreState_5 (M : MS) : Option (Int32 × MS) := if (M.1 6) = 0 then fX11_restoreState_13 M else fX11_restoreState_17 M
def fX11_restoreState_0 (M : MS) : Option (Int32 × MS) := fX11_restoreState_5 (va_up M.1 7 0, M.2)
def fX11_restoreState (M : MS) : Option (Int32 × MS) := fX11_restoreState_0  M
def fX11_starts_55 (M : MS) : Option (MS) := some M
def fX11_starts_52 (M : MS) (s0 : Int32) : Option (MS) := (fX11_swearsIn M s0).bind fun q => fX11_starts_55 q
def fX11_starts_46 (M : MS) : Option (MS) := (fX11_shiftCat M 0).bind fun q => fX11_starts_52 M q
def fX11_starts_45 (M : MS) (s0 : Int32) (s1 : Int32) : Option (MS) := if gIn s1 257 then fX11_starts_46 (M.1, va_up M.2 0 (upd (M.2 0) s1.toNatClampNeg s0)) else none
def fX11_starts_34 (M : MS) : Option (MS) := (fX11_shiftHours M 0).bind fun q => fX11_starts_45 M q 7
def fX11_starts_33 (M : MS) (s0 : Int32) (s1 : Int32) : Option (MS) := if gIn s1 257 then fX11_starts_34 (M.1, va_up M.2 0 (upd (M.2 0) s1.toNatClampNeg s0)) else none
def fX11_starts_17 (M : MS) : Option (MS) := (fX11_sumOf M 161 1 7).bind fun q => fX11_starts_33 M q 15
def fX11_starts_16 (M : MS) (s0 : Int32) (s1 : Int32) : Option (MS) := if gIn s1 257 then fX11_starts_17 (M.1, va_up M.2 0 (upd (M.2 0) s1.toNatClampNeg s0)) else none
def fX11_starts_0 (M : MS) : Option (MS) := (fX11_sumOf M 161 1 8).bind fun q => fX11_starts_16 M q 14
def fX11_starts (M : MS) : Option (MS) := fX11_starts_0  M
def fX11_nextOpen_46 (M : MS) : Option (Int32) := some (-1)
def fX11_nextOpen_40 (K2 : MS → Int32 → Int32 → Option (Int32)) (M : MS) (x1 : Int32) (x2 : Int32) : Option (Int32) := K2 M x1 (x2 + 1)
def fX11_nextOpen_29 (M : MS) (x1 : Int32) (x2 : Int32) : Option (Int32) := if gIn 1 257 then if ¬ (M.2 0 (1 : Int32).toNatClampNeg) = 0 then some ((x1 + x2) - (x1 + x2) / (M.2 0 (1 : Int32).toNatClampNeg) * (M.2 0 (1 : Int32).toNatClampNeg)) else none else none
def fX11_nextOpen_26 (K2 : MS → Int32 → Int32 → Option (Int32)) (M : MS) (x1 : Int32) (x2 : Int32) (s0 : Int32) : Option (Int32) := if s0 = 0 then fX11_nextOpen_40 K2 M x1 x2 else fX11_nextOpen_29 M x1 x2
def fX11_nextOpen_12 (K2 : MS → Int32 → Int32 → Option (Int32)) (M : MS) (x1 : Int32) (x2 : Int32) : Option (Int32) := if gIn 1 257 then if ¬ (M.2 0 (1 : Int32).toNatClampNeg) = 0 then (fX11_isOpenSack M ((x1 + x2) - (x1 + x2) / (M.2 0 (1 : Int32).toNatClampNeg) * (M.2 0 (1 : Int32).toNatClampNeg))).bind fun q => fX11_nextOpen_26 K2 M x1 x2 q else none else none
def fX11_nextOpen_2 : Nat → MS → Int32 → Int32 → Option (Int32)
  | 0 => fun _ _ _ => none
  | k + 1 => fun M x1 x2 => if gIn 1 257 then if (M.2 0 (1 : Int32).toNatClampNeg) ≤ x2 then fX11_nextOpen_46 M else fX11_nextOpen_12 (fX11_nextOpen_2 k) M x1 x2 else none
def fX11_nextOpen_0 (M : MS) (a1 : Int32) : Option (Int32) := fX11_nextOpen_2 FU M a1 1
def fX11_nextOpen (M : MS) (a1 : Int32) : Option (Int32) := fX11_nextOpen_0  M a1
def fX11_moves_57 (M : MS) : Option (MS) := some M
def fX11_moves_51 (M : MS) (s0 : Int32) (s1 : Int32) : Option (MS) := (fX11_starve M s1 (s0 - 99)).bind fun q => fX11_moves_57 q
def fX11_moves_42 (M : MS) (x2 : Int32) : Option (MS) := (fX11_ofSack M x2 8).bind fun q => fX11_moves_51 M q x2
def fX11_moves_37 (M : MS) (x2 : Int32) (s0 : Int32) : Option (MS) := if s0 ≤ 99 then fX11_moves_57 M else fX11_moves_42 M x2
def fX11_moves_30 (M : MS) (x2 : Int32) : Option (MS) := (fX11_ofSack M x2 8).bind fun q => fX11_moves_37 M x2 q
def fX11_moves_22 (M : MS) (x1 : Int32) (x2 : Int32) : Option (MS) := (fX11_putsSack M x1 8 0).bind fun q => fX11_moves_30 q x2
def fX11_moves_18 (M : MS) (x1 : Int32) (x2 : Int32) (s0 : Int32) (s1 : Int32) (s2 : Int32) (s3 : Int32) : Option (MS) := (fX11_putsSack M s3 s2 (s1 + s0)).bind fun q => fX11_moves_22 q x1 x2
def fX11_moves_11 (M : MS) (x1 : Int32) (x2 : Int32) (s0 : Int32) (s1 : Int32) (s2 : Int32) : Option (MS) := (fX11_ofSack M x1 8).bind fun q => fX11_moves_18 M x1 x2 q s0 s1 s2
def fX11_moves_0 (M : MS) (a1 : Int32) (a2 : Int32) : Option (MS) := (fX11_ofSack M a2 8).bind fun q => fX11_moves_11 M a1 a2 q 8 a2
def fX11_moves (M : MS) (a1 : Int32) (a2 : Int32) : Option (MS) := fX11_moves_0  M a1 a2
def fX11_hunted_65 (M : MS) (x1 : Int32) : Option (Int32) := some x1
def fX11_hunted_59 (K4 : MS → Int32 → Int32 → Option (Int32)) (M : MS) (x1 : Int32) (x2 : Int32) : Option (Int32) := K4 M x1 (x2 + 1)
def fX11_hunted_57 (K4 : MS → Int32 → Int32 → Option (Int32)) (M : MS) (x2 : Int32) : Option (Int32) := fX11_hunted_59 K4 M x2 x2
def fX11_hunted_54 (K4 : MS → Int32 → Int32 → Option (Int32)) (M : MS) (x1 : Int32) (x2 : Int32) (s0 : Int32) (s1 : Int32) : Option (Int32) := if s1 ≤ s0 then fX11_hunted_59 K4 M x1 x2 else fX11_hunted_57 K4 M x2
def fX11_hunted_47 (K4 : MS → Int32 → Int32 → Option (Int32)) (M : MS) (x1 : Int32) (x2 : Int32) (s0 : Int32) : Option (Int32) := (fX11_ofSack M x1 8).bind fun q => fX11_hunted_54 K4 M x1 x2 q s0
def fX11_hunted_40 (K4 : MS → Int32 → Int32 → Option (Int32)) (M : MS) (x1 : Int32) (x2 : Int32) : Option (Int32) := (fX11_ofSack M x2 8).bind fun q => fX11_hunted_47 K4 M x1 x2 q
def fX11_hunted_35 (K4 : MS → Int32 → Int32 → Option (Int32)) (M : MS) (x1 : Int32) (x2 : Int32) : Option (Int32) := if x1 = (-1) then fX11_hunted_57 K4 M x2 else fX11_hunted_40 K4 M x1 x2
def fX11_hunted_32 (K4 : MS → Int32 → Int32 → Option (Int32)) (M : MS) (x1 : Int32) (x2 : Int32) : Option (Int32) := fX11_hunted_59 K4 M x1 x2
def fX11_hunted_29 (K4 : MS → Int32 → Int32 → Option (Int32)) (M : MS) (x1 : Int32) (x2 : Int32) (s0 : Int32) : Option (Int32) := if s0 = 0 then fX11_hunted_32 K4 M x1 x2 else fX11_hunted_35 K4 M x1 x2
def fX11_hunted_22 (K4 : MS → Int32 → Int32 → Option (Int32)) (M : MS) (x1 : Int32) (x2 : Int32) : Option (Int32) := (fX11_ofSack M x2 8).bind fun q => fX11_hunted_29 K4 M x1 x2 q
def fX11_hunted_19 (K4 : MS → Int32 → Int32 → Option (Int32)) (M : MS) (x1 : Int32) (x2 : Int32) (s0 : Int32) : Option (Int32) := if s0 = 0 then fX11_hunted_59 K4 M x1 x2 else fX11_hunted_22 K4 M x1 x2
def fX11_hunted_14 (K4 : MS → Int32 → Int32 → Option (Int32)) (M : MS) (x1 : Int32) (x2 : Int32) : Option (Int32) := (fX11_isOpenSack M x2).bind fun q => fX11_hunted_19 K4 M x1 x2 q
def fX11_hunted_4 : Nat → MS → Int32 → Int32 → Option (Int32)
  | 0 => fun _ _ _ => none
  | k + 1 => fun M x1 x2 => if gIn 1 257 then if (M.2 0 (1 : Int32).toNatClampNeg) ≤ x2 then fX11_hunted_65 M x1 else fX11_hunted_14 (fX11_hunted_4 k) M x1 x2 else none
def fX11_hunted_0 (M : MS) : Option (Int32) := fX11_hunted_4 FU M (-1) 0
def fX11_hunted (M : MS) : Option (Int32) := fX11_hunted_0  M
def fX11_swears_67 (M : MS) : Option (MS) := some M
def fX11_swears_60 (M : MS) (x1 : Int32) (x2 : Int32) : Option (MS) := (fX11_logs M 3 x1 x2).bind fun q => fX11_swears_67 q
def fX11_swears_49 (M : MS) (x1 : Int32) (x2 : Int32) : Option (MS) := if gIn 13 257 then if gIn 13 257 then fX11_swears_60 (M.1, va_up M.2 0 (upd (M.2 0) (13 : Int32).toNatClampNeg ((M.2 0 (13 : Int32).toNatClampNeg) + 1))) x1 x2 else none else none
def fX11_swears_42 (M : MS) (x1 : Int32) (x2 : Int32) : Option (MS) := if gIn 5 257 then fX11_swears_49 (M.1, va_up M.2 0 (upd (M.2 0) (5 : Int32).toNatClampNeg (-1))) x1 x2 else none
def fX11_swears_41 (M : MS) : Option (MS) := some M
def fX11_swears_34 (M : MS) (x1 : Int32) (x2 : Int32) : Option (MS) := (fX11_logs M 2 x1 x2).bind fun q => fX11_swears_41 q
def fX11_swears_29 (M : MS) (x1 : Int32) (x2 : Int32) : Option (MS) := (fX11_swearsIn M x1).bind fun q => fX11_swears_34 q x1 x2
def fX11_swears_26 (M : MS) (x1 : Int32) (x2 : Int32) (s0 : Int32) : Option (MS) := if s0 = 0 then fX11_swears_42 M x1 x2 else fX11_swears_29 M x1 x2
def fX11_swears_21 (M : MS) (x1 : Int32) (x2 : Int32) : Option (MS) := (fX11_isPawRight M x1).bind fun q => fX11_swears_26 M x1 x2 q
def fX11_swears_18 (M : MS) (x1 : Int32) (x2 : Int32) (s0 : Int32) : Option (MS) := if s0 = 0 then fX11_swears_42 M x1 x2 else fX11_swears_21 M x1 x2
def fX11_swears_13 (M : MS) (x1 : Int32) (x2 : Int32) : Option (MS) := (fX11_isAble M x1).bind fun q => fX11_swears_18 M x1 x2 q
def fX11_swears_12 (M : MS) : Option (MS) := some M
def fX11_swears_0 (M : MS) (a1 : Int32) : Option (MS) := if gIn 5 257 then if (M.2 0 (5 : Int32).toNatClampNeg) = (-1) then fX11_swears_12 M else fX11_swears_13 M a1 (M.2 0 (5 : Int32).toNatClampNeg) else none
def fX11_swears (M : MS) (a1 : Int32) : Option (MS) := fX11_swears_0  M a1
def fX11_dawns_94 (M : MS) : Option (MS) := some M
def fX11_dawns_85 (M : MS) (s0 : Int32) (s1 : Int32) : Option (MS) := if gIn 3 257 then (fX11_logs M s1 s0 (M.2 0 (3 : Int32).toNatClampNeg)).bind fun q => fX11_dawns_94 q else none
def fX11_dawns_84 (M : MS) (s0 : Int32) : Option (MS) := fX11_dawns_85 M (-1) s0
def fX11_dawns_80 (M : MS) (x1 : Int32) (s0 : Int32) : Option (MS) := fX11_dawns_85 M x1 s0
def fX11_dawns_74 (M : MS) (x1 : Int32) (x2 : Int32) : Option (MS) := if x2 = 0 then fX11_dawns_84 M 4 else fX11_dawns_80 M x1 4
def fX11_dawns_69 (M : MS) (x1 : Int32) (x2 : Int32) : Option (MS) := (fX11_swearsIn M x1).bind fun q => fX11_dawns_74 q x1 x2
def fX11_dawns_64 (M : MS) (x1 : Int32) (s0 : Int32) : Option (MS) := if s0 = 0 then fX11_dawns_74 M x1 s0 else fX11_dawns_69 M x1 s0
def fX11_dawns_63 (M : MS) (x1 : Int32) : Option (MS) := fX11_dawns_64 M x1 0
def fX11_dawns_59 (M : MS) (x1 : Int32) : Option (MS) := fX11_dawns_64 M x1 1
def fX11_dawns_56 (M : MS) (x1 : Int32) (s0 : Int32) : Option (MS) := if s0 = 0 then fX11_dawns_63 M x1 else fX11_dawns_59 M x1
def fX11_dawns_51 (M : MS) (x1 : Int32) : Option (MS) := (fX11_isAble M x1).bind fun q => fX11_dawns_56 M x1 q
def fX11_dawns_40 (M : MS) (s0 : Int32) : Option (MS) := if gIn 5 257 then if (M.2 0 (5 : Int32).toNatClampNeg) = (-1) then fX11_dawns_51 M s0 else fX11_dawns_63 M s0 else none
def fX11_dawns_29 (M : MS) : Option (MS) := if gIn 6 257 then (fX11_shiftCat M (M.2 0 (6 : Int32).toNatClampNeg)).bind fun q => fX11_dawns_40 M q else none
def fX11_dawns_23 (K2 : MS → Int32 → Option (MS)) (M : MS) (x1 : Int32) : Option (MS) := K2 M (x1 + 1)
def fX11_dawns_12 (K2 : MS → Int32 → Option (MS)) (M : MS) (x1 : Int32) : Option (MS) := if gIn 4 257 then (fX11_rests M x1 (M.2 0 (4 : Int32).toNatClampNeg)).bind fun q => fX11_dawns_23 K2 q x1 else none
def fX11_dawns_2 : Nat → MS → Int32 → Option (MS)
  | 0 => fun _ _ => none
  | k + 1 => fun M x1 => if gIn 0 257 then if (M.2 0 (0 : Int32).toNatClampNeg) ≤ x1 then fX11_dawns_29 M else fX11_dawns_12 (fX11_dawns_2 k) M x1 else none
def fX11_dawns_0 (M : MS) : Option (MS) := fX11_dawns_2 FU M 0
def fX11_dawns (M : MS) : Option (MS) := fX11_dawns_0  M
def fX11_setsFlap_12 (M : MS) (s0 : Int32) : Option (Int32 × MS) := some (s0, M)
def fX11_setsFlap_8 (M : MS) : Option (Int32 × MS) := (fX11_openMany M ).bind fun q => fX11_setsFlap_12 M q
def fX11_setsFlap_0 (M : MS) (a1 : Int32) (a2 : Int32) : Option (Int32 × MS) := (fX11_putsSack M a1 9 a2).bind fun q => fX11_setsFlap_8 q
def fX11_setsFlap (M : MS) (a1 : Int32) (a2 : Int32) : Option (Int32 × MS) := fX11_setsFlap_0  M a1 a2
def fX11_advanceToken_36 (K0 : MS → Option (MS)) (M : MS) : Option (MS) := K0 M
def fX11_advanceToken_26 (K0 : MS → Option (MS)) (M : MS) : Option (MS) := fX11_advanceToken_36 K0 (va_up M.1 14 ((M.1 14) + 1), M.2)
def fX11_advanceToken_270 (M : MS) : Option (MS) := some M
def fX11_advanceToken_260 (M : MS) : Option (MS) := fX11_advanceToken_270 (va_up M.1 14 ((M.1 14) + 1), M.2)
def fX11_advanceToken_257 (M : MS) (s0 : Int32) : Option (MS) := fX11_advanceToken_260 (va_up M.1 17 s0, M.2)
def fX11_advanceToken_256 (M : MS) : Option (MS) := fX11_advanceToken_257 M 4
def fX11_advanceToken_252 (M : MS) : Option (MS) := fX11_advanceToken_257 M 3
def fX11_advanceToken_245 (M : MS) (x1 : Int32) : Option (MS) := if x1 = 59 then fX11_advanceToken_252 M else fX11_advanceToken_256 M
def fX11_advanceToken_242 (M : MS) : Option (MS) := fX11_advanceToken_270 M
def fX11_advanceToken_239 (M : MS) (s0 : Int32) : Option (MS) := fX11_advanceToken_242 (va_up M.1 17 s0, M.2)
def fX11_advanceToken_238 (M : MS) : Option (MS) := fX11_advanceToken_239 M 2
def fX11_advanceToken_234 (M : MS) : Option (MS) := fX11_advanceToken_239 M 4
def fX11_advanceToken_220 (M : MS) : Option (MS) := if ((M.1 14) - (M.1 15)) ≤ 4 then fX11_advanceToken_238 M else fX11_advanceToken_234 M
def fX11_advanceToken_217 (K146 : MS → Option (MS)) (M : MS) : Option (MS) := K146 M
def fX11_advanceToken_207 (K146 : MS → Option (MS)) (M : MS) : Option (MS) := fX11_advanceToken_217 K146 (va_up M.1 14 ((M.1 14) + 1), M.2)
def fX11_advanceToken_204 (K146 : MS → Option (MS)) (M : MS) (s0 : Int32) : Option (MS) := fX11_advanceToken_207 K146 (va_up M.1 16 s0, M.2)
def fX11_advanceToken_200 (K146 : MS → Option (MS)) (M : MS) : Option (MS) := fX11_advanceToken_204 K146 M (M.1 16)
def fX11_advanceToken_193 (K146 : MS → Option (MS)) (M : MS) (s0 : Int32) (s1 : Int32) : Option (MS) := fX11_advanceToken_204 K146 M ((s1 + s0) - 48)
def fX11_advanceToken_178 (K146 : MS → Option (MS)) (M : MS) : Option (MS) := (fX11_byteAt M (M.1 14)).bind fun q => fX11_advanceToken_193 K146 M q (10 * (M.1 16))
def fX11_advanceToken_164 (K146 : MS → Option (MS)) (M : MS) : Option (MS) := if 4 ≤ ((M.1 14) - (M.1 15)) then fX11_advanceToken_200 K146 M else fX11_advanceToken_178 K146 M
def fX11_advanceToken_161 (K146 : MS → Option (MS)) (M : MS) (s0 : Int32) : Option (MS) := if s0 = 0 then fX11_advanceToken_220 M else fX11_advanceToken_164 K146 M
def fX11_advanceToken_154 (K146 : MS → Option (MS)) (M : MS) (s0 : Int32) : Option (MS) := (fX11_inRange M s0 48 57).bind fun q => fX11_advanceToken_161 K146 M q
def fX11_advanceToken_146 : Nat → MS → Option (MS)
  | 0 => fun _ => none
  | k + 1 => fun M => (fX11_byteAt M (M.1 14)).bind fun q => fX11_advanceToken_154 (fX11_advanceToken_146 k) M q
def fX11_advanceToken_143 (M : MS) (x1 : Int32) (s0 : Int32) : Option (MS) := if s0 = 0 then fX11_advanceToken_245 M x1 else fX11_advanceToken_146 FU M
def fX11_advanceToken_135 (M : MS) (x1 : Int32) : Option (MS) := (fX11_inRange M x1 48 57).bind fun q => fX11_advanceToken_143 M x1 q
def fX11_advanceToken_132 (M : MS) : Option (MS) := fX11_advanceToken_270 M
def fX11_advanceToken_129 (M : MS) (s0 : Int32) : Option (MS) := fX11_advanceToken_132 (va_up M.1 17 s0, M.2)
def fX11_advanceToken_128 (M : MS) : Option (MS) := fX11_advanceToken_129 M 1
def fX11_advanceToken_124 (M : MS) : Option (MS) := fX11_advanceToken_129 M 4
def fX11_advanceToken_109 (M : MS) : Option (MS) := if ((M.1 14) - (M.1 15)) ≤ 8 then fX11_advanceToken_128 M else fX11_advanceToken_124 M
def fX11_advanceToken_106 (K85 : MS → Option (MS)) (M : MS) : Option (MS) := K85 M
def fX11_advanceToken_96 (K85 : MS → Option (MS)) (M : MS) : Option (MS) := fX11_advanceToken_106 K85 (va_up M.1 14 ((M.1 14) + 1), M.2)
def fX11_advanceToken_93 (K85 : MS → Option (MS)) (M : MS) (s0 : Int32) : Option (MS) := if s0 = 0 then fX11_advanceToken_109 M else fX11_advanceToken_96 K85 M
def fX11_advanceToken_85 : Nat → MS → Option (MS)
  | 0 => fun _ => none
  | k + 1 => fun M => (fX11_isLetter M (M.1 14)).bind fun q => fX11_advanceToken_93 (fX11_advanceToken_85 k) M q
def fX11_advanceToken_82 (M : MS) (x1 : Int32) (s0 : Int32) : Option (MS) := if s0 = 0 then fX11_advanceToken_135 M x1 else fX11_advanceToken_85 FU M
def fX11_advanceToken_74 (M : MS) (x1 : Int32) : Option (MS) := (fX11_isLetter M (M.1 14)).bind fun q => fX11_advanceToken_82 M x1 q
def fX11_advanceToken_71 (M : MS) : Option (MS) := fX11_advanceToken_270 M
def fX11_advanceToken_66 (M : MS) : Option (MS) := fX11_advanceToken_71 (va_up M.1 17 0, M.2)
def fX11_advanceToken_61 (M : MS) (x1 : Int32) : Option (MS) := if x1 = (-1) then fX11_advanceToken_66 M else fX11_advanceToken_74 M x1
def fX11_advanceToken_55 (M : MS) (s0 : Int32) : Option (MS) := fX11_advanceToken_61 (va_up M.1 16 0, M.2) s0
def fX11_advanceToken_47 (M : MS) : Option (MS) := (fX11_byteAt M (M.1 14)).bind fun q => fX11_advanceToken_55 M q
def fX11_advanceToken_39 (M : MS) : Option (MS) := fX11_advanceToken_47 (va_up M.1 15 (M.1 14), M.2)
def fX11_advanceToken_21 (K0 : MS → Option (MS)) (M : MS) (s0 : Int32) : Option (MS) := if s0 = 10 then fX11_advanceToken_26 K0 M else fX11_advanceToken_39 M
def fX11_advanceToken_13 (K0 : MS → Option (MS)) (M : MS) : Option (MS) := (fX11_byteAt M (M.1 14)).bind fun q => fX11_advanceToken_21 K0 M q
def fX11_advanceToken_8 (K0 : MS → Option (MS)) (M : MS) (s0 : Int32) : Option (MS) := if s0 = 32 then fX11_advanceToken_26 K0 M else fX11_advanceToken_13 K0 M
def fX11_advanceToken_0 : Nat → MS → Option (MS)
  | 0 => fun _ => none
  | k + 1 => fun M => (fX11_byteAt M (M.1 14)).bind fun q => fX11_advanceToken_8 (fX11_advanceToken_0 k) M q
def fX11_advanceToken (M : MS) : Option (MS) := fX11_advanceToken_0 FU M
def fX11_reasonOf_35 (M : MS) (s0 : Int32) : Option (Int32) := some s0
def fX11_reasonOf_34 (M : MS) : Option (Int32) := fX11_reasonOf_35 M 3
def fX11_reasonOf_30 (M : MS) : Option (Int32) := fX11_reasonOf_35 M 0
def fX11_reasonOf_27 (M : MS) (s0 : Int32) : Option (Int32) := if s0 = 0 then fX11_reasonOf_34 M else fX11_reasonOf_30 M
def fX11_reasonOf_22 (M : MS) (x1 : Int32) : Option (Int32) := (fX11_isPawRight M x1).bind fun q => fX11_reasonOf_27 M q
def fX11_reasonOf_20 (M : MS) : Option (Int32) := some 2
def fX11_reasonOf_17 (M : MS) (x1 : Int32) (s0 : Int32) : Option (Int32) := if s0 = 0 then fX11_reasonOf_20 M else fX11_reasonOf_22 M x1
def fX11_reasonOf_12 (M : MS) (x1 : Int32) : Option (Int32) := (fX11_isAble M x1).bind fun q => fX11_reasonOf_17 M x1 q
def fX11_reasonOf_10 (M : MS) : Option (Int32) := some 1
def fX11_reasonOf_0 (M : MS) (a1 : Int32) : Option (Int32) := if gIn 5 257 then if (M.2 0 (5 : Int32).toNatClampNeg) = (-1) then fX11_reasonOf_10 M else fX11_reasonOf_12 M a1 else none
def fX11_reasonOf (M : MS) (a1 : Int32) : Option (Int32) := fX11_reasonOf_0  M a1
def fX11_speedOf_24 (M : MS) (s0 : Int32) : Option (Int32 × MS) := some (s0, M)
def fX11_speedOf_17 (M : MS) (x1 : Int32) : Option (Int32 × MS) := (fX11_ofCat M x1 7).bind fun q => fX11_speedOf_24 M q
def fX11_speedOf_13 (M : MS) : Option (Int32 × MS) := fX11_speedOf_24 M 0
def fX11_speedOf_10 (M : MS) (x1 : Int32) (s0 : Int32) : Option (Int32 × MS) := if s0 = 0 then fX11_speedOf_17 M x1 else fX11_speedOf_13 M
def fX11_speedOf_5 (M : MS) (x1 : Int32) : Option (Int32 × MS) := (fX11_noCat M x1).bind fun q => fX11_speedOf_10 q.2 x1 q.1
def fX11_speedOf_0 (M : MS) (a1 : Int32) : Option (Int32 × MS) := fX11_speedOf_5 (va_up M.1 7 0, M.2) a1
def fX11_speedOf (M : MS) (a1 : Int32) : Option (Int32 × MS) := fX11_speedOf_0  M a1
def fX11_tirednessOf_24 (M : MS) (s0 : Int32) : Option (Int32 × MS) := some (s0, M)
def fX11_tirednessOf_17 (M : MS) (x1 : Int32) : Option (Int32 × MS) := (fX11_ofCat M x1 9).bind fun q => fX11_tirednessOf_24 M q
def fX11_tirednessOf_13 (M : MS) : Option (Int32 × MS) := fX11_tirednessOf_24 M 0
def fX11_tirednessOf_10 (M : MS) (x1 : Int32) (s0 : Int32) : Option (Int32 × MS) := if s0 = 0 then fX11_tirednessOf_17 M x1 else fX11_tirednessOf_13 M
def fX11_tirednessOf_5 (M : MS) (x1 : Int32) : Option (Int32 × MS) := (fX11_noCat M x1).bind fun q => fX11_tirednessOf_10 q.2 x1 q.1
def fX11_tirednessOf_0 (M : MS) (a1 : Int32) : Option (Int32 × MS) := fX11_tirednessOf_5 (va_up M.1 7 0, M.2) a1
def fX11_tirednessOf (M : MS) (a1 : Int32) : Option (Int32 × MS) := fX11_tirednessOf_0  M a1
def fX11_strengthOf_22 (M : MS) (s0 : Int32) : Option (Int32 × MS) := some (s0, M)
def fX11_strengthOf_17 (M : MS) (x1 : Int32) : Option (Int32 × MS) := (fX11_strength M x1).bind fun q => fX11_strengthOf_22 M q
def fX11_strengthOf_13 (M : MS) : Option (Int32 × MS) := fX11_strengthOf_22 M 0
def fX11_strengthOf_10 (M : MS) (x1 : Int32) (s0 : Int32) : Option (Int32 × MS) := if s0 = 0 then fX11_strengthOf_17 M x1 else fX11_strengthOf_13 M
def fX11_strengthOf_5 (M : MS) (x1 : Int32) : Option (Int32 × MS) := (fX11_noCat M x1).bind fun q => fX11_strengthOf_10 q.2 x1 q.1
def fX11_strengthOf_0 (M : MS) (a1 : Int32) : Option (Int32 × MS) := fX11_strengthOf_5 (va_up M.1 7 0, M.2) a1
def fX11_strengthOf (M : MS) (a1 : Int32) : Option (Int32 × MS) := fX11_strengthOf_0  M a1
def fX11_caughtBy_24 (M : MS) (s0 : Int32) : Option (Int32 × MS) := some (s0, M)
def fX11_caughtBy_17 (M : MS) (x1 : Int32) : Option (Int32 × MS) := (fX11_ofCat M x1 10).bind fun q => fX11_caughtBy_24 M q
def fX11_caughtBy_13 (M : MS) : Option (Int32 × MS) := fX11_caughtBy_24 M 0
def fX11_caughtBy_10 (M : MS) (x1 : Int32) (s0 : Int32) : Option (Int32 × MS) := if s0 = 0 then fX11_caughtBy_17 M x1 else fX11_caughtBy_13 M
def fX11_caughtBy_5 (M : MS) (x1 : Int32) : Option (Int32 × MS) := (fX11_noCat M x1).bind fun q => fX11_caughtBy_10 q.2 x1 q.1
def fX11_caughtBy_0 (M : MS) (a1 : Int32) : Option (Int32 × MS) := fX11_caughtBy_5 (va_up M.1 7 0, M.2) a1
def fX11_caughtBy (M : MS) (a1 : Int32) : Option (Int32 × MS) := fX11_caughtBy_0  M a1
def fX11_oathsOf_24 (M : MS) (s0 : Int32) : Option (Int32 × MS) := some (s0, M)
def fX11_oathsOf_17 (M : MS) (x1 : Int32) : Option (Int32 × MS) := (fX11_ofCat M x1 11).bind fun q => fX11_oathsOf_24 M q
def fX11_oathsOf_13 (M : MS) : Option (Int32 × MS) := fX11_oathsOf_24 M 0
def fX11_oathsOf_10 (M : MS) (x1 : Int32) (s0 : Int32) : Option (Int32 × MS) := if s0 = 0 then fX11_oathsOf_17 M x1 else fX11_oathsOf_13 M
def fX11_oathsOf_5 (M : MS) (x1 : Int32) : Option (Int32 × MS) := (fX11_noCat M x1).bind fun q => fX11_oathsOf_10 q.2 x1 q.1
def fX11_oathsOf_0 (M : MS) (a1 : Int32) : Option (Int32 × MS) := fX11_oathsOf_5 (va_up M.1 7 0, M.2) a1
def fX11_oathsOf (M : MS) (a1 : Int32) : Option (Int32 × MS) := fX11_oathsOf_0  M a1
def fX11_grainIn_24 (M : MS) (s0 : Int32) : Option (Int32 × MS) := some (s0, M)
def fX11_grainIn_17 (M : MS) (x1 : Int32) : Option (Int32 × MS) := (fX11_ofSack M x1 7).bind fun q => fX11_grainIn_24 M q
def fX11_grainIn_13 (M : MS) : Option (Int32 × MS) := fX11_grainIn_24 M 0
def fX11_grainIn_10 (M : MS) (x1 : Int32) (s0 : Int32) : Option (Int32 × MS) := if s0 = 0 then fX11_grainIn_17 M x1 else fX11_grainIn_13 M
def fX11_grainIn_5 (M : MS) (x1 : Int32) : Option (Int32 × MS) := (fX11_noSack M x1).bind fun q => fX11_grainIn_10 q.2 x1 q.1
def fX11_grainIn_0 (M : MS) (a1 : Int32) : Option (Int32 × MS) := fX11_grainIn_5 (va_up M.1 7 0, M.2) a1
def fX11_grainIn (M : MS) (a1 : Int32) : Option (Int32 × MS) := fX11_grainIn_0  M a1
def fX11_miceIn_24 (M : MS) (s0 : Int32) : Option (Int32 × MS) := some (s0, M)
def fX11_miceIn_17 (M : MS) (x1 : Int32) : Option (Int32 × MS) := (fX11_ofSack M x1 8).bind fun q => fX11_miceIn_24 M q
def fX11_miceIn_13 (M : MS) : Option (Int32 × MS) := fX11_miceIn_24 M 0
def fX11_miceIn_10 (M : MS) (x1 : Int32) (s0 : Int32) : Option (Int32 × MS) := if s0 = 0 then fX11_miceIn_17 M x1 else fX11_miceIn_13 M
def fX11_miceIn_5 (M : MS) (x1 : Int32) : Option (Int32 × MS) := (fX11_noSack M x1).bind fun q => fX11_miceIn_10 q.2 x1 q.1
def fX11_miceIn_0 (M : MS) (a1 : Int32) : Option (Int32 × MS) := fX11_miceIn_5 (va_up M.1 7 0, M.2) a1
def fX11_miceIn (M : MS) (a1 : Int32) : Option (Int32 × MS) := fX11_miceIn_0  M a1
def fX11_eatenFrom_24 (M : MS) (s0 : Int32) : Option (Int32 × MS) := some (s0, M)
def fX11_eatenFrom_17 (M : MS) (x1 : Int32) : Option (Int32 × MS) := (fX11_ofSack M x1 10).bind fun q => fX11_eatenFrom_24 M q
def fX11_eatenFrom_13 (M : MS) : Option (Int32 × MS) := fX11_eatenFrom_24 M 0
def fX11_eatenFrom_10 (M : MS) (x1 : Int32) (s0 : Int32) : Option (Int32 × MS) := if s0 = 0 then fX11_eatenFrom_17 M x1 else fX11_eatenFrom_13 M
def fX11_eatenFrom_5 (M : MS) (x1 : Int32) : Option (Int32 × MS) := (fX11_noSack M x1).bind fun q => fX11_eatenFrom_10 q.2 x1 q.1
def fX11_eatenFrom_0 (M : MS) (a1 : Int32) : Option (Int32 × MS) := fX11_eatenFrom_5 (va_up M.1 7 0, M.2) a1
def fX11_eatenFrom (M : MS) (a1 : Int32) : Option (Int32 × MS) := fX11_eatenFrom_0  M a1
def fX11_catNameByte_43 (M : MS) (s0 : Int32) : Option (Int32 × MS) := some (s0, M)
def fX11_catNameByte_42 (M : MS) : Option (Int32 × MS) := fX11_catNameByte_43 M (-1)
def fX11_catNameByte_39 (M : MS) (s0 : Int32) : Option (Int32 × MS) := fX11_catNameByte_43 M s0
def fX11_catNameByte_31 (M : MS) (x1 : Int32) (x2 : Int32) : Option (Int32 × MS) := (fX11_ofCat M x1 (1 + x2)).bind fun q => fX11_catNameByte_39 M q
def fX11_catNameByte_28 (M : MS) (x1 : Int32) (x2 : Int32) (s0 : Int32) : Option (Int32 × MS) := if s0 = 0 then fX11_catNameByte_42 M else fX11_catNameByte_31 M x1 x2
def fX11_catNameByte_23 (M : MS) (x1 : Int32) (x2 : Int32) (s0 : Int32) (s1 : Int32) (s2 : Int32) : Option (Int32 × MS) := (fX11_inRange M s2 s1 (s0 - 1)).bind fun q => fX11_catNameByte_28 M x1 x2 q
def fX11_catNameByte_15 (M : MS) (x1 : Int32) (x2 : Int32) : Option (Int32 × MS) := (fX11_ofCat M x1 0).bind fun q => fX11_catNameByte_23 M x1 x2 q 0 x2
def fX11_catNameByte_13 (M : MS) : Option (Int32 × MS) := some (0, M)
def fX11_catNameByte_10 (M : MS) (x1 : Int32) (x2 : Int32) (s0 : Int32) : Option (Int32 × MS) := if s0 = 0 then fX11_catNameByte_15 M x1 x2 else fX11_catNameByte_13 M
def fX11_catNameByte_5 (M : MS) (x1 : Int32) (x2 : Int32) : Option (Int32 × MS) := (fX11_noCat M x1).bind fun q => fX11_catNameByte_10 q.2 x1 x2 q.1
def fX11_catNameByte_0 (M : MS) (a1 : Int32) (a2 : Int32) : Option (Int32 × MS) := fX11_catNameByte_5 (va_up M.1 7 0, M.2) a1 a2
def fX11_catNameByte (M : MS) (a1 : Int32) (a2 : Int32) : Option (Int32 × MS) := fX11_catNameByte_0  M a1 a2
def fX11_sackNameByte_43 (M : MS) (s0 : Int32) : Option (Int32 × MS) := some (s0, M)
def fX11_sackNameByte_42 (M : MS) : Option (Int32 × MS) := fX11_sackNameByte_43 M (-1)
def fX11_sackNameByte_39 (M : MS) (s0 : Int32) : Option (Int32 × MS) := fX11_sackNameByte_43 M s0
def fX11_sackNameByte_31 (M : MS) (x1 : Int32) (x2 : Int32) : Option (Int32 × MS) := (fX11_ofSack M x1 (1 + x2)).bind fun q => fX11_sackNameByte_39 M q
def fX11_sackNameByte_28 (M : MS) (x1 : Int32) (x2 : Int32) (s0 : Int32) : Option (Int32 × MS) := if s0 = 0 then fX11_sackNameByte_42 M else fX11_sackNameByte_31 M x1 x2
def fX11_sackNameByte_23 (M : MS) (x1 : Int32) (x2 : Int32) (s0 : Int32) (s1 : Int32) (s2 : Int32) : Option (Int32 × MS) := (fX11_inRange M s2 s1 (s0 - 1)).bind fun q => fX11_sackNameByte_28 M x1 x2 q
def fX11_sackNameByte_15 (M : MS) (x1 : Int32) (x2 : Int32) : Option (Int32 × MS) := (fX11_ofSack M x1 0).bind fun q => fX11_sackNameByte_23 M x1 x2 q 0 x2
def fX11_sackNameByte_13 (M : MS) : Option (Int32 × MS) := some (0, M)
def fX11_sackNameByte_10 (M : MS) (x1 : Int32) (x2 : Int32) (s0 : Int32) : Option (Int32 × MS) := if s0 = 0 then fX11_sackNameByte_15 M x1 x2 else fX11_sackNameByte_13 M
def fX11_sackNameByte_5 (M : MS) (x1 : Int32) (x2 : Int32) : Option (Int32 × MS) := (fX11_noSack M x1).bind fun q => fX11_sackNameByte_10 q.2 x1 x2 q.1
def fX11_sackNameByte_0 (M : MS) (a1 : Int32) (a2 : Int32) : Option (Int32 × MS) := fX11_sackNameByte_5 (va_up M.1 7 0, M.2) a1 a2
def fX11_sackNameByte (M : MS) (a1 : Int32) (a2 : Int32) : Option (Int32 × MS) := fX11_sackNameByte_0  M a1 a2
def fX11_isLeftPawed_29 (M : MS) (s0 : Int32) : Option (Int32 × MS) := some (s0, M)
def fX11_isLeftPawed_28 (M : MS) : Option (Int32 × MS) := fX11_isLeftPawed_29 M 0
def fX11_isLeftPawed_24 (M : MS) : Option (Int32 × MS) := fX11_isLeftPawed_29 M 1
def fX11_isLeftPawed_20 (M : MS) (s0 : Int32) : Option (Int32 × MS) := if s0 = 1 then fX11_isLeftPawed_24 M else fX11_isLeftPawed_28 M
def fX11_isLeftPawed_13 (M : MS) (x1 : Int32) : Option (Int32 × MS) := (fX11_ofCat M x1 8).bind fun q => fX11_isLeftPawed_20 M q
def fX11_isLeftPawed_10 (M : MS) (x1 : Int32) (s0 : Int32) : Option (Int32 × MS) := if s0 = 0 then fX11_isLeftPawed_13 M x1 else fX11_isLeftPawed_28 M
def fX11_isLeftPawed_5 (M : MS) (x1 : Int32) : Option (Int32 × MS) := (fX11_noCat M x1).bind fun q => fX11_isLeftPawed_10 q.2 x1 q.1
def fX11_isLeftPawed_0 (M : MS) (a1 : Int32) : Option (Int32 × MS) := fX11_isLeftPawed_5 (va_up M.1 7 0, M.2) a1
def fX11_isLeftPawed (M : MS) (a1 : Int32) : Option (Int32 × MS) := bz (fX11_isLeftPawed_0  M a1)
def fX11_isOpen_26 (M : MS) (s0 : Int32) : Option (Int32 × MS) := some (s0, M)
def fX11_isOpen_25 (M : MS) : Option (Int32 × MS) := fX11_isOpen_26 M 0
def fX11_isOpen_21 (M : MS) : Option (Int32 × MS) := fX11_isOpen_26 M 1
def fX11_isOpen_18 (M : MS) (s0 : Int32) : Option (Int32 × MS) := if s0 = 0 then fX11_isOpen_25 M else fX11_isOpen_21 M
def fX11_isOpen_13 (M : MS) (x1 : Int32) : Option (Int32 × MS) := (fX11_isOpenSack M x1).bind fun q => fX11_isOpen_18 M q
def fX11_isOpen_10 (M : MS) (x1 : Int32) (s0 : Int32) : Option (Int32 × MS) := if s0 = 0 then fX11_isOpen_13 M x1 else fX11_isOpen_25 M
def fX11_isOpen_5 (M : MS) (x1 : Int32) : Option (Int32 × MS) := (fX11_noSack M x1).bind fun q => fX11_isOpen_10 q.2 x1 q.1
def fX11_isOpen_0 (M : MS) (a1 : Int32) : Option (Int32 × MS) := fX11_isOpen_5 (va_up M.1 7 0, M.2) a1
def fX11_isOpen (M : MS) (a1 : Int32) : Option (Int32 × MS) := bz (fX11_isOpen_0  M a1)
def fX11_catOfShift_22 (M : MS) (s0 : Int32) : Option (Int32 × MS) := some (s0, M)
def fX11_catOfShift_17 (M : MS) (x1 : Int32) : Option (Int32 × MS) := (fX11_shiftCat M x1).bind fun q => fX11_catOfShift_22 M q
def fX11_catOfShift_13 (M : MS) : Option (Int32 × MS) := fX11_catOfShift_22 M 0
def fX11_catOfShift_10 (M : MS) (x1 : Int32) (s0 : Int32) : Option (Int32 × MS) := if s0 = 0 then fX11_catOfShift_17 M x1 else fX11_catOfShift_13 M
def fX11_catOfShift_5 (M : MS) (x1 : Int32) : Option (Int32 × MS) := (fX11_noShift M x1).bind fun q => fX11_catOfShift_10 q.2 x1 q.1
def fX11_catOfShift_0 (M : MS) (a1 : Int32) : Option (Int32 × MS) := fX11_catOfShift_5 (va_up M.1 7 0, M.2) a1
def fX11_catOfShift (M : MS) (a1 : Int32) : Option (Int32 × MS) := fX11_catOfShift_0  M a1
def fX11_hoursOfShift_22 (M : MS) (s0 : Int32) : Option (Int32 × MS) := some (s0, M)
def fX11_hoursOfShift_17 (M : MS) (x1 : Int32) : Option (Int32 × MS) := (fX11_shiftHours M x1).bind fun q => fX11_hoursOfShift_22 M q
def fX11_hoursOfShift_13 (M : MS) : Option (Int32 × MS) := fX11_hoursOfShift_22 M 0
def fX11_hoursOfShift_10 (M : MS) (x1 : Int32) (s0 : Int32) : Option (Int32 × MS) := if s0 = 0 then fX11_hoursOfShift_17 M x1 else fX11_hoursOfShift_13 M
def fX11_hoursOfShift_5 (M : MS) (x1 : Int32) : Option (Int32 × MS) := (fX11_noShift M x1).bind fun q => fX11_hoursOfShift_10 q.2 x1 q.1
def fX11_hoursOfShift_0 (M : MS) (a1 : Int32) : Option (Int32 × MS) := fX11_hoursOfShift_5 (va_up M.1 7 0, M.2) a1
def fX11_hoursOfShift (M : MS) (a1 : Int32) : Option (Int32 × MS) := fX11_hoursOfShift_0  M a1
def fX11_eventKind_11 (M : MS) (s0 : Int32) : Option (Int32 × MS) := some (s0, M)
def fX11_eventKind_5 (M : MS) (x1 : Int32) : Option (Int32 × MS) := (fX11_logged M x1 0).bind fun q => fX11_eventKind_11 M q
def fX11_eventKind_0 (M : MS) (a1 : Int32) : Option (Int32 × MS) := fX11_eventKind_5 (va_up M.1 7 0, M.2) a1
def fX11_eventKind (M : MS) (a1 : Int32) : Option (Int32 × MS) := fX11_eventKind_0  M a1
def fX11_eventCat_11 (M : MS) (s0 : Int32) : Option (Int32 × MS) := some (s0, M)
def fX11_eventCat_5 (M : MS) (x1 : Int32) : Option (Int32 × MS) := (fX11_logged M x1 1).bind fun q => fX11_eventCat_11 M q
def fX11_eventCat_0 (M : MS) (a1 : Int32) : Option (Int32 × MS) := fX11_eventCat_5 (va_up M.1 7 0, M.2) a1
def fX11_eventCat (M : MS) (a1 : Int32) : Option (Int32 × MS) := fX11_eventCat_0  M a1
def fX11_eventNumber_11 (M : MS) (s0 : Int32) : Option (Int32 × MS) := some (s0, M)
def fX11_eventNumber_5 (M : MS) (x1 : Int32) : Option (Int32 × MS) := (fX11_logged M x1 2).bind fun q => fX11_eventNumber_11 M q
def fX11_eventNumber_0 (M : MS) (a1 : Int32) : Option (Int32 × MS) := fX11_eventNumber_5 (va_up M.1 7 0, M.2) a1
def fX11_eventNumber (M : MS) (a1 : Int32) : Option (Int32 × MS) := fX11_eventNumber_0  M a1
def fX11_isConsistent_170 (M : MS) (s0 : Int32) : Option (Int32 × MS) := some (s0, M)
def fX11_isConsistent_169 (M : MS) : Option (Int32 × MS) := fX11_isConsistent_170 M 0
def fX11_isConsistent_165 (M : MS) : Option (Int32 × MS) := fX11_isConsistent_170 M 1
def fX11_isConsistent_155 (M : MS) (s0 : Int32) : Option (Int32 × MS) := if gIn 12 257 then if s0 = (M.2 0 (12 : Int32).toNatClampNeg) then fX11_isConsistent_165 M else fX11_isConsistent_169 M else none
def fX11_isConsistent_146 (M : MS) : Option (Int32 × MS) := (fX11_sumOf M 65 0 11).bind fun q => fX11_isConsistent_155 M q
def fX11_isConsistent_136 (M : MS) (s0 : Int32) : Option (Int32 × MS) := if gIn 8 257 then if s0 = (M.2 0 (8 : Int32).toNatClampNeg) then fX11_isConsistent_146 M else fX11_isConsistent_169 M else none
def fX11_isConsistent_127 (M : MS) : Option (Int32 × MS) := (fX11_sumOf M 65 0 10).bind fun q => fX11_isConsistent_136 M q
def fX11_isConsistent_123 (M : MS) (x3 : Int32) : Option (Int32 × MS) := if x3 = 0 then fX11_isConsistent_169 M else fX11_isConsistent_127 M
def fX11_isConsistent_118 (M : MS) (x2 : Int32) (s0 : Int32) : Option (Int32 × MS) := if x2 = 0 then fX11_isConsistent_169 M else fX11_isConsistent_123 M s0
def fX11_isConsistent_117 (M : MS) (x2 : Int32) : Option (Int32 × MS) := fX11_isConsistent_118 M x2 0
def fX11_isConsistent_113 (M : MS) (x2 : Int32) : Option (Int32 × MS) := fX11_isConsistent_118 M x2 1
def fX11_isConsistent_103 (M : MS) (x2 : Int32) (s0 : Int32) : Option (Int32 × MS) := if gIn 9 257 then if s0 = (M.2 0 (9 : Int32).toNatClampNeg) then fX11_isConsistent_113 M x2 else fX11_isConsistent_117 M x2 else none
def fX11_isConsistent_93 (M : MS) (x2 : Int32) : Option (Int32 × MS) := (fX11_sumOf M 161 1 10).bind fun q => fX11_isConsistent_103 M x2 q
def fX11_isConsistent_75 (M : MS) (x2 : Int32) (s0 : Int32) : Option (Int32 × MS) := if gIn 15 257 then if gIn 9 257 then if s0 = ((M.2 0 (15 : Int32).toNatClampNeg) - (M.2 0 (9 : Int32).toNatClampNeg)) then fX11_isConsistent_93 M x2 else fX11_isConsistent_117 M x2 else none else none
def fX11_isConsistent_64 (M : MS) (s0 : Int32) : Option (Int32 × MS) := (fX11_sumOf M 161 1 7).bind fun q => fX11_isConsistent_75 M s0 q
def fX11_isConsistent_63 (M : MS) : Option (Int32 × MS) := fX11_isConsistent_64 M 0
def fX11_isConsistent_59 (M : MS) : Option (Int32 × MS) := fX11_isConsistent_64 M 1
def fX11_isConsistent_56 (M : MS) (s0 : Int32) (s1 : Int32) : Option (Int32 × MS) := if s1 = s0 then fX11_isConsistent_59 M else fX11_isConsistent_63 M
def fX11_isConsistent_51 (M : MS) (x1 : Int32) : Option (Int32 × MS) := (fX11_miceBackwards M ).bind fun q => fX11_isConsistent_56 M q x1
def fX11_isConsistent_15 (M : MS) (s0 : Int32) : Option (Int32 × MS) := if gIn 14 257 then if gIn 10 257 then if gIn 8 257 then if gIn 11 257 then if s0 = ((((M.2 0 (14 : Int32).toNatClampNeg) + (M.2 0 (10 : Int32).toNatClampNeg)) - (M.2 0 (8 : Int32).toNatClampNeg)) - (M.2 0 (11 : Int32).toNatClampNeg)) then fX11_isConsistent_51 M s0 else fX11_isConsistent_63 M else none else none else none else none
def fX11_isConsistent_5 (M : MS) : Option (Int32 × MS) := (fX11_sumOf M 161 1 8).bind fun q => fX11_isConsistent_15 M q
def fX11_isConsistent_0 (M : MS) : Option (Int32 × MS) := fX11_isConsistent_5 (va_up M.1 7 0, M.2)
def fX11_isConsistent (M : MS) : Option (Int32 × MS) := bz (fX11_isConsistent_0  M)
def fX11_addMice_58 (M : MS) : Option (Int32 × MS) := some (0, M)
def fX11_addMice_70 (M : MS) (s0 : Int32) : Option (Int32 × MS) := some (s0, M)
def fX11_addMice_64 (M : MS) (x1 : Int32) (x2 : Int32) : Option (Int32 × MS) := (fX11_addsMice M x1 x2).bind fun q => fX11_addMice_70 q.2 q.1
def fX11_addMice_60 (M : MS) (x1 : Int32) (x2 : Int32) : Option (Int32 × MS) := (fX11_remembers M ).bind fun q => fX11_addMice_64 q x1 x2
def fX11_addMice_55 (M : MS) (x1 : Int32) (x2 : Int32) (s0 : Int32) : Option (Int32 × MS) := if s0 = 0 then fX11_addMice_60 M x1 x2 else fX11_addMice_58 M
def fX11_addMice_51 (M : MS) (x1 : Int32) (x2 : Int32) (s0 : Int32) : Option (Int32 × MS) := (fX11_fails M s0 3).bind fun q => fX11_addMice_55 q.2 x1 x2 q.1
def fX11_addMice_50 (M : MS) (x1 : Int32) (x2 : Int32) : Option (Int32 × MS) := fX11_addMice_51 M x1 x2 0
def fX11_addMice_46 (M : MS) (x1 : Int32) (x2 : Int32) : Option (Int32 × MS) := fX11_addMice_51 M x1 x2 1
def fX11_addMice_43 (M : MS) (x1 : Int32) (x2 : Int32) (s0 : Int32) : Option (Int32 × MS) := if s0 = 0 then fX11_addMice_46 M x1 x2 else fX11_addMice_50 M x1 x2
def fX11_addMice_36 (M : MS) (x1 : Int32) (x2 : Int32) : Option (Int32 × MS) := (fX11_mayAddMice M x1 x2).bind fun q => fX11_addMice_43 M x1 x2 q
def fX11_addMice_33 (M : MS) (x1 : Int32) (x2 : Int32) (s0 : Int32) : Option (Int32 × MS) := if s0 = 0 then fX11_addMice_36 M x1 x2 else fX11_addMice_58 M
def fX11_addMice_29 (M : MS) (x1 : Int32) (x2 : Int32) (s0 : Int32) : Option (Int32 × MS) := (fX11_fails M s0 2).bind fun q => fX11_addMice_33 q.2 x1 x2 q.1
def fX11_addMice_28 (M : MS) (x1 : Int32) (x2 : Int32) : Option (Int32 × MS) := fX11_addMice_29 M x1 x2 0
def fX11_addMice_24 (M : MS) (x1 : Int32) (x2 : Int32) : Option (Int32 × MS) := fX11_addMice_29 M x1 x2 1
def fX11_addMice_21 (M : MS) (x1 : Int32) (x2 : Int32) (s0 : Int32) : Option (Int32 × MS) := if s0 = 0 then fX11_addMice_24 M x1 x2 else fX11_addMice_28 M x1 x2
def fX11_addMice_13 (M : MS) (x1 : Int32) (x2 : Int32) : Option (Int32 × MS) := (fX11_inRange M x2 1 99).bind fun q => fX11_addMice_21 M x1 x2 q
def fX11_addMice_10 (M : MS) (x1 : Int32) (x2 : Int32) (s0 : Int32) : Option (Int32 × MS) := if s0 = 0 then fX11_addMice_13 M x1 x2 else fX11_addMice_58 M
def fX11_addMice_5 (M : MS) (x1 : Int32) (x2 : Int32) : Option (Int32 × MS) := (fX11_noSack M x1).bind fun q => fX11_addMice_10 q.2 x1 x2 q.1
def fX11_addMice_0 (M : MS) (a1 : Int32) (a2 : Int32) : Option (Int32 × MS) := fX11_addMice_5 (va_up M.1 7 0, M.2) a1 a2
def fX11_addMice (M : MS) (a1 : Int32) (a2 : Int32) : Option (Int32 × MS) := fX11_addMice_0  M a1 a2
def fX11_addGrain_59 (M : MS) : Option (Int32 × MS) := some (0, M)
def fX11_addGrain_71 (M : MS) (s0 : Int32) : Option (Int32 × MS) := some (s0, M)
def fX11_addGrain_65 (M : MS) (x1 : Int32) (x2 : Int32) : Option (Int32 × MS) := (fX11_addsGrain M x1 x2).bind fun q => fX11_addGrain_71 q.2 q.1
def fX11_addGrain_61 (M : MS) (x1 : Int32) (x2 : Int32) : Option (Int32 × MS) := (fX11_remembers M ).bind fun q => fX11_addGrain_65 q x1 x2
def fX11_addGrain_56 (M : MS) (x1 : Int32) (x2 : Int32) (s0 : Int32) : Option (Int32 × MS) := if s0 = 0 then fX11_addGrain_61 M x1 x2 else fX11_addGrain_59 M
def fX11_addGrain_52 (M : MS) (x1 : Int32) (x2 : Int32) (s0 : Int32) : Option (Int32 × MS) := (fX11_fails M s0 3).bind fun q => fX11_addGrain_56 q.2 x1 x2 q.1
def fX11_addGrain_51 (M : MS) (x1 : Int32) (x2 : Int32) : Option (Int32 × MS) := fX11_addGrain_52 M x1 x2 0
def fX11_addGrain_47 (M : MS) (x1 : Int32) (x2 : Int32) : Option (Int32 × MS) := fX11_addGrain_52 M x1 x2 1
def fX11_addGrain_44 (M : MS) (x1 : Int32) (x2 : Int32) (s0 : Int32) : Option (Int32 × MS) := if s0 = 0 then fX11_addGrain_47 M x1 x2 else fX11_addGrain_51 M x1 x2
def fX11_addGrain_37 (M : MS) (x1 : Int32) (x2 : Int32) : Option (Int32 × MS) := (fX11_mayAddGrain M x1 x2).bind fun q => fX11_addGrain_44 M x1 x2 q
def fX11_addGrain_34 (M : MS) (x1 : Int32) (x2 : Int32) (s0 : Int32) : Option (Int32 × MS) := if s0 = 0 then fX11_addGrain_37 M x1 x2 else fX11_addGrain_59 M
def fX11_addGrain_30 (M : MS) (x1 : Int32) (x2 : Int32) (s0 : Int32) : Option (Int32 × MS) := (fX11_fails M s0 2).bind fun q => fX11_addGrain_34 q.2 x1 x2 q.1
def fX11_addGrain_29 (M : MS) (x1 : Int32) (x2 : Int32) : Option (Int32 × MS) := fX11_addGrain_30 M x1 x2 0
def fX11_addGrain_25 (M : MS) (x1 : Int32) (x2 : Int32) : Option (Int32 × MS) := fX11_addGrain_30 M x1 x2 1
def fX11_addGrain_22 (M : MS) (x1 : Int32) (x2 : Int32) (s0 : Int32) : Option (Int32 × MS) := if s0 = 0 then fX11_addGrain_25 M x1 x2 else fX11_addGrain_29 M x1 x2
def fX11_addGrain_13 (M : MS) (x1 : Int32) (x2 : Int32) : Option (Int32 × MS) := (fX11_inRange M x2 1 999).bind fun q => fX11_addGrain_22 M x1 x2 q
def fX11_addGrain_10 (M : MS) (x1 : Int32) (x2 : Int32) (s0 : Int32) : Option (Int32 × MS) := if s0 = 0 then fX11_addGrain_13 M x1 x2 else fX11_addGrain_59 M
def fX11_addGrain_5 (M : MS) (x1 : Int32) (x2 : Int32) : Option (Int32 × MS) := (fX11_noSack M x1).bind fun q => fX11_addGrain_10 q.2 x1 x2 q.1
def fX11_addGrain_0 (M : MS) (a1 : Int32) (a2 : Int32) : Option (Int32 × MS) := fX11_addGrain_5 (va_up M.1 7 0, M.2) a1 a2
def fX11_addGrain (M : MS) (a1 : Int32) (a2 : Int32) : Option (Int32 × MS) := fX11_addGrain_0  M a1 a2
def fX11_dismiss_40 (M : MS) (s0 : Int32) : Option (Int32 × MS) := some (s0, M)
def fX11_dismiss_34 (M : MS) : Option (Int32 × MS) := (fX11_sets M 5 (-1)).bind fun q => fX11_dismiss_40 q.2 q.1
def fX11_dismiss_30 (M : MS) : Option (Int32 × MS) := (fX11_remembers M ).bind fun q => fX11_dismiss_34 q
def fX11_dismiss_28 (M : MS) : Option (Int32 × MS) := some (0, M)
def fX11_dismiss_25 (M : MS) (s0 : Int32) : Option (Int32 × MS) := if s0 = 0 then fX11_dismiss_30 M else fX11_dismiss_28 M
def fX11_dismiss_21 (M : MS) (s0 : Int32) : Option (Int32 × MS) := (fX11_fails M s0 1).bind fun q => fX11_dismiss_25 q.2 q.1
def fX11_dismiss_20 (M : MS) : Option (Int32 × MS) := fX11_dismiss_21 M 0
def fX11_dismiss_16 (M : MS) : Option (Int32 × MS) := fX11_dismiss_21 M 1
def fX11_dismiss_5 (M : MS) : Option (Int32 × MS) := if gIn 5 257 then if (M.2 0 (5 : Int32).toNatClampNeg) = (-1) then fX11_dismiss_16 M else fX11_dismiss_20 M else none
def fX11_dismiss_0 (M : MS) : Option (Int32 × MS) := fX11_dismiss_5 (va_up M.1 7 0, M.2)
def fX11_dismiss (M : MS) : Option (Int32 × MS) := fX11_dismiss_0  M
def fX11_setMilk_40 (M : MS) (s0 : Int32) : Option (Int32 × MS) := some (s0, M)
def fX11_setMilk_34 (M : MS) (x1 : Int32) : Option (Int32 × MS) := (fX11_sets M 4 x1).bind fun q => fX11_setMilk_40 q.2 q.1
def fX11_setMilk_30 (M : MS) (x1 : Int32) : Option (Int32 × MS) := (fX11_remembers M ).bind fun q => fX11_setMilk_34 q x1
def fX11_setMilk_28 (M : MS) : Option (Int32 × MS) := some (0, M)
def fX11_setMilk_25 (M : MS) (x1 : Int32) (s0 : Int32) : Option (Int32 × MS) := if s0 = 0 then fX11_setMilk_30 M x1 else fX11_setMilk_28 M
def fX11_setMilk_21 (M : MS) (x1 : Int32) (s0 : Int32) : Option (Int32 × MS) := (fX11_fails M s0 1).bind fun q => fX11_setMilk_25 q.2 x1 q.1
def fX11_setMilk_20 (M : MS) (x1 : Int32) : Option (Int32 × MS) := fX11_setMilk_21 M x1 0
def fX11_setMilk_16 (M : MS) (x1 : Int32) : Option (Int32 × MS) := fX11_setMilk_21 M x1 1
def fX11_setMilk_13 (M : MS) (x1 : Int32) (s0 : Int32) : Option (Int32 × MS) := if s0 = 0 then fX11_setMilk_16 M x1 else fX11_setMilk_20 M x1
def fX11_setMilk_5 (M : MS) (x1 : Int32) : Option (Int32 × MS) := (fX11_inRange M x1 0 9).bind fun q => fX11_setMilk_13 M x1 q
def fX11_setMilk_0 (M : MS) (a1 : Int32) : Option (Int32 × MS) := fX11_setMilk_5 (va_up M.1 7 0, M.2) a1
def fX11_setMilk (M : MS) (a1 : Int32) : Option (Int32 × MS) := fX11_setMilk_0  M a1
def fX11_eats_77 (M : MS) : Option (MS) := some M
def fX11_eats_123 (M : MS) : Option (MS) := some M
def fX11_eats_113 (M : MS) (x1 : Int32) (x2 : Int32) : Option (MS) := (fX11_starve M x1 ((x2 + 1) / 2)).bind fun q => fX11_eats_123 q
def fX11_eats_110 (M : MS) : Option (MS) := fX11_eats_123 M
def fX11_eats_103 (M : MS) (x1 : Int32) (x4 : Int32) : Option (MS) := (fX11_moves M x1 x4).bind fun q => fX11_eats_110 q
def fX11_eats_95 (M : MS) (x1 : Int32) (x2 : Int32) (s0 : Int32) : Option (MS) := if s0 = (-1) then fX11_eats_113 M x1 x2 else fX11_eats_103 M x1 s0
def fX11_eats_94 (M : MS) (x1 : Int32) (x2 : Int32) : Option (MS) := fX11_eats_95 M x1 x2 (-1)
def fX11_eats_91 (M : MS) (x1 : Int32) (x2 : Int32) (s0 : Int32) : Option (MS) := fX11_eats_95 M x1 x2 s0
def fX11_eats_86 (M : MS) (x1 : Int32) (x2 : Int32) : Option (MS) := (fX11_nextOpen M x1).bind fun q => fX11_eats_91 M x1 x2 q
def fX11_eats_83 (M : MS) (x1 : Int32) (x2 : Int32) (s0 : Int32) : Option (MS) := if s0 = 0 then fX11_eats_94 M x1 x2 else fX11_eats_86 M x1 x2
def fX11_eats_78 (M : MS) (x1 : Int32) (x2 : Int32) : Option (MS) := (fX11_isOpenSack M x1).bind fun q => fX11_eats_83 M x1 x2 q
def fX11_eats_74 (M : MS) (x1 : Int32) (x2 : Int32) (s0 : Int32) : Option (MS) := if s0 ≤ 0 then fX11_eats_78 M x1 x2 else fX11_eats_77 M
def fX11_eats_67 (M : MS) (x1 : Int32) (x2 : Int32) : Option (MS) := (fX11_ofSack M x1 7).bind fun q => fX11_eats_74 M x1 x2 q
def fX11_eats_63 (M : MS) (x1 : Int32) (x2 : Int32) : Option (MS) := if x2 = 0 then fX11_eats_77 M else fX11_eats_67 M x1 x2
def fX11_eats_52 (M : MS) (x1 : Int32) (x2 : Int32) (x3 : Int32) : Option (MS) := if gIn 9 257 then if gIn 9 257 then fX11_eats_63 (M.1, va_up M.2 0 (upd (M.2 0) (9 : Int32).toNatClampNeg ((M.2 0 (9 : Int32).toNatClampNeg) + x3))) x1 x2 else none else none
def fX11_eats_47 (M : MS) (x1 : Int32) (x2 : Int32) (x3 : Int32) (s0 : Int32) (s1 : Int32) (s2 : Int32) : Option (MS) := (fX11_putsSack M s2 s1 (s0 + x3)).bind fun q => fX11_eats_52 q x1 x2 x3
def fX11_eats_36 (M : MS) (x1 : Int32) (x2 : Int32) (x3 : Int32) : Option (MS) := (fX11_ofSack M x1 10).bind fun q => fX11_eats_47 M x1 x2 x3 q 10 x1
def fX11_eats_31 (M : MS) (x1 : Int32) (x2 : Int32) (x3 : Int32) (s0 : Int32) (s1 : Int32) (s2 : Int32) : Option (MS) := (fX11_putsSack M s2 s1 (s0 - x3)).bind fun q => fX11_eats_36 q x1 x2 x3
def fX11_eats_16 (M : MS) (x1 : Int32) (x2 : Int32) (s0 : Int32) (s1 : Int32) : Option (MS) := (fX11_ofSack M x1 7).bind fun q => fX11_eats_31 M x1 x2 (if s0 < s1 then s0 else s1) q 7 x1
def fX11_eats_7 (M : MS) (x1 : Int32) (s0 : Int32) : Option (MS) := (fX11_ofSack M x1 7).bind fun q => fX11_eats_16 M x1 s0 q s0
def fX11_eats_0 (M : MS) (a1 : Int32) : Option (MS) := (fX11_ofSack M a1 8).bind fun q => fX11_eats_7 M a1 q
def fX11_eats (M : MS) (a1 : Int32) : Option (MS) := fX11_eats_0  M a1
def fX11_hunts_22 (M : MS) : Option (Int32 × MS) := some ((-1), M)
def fX11_hunts_111 (M : MS) (x1 : Int32) : Option (Int32 × MS) := some (x1, M)
def fX11_hunts_104 (M : MS) (x1 : Int32) (x3 : Int32) : Option (Int32 × MS) := (fX11_logs M 1 x1 x3).bind fun q => fX11_hunts_111 q x1
def fX11_hunts_96 (M : MS) (x1 : Int32) (x3 : Int32) (s0 : Int32) (s1 : Int32) (s2 : Int32) (s3 : Int32) : Option (Int32 × MS) := (fX11_putsCat M s3 s2 (if (s0 + 1) < s1 then (s0 + 1) else s1)).bind fun q => fX11_hunts_104 q x1 x3
def fX11_hunts_83 (M : MS) (x1 : Int32) (x3 : Int32) : Option (Int32 × MS) := (fX11_ofCat M x1 9).bind fun q => fX11_hunts_96 M x1 x3 q 20 9 x1
def fX11_hunts_72 (M : MS) (x1 : Int32) (x3 : Int32) : Option (Int32 × MS) := if gIn 8 257 then if gIn 8 257 then fX11_hunts_83 (M.1, va_up M.2 0 (upd (M.2 0) (8 : Int32).toNatClampNeg ((M.2 0 (8 : Int32).toNatClampNeg) + x3))) x1 x3 else none else none
def fX11_hunts_67 (M : MS) (x1 : Int32) (x3 : Int32) (s0 : Int32) (s1 : Int32) (s2 : Int32) : Option (Int32 × MS) := (fX11_putsCat M s2 s1 (s0 + x3)).bind fun q => fX11_hunts_72 q x1 x3
def fX11_hunts_56 (M : MS) (x1 : Int32) (x3 : Int32) : Option (Int32 × MS) := (fX11_ofCat M x1 10).bind fun q => fX11_hunts_67 M x1 x3 q 10 x1
def fX11_hunts_51 (M : MS) (x1 : Int32) (x3 : Int32) (s0 : Int32) (s1 : Int32) (s2 : Int32) : Option (Int32 × MS) := (fX11_putsSack M s2 s1 (s0 - x3)).bind fun q => fX11_hunts_56 q x1 x3
def fX11_hunts_36 (M : MS) (x1 : Int32) (x2 : Int32) (s0 : Int32) (s1 : Int32) : Option (Int32 × MS) := (fX11_ofSack M x2 8).bind fun q => fX11_hunts_51 M x1 (if s0 < s1 then s0 else s1) q 8 x2
def fX11_hunts_29 (M : MS) (x1 : Int32) (x2 : Int32) (s0 : Int32) : Option (Int32 × MS) := (fX11_ofSack M x2 8).bind fun q => fX11_hunts_36 M x1 x2 q s0
def fX11_hunts_24 (M : MS) (x1 : Int32) (x2 : Int32) : Option (Int32 × MS) := (fX11_strength M x1).bind fun q => fX11_hunts_29 M x1 x2 q
def fX11_hunts_17 (M : MS) (x1 : Int32) (x2 : Int32) : Option (Int32 × MS) := if x2 = (-1) then fX11_hunts_22 M else fX11_hunts_24 M x1 x2
def fX11_hunts_11 (M : MS) (x1 : Int32) (s0 : Int32) : Option (Int32 × MS) := if x1 = (-1) then fX11_hunts_22 M else fX11_hunts_17 M x1 s0
def fX11_hunts_0 (M : MS) : Option (Int32 × MS) := if gIn 5 257 then (fX11_hunted M ).bind fun q => fX11_hunts_11 M (M.2 0 (5 : Int32).toNatClampNeg) q else none
def fX11_hunts (M : MS) : Option (Int32 × MS) := fX11_hunts_0  M
def fX11_shiftGoes_78 (M : MS) : Option (MS) := some M
def fX11_shiftGoes_75 (M : MS) (s0 : Int32) : Option (MS) := (fX11_swears M s0).bind fun q => fX11_shiftGoes_78 q
def fX11_shiftGoes_63 (M : MS) : Option (MS) := if gIn 6 257 then (fX11_shiftCat M (M.2 0 (6 : Int32).toNatClampNeg)).bind fun q => fX11_shiftGoes_75 M q else none
def fX11_shiftGoes_62 (M : MS) (s0 : Int32) (s1 : Int32) : Option (MS) := if gIn s1 257 then fX11_shiftGoes_63 (M.1, va_up M.2 0 (upd (M.2 0) s1.toNatClampNeg s0)) else none
def fX11_shiftGoes_45 (M : MS) : Option (MS) := if gIn 6 257 then (fX11_shiftHours M (M.2 0 (6 : Int32).toNatClampNeg)).bind fun q => fX11_shiftGoes_62 M q 7 else none
def fX11_shiftGoes_22 (M : MS) : Option (MS) := if gIn 6 257 then if gIn 2 257 then if ¬ (M.2 0 (2 : Int32).toNatClampNeg) = 0 then if gIn 6 257 then fX11_shiftGoes_45 (M.1, va_up M.2 0 (upd (M.2 0) (6 : Int32).toNatClampNeg (((M.2 0 (6 : Int32).toNatClampNeg) + 1) - ((M.2 0 (6 : Int32).toNatClampNeg) + 1) / (M.2 0 (2 : Int32).toNatClampNeg) * (M.2 0 (2 : Int32).toNatClampNeg)))) else none else none else none else none
def fX11_shiftGoes_21 (M : MS) : Option (MS) := some M
def fX11_shiftGoes_11 (M : MS) : Option (MS) := if gIn 7 257 then if (M.2 0 (7 : Int32).toNatClampNeg) ≤ 0 then fX11_shiftGoes_22 M else fX11_shiftGoes_21 M else none
def fX11_shiftGoes_0 (M : MS) : Option (MS) := if gIn 7 257 then if gIn 7 257 then fX11_shiftGoes_11 (M.1, va_up M.2 0 (upd (M.2 0) (7 : Int32).toNatClampNeg ((M.2 0 (7 : Int32).toNatClampNeg) - 1))) else none else none
def fX11_shiftGoes (M : MS) : Option (MS) := fX11_shiftGoes_0  M
def fX11_takesNumber_15 (M : MS) : Option (Int32 × MS) := some (1, M)
def fX11_takesNumber_11 (M : MS) : Option (Int32 × MS) := (fX11_advanceToken M ).bind fun q => fX11_takesNumber_15 q
def fX11_takesNumber_9 (M : MS) : Option (Int32 × MS) := some (0, M)
def fX11_takesNumber_6 (M : MS) (s0 : Int32) : Option (Int32 × MS) := if s0 = 0 then fX11_takesNumber_9 M else fX11_takesNumber_11 M
def fX11_takesNumber_0 (M : MS) (a1 : Int32) (a2 : Int32) : Option (Int32 × MS) := (fX11_seesNumber M a1 a2).bind fun q => fX11_takesNumber_6 q.2 q.1
def fX11_takesNumber (M : MS) (a1 : Int32) (a2 : Int32) : Option (Int32 × MS) := bz (fX11_takesNumber_0  M a1 a2)
def fX11_takesSemicolon_18 (M : MS) : Option (Int32 × MS) := some (1, M)
def fX11_takesSemicolon_14 (M : MS) : Option (Int32 × MS) := (fX11_advanceToken M ).bind fun q => fX11_takesSemicolon_18 q
def fX11_takesSemicolon_13 (M : MS) (s0 : Int32) : Option (Int32 × MS) := some (s0, M)
def fX11_takesSemicolon_8 (M : MS) : Option (Int32 × MS) := (fX11_failsAt M 1).bind fun q => fX11_takesSemicolon_13 q.2 q.1
def fX11_takesSemicolon_0 (M : MS) : Option (Int32 × MS) := if (M.1 17) = 3 then fX11_takesSemicolon_14 M else fX11_takesSemicolon_8 M
def fX11_takesSemicolon (M : MS) : Option (Int32 × MS) := bz (fX11_takesSemicolon_0  M)
def fX11_takesKnown_41 (M : MS) : Option (Int32 × MS) := some (1, M)
def fX11_takesKnown_37 (M : MS) : Option (Int32 × MS) := (fX11_advanceToken M ).bind fun q => fX11_takesKnown_41 q
def fX11_takesKnown_36 (M : MS) (s0 : Int32) : Option (Int32 × MS) := some (s0, M)
def fX11_takesKnown_31 (M : MS) : Option (Int32 × MS) := (fX11_failsAt M 4).bind fun q => fX11_takesKnown_36 q.2 q.1
def fX11_takesKnown_21 (M : MS) : Option (Int32 × MS) := if gIn 0 4 then if (M.2 19 (0 : Int32).toNatClampNeg) = (-1) then fX11_takesKnown_31 M else fX11_takesKnown_37 M else none
def fX11_takesKnown_20 (M : MS) (s0 : Int32) (s1 : Int32) : Option (Int32 × MS) := if gIn s1 4 then fX11_takesKnown_21 (M.1, va_up M.2 19 (upd (M.2 19) s1.toNatClampNeg s0)) else none
def fX11_takesKnown_9 (M : MS) (x1 : Int32) (x2 : Int32) : Option (Int32 × MS) := (fX11_nameHere M x1 x2).bind fun q => fX11_takesKnown_20 M q 0
def fX11_takesKnown_7 (M : MS) : Option (Int32 × MS) := some (0, M)
def fX11_takesKnown_4 (M : MS) (x1 : Int32) (x2 : Int32) (s0 : Int32) : Option (Int32 × MS) := if s0 = 0 then fX11_takesKnown_7 M else fX11_takesKnown_9 M x1 x2
def fX11_takesKnown_0 (M : MS) (a1 : Int32) (a2 : Int32) : Option (Int32 × MS) := (fX11_seesName M ).bind fun q => fX11_takesKnown_4 q.2 a1 a2 q.1
def fX11_takesKnown (M : MS) (a1 : Int32) (a2 : Int32) : Option (Int32 × MS) := bz (fX11_takesKnown_0  M a1 a2)
def fX11_takesNewName_113 (M : MS) : Option (Int32 × MS) := some (1, M)
def fX11_takesNewName_109 (M : MS) : Option (Int32 × MS) := (fX11_advanceToken M ).bind fun q => fX11_takesNewName_113 q
def fX11_takesNewName_94 (M : MS) : Option (Int32 × MS) := if gIn 3 4 then fX11_takesNewName_109 (M.1, va_up M.2 19 (upd (M.2 19) (3 : Int32).toNatClampNeg ((M.1 14) - (M.1 15)))) else none
def fX11_takesNewName_88 (K40 : MS → Int32 → Int32 → Option (Int32 × MS)) (M : MS) (x3 : Int32) (x4 : Int32) : Option (Int32 × MS) := K40 M x3 (x4 + 1)
def fX11_takesNewName_87 (K40 : MS → Int32 → Int32 → Option (Int32 × MS)) (M : MS) (x3 : Int32) (x4 : Int32) (s0 : Int32) (s1 : Int32) : Option (Int32 × MS) := if gIn s1 257 then fX11_takesNewName_88 K40 (M.1, va_up M.2 0 (upd (M.2 0) s1.toNatClampNeg s0)) x3 x4 else none
def fX11_takesNewName_86 (K40 : MS → Int32 → Int32 → Option (Int32 × MS)) (M : MS) (x3 : Int32) (x4 : Int32) (s0 : Int32) : Option (Int32 × MS) := fX11_takesNewName_87 K40 M x3 x4 0 s0
def fX11_takesNewName_71 (K40 : MS → Int32 → Int32 → Option (Int32 × MS)) (M : MS) (x3 : Int32) (x4 : Int32) (s0 : Int32) : Option (Int32 × MS) := if gIn ((M.1 15) + x4) 600 then fX11_takesNewName_87 K40 M x3 x4 (M.2 8 ((M.1 15) + x4).toNatClampNeg) s0 else none
def fX11_takesNewName_47 (K40 : MS → Int32 → Int32 → Option (Int32 × MS)) (M : MS) (x3 : Int32) (x4 : Int32) : Option (Int32 × MS) := if ((M.1 14) - (M.1 15)) ≤ x4 then fX11_takesNewName_86 K40 M x3 x4 ((x3 + 1) + x4) else fX11_takesNewName_71 K40 M x3 x4 ((x3 + 1) + x4)
def fX11_takesNewName_40 : Nat → MS → Int32 → Int32 → Option (Int32 × MS)
  | 0 => fun _ _ _ => none
  | k + 1 => fun M x3 x4 => if 6 ≤ x4 then fX11_takesNewName_94 M else fX11_takesNewName_47 (fX11_takesNewName_40 k) M x3 x4
def fX11_takesNewName_25 (M : MS) (x1 : Int32) (x2 : Int32) : Option (Int32 × MS) := if gIn x2 257 then fX11_takesNewName_40 FU M (x1 + (12 * (M.2 0 x2.toNatClampNeg))) 0 else none
def fX11_takesNewName_24 (M : MS) (s0 : Int32) : Option (Int32 × MS) := some (s0, M)
def fX11_takesNewName_19 (M : MS) : Option (Int32 × MS) := (fX11_failsAt M 3).bind fun q => fX11_takesNewName_24 q.2 q.1
def fX11_takesNewName_15 (M : MS) (x1 : Int32) (x2 : Int32) (s0 : Int32) : Option (Int32 × MS) := if s0 = (-1) then fX11_takesNewName_25 M x1 x2 else fX11_takesNewName_19 M
def fX11_takesNewName_9 (M : MS) (x1 : Int32) (x2 : Int32) : Option (Int32 × MS) := (fX11_nameHere M x1 x2).bind fun q => fX11_takesNewName_15 M x1 x2 q
def fX11_takesNewName_7 (M : MS) : Option (Int32 × MS) := some (0, M)
def fX11_takesNewName_4 (M : MS) (x1 : Int32) (x2 : Int32) (s0 : Int32) : Option (Int32 × MS) := if s0 = 0 then fX11_takesNewName_7 M else fX11_takesNewName_9 M x1 x2
def fX11_takesNewName_0 (M : MS) (a1 : Int32) (a2 : Int32) : Option (Int32 × MS) := (fX11_seesName M ).bind fun q => fX11_takesNewName_4 q.2 a1 a2 q.1
def fX11_takesNewName (M : MS) (a1 : Int32) (a2 : Int32) : Option (Int32 × MS) := bz (fX11_takesNewName_0  M a1 a2)
def fX11_takesChoice_28 (M : MS) : Option (Int32 × MS) := some (1, M)
def fX11_takesChoice_24 (M : MS) : Option (Int32 × MS) := (fX11_advanceToken M ).bind fun q => fX11_takesChoice_28 q
def fX11_takesChoice_23 (M : MS) (s0 : Int32) (s1 : Int32) : Option (Int32 × MS) := if gIn s1 4 then fX11_takesChoice_24 (M.1, va_up M.2 19 (upd (M.2 19) s1.toNatClampNeg s0)) else none
def fX11_takesChoice_14 (M : MS) (x1 : Int32) (x2 : Int32) : Option (Int32 × MS) := (fX11_one M x2).bind fun q => fX11_takesChoice_23 M q x1
def fX11_takesChoice_13 (M : MS) (s0 : Int32) : Option (Int32 × MS) := some (s0, M)
def fX11_takesChoice_8 (M : MS) : Option (Int32 × MS) := (fX11_failsAt M 1).bind fun q => fX11_takesChoice_13 q.2 q.1
def fX11_takesChoice_4 (M : MS) (x1 : Int32) (x2 : Int32) (x3 : Int32) : Option (Int32 × MS) := if x3 = 0 then fX11_takesChoice_8 M else fX11_takesChoice_14 M x1 x2
def fX11_takesChoice_0 (M : MS) (a1 : Int32) (a2 : Int32) (a3 : Int32) : Option (Int32 × MS) := if a2 = 0 then fX11_takesChoice_4 M a1 a2 a3 else fX11_takesChoice_14 M a1 a2
def fX11_takesChoice (M : MS) (a1 : Int32) (a2 : Int32) (a3 : Int32) : Option (Int32 × MS) := bz (fX11_takesChoice_0  M a1 a2 a3)
def fX11_startsText_24 (M : MS) : Option (MS) := some M
def fX11_startsText_20 (M : MS) : Option (MS) := (fX11_advanceToken M ).bind fun q => fX11_startsText_24 q
def fX11_startsText_15 (M : MS) : Option (MS) := fX11_startsText_20 (va_up M.1 14 0, M.2)
def fX11_startsText_10 (M : MS) : Option (MS) := fX11_startsText_15 (va_up M.1 22 0, M.2)
def fX11_startsText_5 (M : MS) : Option (MS) := fX11_startsText_10 (va_up M.1 13 (-1), M.2)
def fX11_startsText_0 (M : MS) : Option (MS) := fX11_startsText_5 (va_up M.1 12 0, M.2)
def fX11_startsText (M : MS) : Option (MS) := fX11_startsText_0  M
def fX11_oathReason_22 (M : MS) (s0 : Int32) : Option (Int32 × MS) := some (s0, M)
def fX11_oathReason_17 (M : MS) (x1 : Int32) : Option (Int32 × MS) := (fX11_reasonOf M x1).bind fun q => fX11_oathReason_22 M q
def fX11_oathReason_13 (M : MS) : Option (Int32 × MS) := fX11_oathReason_22 M 0
def fX11_oathReason_10 (M : MS) (x1 : Int32) (s0 : Int32) : Option (Int32 × MS) := if s0 = 0 then fX11_oathReason_17 M x1 else fX11_oathReason_13 M
def fX11_oathReason_5 (M : MS) (x1 : Int32) : Option (Int32 × MS) := (fX11_noCat M x1).bind fun q => fX11_oathReason_10 q.2 x1 q.1
def fX11_oathReason_0 (M : MS) (a1 : Int32) : Option (Int32 × MS) := fX11_oathReason_5 (va_up M.1 7 0, M.2) a1
def fX11_oathReason (M : MS) (a1 : Int32) : Option (Int32 × MS) := fX11_oathReason_0  M a1
def fX11_huntingSack_9 (M : MS) (s0 : Int32) : Option (Int32 × MS) := some (s0, M)
def fX11_huntingSack_5 (M : MS) : Option (Int32 × MS) := (fX11_hunted M ).bind fun q => fX11_huntingSack_9 M q
def fX11_huntingSack_0 (M : MS) : Option (Int32 × MS) := fX11_huntingSack_5 (va_up M.1 7 0, M.2)
def fX11_huntingSack (M : MS) : Option (Int32 × MS) := fX11_huntingSack_0  M
def fX11_openFlap_26 (M : MS) : Option (Int32 × MS) := some (0, M)
def fX11_openFlap_38 (M : MS) (s0 : Int32) : Option (Int32 × MS) := some (s0, M)
def fX11_openFlap_32 (M : MS) (x1 : Int32) : Option (Int32 × MS) := (fX11_setsFlap M x1 1).bind fun q => fX11_openFlap_38 q.2 q.1
def fX11_openFlap_28 (M : MS) (x1 : Int32) : Option (Int32 × MS) := (fX11_remembers M ).bind fun q => fX11_openFlap_32 q x1
def fX11_openFlap_23 (M : MS) (x1 : Int32) (s0 : Int32) : Option (Int32 × MS) := if s0 = 0 then fX11_openFlap_28 M x1 else fX11_openFlap_26 M
def fX11_openFlap_19 (M : MS) (x1 : Int32) (s0 : Int32) : Option (Int32 × MS) := (fX11_fails M s0 2).bind fun q => fX11_openFlap_23 q.2 x1 q.1
def fX11_openFlap_13 (M : MS) (x1 : Int32) : Option (Int32 × MS) := (fX11_isOpenSack M x1).bind fun q => fX11_openFlap_19 M x1 q
def fX11_openFlap_10 (M : MS) (x1 : Int32) (s0 : Int32) : Option (Int32 × MS) := if s0 = 0 then fX11_openFlap_13 M x1 else fX11_openFlap_26 M
def fX11_openFlap_5 (M : MS) (x1 : Int32) : Option (Int32 × MS) := (fX11_noSack M x1).bind fun q => fX11_openFlap_10 q.2 x1 q.1
def fX11_openFlap_0 (M : MS) (a1 : Int32) : Option (Int32 × MS) := fX11_openFlap_5 (va_up M.1 7 0, M.2) a1
def fX11_openFlap (M : MS) (a1 : Int32) : Option (Int32 × MS) := fX11_openFlap_0  M a1
def fX11_shutFlap_34 (M : MS) : Option (Int32 × MS) := some (0, M)
def fX11_shutFlap_46 (M : MS) (s0 : Int32) : Option (Int32 × MS) := some (s0, M)
def fX11_shutFlap_40 (M : MS) (x1 : Int32) : Option (Int32 × MS) := (fX11_setsFlap M x1 0).bind fun q => fX11_shutFlap_46 q.2 q.1
def fX11_shutFlap_36 (M : MS) (x1 : Int32) : Option (Int32 × MS) := (fX11_remembers M ).bind fun q => fX11_shutFlap_40 q x1
def fX11_shutFlap_31 (M : MS) (x1 : Int32) (s0 : Int32) : Option (Int32 × MS) := if s0 = 0 then fX11_shutFlap_36 M x1 else fX11_shutFlap_34 M
def fX11_shutFlap_27 (M : MS) (x1 : Int32) (s0 : Int32) : Option (Int32 × MS) := (fX11_fails M s0 2).bind fun q => fX11_shutFlap_31 q.2 x1 q.1
def fX11_shutFlap_26 (M : MS) (x1 : Int32) : Option (Int32 × MS) := fX11_shutFlap_27 M x1 0
def fX11_shutFlap_22 (M : MS) (x1 : Int32) : Option (Int32 × MS) := fX11_shutFlap_27 M x1 1
def fX11_shutFlap_19 (M : MS) (x1 : Int32) (s0 : Int32) : Option (Int32 × MS) := if s0 = 0 then fX11_shutFlap_22 M x1 else fX11_shutFlap_26 M x1
def fX11_shutFlap_13 (M : MS) (x1 : Int32) : Option (Int32 × MS) := (fX11_isOpenSack M x1).bind fun q => fX11_shutFlap_19 M x1 q
def fX11_shutFlap_10 (M : MS) (x1 : Int32) (s0 : Int32) : Option (Int32 × MS) := if s0 = 0 then fX11_shutFlap_13 M x1 else fX11_shutFlap_34 M
def fX11_shutFlap_5 (M : MS) (x1 : Int32) : Option (Int32 × MS) := (fX11_noSack M x1).bind fun q => fX11_shutFlap_10 q.2 x1 q.1
def fX11_shutFlap_0 (M : MS) (a1 : Int32) : Option (Int32 × MS) := fX11_shutFlap_5 (va_up M.1 7 0, M.2) a1
def fX11_shutFlap (M : MS) (a1 : Int32) : Option (Int32 × MS) := fX11_shutFlap_0  M a1
def fX11_hourPasses_124 (M : MS) : Option (MS) := some M
def fX11_hourPasses_120 (M : MS) : Option (MS) := (fX11_dawns M ).bind fun q => fX11_hourPasses_124 q
def fX11_hourPasses_106 (M : MS) : Option (MS) := if gIn 3 257 then if ((M.2 0 (3 : Int32).toNatClampNeg) - (M.2 0 (3 : Int32).toNatClampNeg) / 24 * 24) = 6 then fX11_hourPasses_120 M else fX11_hourPasses_124 M else none
def fX11_hourPasses_102 (M : MS) : Option (MS) := (fX11_shiftGoes M ).bind fun q => fX11_hourPasses_106 q
def fX11_hourPasses_96 (K75 : MS → Int32 → Int32 → Option (MS)) (M : MS) (x1 : Int32) (x2 : Int32) : Option (MS) := K75 M x1 (x2 + 1)
def fX11_hourPasses_90 (K75 : MS → Int32 → Int32 → Option (MS)) (M : MS) (x1 : Int32) (x2 : Int32) : Option (MS) := (fX11_rests M x2 1).bind fun q => fX11_hourPasses_96 K75 q x1 x2
def fX11_hourPasses_85 (K75 : MS → Int32 → Int32 → Option (MS)) (M : MS) (x1 : Int32) (x2 : Int32) : Option (MS) := if x2 = x1 then fX11_hourPasses_96 K75 M x1 x2 else fX11_hourPasses_90 K75 M x1 x2
def fX11_hourPasses_75 : Nat → MS → Int32 → Int32 → Option (MS)
  | 0 => fun _ _ _ => none
  | k + 1 => fun M x1 x2 => if gIn 0 257 then if (M.2 0 (0 : Int32).toNatClampNeg) ≤ x2 then fX11_hourPasses_102 M else fX11_hourPasses_85 (fX11_hourPasses_75 k) M x1 x2 else none
def fX11_hourPasses_72 (M : MS) (s0 : Int32) : Option (MS) := fX11_hourPasses_75 FU M s0 0
def fX11_hourPasses_68 (M : MS) : Option (MS) := (fX11_hunts M ).bind fun q => fX11_hourPasses_72 q.2 q.1
def fX11_hourPasses_62 (K35 : MS → Int32 → Option (MS)) (M : MS) (x1 : Int32) : Option (MS) := K35 M (x1 + 1)
def fX11_hourPasses_57 (K35 : MS → Int32 → Option (MS)) (M : MS) (x1 : Int32) : Option (MS) := (fX11_breeds M x1).bind fun q => fX11_hourPasses_62 K35 q x1
def fX11_hourPasses_45 (K35 : MS → Int32 → Option (MS)) (M : MS) (x1 : Int32) : Option (MS) := if gIn 3 257 then if ((M.2 0 (3 : Int32).toNatClampNeg) - (M.2 0 (3 : Int32).toNatClampNeg) / 24 * 24) = 0 then fX11_hourPasses_57 K35 M x1 else fX11_hourPasses_68 M else none
def fX11_hourPasses_35 : Nat → MS → Int32 → Option (MS)
  | 0 => fun _ _ => none
  | k + 1 => fun M x1 => if gIn 1 257 then if (M.2 0 (1 : Int32).toNatClampNeg) ≤ x1 then fX11_hourPasses_68 M else fX11_hourPasses_45 (fX11_hourPasses_35 k) M x1 else none
def fX11_hourPasses_33 (M : MS) : Option (MS) := fX11_hourPasses_35 FU M 0
def fX11_hourPasses_27 (K12 : MS → Int32 → Option (MS)) (M : MS) (x1 : Int32) : Option (MS) := K12 M (x1 + 1)
def fX11_hourPasses_22 (K12 : MS → Int32 → Option (MS)) (M : MS) (x1 : Int32) : Option (MS) := (fX11_eats M x1).bind fun q => fX11_hourPasses_27 K12 q x1
def fX11_hourPasses_12 : Nat → MS → Int32 → Option (MS)
  | 0 => fun _ _ => none
  | k + 1 => fun M x1 => if gIn 1 257 then if (M.2 0 (1 : Int32).toNatClampNeg) ≤ x1 then fX11_hourPasses_33 M else fX11_hourPasses_22 (fX11_hourPasses_12 k) M x1 else none
def fX11_hourPasses_10 (M : MS) : Option (MS) := fX11_hourPasses_12 FU M 0
def fX11_hourPasses_0 (M : MS) : Option (MS) := if gIn 3 257 then if gIn 3 257 then fX11_hourPasses_10 (M.1, va_up M.2 0 (upd (M.2 0) (3 : Int32).toNatClampNeg ((M.2 0 (3 : Int32).toNatClampNeg) + 1))) else none else none
def fX11_hourPasses (M : MS) : Option (MS) := fX11_hourPasses_0  M
def fX11_isWord_24 (M : MS) : Option (Int32) := some 0
def fX11_isWord_63 (M : MS) : Option (Int32) := some 1
def fX11_isWord_57 (a1 : List Int32) (K28 : MS → Int32 → Option (Int32)) (M : MS) (x2 : Int32) : Option (Int32) := K28 M (x2 + 1)
def fX11_isWord_55 (M : MS) : Option (Int32) := some 0
def fX11_isWord_36 (a1 : List Int32) (K28 : MS → Int32 → Option (Int32)) (M : MS) (x2 : Int32) : Option (Int32) := if gIn ((M.1 15) + x2) 600 then if gIn x2 a1.length then if (M.2 8 ((M.1 15) + x2).toNatClampNeg) = (a1.getD x2.toNatClampNeg 0) then fX11_isWord_57 a1 K28 M x2 else fX11_isWord_55 M else none else none
def fX11_isWord_28 (a1 : List Int32) : Nat → MS → Int32 → Option (Int32)
  | 0 => fun _ _ => none
  | k + 1 => fun M x2 => if (Int32.ofNat a1.length) ≤ x2 then fX11_isWord_63 M else fX11_isWord_36 a1 (fX11_isWord_28 a1 k) M x2
def fX11_isWord_26 (a1 : List Int32) (M : MS) : Option (Int32) := fX11_isWord_28 a1 FU M 0
def fX11_isWord_8 (a1 : List Int32) (M : MS) : Option (Int32) := if ((M.1 14) - (M.1 15)) = (Int32.ofNat a1.length) then fX11_isWord_26 a1 M else fX11_isWord_24 M
def fX11_isWord_0 (a1 : List Int32) (M : MS) : Option (Int32) := if (M.1 17) = 1 then fX11_isWord_8 a1 M else fX11_isWord_24 M
def fX11_isWord (M : MS) (a1 : List Int32) : Option (Int32) := bq (fX11_isWord_0 a1  M)
def fX11_takes_21 (M : MS) : Option (Int32 × MS) := some (1, M)
def fX11_takes_11 (M : MS) (x1 : Int32) : Option (Int32 × MS) := if gIn x1 4 then fX11_takes_21 (M.1, va_up M.2 19 (upd (M.2 19) x1.toNatClampNeg (M.1 18))) else none
def fX11_takes_9 (M : MS) : Option (Int32 × MS) := some (0, M)
def fX11_takes_6 (M : MS) (x1 : Int32) (s0 : Int32) : Option (Int32 × MS) := if s0 = 0 then fX11_takes_9 M else fX11_takes_11 M x1
def fX11_takes_0 (M : MS) (a1 : Int32) (a2 : Int32) (a3 : Int32) : Option (Int32 × MS) := (fX11_takesNumber M a2 a3).bind fun q => fX11_takes_6 q.2 a1 q.1
def fX11_takes (M : MS) (a1 : Int32) (a2 : Int32) (a3 : Int32) : Option (Int32 × MS) := bz (fX11_takes_0  M a1 a2 a3)
def fX11_passes_25 (M : MS) (x2 : Int32) : Option (Int32 × MS) := if gIn 8 257 then some (((M.2 0 (8 : Int32).toNatClampNeg) - x2), M) else none
def fX11_passes_19 (K10 : MS → Int32 → Int32 → Int32 → Option (Int32 × MS)) (M : MS) (x1 : Int32) (x2 : Int32) (x3 : Int32) : Option (Int32 × MS) := K10 M x1 x2 (x3 + 1)
def fX11_passes_15 (K10 : MS → Int32 → Int32 → Int32 → Option (Int32 × MS)) (M : MS) (x1 : Int32) (x2 : Int32) (x3 : Int32) : Option (Int32 × MS) := (fX11_hourPasses M ).bind fun q => fX11_passes_19 K10 q x1 x2 x3
def fX11_passes_10 : Nat → MS → Int32 → Int32 → Int32 → Option (Int32 × MS)
  | 0 => fun _ _ _ _ => none
  | k + 1 => fun M x1 x2 x3 => if x1 ≤ x3 then fX11_passes_25 M x2 else fX11_passes_15 (fX11_passes_10 k) M x1 x2 x3
def fX11_passes_0 (M : MS) (a1 : Int32) : Option (Int32 × MS) := if gIn 8 257 then fX11_passes_10 FU M a1 (M.2 0 (8 : Int32).toNatClampNeg) 0 else none
def fX11_passes (M : MS) (a1 : Int32) : Option (Int32 × MS) := fX11_passes_0  M a1
def fX11_readCat_62 (M : MS) : Option (Int32 × MS) := some (0, M)
def fX11_readCat_90 (M : MS) (s0 : Int32) : Option (Int32 × MS) := some (s0, M)
def fX11_readCat_86 (M : MS) : Option (Int32 × MS) := (fX11_takesSemicolon M ).bind fun q => fX11_readCat_90 q.2 q.1
def fX11_readCat_64 (M : MS) : Option (Int32 × MS) := if gIn 3 4 then if gIn 0 4 then if gIn 1 4 then (fX11_addsCat M (M.2 19 (3 : Int32).toNatClampNeg) (M.2 19 (0 : Int32).toNatClampNeg) (M.2 19 (1 : Int32).toNatClampNeg)).bind fun q => fX11_readCat_86 q else none else none else none
def fX11_readCat_59 (M : MS) (s0 : Int32) : Option (Int32 × MS) := if s0 = 0 then fX11_readCat_62 M else fX11_readCat_64 M
def fX11_readCat_56 (M : MS) (s0 : Int32) (s1 : Int32) (s2 : Int32) : Option (Int32 × MS) := (fX11_takesChoice M s2 s1 s0).bind fun q => fX11_readCat_59 q.2 q.1
def fX11_readCat_50 (M : MS) (s0 : Int32) (s1 : Int32) : Option (Int32 × MS) := (fX11_isWord M [114, 105, 103, 104, 116]).bind fun q => fX11_readCat_56 M q s0 s1
def fX11_readCat_42 (M : MS) : Option (Int32 × MS) := (fX11_isWord M [108, 101, 102, 116]).bind fun q => fX11_readCat_50 M q 1
def fX11_readCat_39 (M : MS) (s0 : Int32) : Option (Int32 × MS) := if s0 = 0 then fX11_readCat_62 M else fX11_readCat_42 M
def fX11_readCat_31 (M : MS) : Option (Int32 × MS) := (fX11_takes M 0 1 9).bind fun q => fX11_readCat_39 q.2 q.1
def fX11_readCat_28 (M : MS) (s0 : Int32) : Option (Int32 × MS) := if s0 = 0 then fX11_readCat_62 M else fX11_readCat_31 M
def fX11_readCat_21 (M : MS) : Option (Int32 × MS) := (fX11_takesNewName M 65 0).bind fun q => fX11_readCat_28 q.2 q.1
def fX11_readCat_17 (M : MS) : Option (Int32 × MS) := (fX11_advanceToken M ).bind fun q => fX11_readCat_21 q
def fX11_readCat_16 (M : MS) (s0 : Int32) : Option (Int32 × MS) := some (s0, M)
def fX11_readCat_11 (M : MS) : Option (Int32 × MS) := (fX11_failsAt M 5).bind fun q => fX11_readCat_16 q.2 q.1
def fX11_readCat_0 (M : MS) : Option (Int32 × MS) := if gIn 0 257 then if (M.2 0 (0 : Int32).toNatClampNeg) = 8 then fX11_readCat_11 M else fX11_readCat_17 M else none
def fX11_readCat (M : MS) : Option (Int32 × MS) := bz (fX11_readCat_0  M)
def fX11_readSack_55 (M : MS) : Option (Int32 × MS) := some (0, M)
def fX11_readSack_113 (M : MS) (s0 : Int32) : Option (Int32 × MS) := some (s0, M)
def fX11_readSack_109 (M : MS) : Option (Int32 × MS) := (fX11_takesSemicolon M ).bind fun q => fX11_readSack_113 q.2 q.1
def fX11_readSack_81 (M : MS) : Option (Int32 × MS) := if gIn 3 4 then if gIn 0 4 then if gIn 1 4 then if gIn 2 4 then (fX11_addsSack M (M.2 19 (3 : Int32).toNatClampNeg) (M.2 19 (0 : Int32).toNatClampNeg) (M.2 19 (1 : Int32).toNatClampNeg) (M.2 19 (2 : Int32).toNatClampNeg)).bind fun q => fX11_readSack_109 q else none else none else none else none
def fX11_readSack_79 (M : MS) : Option (Int32 × MS) := some (0, M)
def fX11_readSack_76 (M : MS) (s0 : Int32) : Option (Int32 × MS) := if s0 = 0 then fX11_readSack_79 M else fX11_readSack_81 M
def fX11_readSack_73 (M : MS) (s0 : Int32) (s1 : Int32) (s2 : Int32) : Option (Int32 × MS) := (fX11_takesChoice M s2 s1 s0).bind fun q => fX11_readSack_76 q.2 q.1
def fX11_readSack_66 (M : MS) (s0 : Int32) (s1 : Int32) : Option (Int32 × MS) := (fX11_isWord M [115, 104, 117, 116]).bind fun q => fX11_readSack_73 M q s0 s1
def fX11_readSack_57 (M : MS) : Option (Int32 × MS) := (fX11_isWord M [111, 112, 101, 110]).bind fun q => fX11_readSack_66 M q 2
def fX11_readSack_52 (M : MS) (s0 : Int32) : Option (Int32 × MS) := if s0 = 0 then fX11_readSack_55 M else fX11_readSack_57 M
def fX11_readSack_44 (M : MS) : Option (Int32 × MS) := (fX11_takes M 1 0 99).bind fun q => fX11_readSack_52 q.2 q.1
def fX11_readSack_41 (M : MS) (s0 : Int32) : Option (Int32 × MS) := if s0 = 0 then fX11_readSack_55 M else fX11_readSack_44 M
def fX11_readSack_32 (M : MS) : Option (Int32 × MS) := (fX11_takes M 0 0 999).bind fun q => fX11_readSack_41 q.2 q.1
def fX11_readSack_29 (M : MS) (s0 : Int32) : Option (Int32 × MS) := if s0 = 0 then fX11_readSack_55 M else fX11_readSack_32 M
def fX11_readSack_21 (M : MS) : Option (Int32 × MS) := (fX11_takesNewName M 161 1).bind fun q => fX11_readSack_29 q.2 q.1
def fX11_readSack_17 (M : MS) : Option (Int32 × MS) := (fX11_advanceToken M ).bind fun q => fX11_readSack_21 q
def fX11_readSack_16 (M : MS) (s0 : Int32) : Option (Int32 × MS) := some (s0, M)
def fX11_readSack_11 (M : MS) : Option (Int32 × MS) := (fX11_failsAt M 5).bind fun q => fX11_readSack_16 q.2 q.1
def fX11_readSack_0 (M : MS) : Option (Int32 × MS) := if gIn 1 257 then if (M.2 0 (1 : Int32).toNatClampNeg) = 6 then fX11_readSack_11 M else fX11_readSack_17 M else none
def fX11_readSack (M : MS) : Option (Int32 × MS) := bz (fX11_readSack_0  M)
def fX11_readShift_42 (M : MS) : Option (Int32 × MS) := some (0, M)
def fX11_readShift_64 (M : MS) (s0 : Int32) : Option (Int32 × MS) := some (s0, M)
def fX11_readShift_60 (M : MS) : Option (Int32 × MS) := (fX11_takesSemicolon M ).bind fun q => fX11_readShift_64 q.2 q.1
def fX11_readShift_44 (M : MS) : Option (Int32 × MS) := if gIn 0 4 then if gIn 1 4 then (fX11_addsShift M (M.2 19 (0 : Int32).toNatClampNeg) (M.2 19 (1 : Int32).toNatClampNeg)).bind fun q => fX11_readShift_60 q else none else none
def fX11_readShift_39 (M : MS) (s0 : Int32) : Option (Int32 × MS) := if s0 = 0 then fX11_readShift_42 M else fX11_readShift_44 M
def fX11_readShift_31 (M : MS) : Option (Int32 × MS) := (fX11_takes M 1 1 24).bind fun q => fX11_readShift_39 q.2 q.1
def fX11_readShift_28 (M : MS) (s0 : Int32) : Option (Int32 × MS) := if s0 = 0 then fX11_readShift_42 M else fX11_readShift_31 M
def fX11_readShift_21 (M : MS) : Option (Int32 × MS) := (fX11_takesKnown M 65 0).bind fun q => fX11_readShift_28 q.2 q.1
def fX11_readShift_17 (M : MS) : Option (Int32 × MS) := (fX11_advanceToken M ).bind fun q => fX11_readShift_21 q
def fX11_readShift_16 (M : MS) (s0 : Int32) : Option (Int32 × MS) := some (s0, M)
def fX11_readShift_11 (M : MS) : Option (Int32 × MS) := (fX11_failsAt M 5).bind fun q => fX11_readShift_16 q.2 q.1
def fX11_readShift_0 (M : MS) : Option (Int32 × MS) := if gIn 2 257 then if (M.2 0 (2 : Int32).toNatClampNeg) = 12 then fX11_readShift_11 M else fX11_readShift_17 M else none
def fX11_readShift (M : MS) : Option (Int32 × MS) := bz (fX11_readShift_0  M)
def fX11_readCell_32 (M : MS) (s0 : Int32) : Option (Int32 × MS) := some (s0, M)
def fX11_readCell_28 (M : MS) : Option (Int32 × MS) := (fX11_takesSemicolon M ).bind fun q => fX11_readCell_32 q.2 q.1
def fX11_readCell_16 (M : MS) (x1 : Int32) : Option (Int32 × MS) := if gIn 0 4 then if gIn x1 257 then fX11_readCell_28 (M.1, va_up M.2 0 (upd (M.2 0) x1.toNatClampNeg (M.2 19 (0 : Int32).toNatClampNeg))) else none else none
def fX11_readCell_14 (M : MS) : Option (Int32 × MS) := some (0, M)
def fX11_readCell_11 (M : MS) (x1 : Int32) (s0 : Int32) : Option (Int32 × MS) := if s0 = 0 then fX11_readCell_14 M else fX11_readCell_16 M x1
def fX11_readCell_4 (M : MS) (x1 : Int32) (x2 : Int32) : Option (Int32 × MS) := (fX11_takes M 0 0 x2).bind fun q => fX11_readCell_11 q.2 x1 q.1
def fX11_readCell_0 (M : MS) (a1 : Int32) (a2 : Int32) : Option (Int32 × MS) := (fX11_advanceToken M ).bind fun q => fX11_readCell_4 q a1 a2
def fX11_readCell (M : MS) (a1 : Int32) (a2 : Int32) : Option (Int32 × MS) := bz (fX11_readCell_0  M a1 a2)
def fX11_scriptHere_89 (M : MS) (s0 : Int32) : Option (Int32) := some s0
def fX11_scriptHere_88 (M : MS) : Option (Int32) := fX11_scriptHere_89 M 0
def fX11_scriptHere_83 (M : MS) : Option (Int32) := fX11_scriptHere_89 M 7
def fX11_scriptHere_80 (M : MS) (s0 : Int32) : Option (Int32) := if s0 = 0 then fX11_scriptHere_88 M else fX11_scriptHere_83 M
def fX11_scriptHere_73 (M : MS) : Option (Int32) := (fX11_isWord M [109, 105, 108, 107]).bind fun q => fX11_scriptHere_80 M q
def fX11_scriptHere_70 (M : MS) : Option (Int32) := some 6
def fX11_scriptHere_67 (M : MS) (s0 : Int32) : Option (Int32) := if s0 = 0 then fX11_scriptHere_73 M else fX11_scriptHere_70 M
def fX11_scriptHere_60 (M : MS) : Option (Int32) := (fX11_isWord M [100, 105, 115, 109, 105, 115, 115]).bind fun q => fX11_scriptHere_67 M q
def fX11_scriptHere_58 (M : MS) : Option (Int32) := some 5
def fX11_scriptHere_55 (M : MS) (s0 : Int32) : Option (Int32) := if s0 = 0 then fX11_scriptHere_60 M else fX11_scriptHere_58 M
def fX11_scriptHere_48 (M : MS) : Option (Int32) := (fX11_isWord M [103, 114, 97, 105, 110]).bind fun q => fX11_scriptHere_55 M q
def fX11_scriptHere_46 (M : MS) : Option (Int32) := some 4
def fX11_scriptHere_43 (M : MS) (s0 : Int32) : Option (Int32) := if s0 = 0 then fX11_scriptHere_48 M else fX11_scriptHere_46 M
def fX11_scriptHere_36 (M : MS) : Option (Int32) := (fX11_isWord M [109, 105, 99, 101]).bind fun q => fX11_scriptHere_43 M q
def fX11_scriptHere_34 (M : MS) : Option (Int32) := some 3
def fX11_scriptHere_31 (M : MS) (s0 : Int32) : Option (Int32) := if s0 = 0 then fX11_scriptHere_36 M else fX11_scriptHere_34 M
def fX11_scriptHere_24 (M : MS) : Option (Int32) := (fX11_isWord M [115, 104, 117, 116]).bind fun q => fX11_scriptHere_31 M q
def fX11_scriptHere_22 (M : MS) : Option (Int32) := some 2
def fX11_scriptHere_19 (M : MS) (s0 : Int32) : Option (Int32) := if s0 = 0 then fX11_scriptHere_24 M else fX11_scriptHere_22 M
def fX11_scriptHere_12 (M : MS) : Option (Int32) := (fX11_isWord M [111, 112, 101, 110]).bind fun q => fX11_scriptHere_19 M q
def fX11_scriptHere_10 (M : MS) : Option (Int32) := some 1
def fX11_scriptHere_7 (M : MS) (s0 : Int32) : Option (Int32) := if s0 = 0 then fX11_scriptHere_12 M else fX11_scriptHere_10 M
def fX11_scriptHere_0 (M : MS) : Option (Int32) := (fX11_isWord M [119, 97, 105, 116]).bind fun q => fX11_scriptHere_7 M q
def fX11_scriptHere (M : MS) : Option (Int32) := fX11_scriptHere_0  M
def fX11_takesRest_52 (M : MS) (s0 : Int32) : Option (Int32 × MS) := some (s0, M)
def fX11_takesRest_44 (M : MS) : Option (Int32 × MS) := (fX11_takes M 0 1 99).bind fun q => fX11_takesRest_52 q.2 q.1
def fX11_takesRest_61 (M : MS) (s0 : Int32) : Option (Int32 × MS) := some (s0, M)
def fX11_takesRest_53 (M : MS) : Option (Int32 × MS) := (fX11_takesKnown M 161 1).bind fun q => fX11_takesRest_61 q.2 q.1
def fX11_takesRest_89 (M : MS) (s0 : Int32) : Option (Int32 × MS) := some (s0, M)
def fX11_takesRest_88 (M : MS) : Option (Int32 × MS) := fX11_takesRest_89 M 0
def fX11_takesRest_84 (M : MS) : Option (Int32 × MS) := fX11_takesRest_89 M 1
def fX11_takesRest_81 (M : MS) (s0 : Int32) : Option (Int32 × MS) := if s0 = 0 then fX11_takesRest_88 M else fX11_takesRest_84 M
def fX11_takesRest_73 (M : MS) : Option (Int32 × MS) := (fX11_takes M 1 1 99).bind fun q => fX11_takesRest_81 q.2 q.1
def fX11_takesRest_70 (M : MS) (s0 : Int32) : Option (Int32 × MS) := if s0 = 0 then fX11_takesRest_88 M else fX11_takesRest_73 M
def fX11_takesRest_62 (M : MS) : Option (Int32 × MS) := (fX11_takesKnown M 161 1).bind fun q => fX11_takesRest_70 q.2 q.1
def fX11_takesRest_118 (M : MS) (s0 : Int32) : Option (Int32 × MS) := some (s0, M)
def fX11_takesRest_117 (M : MS) : Option (Int32 × MS) := fX11_takesRest_118 M 0
def fX11_takesRest_113 (M : MS) : Option (Int32 × MS) := fX11_takesRest_118 M 1
def fX11_takesRest_110 (M : MS) (s0 : Int32) : Option (Int32 × MS) := if s0 = 0 then fX11_takesRest_117 M else fX11_takesRest_113 M
def fX11_takesRest_101 (M : MS) : Option (Int32 × MS) := (fX11_takes M 1 1 999).bind fun q => fX11_takesRest_110 q.2 q.1
def fX11_takesRest_98 (M : MS) (s0 : Int32) : Option (Int32 × MS) := if s0 = 0 then fX11_takesRest_117 M else fX11_takesRest_101 M
def fX11_takesRest_90 (M : MS) : Option (Int32 × MS) := (fX11_takesKnown M 161 1).bind fun q => fX11_takesRest_98 q.2 q.1
def fX11_takesRest_119 (M : MS) : Option (Int32 × MS) := some (1, M)
def fX11_takesRest_129 (M : MS) (s0 : Int32) : Option (Int32 × MS) := some (s0, M)
def fX11_takesRest_121 (M : MS) : Option (Int32 × MS) := (fX11_takes M 0 0 9).bind fun q => fX11_takesRest_129 q.2 q.1
def fX11_takesRest_4 (M : MS) (x1 : Int32) : Option (Int32 × MS) := if x1 = 1 then fX11_takesRest_44 M else if x1 = 2 then fX11_takesRest_53 M else if x1 = 3 then fX11_takesRest_53 M else if x1 = 4 then fX11_takesRest_62 M else if x1 = 5 then fX11_takesRest_90 M else if x1 = 6 then fX11_takesRest_119 M else fX11_takesRest_121 M
def fX11_takesRest_0 (M : MS) (a1 : Int32) : Option (Int32 × MS) := (fX11_advanceToken M ).bind fun q => fX11_takesRest_4 q a1
def fX11_takesRest (M : MS) (a1 : Int32) : Option (Int32 × MS) := bz (fX11_takesRest_0  M a1)
def fX11_hoursUntil_44 (M : MS) (s0 : Int32) : Option (Int32 × MS) := some (s0, M)
def fX11_hoursUntil_39 (M : MS) : Option (Int32 × MS) := (fX11_goesBack M (-1)).bind fun q => fX11_hoursUntil_44 q.2 q.1
def fX11_hoursUntil_33 (K6 : MS → Int32 → Int32 → Int32 → Option (Int32 × MS)) (M : MS) (x1 : Int32) (x2 : Int32) (x3 : Int32) : Option (Int32 × MS) := K6 M x1 x2 (x3 + 1)
def fX11_hoursUntil_29 (K6 : MS → Int32 → Int32 → Int32 → Option (Int32 × MS)) (M : MS) (x1 : Int32) (x2 : Int32) (x3 : Int32) : Option (Int32 × MS) := (fX11_hourPasses M ).bind fun q => fX11_hoursUntil_33 K6 q x1 x2 x3
def fX11_hoursUntil_28 (M : MS) (s0 : Int32) : Option (Int32 × MS) := some (s0, M)
def fX11_hoursUntil_23 (M : MS) (x3 : Int32) : Option (Int32 × MS) := (fX11_goesBack M x3).bind fun q => fX11_hoursUntil_28 q.2 q.1
def fX11_hoursUntil_13 (K6 : MS → Int32 → Int32 → Int32 → Option (Int32 × MS)) (M : MS) (x1 : Int32) (x2 : Int32) (x3 : Int32) : Option (Int32 × MS) := if gIn x1 257 then if (M.2 0 x1.toNatClampNeg) = x2 then fX11_hoursUntil_23 M x3 else fX11_hoursUntil_29 K6 M x1 x2 x3 else none
def fX11_hoursUntil_6 : Nat → MS → Int32 → Int32 → Int32 → Option (Int32 × MS)
  | 0 => fun _ _ _ _ => none
  | k + 1 => fun M x1 x2 x3 => if 200 < x3 then fX11_hoursUntil_39 M else fX11_hoursUntil_13 (fX11_hoursUntil_6 k) M x1 x2 x3
def fX11_hoursUntil_4 (M : MS) (x1 : Int32) (x2 : Int32) : Option (Int32 × MS) := fX11_hoursUntil_6 FU M x1 x2 0
def fX11_hoursUntil_0 (M : MS) (a1 : Int32) (a2 : Int32) : Option (Int32 × MS) := (fX11_goesAside M ).bind fun q => fX11_hoursUntil_4 q a1 a2
def fX11_hoursUntil (M : MS) (a1 : Int32) (a2 : Int32) : Option (Int32 × MS) := fX11_hoursUntil_0  M a1 a2
def fX11_readSetupStatement_88 (M : MS) (s0 : Int32) : Option (Int32 × MS) := some (s0, M)
def fX11_readSetupStatement_83 (M : MS) : Option (Int32 × MS) := (fX11_failsAt M 1).bind fun q => fX11_readSetupStatement_88 q.2 q.1
def fX11_readSetupStatement_80 (M : MS) (s0 : Int32) : Option (Int32 × MS) := fX11_readSetupStatement_88 M s0
def fX11_readSetupStatement_73 (M : MS) : Option (Int32 × MS) := (fX11_readCell M 3 23).bind fun q => fX11_readSetupStatement_80 q.2 q.1
def fX11_readSetupStatement_70 (M : MS) (s0 : Int32) : Option (Int32 × MS) := if s0 = 0 then fX11_readSetupStatement_83 M else fX11_readSetupStatement_73 M
def fX11_readSetupStatement_63 (M : MS) : Option (Int32 × MS) := (fX11_isWord M [104, 111, 117, 114]).bind fun q => fX11_readSetupStatement_70 M q
def fX11_readSetupStatement_62 (M : MS) (s0 : Int32) : Option (Int32 × MS) := some (s0, M)
def fX11_readSetupStatement_55 (M : MS) : Option (Int32 × MS) := (fX11_readCell M 4 9).bind fun q => fX11_readSetupStatement_62 q.2 q.1
def fX11_readSetupStatement_52 (M : MS) (s0 : Int32) : Option (Int32 × MS) := if s0 = 0 then fX11_readSetupStatement_63 M else fX11_readSetupStatement_55 M
def fX11_readSetupStatement_45 (M : MS) : Option (Int32 × MS) := (fX11_isWord M [109, 105, 108, 107]).bind fun q => fX11_readSetupStatement_52 M q
def fX11_readSetupStatement_44 (M : MS) (s0 : Int32) : Option (Int32 × MS) := some (s0, M)
def fX11_readSetupStatement_40 (M : MS) : Option (Int32 × MS) := (fX11_readShift M ).bind fun q => fX11_readSetupStatement_44 q.2 q.1
def fX11_readSetupStatement_37 (M : MS) (s0 : Int32) : Option (Int32 × MS) := if s0 = 0 then fX11_readSetupStatement_45 M else fX11_readSetupStatement_40 M
def fX11_readSetupStatement_30 (M : MS) : Option (Int32 × MS) := (fX11_isWord M [115, 104, 105, 102, 116]).bind fun q => fX11_readSetupStatement_37 M q
def fX11_readSetupStatement_29 (M : MS) (s0 : Int32) : Option (Int32 × MS) := some (s0, M)
def fX11_readSetupStatement_25 (M : MS) : Option (Int32 × MS) := (fX11_readSack M ).bind fun q => fX11_readSetupStatement_29 q.2 q.1
def fX11_readSetupStatement_22 (M : MS) (s0 : Int32) : Option (Int32 × MS) := if s0 = 0 then fX11_readSetupStatement_30 M else fX11_readSetupStatement_25 M
def fX11_readSetupStatement_15 (M : MS) : Option (Int32 × MS) := (fX11_isWord M [115, 97, 99, 107]).bind fun q => fX11_readSetupStatement_22 M q
def fX11_readSetupStatement_14 (M : MS) (s0 : Int32) : Option (Int32 × MS) := some (s0, M)
def fX11_readSetupStatement_10 (M : MS) : Option (Int32 × MS) := (fX11_readCat M ).bind fun q => fX11_readSetupStatement_14 q.2 q.1
def fX11_readSetupStatement_7 (M : MS) (s0 : Int32) : Option (Int32 × MS) := if s0 = 0 then fX11_readSetupStatement_15 M else fX11_readSetupStatement_10 M
def fX11_readSetupStatement_0 (M : MS) : Option (Int32 × MS) := (fX11_isWord M [99, 97, 116]).bind fun q => fX11_readSetupStatement_7 M q
def fX11_readSetupStatement (M : MS) : Option (Int32 × MS) := bz (fX11_readSetupStatement_0  M)
def fX11_readScriptStatement_100 (M : MS) (s0 : Int32) : Option (Int32 × MS) := some (s0, M)
def fX11_readScriptStatement_96 (M : MS) : Option (Int32 × MS) := (fX11_takesSemicolon M ).bind fun q => fX11_readScriptStatement_100 q.2 q.1
def fX11_readScriptStatement_86 (M : MS) : Option (Int32 × MS) := fX11_readScriptStatement_96 (va_up M.1 22 ((M.1 22) + 1), M.2)
def fX11_readScriptStatement_67 (M : MS) : Option (Int32 × MS) := if gIn 1 4 then if gIn ((2 * (M.1 22)) + 1) 62 then fX11_readScriptStatement_86 (M.1, va_up M.2 21 (upd (M.2 21) ((2 * (M.1 22)) + 1).toNatClampNeg (M.2 19 (1 : Int32).toNatClampNeg))) else none else none
def fX11_readScriptStatement_50 (M : MS) : Option (Int32 × MS) := if gIn 0 4 then if gIn (2 * (M.1 22)) 62 then fX11_readScriptStatement_67 (M.1, va_up M.2 21 (upd (M.2 21) (2 * (M.1 22)).toNatClampNeg (M.2 19 (0 : Int32).toNatClampNeg))) else none else none
def fX11_readScriptStatement_40 (M : MS) (x1 : Int32) : Option (Int32 × MS) := if gIn (M.1 22) 31 then fX11_readScriptStatement_50 (M.1, va_up M.2 20 (upd (M.2 20) (M.1 22).toNatClampNeg x1)) else none
def fX11_readScriptStatement_38 (M : MS) : Option (Int32 × MS) := some (0, M)
def fX11_readScriptStatement_35 (M : MS) (x1 : Int32) (s0 : Int32) : Option (Int32 × MS) := if s0 = 0 then fX11_readScriptStatement_38 M else fX11_readScriptStatement_40 M x1
def fX11_readScriptStatement_30 (M : MS) (x1 : Int32) : Option (Int32 × MS) := (fX11_takesRest M x1).bind fun q => fX11_readScriptStatement_35 q.2 x1 q.1
def fX11_readScriptStatement_29 (M : MS) (s0 : Int32) : Option (Int32 × MS) := some (s0, M)
def fX11_readScriptStatement_24 (M : MS) : Option (Int32 × MS) := (fX11_failsAt M 5).bind fun q => fX11_readScriptStatement_29 q.2 q.1
def fX11_readScriptStatement_15 (M : MS) (x1 : Int32) : Option (Int32 × MS) := if (M.1 22) = 30 then fX11_readScriptStatement_24 M else fX11_readScriptStatement_30 M x1
def fX11_readScriptStatement_14 (M : MS) (s0 : Int32) : Option (Int32 × MS) := some (s0, M)
def fX11_readScriptStatement_9 (M : MS) : Option (Int32 × MS) := (fX11_failsAt M 1).bind fun q => fX11_readScriptStatement_14 q.2 q.1
def fX11_readScriptStatement_4 (M : MS) (s0 : Int32) : Option (Int32 × MS) := if s0 = 0 then fX11_readScriptStatement_9 M else fX11_readScriptStatement_15 M s0
def fX11_readScriptStatement_0 (M : MS) : Option (Int32 × MS) := (fX11_scriptHere M ).bind fun q => fX11_readScriptStatement_4 M q
def fX11_readScriptStatement (M : MS) : Option (Int32 × MS) := bz (fX11_readScriptStatement_0  M)
def fX11_does_91 (M : MS) (s0 : Int32) : Option (Int32 × MS) := some (s0, M)
def fX11_does_90 (M : MS) : Option (Int32 × MS) := fX11_does_91 M 0
def fX11_does_86 (M : MS) : Option (Int32 × MS) := fX11_does_91 M 1
def fX11_does_83 (M : MS) (s0 : Int32) : Option (Int32 × MS) := if s0 < 0 then fX11_does_90 M else fX11_does_86 M
def fX11_does_78 (M : MS) (x2 : Int32) : Option (Int32 × MS) := (fX11_passes M x2).bind fun q => fX11_does_83 q.2 q.1
def fX11_does_64 (M : MS) (x2 : Int32) : Option (Int32 × MS) := if gIn 3 257 then if 9999 < ((M.2 0 (3 : Int32).toNatClampNeg) + x2) then fX11_does_90 M else fX11_does_78 M x2 else none
def fX11_does_114 (M : MS) (s0 : Int32) : Option (Int32 × MS) := some (s0, M)
def fX11_does_113 (M : MS) : Option (Int32 × MS) := fX11_does_114 M 0
def fX11_does_109 (M : MS) : Option (Int32 × MS) := fX11_does_114 M 1
def fX11_does_106 (M : MS) (s0 : Int32) : Option (Int32 × MS) := if s0 < 0 then fX11_does_113 M else fX11_does_109 M
def fX11_does_100 (M : MS) (x2 : Int32) : Option (Int32 × MS) := (fX11_setsFlap M x2 1).bind fun q => fX11_does_106 q.2 q.1
def fX11_does_97 (M : MS) (x2 : Int32) (s0 : Int32) : Option (Int32 × MS) := if s0 = 0 then fX11_does_100 M x2 else fX11_does_113 M
def fX11_does_92 (M : MS) (x2 : Int32) : Option (Int32 × MS) := (fX11_isOpenSack M x2).bind fun q => fX11_does_97 M x2 q
def fX11_does_137 (M : MS) (s0 : Int32) : Option (Int32 × MS) := some (s0, M)
def fX11_does_136 (M : MS) : Option (Int32 × MS) := fX11_does_137 M 0
def fX11_does_132 (M : MS) : Option (Int32 × MS) := fX11_does_137 M 1
def fX11_does_129 (M : MS) (s0 : Int32) : Option (Int32 × MS) := if s0 < 0 then fX11_does_136 M else fX11_does_132 M
def fX11_does_123 (M : MS) (x2 : Int32) : Option (Int32 × MS) := (fX11_setsFlap M x2 0).bind fun q => fX11_does_129 q.2 q.1
def fX11_does_120 (M : MS) (x2 : Int32) (s0 : Int32) : Option (Int32 × MS) := if s0 = 0 then fX11_does_136 M else fX11_does_123 M x2
def fX11_does_115 (M : MS) (x2 : Int32) : Option (Int32 × MS) := (fX11_isOpenSack M x2).bind fun q => fX11_does_120 M x2 q
def fX11_does_161 (M : MS) (s0 : Int32) : Option (Int32 × MS) := some (s0, M)
def fX11_does_160 (M : MS) : Option (Int32 × MS) := fX11_does_161 M 0
def fX11_does_156 (M : MS) : Option (Int32 × MS) := fX11_does_161 M 1
def fX11_does_153 (M : MS) (s0 : Int32) : Option (Int32 × MS) := if s0 < 0 then fX11_does_160 M else fX11_does_156 M
def fX11_does_147 (M : MS) (x2 : Int32) (x3 : Int32) : Option (Int32 × MS) := (fX11_addsMice M x2 x3).bind fun q => fX11_does_153 q.2 q.1
def fX11_does_144 (M : MS) (x2 : Int32) (x3 : Int32) (s0 : Int32) : Option (Int32 × MS) := if s0 = 0 then fX11_does_160 M else fX11_does_147 M x2 x3
def fX11_does_138 (M : MS) (x2 : Int32) (x3 : Int32) : Option (Int32 × MS) := (fX11_mayAddMice M x2 x3).bind fun q => fX11_does_144 M x2 x3 q
def fX11_does_185 (M : MS) (s0 : Int32) : Option (Int32 × MS) := some (s0, M)
def fX11_does_184 (M : MS) : Option (Int32 × MS) := fX11_does_185 M 0
def fX11_does_180 (M : MS) : Option (Int32 × MS) := fX11_does_185 M 1
def fX11_does_177 (M : MS) (s0 : Int32) : Option (Int32 × MS) := if s0 < 0 then fX11_does_184 M else fX11_does_180 M
def fX11_does_171 (M : MS) (x2 : Int32) (x3 : Int32) : Option (Int32 × MS) := (fX11_addsGrain M x2 x3).bind fun q => fX11_does_177 q.2 q.1
def fX11_does_168 (M : MS) (x2 : Int32) (x3 : Int32) (s0 : Int32) : Option (Int32 × MS) := if s0 = 0 then fX11_does_184 M else fX11_does_171 M x2 x3
def fX11_does_162 (M : MS) (x2 : Int32) (x3 : Int32) : Option (Int32 × MS) := (fX11_mayAddGrain M x2 x3).bind fun q => fX11_does_168 M x2 x3 q
def fX11_does_210 (M : MS) (s0 : Int32) : Option (Int32 × MS) := some (s0, M)
def fX11_does_209 (M : MS) : Option (Int32 × MS) := fX11_does_210 M 0
def fX11_does_205 (M : MS) : Option (Int32 × MS) := fX11_does_210 M 1
def fX11_does_202 (M : MS) (s0 : Int32) : Option (Int32 × MS) := if s0 < 0 then fX11_does_209 M else fX11_does_205 M
def fX11_does_196 (M : MS) : Option (Int32 × MS) := (fX11_sets M 5 (-1)).bind fun q => fX11_does_202 q.2 q.1
def fX11_does_186 (M : MS) : Option (Int32 × MS) := if gIn 5 257 then if (M.2 0 (5 : Int32).toNatClampNeg) = (-1) then fX11_does_209 M else fX11_does_196 M else none
def fX11_does_225 (M : MS) (s0 : Int32) : Option (Int32 × MS) := some (s0, M)
def fX11_does_224 (M : MS) : Option (Int32 × MS) := fX11_does_225 M 0
def fX11_does_220 (M : MS) : Option (Int32 × MS) := fX11_does_225 M 1
def fX11_does_217 (M : MS) (s0 : Int32) : Option (Int32 × MS) := if s0 < 0 then fX11_does_224 M else fX11_does_220 M
def fX11_does_211 (M : MS) (x2 : Int32) : Option (Int32 × MS) := (fX11_sets M 4 x2).bind fun q => fX11_does_217 q.2 q.1
def fX11_does_0 (M : MS) (a1 : Int32) : Option (Int32 × MS) := if gIn (2 * a1) 62 then if gIn ((2 * a1) + 1) 62 then if gIn a1 31 then if (M.2 20 a1.toNatClampNeg) = 1 then fX11_does_64 M (M.2 21 (2 * a1).toNatClampNeg) else if (M.2 20 a1.toNatClampNeg) = 2 then fX11_does_92 M (M.2 21 (2 * a1).toNatClampNeg) else if (M.2 20 a1.toNatClampNeg) = 3 then fX11_does_115 M (M.2 21 (2 * a1).toNatClampNeg) else if (M.2 20 a1.toNatClampNeg) = 4 then fX11_does_138 M (M.2 21 (2 * a1).toNatClampNeg) (M.2 21 ((2 * a1) + 1).toNatClampNeg) else if (M.2 20 a1.toNatClampNeg) = 5 then fX11_does_162 M (M.2 21 (2 * a1).toNatClampNeg) (M.2 21 ((2 * a1) + 1).toNatClampNeg) else if (M.2 20 a1.toNatClampNeg) = 6 then fX11_does_186 M else fX11_does_211 M (M.2 21 (2 * a1).toNatClampNeg) else none else none else none
def fX11_does (M : MS) (a1 : Int32) : Option (Int32 × MS) := bz (fX11_does_0  M a1)
def fX11_sackAfter_21 (M : MS) (s0 : Int32) : Option (Int32 × MS) := some (s0, M)
def fX11_sackAfter_18 (M : MS) (s0 : Int32) : Option (Int32 × MS) := (fX11_goesBack M s0).bind fun q => fX11_sackAfter_21 q.2 q.1
def fX11_sackAfter_9 (M : MS) (x1 : Int32) (x2 : Int32) (s0 : Int32) : Option (Int32 × MS) := (fX11_ofSack M x1 x2).bind fun q => fX11_sackAfter_18 M q
def fX11_sackAfter_4 (M : MS) (x1 : Int32) (x2 : Int32) (x3 : Int32) : Option (Int32 × MS) := (fX11_passes M x3).bind fun q => fX11_sackAfter_9 q.2 x1 x2 q.1
def fX11_sackAfter_0 (M : MS) (a1 : Int32) (a2 : Int32) (a3 : Int32) : Option (Int32 × MS) := (fX11_goesAside M ).bind fun q => fX11_sackAfter_4 q a1 a2 a3
def fX11_sackAfter (M : MS) (a1 : Int32) (a2 : Int32) (a3 : Int32) : Option (Int32 × MS) := fX11_sackAfter_0  M a1 a2 a3
def fX11_swornAfter_36 (M : MS) (s0 : Int32) : Option (Int32 × MS) := some (s0, M)
def fX11_swornAfter_25 (M : MS) (s0 : Int32) : Option (Int32 × MS) := if gIn 5 257 then (fX11_goesBack M (M.2 0 (5 : Int32).toNatClampNeg)).bind fun q => fX11_swornAfter_36 q.2 q.1 else none
def fX11_swornAfter_20 (M : MS) (x1 : Int32) : Option (Int32 × MS) := (fX11_passes M x1).bind fun q => fX11_swornAfter_25 q.2 q.1
def fX11_swornAfter_16 (M : MS) (x1 : Int32) : Option (Int32 × MS) := (fX11_goesAside M ).bind fun q => fX11_swornAfter_20 q x1
def fX11_swornAfter_14 (M : MS) : Option (Int32 × MS) := some (0, M)
def fX11_swornAfter_11 (M : MS) (x1 : Int32) (s0 : Int32) : Option (Int32 × MS) := if s0 = 0 then fX11_swornAfter_16 M x1 else fX11_swornAfter_14 M
def fX11_swornAfter_5 (M : MS) (x1 : Int32) : Option (Int32 × MS) := (fX11_noHours M x1 1).bind fun q => fX11_swornAfter_11 q.2 x1 q.1
def fX11_swornAfter_0 (M : MS) (a1 : Int32) : Option (Int32 × MS) := fX11_swornAfter_5 (va_up M.1 7 0, M.2) a1
def fX11_swornAfter (M : MS) (a1 : Int32) : Option (Int32 × MS) := fX11_swornAfter_0  M a1
def fX11_hoursUntilUnguarded_11 (M : MS) (s0 : Int32) : Option (Int32 × MS) := some (s0, M)
def fX11_hoursUntilUnguarded_5 (M : MS) : Option (Int32 × MS) := (fX11_hoursUntil M 5 (-1)).bind fun q => fX11_hoursUntilUnguarded_11 q.2 q.1
def fX11_hoursUntilUnguarded_0 (M : MS) : Option (Int32 × MS) := fX11_hoursUntilUnguarded_5 (va_up M.1 7 0, M.2)
def fX11_hoursUntilUnguarded (M : MS) : Option (Int32 × MS) := fX11_hoursUntilUnguarded_0  M
def fX11_hoursUntilEmpty_33 (M : MS) (s0 : Int32) : Option (Int32 × MS) := some (s0, M)
def fX11_hoursUntilEmpty_17 (M : MS) (x1 : Int32) : Option (Int32 × MS) := (fX11_hoursUntil M ((161 + (12 * x1)) + 7) 0).bind fun q => fX11_hoursUntilEmpty_33 q.2 q.1
def fX11_hoursUntilEmpty_13 (M : MS) : Option (Int32 × MS) := fX11_hoursUntilEmpty_33 M 0
def fX11_hoursUntilEmpty_10 (M : MS) (x1 : Int32) (s0 : Int32) : Option (Int32 × MS) := if s0 = 0 then fX11_hoursUntilEmpty_17 M x1 else fX11_hoursUntilEmpty_13 M
def fX11_hoursUntilEmpty_5 (M : MS) (x1 : Int32) : Option (Int32 × MS) := (fX11_noSack M x1).bind fun q => fX11_hoursUntilEmpty_10 q.2 x1 q.1
def fX11_hoursUntilEmpty_0 (M : MS) (a1 : Int32) : Option (Int32 × MS) := fX11_hoursUntilEmpty_5 (va_up M.1 7 0, M.2) a1
def fX11_hoursUntilEmpty (M : MS) (a1 : Int32) : Option (Int32 × MS) := fX11_hoursUntilEmpty_0  M a1
def fX11_caughtWithin_29 (M : MS) (s0 : Int32) : Option (Int32 × MS) := some (s0, M)
def fX11_caughtWithin_26 (M : MS) (s0 : Int32) : Option (Int32 × MS) := (fX11_goesBack M s0).bind fun q => fX11_caughtWithin_29 q.2 q.1
def fX11_caughtWithin_20 (M : MS) (x1 : Int32) : Option (Int32 × MS) := (fX11_passes M x1).bind fun q => fX11_caughtWithin_26 q.2 q.1
def fX11_caughtWithin_16 (M : MS) (x1 : Int32) : Option (Int32 × MS) := (fX11_goesAside M ).bind fun q => fX11_caughtWithin_20 q x1
def fX11_caughtWithin_14 (M : MS) : Option (Int32 × MS) := some (0, M)
def fX11_caughtWithin_11 (M : MS) (x1 : Int32) (s0 : Int32) : Option (Int32 × MS) := if s0 = 0 then fX11_caughtWithin_16 M x1 else fX11_caughtWithin_14 M
def fX11_caughtWithin_5 (M : MS) (x1 : Int32) : Option (Int32 × MS) := (fX11_noHours M x1 1).bind fun q => fX11_caughtWithin_11 q.2 x1 q.1
def fX11_caughtWithin_0 (M : MS) (a1 : Int32) : Option (Int32 × MS) := fX11_caughtWithin_5 (va_up M.1 7 0, M.2) a1
def fX11_caughtWithin (M : MS) (a1 : Int32) : Option (Int32 × MS) := fX11_caughtWithin_0  M a1
def fX11_allGrainAfter_24 (M : MS) (s0 : Int32) : Option (Int32 × MS) := some (s0, M)
def fX11_allGrainAfter_21 (M : MS) (s0 : Int32) : Option (Int32 × MS) := (fX11_goesBack M s0).bind fun q => fX11_allGrainAfter_24 q.2 q.1
def fX11_allGrainAfter_9 (M : MS) (s0 : Int32) : Option (Int32 × MS) := (fX11_sumOf M 161 1 7).bind fun q => fX11_allGrainAfter_21 M q
def fX11_allGrainAfter_4 (M : MS) (x1 : Int32) : Option (Int32 × MS) := (fX11_passes M x1).bind fun q => fX11_allGrainAfter_9 q.2 q.1
def fX11_allGrainAfter_0 (M : MS) (a1 : Int32) : Option (Int32 × MS) := (fX11_goesAside M ).bind fun q => fX11_allGrainAfter_4 q a1
def fX11_allGrainAfter (M : MS) (a1 : Int32) : Option (Int32 × MS) := fX11_allGrainAfter_0  M a1
def fX11_letPass_55 (M : MS) : Option (Int32 × MS) := some (0, M)
def fX11_letPass_66 (M : MS) (s0 : Int32) : Option (Int32 × MS) := some (s0, M)
def fX11_letPass_61 (M : MS) (x1 : Int32) : Option (Int32 × MS) := (fX11_passes M x1).bind fun q => fX11_letPass_66 q.2 q.1
def fX11_letPass_57 (M : MS) (x1 : Int32) : Option (Int32 × MS) := (fX11_remembers M ).bind fun q => fX11_letPass_61 q x1
def fX11_letPass_52 (M : MS) (x1 : Int32) (s0 : Int32) : Option (Int32 × MS) := if s0 = 0 then fX11_letPass_57 M x1 else fX11_letPass_55 M
def fX11_letPass_48 (M : MS) (x1 : Int32) (s0 : Int32) : Option (Int32 × MS) := (fX11_fails M s0 2).bind fun q => fX11_letPass_52 q.2 x1 q.1
def fX11_letPass_47 (M : MS) (x1 : Int32) : Option (Int32 × MS) := fX11_letPass_48 M x1 0
def fX11_letPass_43 (M : MS) (x1 : Int32) : Option (Int32 × MS) := fX11_letPass_48 M x1 1
def fX11_letPass_28 (M : MS) (x1 : Int32) : Option (Int32 × MS) := if gIn 3 257 then if ((M.2 0 (3 : Int32).toNatClampNeg) + x1) ≤ 9999 then fX11_letPass_47 M x1 else fX11_letPass_43 M x1 else none
def fX11_letPass_25 (M : MS) (x1 : Int32) (s0 : Int32) : Option (Int32 × MS) := if s0 = 0 then fX11_letPass_28 M x1 else fX11_letPass_55 M
def fX11_letPass_21 (M : MS) (x1 : Int32) (s0 : Int32) : Option (Int32 × MS) := (fX11_fails M s0 1).bind fun q => fX11_letPass_25 q.2 x1 q.1
def fX11_letPass_20 (M : MS) (x1 : Int32) : Option (Int32 × MS) := fX11_letPass_21 M x1 0
def fX11_letPass_16 (M : MS) (x1 : Int32) : Option (Int32 × MS) := fX11_letPass_21 M x1 1
def fX11_letPass_13 (M : MS) (x1 : Int32) (s0 : Int32) : Option (Int32 × MS) := if s0 = 0 then fX11_letPass_16 M x1 else fX11_letPass_20 M x1
def fX11_letPass_5 (M : MS) (x1 : Int32) : Option (Int32 × MS) := (fX11_inRange M x1 1 99).bind fun q => fX11_letPass_13 M x1 q
def fX11_letPass_0 (M : MS) (a1 : Int32) : Option (Int32 × MS) := fX11_letPass_5 (va_up M.1 7 0, M.2) a1
def fX11_letPass (M : MS) (a1 : Int32) : Option (Int32 × MS) := fX11_letPass_0  M a1
def fX11_readText_61 (M : MS) (s0 : Int32) : Option (Int32 × MS) := some (s0, M)
def fX11_readText_60 (M : MS) : Option (Int32 × MS) := fX11_readText_61 M 0
def fX11_readText_56 (M : MS) : Option (Int32 × MS) := fX11_readText_61 M 1
def fX11_readText_53 (M : MS) (s0 : Int32) : Option (Int32 × MS) := if s0 = 0 then fX11_readText_60 M else fX11_readText_56 M
def fX11_readText_47 (M : MS) : Option (Int32 × MS) := (fX11_failsAt M 6).bind fun q => fX11_readText_53 q.2 q.1
def fX11_readText_38 (M : MS) : Option (Int32 × MS) := if gIn 2 257 then if 0 < (M.2 0 (2 : Int32).toNatClampNeg) then fX11_readText_56 M else fX11_readText_47 M else none
def fX11_readText_29 (M : MS) : Option (Int32 × MS) := if gIn 1 257 then if (M.2 0 (1 : Int32).toNatClampNeg) ≤ 0 then fX11_readText_47 M else fX11_readText_38 M else none
def fX11_readText_20 (M : MS) : Option (Int32 × MS) := if gIn 0 257 then if (M.2 0 (0 : Int32).toNatClampNeg) ≤ 0 then fX11_readText_47 M else fX11_readText_29 M else none
def fX11_readText_18 (M : MS) : Option (Int32 × MS) := some (0, M)
def fX11_readText_15 (K4 : MS → Option (Int32 × MS)) (M : MS) (s0 : Int32) : Option (Int32 × MS) := if s0 = 0 then fX11_readText_18 M else K4 M
def fX11_readText_11 (K4 : MS → Option (Int32 × MS)) (M : MS) : Option (Int32 × MS) := (fX11_readSetupStatement M ).bind fun q => fX11_readText_15 K4 q.2 q.1
def fX11_readText_4 : Nat → MS → Option (Int32 × MS)
  | 0 => fun _ => none
  | k + 1 => fun M => if (M.1 17) = 0 then fX11_readText_20 M else fX11_readText_11 (fX11_readText_4 k) M
def fX11_readText_0 (M : MS) : Option (Int32 × MS) := (fX11_begins M ).bind fun q => fX11_readText_4 FU q
def fX11_readText (M : MS) : Option (Int32 × MS) := bz (fX11_readText_0  M)
def fX11_runScript_68 (M : MS) (x2 : Int32) : Option (Int32 × MS) := some (x2, M)
def fX11_runScript_62 (K46 : MS → Int32 → Option (Int32 × MS)) (M : MS) (x2 : Int32) : Option (Int32 × MS) := K46 M (x2 + 1)
def fX11_runScript_59 (K46 : MS → Int32 → Option (Int32 × MS)) (M : MS) (x2 : Int32) (s0 : Int32) : Option (Int32 × MS) := if s0 = 0 then fX11_runScript_68 M x2 else fX11_runScript_62 K46 M x2
def fX11_runScript_54 (K46 : MS → Int32 → Option (Int32 × MS)) (M : MS) (x2 : Int32) : Option (Int32 × MS) := (fX11_does M x2).bind fun q => fX11_runScript_59 K46 q.2 x2 q.1
def fX11_runScript_46 : Nat → MS → Int32 → Option (Int32 × MS)
  | 0 => fun _ _ => none
  | k + 1 => fun M x2 => if (M.1 22) ≤ x2 then fX11_runScript_68 M x2 else fX11_runScript_54 (fX11_runScript_46 k) M x2
def fX11_runScript_44 (M : MS) : Option (Int32 × MS) := fX11_runScript_46 FU M 0
def fX11_runScript_40 (M : MS) : Option (Int32 × MS) := (fX11_remembers M ).bind fun q => fX11_runScript_44 q
def fX11_runScript_38 (M : MS) : Option (Int32 × MS) := some ((-1), M)
def fX11_runScript_34 (M : MS) (x1 : Int32) : Option (Int32 × MS) := if x1 = 0 then fX11_runScript_38 M else fX11_runScript_40 M
def fX11_runScript_30 (M : MS) (x1 : Int32) : Option (Int32 × MS) := (fX11_endsText M ).bind fun q => fX11_runScript_34 q x1
def fX11_runScript_26 (K11 : MS → Int32 → Option (Int32 × MS)) (M : MS) (s0 : Int32) : Option (Int32 × MS) := K11 M s0
def fX11_runScript_22 (K11 : MS → Int32 → Option (Int32 × MS)) (M : MS) : Option (Int32 × MS) := (fX11_readScriptStatement M ).bind fun q => fX11_runScript_26 K11 q.2 q.1
def fX11_runScript_15 (K11 : MS → Int32 → Option (Int32 × MS)) (M : MS) (x1 : Int32) : Option (Int32 × MS) := if (M.1 17) = 0 then fX11_runScript_30 M x1 else fX11_runScript_22 K11 M
def fX11_runScript_11 : Nat → MS → Int32 → Option (Int32 × MS)
  | 0 => fun _ _ => none
  | k + 1 => fun M x1 => if x1 = 0 then fX11_runScript_30 M x1 else fX11_runScript_15 (fX11_runScript_11 k) M x1
def fX11_runScript_9 (M : MS) : Option (Int32 × MS) := fX11_runScript_11 FU M 1
def fX11_runScript_5 (M : MS) : Option (Int32 × MS) := (fX11_startsText M ).bind fun q => fX11_runScript_9 q
def fX11_runScript_0 (M : MS) : Option (Int32 × MS) := fX11_runScript_5 (va_up M.1 7 0, M.2)
def fX11_runScript (M : MS) : Option (Int32 × MS) := fX11_runScript_0  M
def fX11_miceAfter_34 (M : MS) (s0 : Int32) : Option (Int32 × MS) := some (s0, M)
def fX11_miceAfter_22 (M : MS) : Option (Int32 × MS) := fX11_miceAfter_34 M 0
def fX11_miceAfter_26 (M : MS) (x1 : Int32) (x2 : Int32) : Option (Int32 × MS) := (fX11_sackAfter M x1 8 x2).bind fun q => fX11_miceAfter_34 q.2 q.1
def fX11_miceAfter_19 (M : MS) (x1 : Int32) (x2 : Int32) (s0 : Int32) : Option (Int32 × MS) := if s0 = 0 then fX11_miceAfter_26 M x1 x2 else fX11_miceAfter_22 M
def fX11_miceAfter_13 (M : MS) (x1 : Int32) (x2 : Int32) : Option (Int32 × MS) := (fX11_noHours M x2 2).bind fun q => fX11_miceAfter_19 q.2 x1 x2 q.1
def fX11_miceAfter_10 (M : MS) (x1 : Int32) (x2 : Int32) (s0 : Int32) : Option (Int32 × MS) := if s0 = 0 then fX11_miceAfter_13 M x1 x2 else fX11_miceAfter_22 M
def fX11_miceAfter_5 (M : MS) (x1 : Int32) (x2 : Int32) : Option (Int32 × MS) := (fX11_noSack M x1).bind fun q => fX11_miceAfter_10 q.2 x1 x2 q.1
def fX11_miceAfter_0 (M : MS) (a1 : Int32) (a2 : Int32) : Option (Int32 × MS) := fX11_miceAfter_5 (va_up M.1 7 0, M.2) a1 a2
def fX11_miceAfter (M : MS) (a1 : Int32) (a2 : Int32) : Option (Int32 × MS) := fX11_miceAfter_0  M a1 a2
def fX11_grainAfter_34 (M : MS) (s0 : Int32) : Option (Int32 × MS) := some (s0, M)
def fX11_grainAfter_22 (M : MS) : Option (Int32 × MS) := fX11_grainAfter_34 M 0
def fX11_grainAfter_26 (M : MS) (x1 : Int32) (x2 : Int32) : Option (Int32 × MS) := (fX11_sackAfter M x1 7 x2).bind fun q => fX11_grainAfter_34 q.2 q.1
def fX11_grainAfter_19 (M : MS) (x1 : Int32) (x2 : Int32) (s0 : Int32) : Option (Int32 × MS) := if s0 = 0 then fX11_grainAfter_26 M x1 x2 else fX11_grainAfter_22 M
def fX11_grainAfter_13 (M : MS) (x1 : Int32) (x2 : Int32) : Option (Int32 × MS) := (fX11_noHours M x2 2).bind fun q => fX11_grainAfter_19 q.2 x1 x2 q.1
def fX11_grainAfter_10 (M : MS) (x1 : Int32) (x2 : Int32) (s0 : Int32) : Option (Int32 × MS) := if s0 = 0 then fX11_grainAfter_13 M x1 x2 else fX11_grainAfter_22 M
def fX11_grainAfter_5 (M : MS) (x1 : Int32) (x2 : Int32) : Option (Int32 × MS) := (fX11_noSack M x1).bind fun q => fX11_grainAfter_10 q.2 x1 x2 q.1
def fX11_grainAfter_0 (M : MS) (a1 : Int32) (a2 : Int32) : Option (Int32 × MS) := fX11_grainAfter_5 (va_up M.1 7 0, M.2) a1 a2
def fX11_grainAfter (M : MS) (a1 : Int32) (a2 : Int32) : Option (Int32 × MS) := fX11_grainAfter_0  M a1 a2
def fX11_grainWithChange_33 (M : MS) (x4 : Int32) : Option (Int32 × MS) := some (x4, M)
def fX11_grainWithChange_23 (M : MS) (x1 : Int32) (x3 : Int32) (s0 : Int32) : Option (Int32 × MS) := (fX11_putsSack M x1 9 x3).bind fun q => fX11_grainWithChange_33 q s0
def fX11_grainWithChange_18 (M : MS) (x1 : Int32) (x2 : Int32) (x3 : Int32) : Option (Int32 × MS) := (fX11_allGrainAfter M x2).bind fun q => fX11_grainWithChange_23 q.2 x1 x3 q.1
def fX11_grainWithChange_7 (M : MS) (x1 : Int32) (x2 : Int32) (s0 : Int32) : Option (Int32 × MS) := (fX11_putsSack M x1 9 (1 - s0)).bind fun q => fX11_grainWithChange_18 q x1 x2 s0
def fX11_grainWithChange_0 (M : MS) (a1 : Int32) (a2 : Int32) : Option (Int32 × MS) := (fX11_ofSack M a1 9).bind fun q => fX11_grainWithChange_7 M a1 a2 q
def fX11_grainWithChange (M : MS) (a1 : Int32) (a2 : Int32) : Option (Int32 × MS) := fX11_grainWithChange_0  M a1 a2
def fX11_loadGranary_64 (M : MS) : Option (Int32 × MS) := if gIn 0 257 then some ((M.2 0 (0 : Int32).toNatClampNeg), M) else none
def fX11_loadGranary_59 (M : MS) : Option (Int32 × MS) := fX11_loadGranary_64 (va_up M.1 6 0, M.2)
def fX11_loadGranary_54 (M : MS) : Option (Int32 × MS) := fX11_loadGranary_59 (va_up M.1 5 0, M.2)
def fX11_loadGranary_50 (M : MS) : Option (Int32 × MS) := (fX11_starts M ).bind fun q => fX11_loadGranary_54 q
def fX11_loadGranary_48 (M : MS) : Option (Int32 × MS) := some ((-1), M)
def fX11_loadGranary_35 (M : MS) : Option (Int32 × MS) := (fX11_copies M 1 0 0 0).bind fun q => fX11_loadGranary_48 q
def fX11_loadGranary_31 (M : MS) (x1 : Int32) : Option (Int32 × MS) := if x1 = 0 then fX11_loadGranary_35 M else fX11_loadGranary_50 M
def fX11_loadGranary_26 (M : MS) (s0 : Int32) : Option (Int32 × MS) := (fX11_endsText M ).bind fun q => fX11_loadGranary_31 q s0
def fX11_loadGranary_22 (M : MS) : Option (Int32 × MS) := (fX11_readText M ).bind fun q => fX11_loadGranary_26 q.2 q.1
def fX11_loadGranary_18 (M : MS) : Option (Int32 × MS) := (fX11_startsText M ).bind fun q => fX11_loadGranary_22 q
def fX11_loadGranary_5 (M : MS) : Option (Int32 × MS) := (fX11_copies M 0 0 1 0).bind fun q => fX11_loadGranary_18 q
def fX11_loadGranary_0 (M : MS) : Option (Int32 × MS) := fX11_loadGranary_5 (va_up M.1 7 0, M.2)
def fX11_loadGranary (M : MS) : Option (Int32 × MS) := fX11_loadGranary_0  M
def fX11_bestFlapToChange_69 (M : MS) (x2 : Int32) : Option (Int32 × MS) := some (x2, M)
def fX11_bestFlapToChange_56 (K27 : MS → Int32 → Int32 → Int32 → Int32 → Option (Int32 × MS)) (M : MS) (x1 : Int32) (x2 : Int32) (x3 : Int32) (x4 : Int32) (x5 : Int32) : Option (Int32 × MS) := K27 M x1 x2 (if x3 < x5 then x5 else x3) (x4 + 1)
def fX11_bestFlapToChange_53 (K27 : MS → Int32 → Int32 → Int32 → Int32 → Option (Int32 × MS)) (M : MS) (x1 : Int32) (x3 : Int32) (x4 : Int32) (x5 : Int32) : Option (Int32 × MS) := fX11_bestFlapToChange_56 K27 M x1 x4 x3 x4 x5
def fX11_bestFlapToChange_45 (K27 : MS → Int32 → Int32 → Int32 → Int32 → Option (Int32 × MS)) (M : MS) (x1 : Int32) (x2 : Int32) (x3 : Int32) (x4 : Int32) (s0 : Int32) : Option (Int32 × MS) := if s0 ≤ x3 then fX11_bestFlapToChange_56 K27 M x1 x2 x3 x4 s0 else fX11_bestFlapToChange_53 K27 M x1 x3 x4 s0
def fX11_bestFlapToChange_38 (K27 : MS → Int32 → Int32 → Int32 → Int32 → Option (Int32 × MS)) (M : MS) (x1 : Int32) (x2 : Int32) (x3 : Int32) (x4 : Int32) : Option (Int32 × MS) := (fX11_grainWithChange M x4 x1).bind fun q => fX11_bestFlapToChange_45 K27 q.2 x1 x2 x3 x4 q.1
def fX11_bestFlapToChange_27 : Nat → MS → Int32 → Int32 → Int32 → Int32 → Option (Int32 × MS)
  | 0 => fun _ _ _ _ _ => none
  | k + 1 => fun M x1 x2 x3 x4 => if gIn 1 257 then if (M.2 0 (1 : Int32).toNatClampNeg) ≤ x4 then fX11_bestFlapToChange_69 M x2 else fX11_bestFlapToChange_38 (fX11_bestFlapToChange_27 k) M x1 x2 x3 x4 else none
def fX11_bestFlapToChange_23 (M : MS) (x1 : Int32) (x2 : Int32) (s0 : Int32) : Option (Int32 × MS) := fX11_bestFlapToChange_27 FU M x1 x2 s0 0
def fX11_bestFlapToChange_16 (M : MS) (x1 : Int32) : Option (Int32 × MS) := (fX11_allGrainAfter M x1).bind fun q => fX11_bestFlapToChange_23 q.2 x1 (-1) q.1
def fX11_bestFlapToChange_14 (M : MS) : Option (Int32 × MS) := some (0, M)
def fX11_bestFlapToChange_11 (M : MS) (x1 : Int32) (s0 : Int32) : Option (Int32 × MS) := if s0 = 0 then fX11_bestFlapToChange_16 M x1 else fX11_bestFlapToChange_14 M
def fX11_bestFlapToChange_5 (M : MS) (x1 : Int32) : Option (Int32 × MS) := (fX11_noHours M x1 1).bind fun q => fX11_bestFlapToChange_11 q.2 x1 q.1
def fX11_bestFlapToChange_0 (M : MS) (a1 : Int32) : Option (Int32 × MS) := fX11_bestFlapToChange_5 (va_up M.1 7 0, M.2) a1
def fX11_bestFlapToChange (M : MS) (a1 : Int32) : Option (Int32 × MS) := fX11_bestFlapToChange_0  M a1
