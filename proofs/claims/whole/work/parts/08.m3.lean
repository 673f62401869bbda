variable {l : Launch} {p : Program} {e : Env} {s : State} {m : MethodId} {args : Array Value} {below : List Frame} {meth : Method} {c : Code} {A : Nat → Prop} {Q : State → Prop}
variable {dC : Nat → ClassId} {dI : Nat → Nat → Nat} {cI : ClassId} {kA : String → Nat → Nat} {ad : Nat → Nat}
def fX11_dawns_94 (M : MS) : Option (MS) := some M
def fX11_dawns_85 (M : MS) (s0 : Int32) (s1 : Int32) : Option (MS) := if gIn 3 257 then (fX11_logs M s1 s0 (M.2 0 (3 : Int32).toNatClampNeg)).bind fun q => fX11_dawns_94 q else none
def fX11_dawns_84 (M : MS) (s0 : Int32) : Option (MS) := fX11_dawns_85 M (-1) s0
def fX11_dawns_80 (M : MS) (x1 : Int32) (s0 : Int32) : Option (MS) := fX11_dawns_85 M x1 s0
def fX11_dawns_74 (M : MS) (x1 : Int32) (x2 : Int32) : Option (MS) := if x2 = 0 then fX11_dawns_84 M 4 else fX11_dawns_80 M x1 4
def fX11_dawns_69 (M : MS) (x1 : Int32) (x2 : Int32) : Option (MS) := (fX11_swearsIn M x1).bind fun q => fX11_dawns_74 q x1 x2
def fX11_dawns_64 (M : MS) (x1 : Int32) (s0 : Int32) : Option (MS) := if s0 = 0 then fX11_dawns_74 M x1 s0 else fX11_dawns_69 M x1 s0
def fX11_dawns_63 (M : MS) (x1 : Int32) : Option (MS) := fX11_dawns_64 M x1 0
def fX11_dawns_59 (M : MS) (x1 : Int32) : Option (MS) := fX11_dawns_64 M x1 1
def fX11_dawns_56 (M : MS) (x1 : Int32) (s0 : Int32) : Option (MS) := if s0 = 0 then fX11_dawns_63 M x1 else fX11_dawns_59 M x1
def fX11_dawns_51 (M : MS) (x1 : Int32) : Option (MS) := (fX11_isAble M x1).bind fun q => fX11_dawns_56 M x1 q
def fX11_dawns_40 (M : MS) (s0 : Int32) : Option (MS) := if gIn 5 257 then if (M.2 0 (5 : Int32).toNatClampNeg) = (-1) then fX11_dawns_51 M s0 else fX11_dawns_63 M s0 else none
def fX11_dawns_29 (M : MS) : Option (MS) := if gIn 6 257 then (fX11_shiftCat M (M.2 0 (6 : Int32).toNatClampNeg)).bind fun q => fX11_dawns_40 M q else none
def fX11_dawns_23 (K2 : MS → Int32 → Option (MS)) (M : MS) (x1 : Int32) : Option (MS) := K2 M (x1 + 1)
def fX11_dawns_12 (K2 : MS → Int32 → Option (MS)) (M : MS) (x1 : Int32) : Option (MS) := if gIn 4 257 then (fX11_rests M x1 (M.2 0 (4 : Int32).toNatClampNeg)).bind fun q => fX11_dawns_23 K2 q x1 else none
def fX11_dawns_2 : Nat → MS → Int32 → Option (MS)
  | 0 => fun _ _ => none
  | k + 1 => fun M x1 => if gIn 0 257 then if (M.2 0 (0 : Int32).toNatClampNeg) ≤ x1 then fX11_dawns_29 M else fX11_dawns_12 (fX11_dawns_2 k) M x1 else none
def fX11_dawns_0 (M : MS) : Option (MS) := fX11_dawns_2 FU M 0
def fX11_dawns (M : MS) : Option (MS) := fX11_dawns_0  M
def fX11_setsFlap_12 (M : MS) (s0 : Int32) : Option (Int32 × MS) := some (s0, M)
def fX11_setsFlap_8 (M : MS) : Option (Int32 × MS) := (fX11_openMany M ).bind fun q => fX11_setsFlap_12 M q
def fX11_setsFlap_0 (M : MS) (a1 : Int32) (a2 : Int32) : Option (Int32 × MS) := (fX11_putsSack M a1 9 a2).bind fun q => fX11_setsFlap_8 q
def fX11_setsFlap (M : MS) (a1 : Int32) (a2 : Int32) : Option (Int32 × MS) := fX11_setsFlap_0  M a1 a2
def fX11_advanceToken_36 (K0 : MS → Option (MS)) (M : MS) : Option (MS) := K0 M
def fX11_advanceToken_26 (K0 : MS → Option (MS)) (M : MS) : Option (MS) := fX11_advanceToken_36 K0 (va_up M.1 14 ((M.1 14) + 1), M.2)
def fX11_advanceToken_270 (M : MS) : Option (MS) := some M
def fX11_advanceToken_260 (M : MS) : Option (MS) := fX11_advanceToken_270 (va_up M.1 14 ((M.1 14) + 1), M.2)
def fX11_advanceToken_257 (M : MS) (s0 : Int32) : Option (MS) := fX11_advanceToken_260 (va_up M.1 17 s0, M.2)
def fX11_advanceToken_256 (M : MS) : Option (MS) := fX11_advanceToken_257 M 4
def fX11_advanceToken_252 (M : MS) : Option (MS) := fX11_advanceToken_257 M 3
def fX11_advanceToken_245 (M : MS) (x1 : Int32) : Option (MS) := if x1 = 59 then fX11_advanceToken_252 M else fX11_advanceToken_256 M
def fX11_advanceToken_242 (M : MS) : Option (MS) := fX11_advanceToken_270 M
def fX11_advanceToken_239 (M : MS) (s0 : Int32) : Option (MS) := fX11_advanceToken_242 (va_up M.1 17 s0, M.2)
def fX11_advanceToken_238 (M : MS) : Option (MS) := fX11_advanceToken_239 M 2
def fX11_advanceToken_234 (M : MS) : Option (MS) := fX11_advanceToken_239 M 4
def fX11_advanceToken_220 (M : MS) : Option (MS) := if ((M.1 14) - (M.1 15)) ≤ 4 then fX11_advanceToken_238 M else fX11_advanceToken_234 M
def fX11_advanceToken_217 (K146 : MS → Option (MS)) (M : MS) : Option (MS) := K146 M
def fX11_advanceToken_207 (K146 : MS → Option (MS)) (M : MS) : Option (MS) := fX11_advanceToken_217 K146 (va_up M.1 14 ((M.1 14) + 1), M.2)
def fX11_advanceToken_204 (K146 : MS → Option (MS)) (M : MS) (s0 : Int32) : Option (MS) := fX11_advanceToken_207 K146 (va_up M.1 16 s0, M.2)
def fX11_advanceToken_200 (K146 : MS → Option (MS)) (M : MS) : Option (MS) := fX11_advanceToken_204 K146 M (M.1 16)
def fX11_advanceToken_193 (K146 : MS → Option (MS)) (M : MS) (s0 : Int32) (s1 : Int32) : Option (MS) := fX11_advanceToken_204 K146 M ((s1 + s0) - 48)
def fX11_advanceToken_178 (K146 : MS → Option (MS)) (M : MS) : Option (MS) := (fX11_byteAt M (M.1 14)).bind fun q => fX11_advanceToken_193 K146 M q (10 * (M.1 16))
def fX11_advanceToken_164 (K146 : MS → Option (MS)) (M : MS) : Option (MS) := if 4 ≤ ((M.1 14) - (M.1 15)) then fX11_advanceToken_200 K146 M else fX11_advanceToken_178 K146 M
def fX11_advanceToken_161 (K146 : MS → Option (MS)) (M : MS) (s0 : Int32) : Option (MS) := if s0 = 0 then fX11_advanceToken_220 M else fX11_advanceToken_164 K146 M
def fX11_advanceToken_154 (K146 : MS → Option (MS)) (M : MS) (s0 : Int32) : Option (MS) := (fX11_inRange M s0 48 57).bind fun q => fX11_advanceToken_161 K146 M q
def fX11_advanceToken_146 : Nat → MS → Option (MS)
  | 0 => fun _ => none
  | k + 1 => fun M => (fX11_byteAt M (M.1 14)).bind fun q => fX11_advanceToken_154 (fX11_advanceToken_146 k) M q
def fX11_advanceToken_143 (M : MS) (x1 : Int32) (s0 : Int32) : Option (MS) := if s0 = 0 then fX11_advanceToken_245 M x1 else fX11_advanceToken_146 FU M
def fX11_advanceToken_135 (M : MS) (x1 : Int32) : Option (MS) := (fX11_inRange M x1 48 57).bind fun q => fX11_advanceToken_143 M x1 q
def fX11_advanceToken_132 (M : MS) : Option (MS) := fX11_advanceToken_270 M
def fX11_advanceToken_129 (M : MS) (s0 : Int32) : Option (MS) := fX11_advanceToken_132 (va_up M.1 17 s0, M.2)
def fX11_advanceToken_128 (M : MS) : Option (MS) := fX11_advanceToken_129 M 1
def fX11_advanceToken_124 (M : MS) : Option (MS) := fX11_advanceToken_129 M 4
def fX11_advanceToken_109 (M : MS) : Option (MS) := if ((M.1 14) - (M.1 15)) ≤ 8 then fX11_advanceToken_128 M else fX11_advanceToken_124 M
def fX11_advanceToken_106 (K85 : MS → Option (MS)) (M : MS) : Option (MS) := K85 M
def fX11_advanceToken_96 (K85 : MS → Option (MS)) (M : MS) : Option (MS) := fX11_advanceToken_106 K85 (va_up M.1 14 ((M.1 14) + 1), M.2)
def fX11_advanceToken_93 (K85 : MS → Option (MS)) (M : MS) (s0 : Int32) : Option (MS) := if s0 = 0 then fX11_advanceToken_109 M else fX11_advanceToken_96 K85 M
def fX11_advanceToken_85 : Nat → MS → Option (MS)
  | 0 => fun _ => none
  | k + 1 => fun M => (fX11_isLetter M (M.1 14)).bind fun q => fX11_advanceToken_93 (fX11_advanceToken_85 k) M q
def fX11_advanceToken_82 (M : MS) (x1 : Int32) (s0 : Int32) : Option (MS) := if s0 = 0 then fX11_advanceToken_135 M x1 else fX11_advanceToken_85 FU M
def fX11_advanceToken_74 (M : MS) (x1 : Int32) : Option (MS) := (fX11_isLetter M (M.1 14)).bind fun q => fX11_advanceToken_82 M x1 q
def fX11_advanceToken_71 (M : MS) : Option (MS) := fX11_advanceToken_270 M
def fX11_advanceToken_66 (M : MS) : Option (MS) := fX11_advanceToken_71 (va_up M.1 17 0, M.2)
def fX11_advanceToken_61 (M : MS) (x1 : Int32) : Option (MS) := if x1 = (-1) then fX11_advanceToken_66 M else fX11_advanceToken_74 M x1
def fX11_advanceToken_55 (M : MS) (s0 : Int32) : Option (MS) := fX11_advanceToken_61 (va_up M.1 16 0, M.2) s0
def fX11_advanceToken_47 (M : MS) : Option (MS) := (fX11_byteAt M (M.1 14)).bind fun q => fX11_advanceToken_55 M q
def fX11_advanceToken_39 (M : MS) : Option (MS) := fX11_advanceToken_47 (va_up M.1 15 (M.1 14), M.2)
def fX11_advanceToken_21 (K0 : MS → Option (MS)) (M : MS) (s0 : Int32) : Option (MS) := if s0 = 10 then fX11_advanceToken_26 K0 M else fX11_advanceToken_39 M
def fX11_advanceToken_13 (K0 : MS → Option (MS)) (M : MS) : Option (MS) := (fX11_byteAt M (M.1 14)).bind fun q => fX11_advanceToken_21 K0 M q
def fX11_advanceToken_8 (K0 : MS → Option (MS)) (M : MS) (s0 : Int32) : Option (MS) := if s0 = 32 then fX11_advanceToken_26 K0 M else fX11_advanceToken_13 K0 M
def fX11_advanceToken_0 : Nat → MS → Option (MS)
  | 0 => fun _ => none
  | k + 1 => fun M => (fX11_byteAt M (M.1 14)).bind fun q => fX11_advanceToken_8 (fX11_advanceToken_0 k) M q
def fX11_advanceToken (M : MS) : Option (MS) := fX11_advanceToken_0 FU M
def fX11_reasonOf_35 (M : MS) (s0 : Int32) : Option (Int32) := some s0
def fX11_reasonOf_34 (M : MS) : Option (Int32) := fX11_reasonOf_35 M 3
def fX11_reasonOf_30 (M : MS) : Option (Int32) := fX11_reasonOf_35 M 0
def fX11_reasonOf_27 (M : MS) (s0 : Int32) : Option (Int32) := if s0 = 0 then fX11_reasonOf_34 M else fX11_reasonOf_30 M
def fX11_reasonOf_22 (M : MS) (x1 : Int32) : Option (Int32) := (fX11_isPawRight M x1).bind fun q => fX11_reasonOf_27 M q
def fX11_reasonOf_20 (M : MS) : Option (Int32) := some 2
def fX11_reasonOf_17 (M : MS) (x1 : Int32) (s0 : Int32) : Option (Int32) := if s0 = 0 then fX11_reasonOf_20 M else fX11_reasonOf_22 M x1
def fX11_reasonOf_12 (M : MS) (x1 : Int32) : Option (Int32) := (fX11_isAble M x1).bind fun q => fX11_reasonOf_17 M x1 q
def fX11_reasonOf_10 (M : MS) : Option (Int32) := some 1
def fX11_reasonOf_0 (M : MS) (a1 : Int32) : Option (Int32) := if gIn 5 257 then if (M.2 0 (5 : Int32).toNatClampNeg) = (-1) then fX11_reasonOf_10 M else fX11_reasonOf_12 M a1 else none
def fX11_reasonOf (M : MS) (a1 : Int32) : Option (Int32) := fX11_reasonOf_0  M a1
def fX11_speedOf_24 (M : MS) (s0 : Int32) : Option (Int32 × MS) := some (s0, M)
def fX11_speedOf_17 (M : MS) (x1 : Int32) : Option (Int32 × MS) := (fX11_ofCat M x1 7).bind fun q => fX11_speedOf_24 M q
def fX11_speedOf_13 (M : MS) : Option (Int32 × MS) := fX11_speedOf_24 M 0
def fX11_speedOf_10 (M : MS) (x1 : Int32) (s0 : Int32) : Option (Int32 × MS) := if s0 = 0 then fX11_speedOf_17 M x1 else fX11_speedOf_13 M
def fX11_speedOf_5 (M : MS) (x1 : Int32) : Option (Int32 × MS) := (fX11_noCat M x1).bind fun q => fX11_speedOf_10 q.2 x1 q.1
def fX11_speedOf_0 (M : MS) (a1 : Int32) : Option (Int32 × MS) := fX11_speedOf_5 (va_up M.1 7 0, M.2) a1
def fX11_speedOf (M : MS) (a1 : Int32) : Option (Int32 × MS) := fX11_speedOf_0  M a1
def fX11_tirednessOf_24 (M : MS) (s0 : Int32) : Option (Int32 × MS) := some (s0, M)
def fX11_tirednessOf_17 (M : MS) (x1 : Int32) : Option (Int32 × MS) := (fX11_ofCat M x1 9).bind fun q => fX11_tirednessOf_24 M q
def fX11_tirednessOf_13 (M : MS) : Option (Int32 × MS) := fX11_tirednessOf_24 M 0
def fX11_tirednessOf_10 (M : MS) (x1 : Int32) (s0 : Int32) : Option (Int32 × MS) := if s0 = 0 then fX11_tirednessOf_17 M x1 else fX11_tirednessOf_13 M
def fX11_tirednessOf_5 (M : MS) (x1 : Int32) : Option (Int32 × MS) := (fX11_noCat M x1).bind fun q => fX11_tirednessOf_10 q.2 x1 q.1
def fX11_tirednessOf_0 (M : MS) (a1 : Int32) : Option (Int32 × MS) := fX11_tirednessOf_5 (va_up M.1 7 0, M.2) a1
def fX11_tirednessOf (M : MS) (a1 : Int32) : Option (Int32 × MS) := fX11_tirednessOf_0  M a1
def fX11_strengthOf_22 (M : MS) (s0 : Int32) : Option (Int32 × MS) := some (s0, M)
def fX11_strengthOf_17 (M : MS) (x1 : Int32) : Option (Int32 × MS) := (fX11_strength M x1).bind fun q => fX11_strengthOf_22 M q
def fX11_strengthOf_13 (M : MS) : Option (Int32 × MS) := fX11_strengthOf_22 M 0
def fX11_strengthOf_10 (M : MS) (x1 : Int32) (s0 : Int32) : Option (Int32 × MS) := if s0 = 0 then fX11_strengthOf_17 M x1 else fX11_strengthOf_13 M
def fX11_strengthOf_5 (M : MS) (x1 : Int32) : Option (Int32 × MS) := (fX11_noCat M x1).bind fun q => fX11_strengthOf_10 q.2 x1 q.1
def fX11_strengthOf_0 (M : MS) (a1 : Int32) : Option (Int32 × MS) := fX11_strengthOf_5 (va_up M.1 7 0, M.2) a1
def fX11_strengthOf (M : MS) (a1 : Int32) : Option (Int32 × MS) := fX11_strengthOf_0  M a1
def fX11_caughtBy_24 (M : MS) (s0 : Int32) : Option (Int32 × MS) := some (s0, M)
def fX11_caughtBy_17 (M : MS) (x1 : Int32) : Option (Int32 × MS) := (fX11_ofCat M x1 10).bind fun q => fX11_caughtBy_24 M q
def fX11_caughtBy_13 (M : MS) : Option (Int32 × MS) := fX11_caughtBy_24 M 0
def fX11_caughtBy_10 (M : MS) (x1 : Int32) (s0 : Int32) : Option (Int32 × MS) := if s0 = 0 then fX11_caughtBy_17 M x1 else fX11_caughtBy_13 M
def fX11_caughtBy_5 (M : MS) (x1 : Int32) : Option (Int32 × MS) := (fX11_noCat M x1).bind fun q => fX11_caughtBy_10 q.2 x1 q.1
def fX11_caughtBy_0 (M : MS) (a1 : Int32) : Option (Int32 × MS) := fX11_caughtBy_5 (va_up M.1 7 0, M.2) a1
def fX11_caughtBy (M : MS) (a1 : Int32) : Option (Int32 × MS) := fX11_caughtBy_0  M a1
def fX11_oathsOf_24 (M : MS) (s0 : Int32) : Option (Int32 × MS) := some (s0, M)
def fX11_oathsOf_17 (M : MS) (x1 : Int32) : Option (Int32 × MS) := (fX11_ofCat M x1 11).bind fun q => fX11_oathsOf_24 M q
def fX11_oathsOf_13 (M : MS) : Option (Int32 × MS) := fX11_oathsOf_24 M 0
def fX11_oathsOf_10 (M : MS) (x1 : Int32) (s0 : Int32) : Option (Int32 × MS) := if s0 = 0 then fX11_oathsOf_17 M x1 else fX11_oathsOf_13 M
def fX11_oathsOf_5 (M : MS) (x1 : Int32) : Option (Int32 × MS) := (fX11_noCat M x1).bind fun q => fX11_oathsOf_10 q.2 x1 q.1
def fX11_oathsOf_0 (M : MS) (a1 : Int32) : Option (Int32 × MS) := fX11_oathsOf_5 (va_up M.1 7 0, M.2) a1
def fX11_oathsOf (M : MS) (a1 : Int32) : Option (Int32 × MS) := fX11_oathsOf_0  M a1
def fX11_grainIn_24 (M : MS) (s0 : Int32) : Option (Int32 × MS) := some (s0, M)
def fX11_grainIn_17 (M : MS) (x1 : Int32) : Option (Int32 × MS) := (fX11_ofSack M x1 7).bind fun q => fX11_grainIn_24 M q
def fX11_grainIn_13 (M : MS) : Option (Int32 × MS) := fX11_grainIn_24 M 0
def fX11_grainIn_10 (M : MS) (x1 : Int32) (s0 : Int32) : Option (Int32 × MS) := if s0 = 0 then fX11_grainIn_17 M x1 else fX11_grainIn_13 M
def fX11_grainIn_5 (M : MS) (x1 : Int32) : Option (Int32 × MS) := (fX11_noSack M x1).bind fun q => fX11_grainIn_10 q.2 x1 q.1
def fX11_grainIn_0 (M : MS) (a1 : Int32) : Option (Int32 × MS) := fX11_grainIn_5 (va_up M.1 7 0, M.2) a1
def fX11_grainIn (M : MS) (a1 : Int32) : Option (Int32 × MS) := fX11_grainIn_0  M a1
def fX11_miceIn_24 (M : MS) (s0 : Int32) : Option (Int32 × MS) := some (s0, M)
def fX11_miceIn_17 (M : MS) (x1 : Int32) : Option (Int32 × MS) := (fX11_ofSack M x1 8).bind fun q => fX11_miceIn_24 M q
def fX11_miceIn_13 (M : MS) : Option (Int32 × MS) := fX11_miceIn_24 M 0
def fX11_miceIn_10 (M : MS) (x1 : Int32) (s0 : Int32) : Option (Int32 × MS) := if s0 = 0 then fX11_miceIn_17 M x1 else fX11_miceIn_13 M
def fX11_miceIn_5 (M : MS) (x1 : Int32) : Option (Int32 × MS) := (fX11_noSack M x1).bind fun q => fX11_miceIn_10 q.2 x1 q.1
def fX11_miceIn_0 (M : MS) (a1 : Int32) : Option (Int32 × MS) := fX11_miceIn_5 (va_up M.1 7 0, M.2) a1
def fX11_miceIn (M : MS) (a1 : Int32) : Option (Int32 × MS) := fX11_miceIn_0  M a1
def fX11_eatenFrom_24 (M : MS) (s0 : Int32) : Option (Int32 × MS) := some (s0, M)
def fX11_eatenFrom_17 (M : MS) (x1 : Int32) : Option (Int32 × MS) := (fX11_ofSack M x1 10).bind fun q => fX11_eatenFrom_24 M q
def fX11_eatenFrom_13 (M : MS) : Option (Int32 × MS) := fX11_eatenFrom_24 M 0
def fX11_eatenFrom_10 (M : MS) (x1 : Int32) (s0 : Int32) : Option (Int32 × MS) := if s0 = 0 then fX11_eatenFrom_17 M x1 else fX11_eatenFrom_13 M
def fX11_eatenFrom_5 (M : MS) (x1 : Int32) : Option (Int32 × MS) := (fX11_noSack M x1).bind fun q => fX11_eatenFrom_10 q.2 x1 q.1
def fX11_eatenFrom_0 (M : MS) (a1 : Int32) : Option (Int32 × MS) := fX11_eatenFrom_5 (va_up M.1 7 0, M.2) a1
def fX11_eatenFrom (M : MS) (a1 : Int32) : Option (Int32 × MS) := fX11_eatenFrom_0  M a1
def fX11_catNameByte_43 (M : MS) (s0 : Int32) : Option (Int32 × MS) := some (s0, M)
def fX11_catNameByte_42 (M : MS) : Option (Int32 × MS) := fX11_catNameByte_43 M (-1)
def fX11_catNameByte_39 (M : MS) (s0 : Int32) : Option (Int32 × MS) := fX11_catNameByte_43 M s0
def fX11_catNameByte_31 (M : MS) (x1 : Int32) (x2 : Int32) : Option (Int32 × MS) := (fX11_ofCat M x1 (1 + x2)).bind fun q => fX11_catNameByte_39 M q
def fX11_catNameByte_28 (M : MS) (x1 : Int32) (x2 : Int32) (s0 : Int32) : Option (Int32 × MS) := if s0 = 0 then fX11_catNameByte_42 M else fX11_catNameByte_31 M x1 x2
def fX11_catNameByte_23 (M : MS) (x1 : Int32) (x2 : Int32) (s0 : Int32) (s1 : Int32) (s2 : Int32) : Option (Int32 × MS) := (fX11_inRange M s2 s1 (s0 - 1)).bind fun q => fX11_catNameByte_28 M x1 x2 q
def fX11_catNameByte_15 (M : MS) (x1 : Int32) (x2 : Int32) : Option (Int32 × MS) := (fX11_ofCat M x1 0).bind fun q => fX11_catNameByte_23 M x1 x2 q 0 x2
def fX11_catNameByte_13 (M : MS) : Option (Int32 × MS) := some (0, M)
def fX11_catNameByte_10 (M : MS) (x1 : Int32) (x2 : Int32) (s0 : Int32) : Option (Int32 × MS) := if s0 = 0 then fX11_catNameByte_15 M x1 x2 else fX11_catNameByte_13 M
def fX11_catNameByte_5 (M : MS) (x1 : Int32) (x2 : Int32) : Option (Int32 × MS) := (fX11_noCat M x1).bind fun q => fX11_catNameByte_10 q.2 x1 x2 q.1
def fX11_catNameByte_0 (M : MS) (a1 : Int32) (a2 : Int32) : Option (Int32 × MS) := fX11_catNameByte_5 (va_up M.1 7 0, M.2) a1 a2
def fX11_catNameByte (M : MS) (a1 : Int32) (a2 : Int32) : Option (Int32 × MS) := fX11_catNameByte_0  M a1 a2
def fX11_sackNameByte_43 (M : MS) (s0 : Int32) : Option (Int32 × MS) := some (s0, M)
def fX11_sackNameByte_42 (M : MS) : Option (Int32 × MS) := fX11_sackNameByte_43 M (-1)
def fX11_sackNameByte_39 (M : MS) (s0 : Int32) : Option (Int32 × MS) := fX11_sackNameByte_43 M s0
def fX11_sackNameByte_31 (M : MS) (x1 : Int32) (x2 : Int32) : Option (Int32 × MS) := (fX11_ofSack M x1 (1 + x2)).bind fun q => fX11_sackNameByte_39 M q
def fX11_sackNameByte_28 (M : MS) (x1 : Int32) (x2 : Int32) (s0 : Int32) : Option (Int32 × MS) := if s0 = 0 then fX11_sackNameByte_42 M else fX11_sackNameByte_31 M x1 x2
def fX11_sackNameByte_23 (M : MS) (x1 : Int32) (x2 : Int32) (s0 : Int32) (s1 : Int32) (s2 : Int32) : Option (Int32 × MS) := (fX11_inRange M s2 s1 (s0 - 1)).bind fun q => fX11_sackNameByte_28 M x1 x2 q
def fX11_sackNameByte_15 (M : MS) (x1 : Int32) (x2 : Int32) : Option (Int32 × MS) := (fX11_ofSack M x1 0).bind fun q => fX11_sackNameByte_23 M x1 x2 q 0 x2
def fX11_sackNameByte_13 (M : MS) : Option (Int32 × MS) := some (0, M)
def fX11_sackNameByte_10 (M : MS) (x1 : Int32) (x2 : Int32) (s0 : Int32) : Option (Int32 × MS) := if s0 = 0 then fX11_sackNameByte_15 M x1 x2 else fX11_sackNameByte_13 M
def fX11_sackNameByte_5 (M : MS) (x1 : Int32) (x2 : Int32) : Option (Int32 × MS) := (fX11_noSack M x1).bind fun q => fX11_sackNameByte_10 q.2 x1 x2 q.1
def fX11_sackNameByte_0 (M : MS) (a1 : Int32) (a2 : Int32) : Option (Int32 × MS) := fX11_sackNameByte_5 (va_up M.1 7 0, M.2) a1 a2
def fX11_sackNameByte (M : MS) (a1 : Int32) (a2 : Int32) : Option (Int32 × MS) := fX11_sackNameByte_0  M a1 a2
def fX11_isLeftPawed_29 (M : MS) (s0 : Int32) : Option (Int32 × MS) := some (s0, M)
def fX11_isLeftPawed_28 (M : MS) : Option (Int32 × MS) := fX11_isLeftPawed_29 M 0
def fX11_isLeftPawed_24 (M : MS) : Option (Int32 × MS) := fX11_isLeftPawed_29 M 1
def fX11_isLeftPawed_20 (M : MS) (s0 : Int32) : Option (Int32 × MS) := if s0 = 1 then fX11_isLeftPawed_24 M else fX11_isLeftPawed_28 M
def fX11_isLeftPawed_13 (M : MS) (x1 : Int32) : Option (Int32 × MS) := (fX11_ofCat M x1 8).bind fun q => fX11_isLeftPawed_20 M q
def fX11_isLeftPawed_10 (M : MS) (x1 : Int32) (s0 : Int32) : Option (Int32 × MS) := if s0 = 0 then fX11_isLeftPawed_13 M x1 else fX11_isLeftPawed_28 M
def fX11_isLeftPawed_5 (M : MS) (x1 : Int32) : Option (Int32 × MS) := (fX11_noCat M x1).bind fun q => fX11_isLeftPawed_10 q.2 x1 q.1
def fX11_isLeftPawed_0 (M : MS) (a1 : Int32) : Option (Int32 × MS) := fX11_isLeftPawed_5 (va_up M.1 7 0, M.2) a1
def fX11_isLeftPawed (M : MS) (a1 : Int32) : Option (Int32 × MS) := bz (fX11_isLeftPawed_0  M a1)
def fX11_isOpen_26 (M : MS) (s0 : Int32) : Option (Int32 × MS) := some (s0, M)
def fX11_isOpen_25 (M : MS) : Option (Int32 × MS) := fX11_isOpen_26 M 0
def fX11_isOpen_21 (M : MS) : Option (Int32 × MS) := fX11_isOpen_26 M 1
def fX11_isOpen_18 (M : MS) (s0 : Int32) : Option (Int32 × MS) := if s0 = 0 then fX11_isOpen_25 M else fX11_isOpen_21 M
def fX11_isOpen_13 (M : MS) (x1 : Int32) : Option (Int32 × MS) := (fX11_isOpenSack M x1).bind fun q => fX11_isOpen_18 M q
def fX11_isOpen_10 (M : MS) (x1 : Int32) (s0 : Int32) : Option (Int32 × MS) := if s0 = 0 then fX11_isOpen_13 M x1 else fX11_isOpen_25 M
def fX11_isOpen_5 (M : MS) (x1 : Int32) : Option (Int32 × MS) := (fX11_noSack M x1).bind fun q => fX11_isOpen_10 q.2 x1 q.1
def fX11_isOpen_0 (M : MS) (a1 : Int32) : Option (Int32 × MS) := fX11_isOpen_5 (va_up M.1 7 0, M.2) a1
def fX11_isOpen (M : MS) (a1 : Int32) : Option (Int32 × MS) := bz (fX11_isOpen_0  M a1)
def fX11_catOfShift_22 (M : MS) (s0 : Int32) : Option (Int32 × MS) := some (s0, M)
def fX11_catOfShift_17 (M : MS) (x1 : Int32) : Option (Int32 × MS) := (fX11_shiftCat M x1).bind fun q => fX11_catOfShift_22 M q
def fX11_catOfShift_13 (M : MS) : Option (Int32 × MS) := fX11_catOfShift_22 M 0
def fX11_catOfShift_10 (M : MS) (x1 : Int32) (s0 : Int32) : Option (Int32 × MS) := if s0 = 0 then fX11_catOfShift_17 M x1 else fX11_catOfShift_13 M
def fX11_catOfShift_5 (M : MS) (x1 : Int32) : Option (Int32 × MS) := (fX11_noShift M x1).bind fun q => fX11_catOfShift_10 q.2 x1 q.1
def fX11_catOfShift_0 (M : MS) (a1 : Int32) : Option (Int32 × MS) := fX11_catOfShift_5 (va_up M.1 7 0, M.2) a1
def fX11_catOfShift (M : MS) (a1 : Int32) : Option (Int32 × MS) := fX11_catOfShift_0  M a1
def fX11_hoursOfShift_22 (M : MS) (s0 : Int32) : Option (Int32 × MS) := some (s0, M)
def fX11_hoursOfShift_17 (M : MS) (x1 : Int32) : Option (Int32 × MS) := (fX11_shiftHours M x1).bind fun q => fX11_hoursOfShift_22 M q
def fX11_hoursOfShift_13 (M : MS) : Option (Int32 × MS) := fX11_hoursOfShift_22 M 0
def fX11_hoursOfShift_10 (M : MS) (x1 : Int32) (s0 : Int32) : Option (Int32 × MS) := if s0 = 0 then fX11_hoursOfShift_17 M x1 else fX11_hoursOfShift_13 M
def fX11_hoursOfShift_5 (M : MS) (x1 : Int32) : Option (Int32 × MS) := (fX11_noShift M x1).bind fun q => fX11_hoursOfShift_10 q.2 x1 q.1
def fX11_hoursOfShift_0 (M : MS) (a1 : Int32) : Option (Int32 × MS) := fX11_hoursOfShift_5 (va_up M.1 7 0, M.2) a1
def fX11_hoursOfShift (M : MS) (a1 : Int32) : Option (Int32 × MS) := fX11_hoursOfShift_0  M a1
def fX11_eventKind_11 (M : MS) (s0 : Int32) : Option (Int32 × MS) := some (s0, M)
def fX11_eventKind_5 (M : MS) (x1 : Int32) : Option (Int32 × MS) := (fX11_logged M x1 0).bind fun q => fX11_eventKind_11 M q
def fX11_eventKind_0 (M : MS) (a1 : Int32) : Option (Int32 × MS) := fX11_eventKind_5 (va_up M.1 7 0, M.2) a1
def fX11_eventKind (M : MS) (a1 : Int32) : Option (Int32 × MS) := fX11_eventKind_0  M a1
def fX11_eventCat_11 (M : MS) (s0 : Int32) : Option (Int32 × MS) := some (s0, M)
def fX11_eventCat_5 (M : MS) (x1 : Int32) : Option (Int32 × MS) := (fX11_logged M x1 1).bind fun q => fX11_eventCat_11 M q
def fX11_eventCat_0 (M : MS) (a1 : Int32) : Option (Int32 × MS) := fX11_eventCat_5 (va_up M.1 7 0, M.2) a1
def fX11_eventCat (M : MS) (a1 : Int32) : Option (Int32 × MS) := fX11_eventCat_0  M a1
def fX11_eventNumber_11 (M : MS) (s0 : Int32) : Option (Int32 × MS) := some (s0, M)
def fX11_eventNumber_5 (M : MS) (x1 : Int32) : Option (Int32 × MS) := (fX11_logged M x1 2).bind fun q => fX11_eventNumber_11 M q
def fX11_eventNumber_0 (M : MS) (a1 : Int32) : Option (Int32 × MS) := fX11_eventNumber_5 (va_up M.1 7 0, M.2) a1
def fX11_eventNumber (M : MS) (a1 : Int32) : Option (Int32 × MS) := fX11_eventNumber_0  M a1
def fX11_isConsistent_170 (M : MS) (s0 : Int32) : Option (Int32 × MS) := some (s0, M)
def fX11_isConsistent_169 (M : MS) : Option (Int32 × MS) := fX11_isConsistent_170 M 0
def fX11_isConsistent_165 (M : MS) : Option (Int32 × MS) := fX11_isConsistent_170 M 1
def fX11_isConsistent_155 (M : MS) (s0 : Int32) : Option (Int32 × MS) := if gIn 12 257 then if s0 = (M.2 0 (12 : Int32).toNatClampNeg) then fX11_isConsistent_165 M else fX11_isConsistent_169 M else none
def fX11_isConsistent_146 (M : MS) : Option (Int32 × MS) := (fX11_sumOf M 65 0 11).bind fun q => fX11_isConsistent_155 M q
def fX11_isConsistent_136 (M : MS) (s0 : Int32) : Option (Int32 × MS) := if gIn 8 257 then if s0 = (M.2 0 (8 : Int32).toNatClampNeg) then fX11_isConsistent_146 M else fX11_isConsistent_169 M else none
def fX11_isConsistent_127 (M : MS) : Option (Int32 × MS) := (fX11_sumOf M 65 0 10).bind fun q => fX11_isConsistent_136 M q
def fX11_isConsistent_123 (M : MS) (x3 : Int32) : Option (Int32 × MS) := if x3 = 0 then fX11_isConsistent_169 M else fX11_isConsistent_127 M
def fX11_isConsistent_118 (M : MS) (x2 : Int32) (s0 : Int32) : Option (Int32 × MS) := if x2 = 0 then fX11_isConsistent_169 M else fX11_isConsistent_123 M s0
def fX11_isConsistent_117 (M : MS) (x2 : Int32) : Option (Int32 × MS) := fX11_isConsistent_118 M x2 0
def fX11_isConsistent_113 (M : MS) (x2 : Int32) : Option (Int32 × MS) := fX11_isConsistent_118 M x2 1
def fX11_isConsistent_103 (M : MS) (x2 : Int32) (s0 : Int32) : Option (Int32 × MS) := if gIn 9 257 then if s0 = (M.2 0 (9 : Int32).toNatClampNeg) then fX11_isConsistent_113 M x2 else fX11_isConsistent_117 M x2 else none
def fX11_isConsistent_93 (M : MS) (x2 : Int32) : Option (Int32 × MS) := (fX11_sumOf M 161 1 10).bind fun q => fX11_isConsistent_103 M x2 q
def fX11_isConsistent_75 (M : MS) (x2 : Int32) (s0 : Int32) : Option (Int32 × MS) := if gIn 15 257 then if gIn 9 257 then if s0 = ((M.2 0 (15 : Int32).toNatClampNeg) - (M.2 0 (9 : Int32).toNatClampNeg)) then fX11_isConsistent_93 M x2 else fX11_isConsistent_117 M x2 else none else none
def fX11_isConsistent_64 (M : MS) (s0 : Int32) : Option (Int32 × MS) := (fX11_sumOf M 161 1 7).bind fun q => fX11_isConsistent_75 M s0 q
def fX11_isConsistent_63 (M : MS) : Option (Int32 × MS) := fX11_isConsistent_64 M 0
def fX11_isConsistent_59 (M : MS) : Option (Int32 × MS) := fX11_isConsistent_64 M 1
def fX11_isConsistent_56 (M : MS) (s0 : Int32) (s1 : Int32) : Option (Int32 × MS) := if s1 = s0 then fX11_isConsistent_59 M else fX11_isConsistent_63 M
def fX11_isConsistent_51 (M : MS) (x1 : Int32) : Option (Int32 × MS) := (fX11_miceBackwards M ).bind fun q => fX11_isConsistent_56 M q x1
def fX11_isConsistent_15 (M : MS) (s0 : Int32) : Option (Int32 × MS) := if gIn 14 257 then if gIn 10 257 then if gIn 8 257 then if gIn 11 257 then if s0 = ((((M.2 0 (14 : Int32).toNatClampNeg) + (M.2 0 (10 : Int32).toNatClampNeg)) - (M.2 0 (8 : Int32).toNatClampNeg)) - (M.2 0 (11 : Int32).toNatClampNeg)) then fX11_isConsistent_51 M s0 else fX11_isConsistent_63 M else none else none else none else none
def fX11_isConsistent_5 (M : MS) : Option (Int32 × MS) := (fX11_sumOf M 161 1 8).bind fun q => fX11_isConsistent_15 M q
def fX11_isConsistent_0 (M : MS) : Option (Int32 × MS) := fX11_isConsistent_5 (va_up M.1 7 0, M.2)
def fX11_isConsistent (M : MS) : Option (Int32 × MS) := bz (fX11_isConsistent_0  M)
def fX11_addMice_58 (M : MS) : Option (Int32 × MS) := some (0, M)
def fX11_addMice_70 (M : MS) (s0 : Int32) : Option (Int32 × MS) := some (s0, M)
def fX11_addMice_64 (M : MS) (x1 : Int32) (x2 : Int32) : Option (Int32 × MS) := (fX11_addsMice M x1 x2).bind fun q => fX11_addMice_70 q.2 q.1
def fX11_addMice_60 (M : MS) (x1 : Int32) (x2 : Int32) : Option (Int32 × MS) := (fX11_remembers M ).bind fun q => fX11_addMice_64 q x1 x2
def fX11_addMice_55 (M : MS) (x1 : Int32) (x2 : Int32) (s0 : Int32) : Option (Int32 × MS) := if s0 = 0 then fX11_addMice_60 M x1 x2 else fX11_addMice_58 M
def fX11_addMice_51 (M : MS) (x1 : Int32) (x2 : Int32) (s0 : Int32) : Option (Int32 × MS) := (fX11_fails M s0 3).bind fun q => fX11_addMice_55 q.2 x1 x2 q.1
def fX11_addMice_50 (M : MS) (x1 : Int32) (x2 : Int32) : Option (Int32 × MS) := fX11_addMice_51 M x1 x2 0
def fX11_addMice_46 (M : MS) (x1 : Int32) (x2 : Int32) : Option (Int32 × MS) := fX11_addMice_51 M x1 x2 1
def fX11_addMice_43 (M : MS) (x1 : Int32) (x2 : Int32) (s0 : Int32) : Option (Int32 × MS) := if s0 = 0 then fX11_addMice_46 M x1 x2 else fX11_addMice_50 M x1 x2
def fX11_addMice_36 (M : MS) (x1 : Int32) (x2 : Int32) : Option (Int32 × MS) := (fX11_mayAddMice M x1 x2).bind fun q => fX11_addMice_43 M x1 x2 q
def fX11_addMice_33 (M : MS) (x1 : Int32) (x2 : Int32) (s0 : Int32) : Option (Int32 × MS) := if s0 = 0 then fX11_addMice_36 M x1 x2 else fX11_addMice_58 M
def fX11_addMice_29 (M : MS) (x1 : Int32) (x2 : Int32) (s0 : Int32) : Option (Int32 × MS) := (fX11_fails M s0 2).bind fun q => fX11_addMice_33 q.2 x1 x2 q.1
def fX11_addMice_28 (M : MS) (x1 : Int32) (x2 : Int32) : Option (Int32 × MS) := fX11_addMice_29 M x1 x2 0
def fX11_addMice_24 (M : MS) (x1 : Int32) (x2 : Int32) : Option (Int32 × MS) := fX11_addMice_29 M x1 x2 1
def fX11_addMice_21 (M : MS) (x1 : Int32) (x2 : Int32) (s0 : Int32) : Option (Int32 × MS) := if s0 = 0 then fX11_addMice_24 M x1 x2 else fX11_addMice_28 M x1 x2
def fX11_addMice_13 (M : MS) (x1 : Int32) (x2 : Int32) : Option (Int32 × MS) := (fX11_inRange M x2 1 99).bind fun q => fX11_addMice_21 M x1 x2 q
def fX11_addMice_10 (M : MS) (x1 : Int32) (x2 : Int32) (s0 : Int32) : Option (Int32 × MS) := if s0 = 0 then fX11_addMice_13 M x1 x2 else fX11_addMice_58 M
def fX11_addMice_5 (M : MS) (x1 : Int32) (x2 : Int32) : Option (Int32 × MS) := (fX11_noSack M x1).bind fun q => fX11_addMice_10 q.2 x1 x2 q.1
def fX11_addMice_0 (M : MS) (a1 : Int32) (a2 : Int32) : Option (Int32 × MS) := fX11_addMice_5 (va_up M.1 7 0, M.2) a1 a2
def fX11_addMice (M : MS) (a1 : Int32) (a2 : Int32) : Option (Int32 × MS) := fX11_addMice_0  M a1 a2
def fX11_addGrain_59 (M : MS) : Option (Int32 × MS) := some (0, M)
def fX11_addGrain_71 (M : MS) (s0 : Int32) : Option (Int32 × MS) := some (s0, M)
def fX11_addGrain_65 (M : MS) (x1 : Int32) (x2 : Int32) : Option (Int32 × MS) := (fX11_addsGrain M x1 x2).bind fun q => fX11_addGrain_71 q.2 q.1
def fX11_addGrain_61 (M : MS) (x1 : Int32) (x2 : Int32) : Option (Int32 × MS) := (fX11_remembers M ).bind fun q => fX11_addGrain_65 q x1 x2
def fX11_addGrain_56 (M : MS) (x1 : Int32) (x2 : Int32) (s0 : Int32) : Option (Int32 × MS) := if s0 = 0 then fX11_addGrain_61 M x1 x2 else fX11_addGrain_59 M
def fX11_addGrain_52 (M : MS) (x1 : Int32) (x2 : Int32) (s0 : Int32) : Option (Int32 × MS) := (fX11_fails M s0 3).bind fun q => fX11_addGrain_56 q.2 x1 x2 q.1
def fX11_addGrain_51 (M : MS) (x1 : Int32) (x2 : Int32) : Option (Int32 × MS) := fX11_addGrain_52 M x1 x2 0
def fX11_addGrain_47 (M : MS) (x1 : Int32) (x2 : Int32) : Option (Int32 × MS) := fX11_addGrain_52 M x1 x2 1
def fX11_addGrain_44 (M : MS) (x1 : Int32) (x2 : Int32) (s0 : Int32) : Option (Int32 × MS) := if s0 = 0 then fX11_addGrain_47 M x1 x2 else fX11_addGrain_51 M x1 x2
def fX11_addGrain_37 (M : MS) (x1 : Int32) (x2 : Int32) : Option (Int32 × MS) := (fX11_mayAddGrain M x1 x2).bind fun q => fX11_addGrain_44 M x1 x2 q
def fX11_addGrain_34 (M : MS) (x1 : Int32) (x2 : Int32) (s0 : Int32) : Option (Int32 × MS) := if s0 = 0 then fX11_addGrain_37 M x1 x2 else fX11_addGrain_59 M
def fX11_addGrain_30 (M : MS) (x1 : Int32) (x2 : Int32) (s0 : Int32) : Option (Int32 × MS) := (fX11_fails M s0 2).bind fun q => fX11_addGrain_34 q.2 x1 x2 q.1
def fX11_addGrain_29 (M : MS) (x1 : Int32) (x2 : Int32) : Option (Int32 × MS) := fX11_addGrain_30 M x1 x2 0
def fX11_addGrain_25 (M : MS) (x1 : Int32) (x2 : Int32) : Option (Int32 × MS) := fX11_addGrain_30 M x1 x2 1
def fX11_addGrain_22 (M : MS) (x1 : Int32) (x2 : Int32) (s0 : Int32) : Option (Int32 × MS) := if s0 = 0 then fX11_addGrain_25 M x1 x2 else fX11_addGrain_29 M x1 x2
def fX11_addGrain_13 (M : MS) (x1 : Int32) (x2 : Int32) : Option (Int32 × MS) := (fX11_inRange M x2 1 999).bind fun q => fX11_addGrain_22 M x1 x2 q
def fX11_addGrain_10 (M : MS) (x1 : Int32) (x2 : Int32) (s0 : Int32) : Option (Int32 × MS) := if s0 = 0 then fX11_addGrain_13 M x1 x2 else fX11_addGrain_59 M
def fX11_addGrain_5 (M : MS) (x1 : Int32) (x2 : Int32) : Option (Int32 × MS) := (fX11_noSack M x1).bind fun q => fX11_addGrain_10 q.2 x1 x2 q.1
def fX11_addGrain_0 (M : MS) (a1 : Int32) (a2 : Int32) : Option (Int32 × MS) := fX11_addGrain_5 (va_up M.1 7 0, M.2) a1 a2
def fX11_addGrain (M : MS) (a1 : Int32) (a2 : Int32) : Option (Int32 × MS) := fX11_addGrain_0  M a1 a2
def fX11_dismiss_40 (M : MS) (s0 : Int32) : Option (Int32 × MS) := some (s0, M)
def fX11_dismiss_34 (M : MS) : Option (Int32 × MS) := (fX11_sets M 5 (-1)).bind fun q => fX11_dismiss_40 q.2 q.1
def fX11_dismiss_30 (M : MS) : Option (Int32 × MS) := (fX11_remembers M ).bind fun q => fX11_dismiss_34 q
def fX11_dismiss_28 (M : MS) : Option (Int32 × MS) := some (0, M)
def fX11_dismiss_25 (M : MS) (s0 : Int32) : Option (Int32 × MS) := if s0 = 0 then fX11_dismiss_30 M else fX11_dismiss_28 M
def fX11_dismiss_21 (M : MS) (s0 : Int32) : Option (Int32 × MS) := (fX11_fails M s0 1).bind fun q => fX11_dismiss_25 q.2 q.1
def fX11_dismiss_20 (M : MS) : Option (Int32 × MS) := fX11_dismiss_21 M 0
def fX11_dismiss_16 (M : MS) : Option (Int32 × MS) := fX11_dismiss_21 M 1
def fX11_dismiss_5 (M : MS) : Option (Int32 × MS) := if gIn 5 257 then if (M.2 0 (5 : Int32).toNatClampNeg) = (-1) then fX11_dismiss_16 M else fX11_dismiss_20 M else none
def fX11_dismiss_0 (M : MS) : Option (Int32 × MS) := fX11_dismiss_5 (va_up M.1 7 0, M.2)
def fX11_dismiss (M : MS) : Option (Int32 × MS) := fX11_dismiss_0  M
def fX11_setMilk_40 (M : MS) (s0 : Int32) : Option (Int32 × MS) := some (s0, M)
def fX11_setMilk_34 (M : MS) (x1 : Int32) : Option (Int32 × MS) := (fX11_sets M 4 x1).bind fun q => fX11_setMilk_40 q.2 q.1
def fX11_setMilk_30 (M : MS) (x1 : Int32) : Option (Int32 × MS) := (fX11_remembers M ).bind fun q => fX11_setMilk_34 q x1
def fX11_setMilk_28 (M : MS) : Option (Int32 × MS) := some (0, M)
def fX11_setMilk_25 (M : MS) (x1 : Int32) (s0 : Int32) : Option (Int32 × MS) := if s0 = 0 then fX11_setMilk_30 M x1 else fX11_setMilk_28 M
def fX11_setMilk_21 (M : MS) (x1 : Int32) (s0 : Int32) : Option (Int32 × MS) := (fX11_fails M s0 1).bind fun q => fX11_setMilk_25 q.2 x1 q.1
def fX11_setMilk_20 (M : MS) (x1 : Int32) : Option (Int32 × MS) := fX11_setMilk_21 M x1 0
def fX11_setMilk_16 (M : MS) (x1 : Int32) : Option (Int32 × MS) := fX11_setMilk_21 M x1 1
def fX11_setMilk_13 (M : MS) (x1 : Int32) (s0 : Int32) : Option (Int32 × MS) := if s0 = 0 then fX11_setMilk_16 M x1 else fX11_setMilk_20 M x1
def fX11_setMilk_5 (M : MS) (x1 : Int32) : Option (Int32 × MS) := (fX11_inRange M x1 0 9).bind fun q => fX11_setMilk_13 M x1 q
def fX11_setMilk_0 (M : MS) (a1 : Int32) : Option (Int32 × MS) := fX11_setMilk_5 (va_up M.1 7 0, M.2) a1
def fX11_setMilk (M : MS) (a1 : Int32) : Option (Int32 × MS) := fX11_setMilk_0  M a1
def fX11_eats_77 (M : MS) : Option (MS) := some M
def fX11_eats_123 (M : MS) : Option (MS) := some M
def fX11_eats_113 (M : MS) (x1 : Int32) (x2 : Int32) : Option (MS) := (fX11_starve M x1 ((x2 + 1) / 2)).bind fun q => fX11_eats_123 q
def fX11_eats_110 (M : MS) : Option (MS) := fX11_eats_123 M
def fX11_eats_103 (M : MS) (x1 : Int32) (x4 : Int32) : Option (MS) := (fX11_moves M x1 x4).bind fun q => fX11_eats_110 q
def fX11_eats_95 (M : MS) (x1 : Int32) (x2 : Int32) (s0 : Int32) : Option (MS) := if s0 = (-1) then fX11_eats_113 M x1 x2 else fX11_eats_103 M x1 s0
def fX11_eats_94 (M : MS) (x1 : Int32) (x2 : Int32) : Option (MS) := fX11_eats_95 M x1 x2 (-1)
def fX11_eats_91 (M : MS) (x1 : Int32) (x2 : Int32) (s0 : Int32) : Option (MS) := fX11_eats_95 M x1 x2 s0
def fX11_eats_86 (M : MS) (x1 : Int32) (x2 : Int32) : Option (MS) := (fX11_nextOpen M x1).bind fun q => fX11_eats_91 M x1 x2 q
def fX11_eats_83 (M : MS) (x1 : Int32) (x2 : Int32) (s0 : Int32) : Option (MS) := if s0 = 0 then fX11_eats_94 M x1 x2 else fX11_eats_86 M x1 x2
def fX11_eats_78 (M : MS) (x1 : Int32) (x2 : Int32) : Option (MS) := (fX11_isOpenSack M x1).bind fun q => fX11_eats_83 M x1 x2 q
def fX11_eats_74 (M : MS) (x1 : Int32) (x2 : Int32) (s0 : Int32) : Option (MS) := if s0 ≤ 0 then fX11_eats_78 M x1 x2 else fX11_eats_77 M
def fX11_eats_67 (M : MS) (x1 : Int32) (x2 : Int32) : Option (MS) := (fX11_ofSack M x1 7).bind fun q => fX11_eats_74 M x1 x2 q
def fX11_eats_63 (M : MS) (x1 : Int32) (x2 : Int32) : Option (MS) := if x2 = 0 then fX11_eats_77 M else fX11_eats_67 M x1 x2
def fX11_eats_52 (M : MS) (x1 : Int32) (x2 : Int32) (x3 : Int32) : Option (MS) := if gIn 9 257 then if gIn 9 257 then fX11_eats_63 (M.1, va_up M.2 0 (upd (M.2 0) (9 : Int32).toNatClampNeg ((M.2 0 (9 : Int32).toNatClampNeg) + x3))) x1 x2 else none else none
def fX11_eats_47 (M : MS) (x1 : Int32) (x2 : Int32) (x3 : Int32) (s0 : Int32) (s1 : Int32) (s2 : Int32) : Option (MS) := (fX11_putsSack M s2 s1 (s0 + x3)).bind fun q => fX11_eats_52 q x1 x2 x3
def fX11_eats_36 (M : MS) (x1 : Int32) (x2 : Int32) (x3 : Int32) : Option (MS) := (fX11_ofSack M x1 10).bind fun q => fX11_eats_47 M x1 x2 x3 q 10 x1
def fX11_eats_31 (M : MS) (x1 : Int32) (x2 : Int32) (x3 : Int32) (s0 : Int32) (s1 : Int32) (s2 : Int32) : Option (MS) := (fX11_putsSack M s2 s1 (s0 - x3)).bind fun q => fX11_eats_36 q x1 x2 x3
def fX11_eats_16 (M : MS) (x1 : Int32) (x2 : Int32) (s0 : Int32) (s1 : Int32) : Option (MS) := (fX11_ofSack M x1 7).bind fun q => fX11_eats_31 M x1 x2 (if s0 < s1 then s0 else s1) q 7 x1
def fX11_eats_7 (M : MS) (x1 : Int32) (s0 : Int32) : Option (MS) := (fX11_ofSack M x1 7).bind fun q => fX11_eats_16 M x1 s0 q s0
def fX11_eats_0 (M : MS) (a1 : Int32) : Option (MS) := (fX11_ofSack M a1 8).bind fun q => fX11_eats_7 M a1 q
def fX11_eats (M : MS) (a1 : Int32) : Option (MS) := fX11_eats_0  M a1
set_option maxRecDepth 10000 in
theorem kX11_dawns_94 {S1 : MS} {M : MS} {H : Heap} {locs : List Loc} {ls : Array Slot} (X : gX p s m args c cX11_dawns 3 RX11 (kR kTab kA)) (hret : gRetV p l e (rmL 3 0 0) s m args below meth c cX11_dawns (mΩ ad) (mP dC dI cI kA ad) Q S1) (hf : fX11_dawns_94 M = some S1) (hP : (mP dC dI cI kA ad) M s H) (hS : va_S (Fr (mΩ ad) s.heap.size) s.heap H locs) (hl : lv_has ls 3 [(0, .ref (ad 25))]) : W p l e (rmL 3 0 0) s m args below meth c H locs 0 0 Q (F0 m 94 ls []) := by
  have hx := X.hx
  have hb := X.hb
  have hown := X.hown
  have hts := X.hts
  rw [fX11_dawns_94] at hf
  cases hf
  exact hret _ _ _ _ dX11_dawns_94 hP hS
set_option maxRecDepth 10000 in
theorem kX11_dawns_85 {S1 : MS} {M : MS} {s0 : Int32} {s1 : Int32} {H : Heap} {locs : List Loc} {ls : Array Slot} (X : gX p s m args c cX11_dawns 3 RX11 (kR kTab kA)) (hret : gRetV p l e (rmL 3 0 0) s m args below meth c cX11_dawns (mΩ ad) (mP dC dI cI kA ad) Q S1) (hf : fX11_dawns_85 M s0 s1 = some S1) (hP : (mP dC dI cI kA ad) M s H) (hS : va_S (Fr (mΩ ad) s.heap.size) s.heap H locs) (hl : lv_has ls 3 [(0, .ref (ad 25))]) : W p l e (rmL 3 0 0) s m args below meth c H locs 0 0 Q (F0 m 85 ls [.int s0, .int s1, .ref (ad 25)]) := by
  have hx := X.hx
  have hb := X.hb
  have hown := X.hown
  have hts := X.hts
  rw [fX11_dawns_85] at hf
  refine lv_aload_n hx hb dX11_dawns_85 rfl (lv_at hl 0 rfl) ?_
  refine mr_get (k := 0) X hP (by decide) rfl rfl tw1665 dX11_dawns_86 ?_
  refine lv_iconst (v := 3) hx hb dX11_dawns_89 (by decide) ?_
  obtain ⟨g1, hf⟩ := gd hf
  refine mr_ald (a := 0) X hP rfl g1 dX11_dawns_90 ?_
  obtain ⟨q, hc, hf⟩ := bd hf
  refine gCallVV X mOK rfl (vX11_logs hc) gRX11_X11_logs hdX11_logs rfl ⟨by decide, by decide⟩ hP hS (mrec hP) hl.1 (Nat.le_of_ble_eq_true rfl) ⟨Nat.le_refl _, Nat.le_refl _⟩ dX11_dawns_91 (As := [.int s1, .int s0, .int (M.2 0 (3 : Int32).toNatClampNeg)]) (rest := []) rfl (fun H locs hP hS => ?_)
  exact kX11_dawns_94 X hret hf hP hS (lv_sub hl [0] rfl)
set_option maxRecDepth 10000 in
theorem kX11_dawns_84 {S1 : MS} {M : MS} {s0 : Int32} {H : Heap} {locs : List Loc} {ls : Array Slot} (X : gX p s m args c cX11_dawns 3 RX11 (kR kTab kA)) (hret : gRetV p l e (rmL 3 0 0) s m args below meth c cX11_dawns (mΩ ad) (mP dC dI cI kA ad) Q S1) (hf : fX11_dawns_84 M s0 = some S1) (hP : (mP dC dI cI kA ad) M s H) (hS : va_S (Fr (mΩ ad) s.heap.size) s.heap H locs) (hl : lv_has ls 3 [(0, .ref (ad 25))]) : W p l e (rmL 3 0 0) s m args below meth c H locs 0 0 Q (F0 m 84 ls [.int s0, .ref (ad 25)]) := by
  have hx := X.hx
  have hb := X.hb
  have hown := X.hown
  have hts := X.hts
  rw [fX11_dawns_84] at hf
  refine lv_iconst (v := (-1)) hx hb dX11_dawns_84 (by decide) ?_
  exact kX11_dawns_85 X hret hf hP hS (lv_sub hl [0] rfl)
set_option maxRecDepth 10000 in
theorem kX11_dawns_80 {S1 : MS} {M : MS} {x1 : Int32} {s0 : Int32} {H : Heap} {locs : List Loc} {ls : Array Slot} (X : gX p s m args c cX11_dawns 3 RX11 (kR kTab kA)) (hret : gRetV p l e (rmL 3 0 0) s m args below meth c cX11_dawns (mΩ ad) (mP dC dI cI kA ad) Q S1) (hf : fX11_dawns_80 M x1 s0 = some S1) (hP : (mP dC dI cI kA ad) M s H) (hS : va_S (Fr (mΩ ad) s.heap.size) s.heap H locs) (hl : lv_has ls 3 [(0, .ref (ad 25)), (1, .int x1)]) : W p l e (rmL 3 0 0) s m args below meth c H locs 0 0 Q (F0 m 80 ls [.int s0, .ref (ad 25)]) := by
  have hx := X.hx
  have hb := X.hb
  have hown := X.hown
  have hts := X.hts
  rw [fX11_dawns_80] at hf
  refine lv_iload_n hx hb dX11_dawns_80 rfl (lv_at hl 1 rfl) ?_
  refine lv_goto (tgt := 85) hx hb dX11_dawns_81 (by decide) ?_
  exact kX11_dawns_85 X hret hf hP hS (lv_sub hl [0] rfl)
set_option maxRecDepth 10000 in
theorem kX11_dawns_74 {S1 : MS} {M : MS} {x1 : Int32} {x2 : Int32} {H : Heap} {locs : List Loc} {ls : Array Slot} (X : gX p s m args c cX11_dawns 3 RX11 (kR kTab kA)) (hret : gRetV p l e (rmL 3 0 0) s m args below meth c cX11_dawns (mΩ ad) (mP dC dI cI kA ad) Q S1) (hf : fX11_dawns_74 M x1 x2 = some S1) (hP : (mP dC dI cI kA ad) M s H) (hS : va_S (Fr (mΩ ad) s.heap.size) s.heap H locs) (hl : lv_has ls 3 [(0, .ref (ad 25)), (1, .int x1), (2, .int x2)]) : W p l e (rmL 3 0 0) s m args below meth c H locs 0 0 Q (F0 m 74 ls []) := by
  have hx := X.hx
  have hb := X.hb
  have hown := X.hown
  have hts := X.hts
  rw [fX11_dawns_74] at hf
  refine lv_aload_n hx hb dX11_dawns_74 rfl (lv_at hl 0 rfl) ?_
  refine lv_iconst (v := 4) hx hb dX11_dawns_75 (by decide) ?_
  refine lv_iload_n hx hb dX11_dawns_76 rfl (lv_at hl 2 rfl) ?_
  refine lv_if_eq (tgt := 84) hx hb dX11_dawns_77 (by decide) (fun c1 => ?_) (fun c1 => ?_)
  · exact kX11_dawns_84 X hret (ifp c1 hf) hP hS (lv_sub hl [0] rfl)
  · exact kX11_dawns_80 X hret (ifn c1 hf) hP hS (lv_sub hl [0, 1] rfl)
set_option maxRecDepth 10000 in
theorem kX11_dawns_69 {S1 : MS} {M : MS} {x1 : Int32} {x2 : Int32} {H : Heap} {locs : List Loc} {ls : Array Slot} (X : gX p s m args c cX11_dawns 3 RX11 (kR kTab kA)) (hret : gRetV p l e (rmL 3 0 0) s m args below meth c cX11_dawns (mΩ ad) (mP dC dI cI kA ad) Q S1) (hf : fX11_dawns_69 M x1 x2 = some S1) (hP : (mP dC dI cI kA ad) M s H) (hS : va_S (Fr (mΩ ad) s.heap.size) s.heap H locs) (hl : lv_has ls 3 [(0, .ref (ad 25)), (1, .int x1), (2, .int x2)]) : W p l e (rmL 3 0 0) s m args below meth c H locs 0 0 Q (F0 m 69 ls []) := by
  have hx := X.hx
  have hb := X.hb
  have hown := X.hown
  have hts := X.hts
  rw [fX11_dawns_69] at hf
  refine lv_aload_n hx hb dX11_dawns_69 rfl (lv_at hl 0 rfl) ?_
  refine lv_iload_n hx hb dX11_dawns_70 rfl (lv_at hl 1 rfl) ?_
  obtain ⟨q, hc, hf⟩ := bd hf
  refine gCallVV X mOK rfl (vX11_swearsIn hc) gRX11_X11_swearsIn hdX11_swearsIn rfl ⟨by decide, by decide⟩ hP hS (mrec hP) hl.1 (Nat.le_of_ble_eq_true rfl) ⟨Nat.le_refl _, Nat.le_refl _⟩ dX11_dawns_71 (As := [.int x1]) (rest := []) rfl (fun H locs hP hS => ?_)
  exact kX11_dawns_74 X hret hf hP hS (lv_sub hl [0, 1, 2] rfl)
set_option maxRecDepth 10000 in
theorem kX11_dawns_64 {S1 : MS} {M : MS} {x1 : Int32} {s0 : Int32} {H : Heap} {locs : List Loc} {ls : Array Slot} (X : gX p s m args c cX11_dawns 3 RX11 (kR kTab kA)) (hret : gRetV p l e (rmL 3 0 0) s m args below meth c cX11_dawns (mΩ ad) (mP dC dI cI kA ad) Q S1) (hf : fX11_dawns_64 M x1 s0 = some S1) (hP : (mP dC dI cI kA ad) M s H) (hS : va_S (Fr (mΩ ad) s.heap.size) s.heap H locs) (hl : lv_has ls 3 [(0, .ref (ad 25)), (1, .int x1)]) : W p l e (rmL 3 0 0) s m args below meth c H locs 0 0 Q (F0 m 64 ls [.int s0]) := by
  have hx := X.hx
  have hb := X.hb
  have hown := X.hown
  have hts := X.hts
  rw [fX11_dawns_64] at hf
  refine lv_istore_n (lv' := [(2, .int s0), (0, .ref (ad 25)), (1, .int x1)]) hx hb dX11_dawns_64 rfl hl (by decide) rfl (fun ls hl => ?_)
  refine lv_iload_n hx hb dX11_dawns_65 rfl (lv_at hl 0 rfl) ?_
  refine lv_if_eq (tgt := 74) hx hb dX11_dawns_66 (by decide) (fun c1 => ?_) (fun c1 => ?_)
  · exact kX11_dawns_74 X hret (ifp c1 hf) hP hS (lv_sub hl [1, 2, 0] rfl)
  · exact kX11_dawns_69 X hret (ifn c1 hf) hP hS (lv_sub hl [1, 2, 0] rfl)
set_option maxRecDepth 10000 in
theorem kX11_dawns_63 {S1 : MS} {M : MS} {x1 : Int32} {H : Heap} {locs : List Loc} {ls : Array Slot} (X : gX p s m args c cX11_dawns 3 RX11 (kR kTab kA)) (hret : gRetV p l e (rmL 3 0 0) s m args below meth c cX11_dawns (mΩ ad) (mP dC dI cI kA ad) Q S1) (hf : fX11_dawns_63 M x1 = some S1) (hP : (mP dC dI cI kA ad) M s H) (hS : va_S (Fr (mΩ ad) s.heap.size) s.heap H locs) (hl : lv_has ls 3 [(0, .ref (ad 25)), (1, .int x1)]) : W p l e (rmL 3 0 0) s m args below meth c H locs 0 0 Q (F0 m 63 ls []) := by
  have hx := X.hx
  have hb := X.hb
  have hown := X.hown
  have hts := X.hts
  rw [fX11_dawns_63] at hf
  refine lv_iconst (v := 0) hx hb dX11_dawns_63 (by decide) ?_
  exact kX11_dawns_64 X hret hf hP hS (lv_sub hl [0, 1] rfl)
set_option maxRecDepth 10000 in
theorem kX11_dawns_59 {S1 : MS} {M : MS} {x1 : Int32} {H : Heap} {locs : List Loc} {ls : Array Slot} (X : gX p s m args c cX11_dawns 3 RX11 (kR kTab kA)) (hret : gRetV p l e (rmL 3 0 0) s m args below meth c cX11_dawns (mΩ ad) (mP dC dI cI kA ad) Q S1) (hf : fX11_dawns_59 M x1 = some S1) (hP : (mP dC dI cI kA ad) M s H) (hS : va_S (Fr (mΩ ad) s.heap.size) s.heap H locs) (hl : lv_has ls 3 [(0, .ref (ad 25)), (1, .int x1)]) : W p l e (rmL 3 0 0) s m args below meth c H locs 0 0 Q (F0 m 59 ls []) := by
  have hx := X.hx
  have hb := X.hb
  have hown := X.hown
  have hts := X.hts
  rw [fX11_dawns_59] at hf
  refine lv_iconst (v := 1) hx hb dX11_dawns_59 (by decide) ?_
  refine lv_goto (tgt := 64) hx hb dX11_dawns_60 (by decide) ?_
  exact kX11_dawns_64 X hret hf hP hS (lv_sub hl [0, 1] rfl)
set_option maxRecDepth 10000 in
theorem kX11_dawns_56 {S1 : MS} {M : MS} {x1 : Int32} {s0 : Int32} {H : Heap} {locs : List Loc} {ls : Array Slot} (X : gX p s m args c cX11_dawns 3 RX11 (kR kTab kA)) (hret : gRetV p l e (rmL 3 0 0) s m args below meth c cX11_dawns (mΩ ad) (mP dC dI cI kA ad) Q S1) (hf : fX11_dawns_56 M x1 s0 = some S1) (hP : (mP dC dI cI kA ad) M s H) (hS : va_S (Fr (mΩ ad) s.heap.size) s.heap H locs) (hl : lv_has ls 3 [(0, .ref (ad 25)), (1, .int x1)]) : W p l e (rmL 3 0 0) s m args below meth c H locs 0 0 Q (F0 m 56 ls [.int s0]) := by
  have hx := X.hx
  have hb := X.hb
  have hown := X.hown
  have hts := X.hts
  rw [fX11_dawns_56] at hf
  refine lv_if_eq (tgt := 63) hx hb dX11_dawns_56 (by decide) (fun c1 => ?_) (fun c1 => ?_)
  · exact kX11_dawns_63 X hret (ifp c1 hf) hP hS (lv_sub hl [0, 1] rfl)
  · exact kX11_dawns_59 X hret (ifn c1 hf) hP hS (lv_sub hl [0, 1] rfl)
set_option maxRecDepth 10000 in
theorem kX11_dawns_51 {S1 : MS} {M : MS} {x1 : Int32} {H : Heap} {locs : List Loc} {ls : Array Slot} (X : gX p s m args c cX11_dawns 3 RX11 (kR kTab kA)) (hret : gRetV p l e (rmL 3 0 0) s m args below meth c cX11_dawns (mΩ ad) (mP dC dI cI kA ad) Q S1) (hf : fX11_dawns_51 M x1 = some S1) (hP : (mP dC dI cI kA ad) M s H) (hS : va_S (Fr (mΩ ad) s.heap.size) s.heap H locs) (hl : lv_has ls 3 [(0, .ref (ad 25)), (1, .int x1)]) : W p l e (rmL 3 0 0) s m args below meth c H locs 0 0 Q (F0 m 51 ls []) := by
  have hx := X.hx
  have hb := X.hb
  have hown := X.hown
  have hts := X.hts
  rw [fX11_dawns_51] at hf
  refine lv_aload_n hx hb dX11_dawns_51 rfl (lv_at hl 0 rfl) ?_
  refine lv_iload_n hx hb dX11_dawns_52 rfl (lv_at hl 1 rfl) ?_
  obtain ⟨q, hc, hf⟩ := bd hf
  refine gCallVR X rfl (vX11_isAble hc) gRX11_X11_isAble hdX11_isAble rfl ⟨by decide, by decide⟩ (gB_blind mOK) (gB_at mOK X hP) (mrec hP) hl.1 (Nat.le_of_ble_eq_true rfl) ⟨Nat.le_refl _, Nat.le_refl _⟩ dX11_dawns_53 (As := [.int x1]) (rest := []) rfl ?_
  exact kX11_dawns_56 X hret hf hP hS (lv_sub hl [0, 1] rfl)
set_option maxRecDepth 10000 in
theorem kX11_dawns_40 {S1 : MS} {M : MS} {s0 : Int32} {H : Heap} {locs : List Loc} {ls : Array Slot} (X : gX p s m args c cX11_dawns 3 RX11 (kR kTab kA)) (hret : gRetV p l e (rmL 3 0 0) s m args below meth c cX11_dawns (mΩ ad) (mP dC dI cI kA ad) Q S1) (hf : fX11_dawns_40 M s0 = some S1) (hP : (mP dC dI cI kA ad) M s H) (hS : va_S (Fr (mΩ ad) s.heap.size) s.heap H locs) (hl : lv_has ls 3 [(0, .ref (ad 25))]) : W p l e (rmL 3 0 0) s m args below meth c H locs 0 0 Q (F0 m 40 ls [.int s0]) := by
  have hx := X.hx
  have hb := X.hb
  have hown := X.hown
  have hts := X.hts
  rw [fX11_dawns_40] at hf
  refine lv_istore_n (lv' := [(1, .int s0), (0, .ref (ad 25))]) hx hb dX11_dawns_40 rfl hl (by decide) rfl (fun ls hl => ?_)
  refine lv_aload_n hx hb dX11_dawns_41 rfl (lv_at hl 1 rfl) ?_
  refine mr_get (k := 0) X hP (by decide) rfl rfl tw1665 dX11_dawns_42 ?_
  refine lv_iconst (v := 5) hx hb dX11_dawns_45 (by decide) ?_
  obtain ⟨g1, hf⟩ := gd hf
  refine mr_ald (a := 0) X hP rfl g1 dX11_dawns_46 ?_
  refine lv_iconst (v := (-1)) hx hb dX11_dawns_47 (by decide) ?_
  refine lv_icmp_ne (tgt := 63) hx hb dX11_dawns_48 (by decide) (fun c1 => ?_) (fun c1 => ?_)
  · exact kX11_dawns_63 X hret (ifn c1 hf) hP hS (lv_sub hl [1, 0] rfl)
  · exact kX11_dawns_51 X hret (ifp c1 hf) hP hS (lv_sub hl [1, 0] rfl)
set_option maxRecDepth 10000 in
theorem kX11_dawns_29 {S1 : MS} {M : MS} {H : Heap} {locs : List Loc} {ls : Array Slot} (X : gX p s m args c cX11_dawns 3 RX11 (kR kTab kA)) (hret : gRetV p l e (rmL 3 0 0) s m args below meth c cX11_dawns (mΩ ad) (mP dC dI cI kA ad) Q S1) (hf : fX11_dawns_29 M = some S1) (hP : (mP dC dI cI kA ad) M s H) (hS : va_S (Fr (mΩ ad) s.heap.size) s.heap H locs) (hl : lv_has ls 3 [(0, .ref (ad 25))]) : W p l e (rmL 3 0 0) s m args below meth c H locs 0 0 Q (F0 m 29 ls []) := by
  have hx := X.hx
  have hb := X.hb
  have hown := X.hown
  have hts := X.hts
  rw [fX11_dawns_29] at hf
  refine lv_aload_n hx hb dX11_dawns_29 rfl (lv_at hl 0 rfl) ?_
  refine lv_aload_n hx hb dX11_dawns_30 rfl (lv_at hl 0 rfl) ?_
  refine mr_get (k := 0) X hP (by decide) rfl rfl tw1665 dX11_dawns_31 ?_
  refine lv_bipush (v := 6) hx hb dX11_dawns_34 (by decide) ?_
  obtain ⟨g1, hf⟩ := gd hf
  refine mr_ald (a := 0) X hP rfl g1 dX11_dawns_36 ?_
  obtain ⟨q, hc, hf⟩ := bd hf
  refine gCallVR X rfl (vX11_shiftCat hc) gRX11_X11_shiftCat hdX11_shiftCat rfl ⟨by decide, by decide⟩ (gB_blind mOK) (gB_at mOK X hP) (mrec hP) hl.1 (Nat.le_of_ble_eq_true rfl) ⟨Nat.le_refl _, Nat.le_refl _⟩ dX11_dawns_37 (As := [.int (M.2 0 (6 : Int32).toNatClampNeg)]) (rest := []) rfl ?_
  exact kX11_dawns_40 X hret hf hP hS (lv_sub hl [0] rfl)
set_option maxRecDepth 10000 in
theorem kX11_dawns_23 {S1 : MS} {K2 : MS → Int32 → Option (MS)} {M : MS} {x1 : Int32} {H : Heap} {locs : List Loc} {ls : Array Slot} (X : gX p s m args c cX11_dawns 3 RX11 (kR kTab kA)) (hret : gRetV p l e (rmL 3 0 0) s m args below meth c cX11_dawns (mΩ ad) (mP dC dI cI kA ad) Q S1) (hK2 : ∀ (M : MS) (x1 : Int32) (H : Heap) (locs : List Loc) (ls : Array Slot), K2 M x1 = some S1 → (mP dC dI cI kA ad) M s H → va_S (Fr (mΩ ad) s.heap.size) s.heap H locs → lv_has ls 3 [(0, .ref (ad 25)), (1, .int x1)] → W p l e (rmL 3 0 0) s m args below meth c H locs 0 0 Q (F0 m 2 ls [])) (hf : fX11_dawns_23 K2 M x1 = some S1) (hP : (mP dC dI cI kA ad) M s H) (hS : va_S (Fr (mΩ ad) s.heap.size) s.heap H locs) (hl : lv_has ls 3 [(0, .ref (ad 25)), (1, .int x1)]) : W p l e (rmL 3 0 0) s m args below meth c H locs 0 0 Q (F0 m 23 ls []) := by
  have hx := X.hx
  have hb := X.hb
  have hown := X.hown
  have hts := X.hts
  rw [fX11_dawns_23] at hf
  refine lv_iinc (v := (x1 + 1)) (lv' := [(1, .int (x1 + 1)), (0, .ref (ad 25))]) hx hb dX11_dawns_23 hl (k := 1) rfl (by rfl) (by decide) rfl (fun ls hl => ?_)
  refine lv_goto (tgt := 2) hx hb dX11_dawns_26 (by decide) ?_
  exact hK2 _ _ _ _ _ hf hP hS (lv_sub hl [1, 0] rfl)
set_option maxRecDepth 10000 in
theorem kX11_dawns_12 {S1 : MS} {K2 : MS → Int32 → Option (MS)} {M : MS} {x1 : Int32} {H : Heap} {locs : List Loc} {ls : Array Slot} (X : gX p s m args c cX11_dawns 3 RX11 (kR kTab kA)) (hret : gRetV p l e (rmL 3 0 0) s m args below meth c cX11_dawns (mΩ ad) (mP dC dI cI kA ad) Q S1) (hK2 : ∀ (M : MS) (x1 : Int32) (H : Heap) (locs : List Loc) (ls : Array Slot), K2 M x1 = some S1 → (mP dC dI cI kA ad) M s H → va_S (Fr (mΩ ad) s.heap.size) s.heap H locs → lv_has ls 3 [(0, .ref (ad 25)), (1, .int x1)] → W p l e (rmL 3 0 0) s m args below meth c H locs 0 0 Q (F0 m 2 ls [])) (hf : fX11_dawns_12 K2 M x1 = some S1) (hP : (mP dC dI cI kA ad) M s H) (hS : va_S (Fr (mΩ ad) s.heap.size) s.heap H locs) (hl : lv_has ls 3 [(0, .ref (ad 25)), (1, .int x1)]) : W p l e (rmL 3 0 0) s m args below meth c H locs 0 0 Q (F0 m 12 ls []) := by
  have hx := X.hx
  have hb := X.hb
  have hown := X.hown
  have hts := X.hts
  rw [fX11_dawns_12] at hf
  refine lv_aload_n hx hb dX11_dawns_12 rfl (lv_at hl 0 rfl) ?_
  refine lv_iload_n hx hb dX11_dawns_13 rfl (lv_at hl 1 rfl) ?_
  refine lv_aload_n hx hb dX11_dawns_14 rfl (lv_at hl 0 rfl) ?_
  refine mr_get (k := 0) X hP (by decide) rfl rfl tw1665 dX11_dawns_15 ?_
  refine lv_iconst (v := 4) hx hb dX11_dawns_18 (by decide) ?_
  obtain ⟨g1, hf⟩ := gd hf
  refine mr_ald (a := 0) X hP rfl g1 dX11_dawns_19 ?_
  obtain ⟨q, hc, hf⟩ := bd hf
  refine gCallVV X mOK rfl (vX11_rests hc) gRX11_X11_rests hdX11_rests rfl ⟨by decide, by decide⟩ hP hS (mrec hP) hl.1 (Nat.le_of_ble_eq_true rfl) ⟨Nat.le_refl _, Nat.le_refl _⟩ dX11_dawns_20 (As := [.int x1, .int (M.2 0 (4 : Int32).toNatClampNeg)]) (rest := []) rfl (fun H locs hP hS => ?_)
  exact kX11_dawns_23 X hret hK2 hf hP hS (lv_sub hl [0, 1] rfl)
set_option maxRecDepth 10000 in
theorem kX11_dawns_2 {S1 : MS} (X : gX p s m args c cX11_dawns 3 RX11 (kR kTab kA)) (hret : gRetV p l e (rmL 3 0 0) s m args below meth c cX11_dawns (mΩ ad) (mP dC dI cI kA ad) Q S1) : ∀ (n : Nat) (M : MS) (x1 : Int32) (H : Heap) (locs : List Loc) (ls : Array Slot), fX11_dawns_2 n M x1 = some S1 → (mP dC dI cI kA ad) M s H → va_S (Fr (mΩ ad) s.heap.size) s.heap H locs → lv_has ls 3 [(0, .ref (ad 25)), (1, .int x1)] → W p l e (rmL 3 0 0) s m args below meth c H locs 0 0 Q (F0 m 2 ls []) := by
  intro n
  induction n with
  | zero => intro M x1 H locs ls hf; cases hf
  | succ k ih =>
    intro M x1 H locs ls hf hP hS hl
    have hx := X.hx
    have hb := X.hb
    have hown := X.hown
    have hts := X.hts
    rw [fX11_dawns_2] at hf
    try dsimp only at hf
    refine lv_iload_n hx hb dX11_dawns_2 rfl (lv_at hl 1 rfl) ?_
    refine lv_aload_n hx hb dX11_dawns_3 rfl (lv_at hl 0 rfl) ?_
    refine mr_get (k := 0) X hP (by decide) rfl rfl tw1665 dX11_dawns_4 ?_
    refine lv_iconst (v := 0) hx hb dX11_dawns_7 (by decide) ?_
    obtain ⟨g1, hf⟩ := gd hf
    refine mr_ald (a := 0) X hP rfl g1 dX11_dawns_8 ?_
    refine lv_icmp_ge (tgt := 29) hx hb dX11_dawns_9 (by decide) (fun c1 => ?_) (fun c1 => ?_)
    · exact kX11_dawns_29 X hret (ifp c1 hf) hP hS (lv_sub hl [0] rfl)
    · exact kX11_dawns_12 X hret ih (ifn c1 hf) hP hS (lv_sub hl [0, 1] rfl)
set_option maxRecDepth 10000 in
theorem kX11_dawns_0 {S1 : MS} {M : MS} {H : Heap} {locs : List Loc} {ls : Array Slot} (X : gX p s m args c cX11_dawns 3 RX11 (kR kTab kA)) (hret : gRetV p l e (rmL 3 0 0) s m args below meth c cX11_dawns (mΩ ad) (mP dC dI cI kA ad) Q S1) (hf : fX11_dawns_0 M = some S1) (hP : (mP dC dI cI kA ad) M s H) (hS : va_S (Fr (mΩ ad) s.heap.size) s.heap H locs) (hl : lv_has ls 3 [(0, .ref (ad 25))]) : W p l e (rmL 3 0 0) s m args below meth c H locs 0 0 Q (F0 m 0 ls []) := by
  have hx := X.hx
  have hb := X.hb
  have hown := X.hown
  have hts := X.hts
  rw [fX11_dawns_0] at hf
  refine lv_iconst (v := 0) hx hb dX11_dawns_0 (by decide) ?_
  refine lv_istore_n (lv' := [(1, .int 0), (0, .ref (ad 25))]) hx hb dX11_dawns_1 rfl hl (by decide) rfl (fun ls hl => ?_)
  exact kX11_dawns_2 X hret FU _ _ _ _ _ hf hP hS (lv_sub hl [1, 0] rfl)
theorem vX11_dawns {l : Launch} {dC : Nat → ClassId} {dI : Nat → Nat → Nat} {cI : ClassId} {kA : String → Nat → Nat} {ad : Nat → Nat} {M S1 : MS} (hf : fX11_dawns M  = some S1) : gMetV l yX11_dawns cX11_dawns 3 3 (mΩ ad) (mP dC dI cI kA ad) (kR kTab kA) [.ref (ad 25)] M S1 := gEntryV (by decide) mOK (Nat.le_of_ble_eq_true rfl) (fun p e s m args below meth c Q ls X hP hS hret hl => 
  kX11_dawns_0 X hret hf hP hS (lv_sub hl [0] rfl))
set_option maxRecDepth 10000 in
theorem kX11_setsFlap_12 {r : Int32} {S1 : MS} {M : MS} {s0 : Int32} {H : Heap} {locs : List Loc} {ls : Array Slot} (X : gX p s m args c cX11_setsFlap 3 RX11 (kR kTab kA)) (hret : gRetI p l e (rmL 3 0 0) s m args below meth c cX11_setsFlap (mΩ ad) (mP dC dI cI kA ad) Q r S1) (hf : fX11_setsFlap_12 M s0 = some (r, S1)) (hP : (mP dC dI cI kA ad) M s H) (hS : va_S (Fr (mΩ ad) s.heap.size) s.heap H locs) (hl : lv_has ls 3 [(0, .ref (ad 25))]) : W p l e (rmL 3 0 0) s m args below meth c H locs 0 0 Q (F0 m 12 ls [.int s0]) := by
  have hx := X.hx
  have hb := X.hb
  have hown := X.hown
  have hts := X.hts
  rw [fX11_setsFlap_12] at hf
  cases hf
  exact hret _ _ _ _ dX11_setsFlap_12 hP hS
set_option maxRecDepth 10000 in
theorem kX11_setsFlap_8 {r : Int32} {S1 : MS} {M : MS} {H : Heap} {locs : List Loc} {ls : Array Slot} (X : gX p s m args c cX11_setsFlap 3 RX11 (kR kTab kA)) (hret : gRetI p l e (rmL 3 0 0) s m args below meth c cX11_setsFlap (mΩ ad) (mP dC dI cI kA ad) Q r S1) (hf : fX11_setsFlap_8 M = some (r, S1)) (hP : (mP dC dI cI kA ad) M s H) (hS : va_S (Fr (mΩ ad) s.heap.size) s.heap H locs) (hl : lv_has ls 3 [(0, .ref (ad 25))]) : W p l e (rmL 3 0 0) s m args below meth c H locs 0 0 Q (F0 m 8 ls []) := by
  have hx := X.hx
  have hb := X.hb
  have hown := X.hown
  have hts := X.hts
  rw [fX11_setsFlap_8] at hf
  refine lv_aload_n hx hb dX11_setsFlap_8 rfl (lv_at hl 0 rfl) ?_
  obtain ⟨q, hc, hf⟩ := bd hf
  refine gCallVR X rfl (vX11_openMany hc) gRX11_X11_openMany hdX11_openMany rfl ⟨by decide, by decide⟩ (gB_blind mOK) (gB_at mOK X hP) (mrec hP) hl.1 (Nat.le_of_ble_eq_true rfl) ⟨Nat.le_refl _, Nat.le_refl _⟩ dX11_setsFlap_9 (As := []) (rest := []) rfl ?_
  exact kX11_setsFlap_12 X hret hf hP hS (lv_sub hl [0] rfl)
set_option maxRecDepth 10000 in
theorem kX11_setsFlap_0 {r : Int32} {S1 : MS} {M : MS} {a1 : Int32} {a2 : Int32} {H : Heap} {locs : List Loc} {ls : Array Slot} (X : gX p s m args c cX11_setsFlap 3 RX11 (kR kTab kA)) (hret : gRetI p l e (rmL 3 0 0) s m args below meth c cX11_setsFlap (mΩ ad) (mP dC dI cI kA ad) Q r S1) (hf : fX11_setsFlap_0 M a1 a2 = some (r, S1)) (hP : (mP dC dI cI kA ad) M s H) (hS : va_S (Fr (mΩ ad) s.heap.size) s.heap H locs) (hl : lv_has ls 3 [(0, .ref (ad 25)), (1, .int a1), (2, .int a2)]) : W p l e (rmL 3 0 0) s m args below meth c H locs 0 0 Q (F0 m 0 ls []) := by
  have hx := X.hx
  have hb := X.hb
  have hown := X.hown
  have hts := X.hts
  rw [fX11_setsFlap_0] at hf
  refine lv_aload_n hx hb dX11_setsFlap_0 rfl (lv_at hl 0 rfl) ?_
  refine lv_iload_n hx hb dX11_setsFlap_1 rfl (lv_at hl 1 rfl) ?_
  refine lv_bipush (v := 9) hx hb dX11_setsFlap_2 (by decide) ?_
  refine lv_iload_n hx hb dX11_setsFlap_4 rfl (lv_at hl 2 rfl) ?_
  obtain ⟨q, hc, hf⟩ := bd hf
  refine gCallVV X mOK rfl (vX11_putsSack hc) gRX11_X11_putsSack hdX11_putsSack rfl ⟨by decide, by decide⟩ hP hS (mrec hP) hl.1 (Nat.le_of_ble_eq_true rfl) ⟨Nat.le_refl _, Nat.le_refl _⟩ dX11_setsFlap_5 (As := [.int a1, .int 9, .int a2]) (rest := []) rfl (fun H locs hP hS => ?_)
  exact kX11_setsFlap_8 X hret hf hP hS (lv_sub hl [0] rfl)
theorem vX11_setsFlap {l : Launch} {dC : Nat → ClassId} {dI : Nat → Nat → Nat} {cI : ClassId} {kA : String → Nat → Nat} {ad : Nat → Nat} {M S1 : MS} {r : Int32} {a1 : Int32} {a2 : Int32} (hf : fX11_setsFlap M a1 a2 = some (r, S1)) : gMetI l yX11_setsFlap cX11_setsFlap 3 (some .int) 3 (mΩ ad) (mP dC dI cI kA ad) (kR kTab kA) [.ref (ad 25), .int a1, .int a2] M r S1 := gEntryI (ty := .int) (by decide) rfl rfl mOK (Nat.le_of_ble_eq_true rfl) (fun p e s m args below meth c Q ls X hP hS hret hl => 
  kX11_setsFlap_0 X hret hf hP hS (lv_sub hl [0, 1, 2] rfl))
set_option maxRecDepth 10000 in
theorem kX11_advanceToken_36 {S1 : MS} {K0 : MS → Option (MS)} {M : MS} {H : Heap} {locs : List Loc} {ls : Array Slot} (X : gX p s m args c cX11_advanceToken 2 RX11 (kR kTab kA)) (hret : gRetV p l e (rmL 3 0 0) s m args below meth c cX11_advanceToken (mΩ ad) (mP dC dI cI kA ad) Q S1) (hK0 : ∀ (M : MS) (H : Heap) (locs : List Loc) (ls : Array Slot), K0 M = some S1 → (mP dC dI cI kA ad) M s H → va_S (Fr (mΩ ad) s.heap.size) s.heap H locs → lv_has ls 2 [(0, .ref (ad 25))] → W p l e (rmL 3 0 0) s m args below meth c H locs 0 0 Q (F0 m 0 ls [])) (hf : fX11_advanceToken_36 K0 M = some S1) (hP : (mP dC dI cI kA ad) M s H) (hS : va_S (Fr (mΩ ad) s.heap.size) s.heap H locs) (hl : lv_has ls 2 [(0, .ref (ad 25))]) : W p l e (rmL 3 0 0) s m args below meth c H locs 0 0 Q (F0 m 36 ls []) := by
  have hx := X.hx
  have hb := X.hb
  have hown := X.hown
  have hts := X.hts
  rw [fX11_advanceToken_36] at hf
  refine lv_goto (tgt := 0) hx hb dX11_advanceToken_36 (by decide) ?_
  exact hK0 _ _ _ _ hf hP hS (lv_sub hl [0] rfl)
set_option maxRecDepth 10000 in
theorem kX11_advanceToken_26 {S1 : MS} {K0 : MS → Option (MS)} {M : MS} {H : Heap} {locs : List Loc} {ls : Array Slot} (X : gX p s m args c cX11_advanceToken 2 RX11 (kR kTab kA)) (hret : gRetV p l e (rmL 3 0 0) s m args below meth c cX11_advanceToken (mΩ ad) (mP dC dI cI kA ad) Q S1) (hK0 : ∀ (M : MS) (H : Heap) (locs : List Loc) (ls : Array Slot), K0 M = some S1 → (mP dC dI cI kA ad) M s H → va_S (Fr (mΩ ad) s.heap.size) s.heap H locs → lv_has ls 2 [(0, .ref (ad 25))] → W p l e (rmL 3 0 0) s m args below meth c H locs 0 0 Q (F0 m 0 ls [])) (hf : fX11_advanceToken_26 K0 M = some S1) (hP : (mP dC dI cI kA ad) M s H) (hS : va_S (Fr (mΩ ad) s.heap.size) s.heap H locs) (hl : lv_has ls 2 [(0, .ref (ad 25))]) : W p l e (rmL 3 0 0) s m args below meth c H locs 0 0 Q (F0 m 26 ls []) := by
  have hx := X.hx
  have hb := X.hb
  have hown := X.hown
  have hts := X.hts
  rw [fX11_advanceToken_26] at hf
  refine lv_aload_n hx hb dX11_advanceToken_26 rfl (lv_at hl 0 rfl) ?_
  refine lv_dup hx hb dX11_advanceToken_27 rfl ?_
  refine mr_get (k := 14) X hP (by decide) rfl rfl tw1679 dX11_advanceToken_28 ?_
  refine lv_iconst (v := 1) hx hb dX11_advanceToken_31 (by decide) ?_
  refine lv_iadd hx hb dX11_advanceToken_32 ?_
  refine mr_put (k := 14) X hP hS (by decide) rfl rfl rfl rfl tw1679 dX11_advanceToken_33 (fun H locs hP hS => ?_)
  exact kX11_advanceToken_36 X hret hK0 hf hP hS (lv_sub hl [0] rfl)
set_option maxRecDepth 10000 in
theorem kX11_advanceToken_270 {S1 : MS} {M : MS} {H : Heap} {locs : List Loc} {ls : Array Slot} (X : gX p s m args c cX11_advanceToken 2 RX11 (kR kTab kA)) (hret : gRetV p l e (rmL 3 0 0) s m args below meth c cX11_advanceToken (mΩ ad) (mP dC dI cI kA ad) Q S1) (hf : fX11_advanceToken_270 M = some S1) (hP : (mP dC dI cI kA ad) M s H) (hS : va_S (Fr (mΩ ad) s.heap.size) s.heap H locs) (hl : lv_has ls 2 [(0, .ref (ad 25))]) : W p l e (rmL 3 0 0) s m args below meth c H locs 0 0 Q (F0 m 270 ls []) := by
  have hx := X.hx
  have hb := X.hb
  have hown := X.hown
  have hts := X.hts
  rw [fX11_advanceToken_270] at hf
  cases hf
  exact hret _ _ _ _ dX11_advanceToken_270 hP hS
set_option maxRecDepth 10000 in
theorem kX11_advanceToken_260 {S1 : MS} {M : MS} {H : Heap} {locs : List Loc} {ls : Array Slot} (X : gX p s m args c cX11_advanceToken 2 RX11 (kR kTab kA)) (hret : gRetV p l e (rmL 3 0 0) s m args below meth c cX11_advanceToken (mΩ ad) (mP dC dI cI kA ad) Q S1) (hf : fX11_advanceToken_260 M = some S1) (hP : (mP dC dI cI kA ad) M s H) (hS : va_S (Fr (mΩ ad) s.heap.size) s.heap H locs) (hl : lv_has ls 2 [(0, .ref (ad 25))]) : W p l e (rmL 3 0 0) s m args below meth c H locs 0 0 Q (F0 m 260 ls []) := by
  have hx := X.hx
  have hb := X.hb
  have hown := X.hown
  have hts := X.hts
  rw [fX11_advanceToken_260] at hf
  refine lv_aload_n hx hb dX11_advanceToken_260 rfl (lv_at hl 0 rfl) ?_
  refine lv_dup hx hb dX11_advanceToken_261 rfl ?_
  refine mr_get (k := 14) X hP (by decide) rfl rfl tw1679 dX11_advanceToken_262 ?_
  refine lv_iconst (v := 1) hx hb dX11_advanceToken_265 (by decide) ?_
  refine lv_iadd hx hb dX11_advanceToken_266 ?_
  refine mr_put (k := 14) X hP hS (by decide) rfl rfl rfl rfl tw1679 dX11_advanceToken_267 (fun H locs hP hS => ?_)
  exact kX11_advanceToken_270 X hret hf hP hS (lv_sub hl [0] rfl)
set_option maxRecDepth 10000 in
theorem kX11_advanceToken_257 {S1 : MS} {M : MS} {s0 : Int32} {H : Heap} {locs : List Loc} {ls : Array Slot} (X : gX p s m args c cX11_advanceToken 2 RX11 (kR kTab kA)) (hret : gRetV p l e (rmL 3 0 0) s m args below meth c cX11_advanceToken (mΩ ad) (mP dC dI cI kA ad) Q S1) (hf : fX11_advanceToken_257 M s0 = some S1) (hP : (mP dC dI cI kA ad) M s H) (hS : va_S (Fr (mΩ ad) s.heap.size) s.heap H locs) (hl : lv_has ls 2 [(0, .ref (ad 25))]) : W p l e (rmL 3 0 0) s m args below meth c H locs 0 0 Q (F0 m 257 ls [.int s0, .ref (ad 25)]) := by
  have hx := X.hx
  have hb := X.hb
  have hown := X.hown
  have hts := X.hts
  rw [fX11_advanceToken_257] at hf
  refine mr_put (k := 17) X hP hS (by decide) rfl rfl rfl rfl tw1682 dX11_advanceToken_257 (fun H locs hP hS => ?_)
  exact kX11_advanceToken_260 X hret hf hP hS (lv_sub hl [0] rfl)
set_option maxRecDepth 10000 in
theorem kX11_advanceToken_256 {S1 : MS} {M : MS} {H : Heap} {locs : List Loc} {ls : Array Slot} (X : gX p s m args c cX11_advanceToken 2 RX11 (kR kTab kA)) (hret : gRetV p l e (rmL 3 0 0) s m args below meth c cX11_advanceToken (mΩ ad) (mP dC dI cI kA ad) Q S1) (hf : fX11_advanceToken_256 M = some S1) (hP : (mP dC dI cI kA ad) M s H) (hS : va_S (Fr (mΩ ad) s.heap.size) s.heap H locs) (hl : lv_has ls 2 [(0, .ref (ad 25))]) : W p l e (rmL 3 0 0) s m args below meth c H locs 0 0 Q (F0 m 256 ls [.ref (ad 25)]) := by
  have hx := X.hx
  have hb := X.hb
  have hown := X.hown
  have hts := X.hts
  rw [fX11_advanceToken_256] at hf
  refine lv_iconst (v := 4) hx hb dX11_advanceToken_256 (by decide) ?_
  exact kX11_advanceToken_257 X hret hf hP hS (lv_sub hl [0] rfl)
set_option maxRecDepth 10000 in
theorem kX11_advanceToken_252 {S1 : MS} {M : MS} {H : Heap} {locs : List Loc} {ls : Array Slot} (X : gX p s m args c cX11_advanceToken 2 RX11 (kR kTab kA)) (hret : gRetV p l e (rmL 3 0 0) s m args below meth c cX11_advanceToken (mΩ ad) (mP dC dI cI kA ad) Q S1) (hf : fX11_advanceToken_252 M = some S1) (hP : (mP dC dI cI kA ad) M s H) (hS : va_S (Fr (mΩ ad) s.heap.size) s.heap H locs) (hl : lv_has ls 2 [(0, .ref (ad 25))]) : W p l e (rmL 3 0 0) s m args below meth c H locs 0 0 Q (F0 m 252 ls [.ref (ad 25)]) := by
  have hx := X.hx
  have hb := X.hb
  have hown := X.hown
  have hts := X.hts
  rw [fX11_advanceToken_252] at hf
  refine lv_iconst (v := 3) hx hb dX11_advanceToken_252 (by decide) ?_
  refine lv_goto (tgt := 257) hx hb dX11_advanceToken_253 (by decide) ?_
  exact kX11_advanceToken_257 X hret hf hP hS (lv_sub hl [0] rfl)
set_option maxRecDepth 10000 in
theorem kX11_advanceToken_245 {S1 : MS} {M : MS} {x1 : Int32} {H : Heap} {locs : List Loc} {ls : Array Slot} (X : gX p s m args c cX11_advanceToken 2 RX11 (kR kTab kA)) (hret : gRetV p l e (rmL 3 0 0) s m args below meth c cX11_advanceToken (mΩ ad) (mP dC dI cI kA ad) Q S1) (hf : fX11_advanceToken_245 M x1 = some S1) (hP : (mP dC dI cI kA ad) M s H) (hS : va_S (Fr (mΩ ad) s.heap.size) s.heap H locs) (hl : lv_has ls 2 [(0, .ref (ad 25)), (1, .int x1)]) : W p l e (rmL 3 0 0) s m args below meth c H locs 0 0 Q (F0 m 245 ls []) := by
  have hx := X.hx
  have hb := X.hb
  have hown := X.hown
  have hts := X.hts
  rw [fX11_advanceToken_245] at hf
  refine lv_aload_n hx hb dX11_advanceToken_245 rfl (lv_at hl 0 rfl) ?_
  refine lv_iload_n hx hb dX11_advanceToken_246 rfl (lv_at hl 1 rfl) ?_
  refine lv_bipush (v := 59) hx hb dX11_advanceToken_247 (by decide) ?_
  refine lv_icmp_ne (tgt := 256) hx hb dX11_advanceToken_249 (by decide) (fun c1 => ?_) (fun c1 => ?_)
  · exact kX11_advanceToken_256 X hret (ifn c1 hf) hP hS (lv_sub hl [0] rfl)
  · exact kX11_advanceToken_252 X hret (ifp c1 hf) hP hS (lv_sub hl [0] rfl)
set_option maxRecDepth 10000 in
theorem kX11_advanceToken_242 {S1 : MS} {M : MS} {H : Heap} {locs : List Loc} {ls : Array Slot} (X : gX p s m args c cX11_advanceToken 2 RX11 (kR kTab kA)) (hret : gRetV p l e (rmL 3 0 0) s m args below meth c cX11_advanceToken (mΩ ad) (mP dC dI cI kA ad) Q S1) (hf : fX11_advanceToken_242 M = some S1) (hP : (mP dC dI cI kA ad) M s H) (hS : va_S (Fr (mΩ ad) s.heap.size) s.heap H locs) (hl : lv_has ls 2 [(0, .ref (ad 25))]) : W p l e (rmL 3 0 0) s m args below meth c H locs 0 0 Q (F0 m 242 ls []) := by
  have hx := X.hx
  have hb := X.hb
  have hown := X.hown
  have hts := X.hts
  rw [fX11_advanceToken_242] at hf
  refine lv_goto (tgt := 270) hx hb dX11_advanceToken_242 (by decide) ?_
  exact kX11_advanceToken_270 X hret hf hP hS (lv_sub hl [0] rfl)
set_option maxRecDepth 10000 in
theorem kX11_advanceToken_239 {S1 : MS} {M : MS} {s0 : Int32} {H : Heap} {locs : List Loc} {ls : Array Slot} (X : gX p s m args c cX11_advanceToken 2 RX11 (kR kTab kA)) (hret : gRetV p l e (rmL 3 0 0) s m args below meth c cX11_advanceToken (mΩ ad) (mP dC dI cI kA ad) Q S1) (hf : fX11_advanceToken_239 M s0 = some S1) (hP : (mP dC dI cI kA ad) M s H) (hS : va_S (Fr (mΩ ad) s.heap.size) s.heap H locs) (hl : lv_has ls 2 [(0, .ref (ad 25))]) : W p l e (rmL 3 0 0) s m args below meth c H locs 0 0 Q (F0 m 239 ls [.int s0, .ref (ad 25)]) := by
  have hx := X.hx
  have hb := X.hb
  have hown := X.hown
  have hts := X.hts
  rw [fX11_advanceToken_239] at hf
  refine mr_put (k := 17) X hP hS (by decide) rfl rfl rfl rfl tw1682 dX11_advanceToken_239 (fun H locs hP hS => ?_)
  exact kX11_advanceToken_242 X hret hf hP hS (lv_sub hl [0] rfl)
set_option maxRecDepth 10000 in
theorem kX11_advanceToken_238 {S1 : MS} {M : MS} {H : Heap} {locs : List Loc} {ls : Array Slot} (X : gX p s m args c cX11_advanceToken 2 RX11 (kR kTab kA)) (hret : gRetV p l e (rmL 3 0 0) s m args below meth c cX11_advanceToken (mΩ ad) (mP dC dI cI kA ad) Q S1) (hf : fX11_advanceToken_238 M = some S1) (hP : (mP dC dI cI kA ad) M s H) (hS : va_S (Fr (mΩ ad) s.heap.size) s.heap H locs) (hl : lv_has ls 2 [(0, .ref (ad 25))]) : W p l e (rmL 3 0 0) s m args below meth c H locs 0 0 Q (F0 m 238 ls [.ref (ad 25)]) := by
  have hx := X.hx
  have hb := X.hb
  have hown := X.hown
  have hts := X.hts
  rw [fX11_advanceToken_238] at hf
  refine lv_iconst (v := 2) hx hb dX11_advanceToken_238 (by decide) ?_
  exact kX11_advanceToken_239 X hret hf hP hS (lv_sub hl [0] rfl)
set_option maxRecDepth 10000 in
theorem kX11_advanceToken_234 {S1 : MS} {M : MS} {H : Heap} {locs : List Loc} {ls : Array Slot} (X : gX p s m args c cX11_advanceToken 2 RX11 (kR kTab kA)) (hret : gRetV p l e (rmL 3 0 0) s m args below meth c cX11_advanceToken (mΩ ad) (mP dC dI cI kA ad) Q S1) (hf : fX11_advanceToken_234 M = some S1) (hP : (mP dC dI cI kA ad) M s H) (hS : va_S (Fr (mΩ ad) s.heap.size) s.heap H locs) (hl : lv_has ls 2 [(0, .ref (ad 25))]) : W p l e (rmL 3 0 0) s m args below meth c H locs 0 0 Q (F0 m 234 ls [.ref (ad 25)]) := by
  have hx := X.hx
  have hb := X.hb
  have hown := X.hown
  have hts := X.hts
  rw [fX11_advanceToken_234] at hf
  refine lv_iconst (v := 4) hx hb dX11_advanceToken_234 (by decide) ?_
  refine lv_goto (tgt := 239) hx hb dX11_advanceToken_235 (by decide) ?_
  exact kX11_advanceToken_239 X hret hf hP hS (lv_sub hl [0] rfl)
set_option maxRecDepth 10000 in
theorem kX11_advanceToken_220 {S1 : MS} {M : MS} {H : Heap} {locs : List Loc} {ls : Array Slot} (X : gX p s m args c cX11_advanceToken 2 RX11 (kR kTab kA)) (hret : gRetV p l e (rmL 3 0 0) s m args below meth c cX11_advanceToken (mΩ ad) (mP dC dI cI kA ad) Q S1) (hf : fX11_advanceToken_220 M = some S1) (hP : (mP dC dI cI kA ad) M s H) (hS : va_S (Fr (mΩ ad) s.heap.size) s.heap H locs) (hl : lv_has ls 2 [(0, .ref (ad 25))]) : W p l e (rmL 3 0 0) s m args below meth c H locs 0 0 Q (F0 m 220 ls []) := by
  have hx := X.hx
  have hb := X.hb
  have hown := X.hown
  have hts := X.hts
  rw [fX11_advanceToken_220] at hf
  refine lv_aload_n hx hb dX11_advanceToken_220 rfl (lv_at hl 0 rfl) ?_
  refine lv_aload_n hx hb dX11_advanceToken_221 rfl (lv_at hl 0 rfl) ?_
  refine mr_get (k := 14) X hP (by decide) rfl rfl tw1679 dX11_advanceToken_222 ?_
  refine lv_aload_n hx hb dX11_advanceToken_225 rfl (lv_at hl 0 rfl) ?_
  refine mr_get (k := 15) X hP (by decide) rfl rfl tw1680 dX11_advanceToken_226 ?_
  refine lv_isub hx hb dX11_advanceToken_229 ?_
  refine lv_iconst (v := 4) hx hb dX11_advanceToken_230 (by decide) ?_
  refine lv_icmp_le (tgt := 238) hx hb dX11_advanceToken_231 (by decide) (fun c1 => ?_) (fun c1 => ?_)
  · exact kX11_advanceToken_238 X hret (ifp c1 hf) hP hS (lv_sub hl [0] rfl)
  · exact kX11_advanceToken_234 X hret (ifn c1 hf) hP hS (lv_sub hl [0] rfl)
set_option maxRecDepth 10000 in
theorem kX11_advanceToken_217 {S1 : MS} {K146 : MS → Option (MS)} {M : MS} {H : Heap} {locs : List Loc} {ls : Array Slot} (X : gX p s m args c cX11_advanceToken 2 RX11 (kR kTab kA)) (hret : gRetV p l e (rmL 3 0 0) s m args below meth c cX11_advanceToken (mΩ ad) (mP dC dI cI kA ad) Q S1) (hK146 : ∀ (M : MS) (H : Heap) (locs : List Loc) (ls : Array Slot), K146 M = some S1 → (mP dC dI cI kA ad) M s H → va_S (Fr (mΩ ad) s.heap.size) s.heap H locs → lv_has ls 2 [(0, .ref (ad 25))] → W p l e (rmL 3 0 0) s m args below meth c H locs 0 0 Q (F0 m 146 ls [])) (hf : fX11_advanceToken_217 K146 M = some S1) (hP : (mP dC dI cI kA ad) M s H) (hS : va_S (Fr (mΩ ad) s.heap.size) s.heap H locs) (hl : lv_has ls 2 [(0, .ref (ad 25))]) : W p l e (rmL 3 0 0) s m args below meth c H locs 0 0 Q (F0 m 217 ls []) := by
  have hx := X.hx
  have hb := X.hb
  have hown := X.hown
  have hts := X.hts
  rw [fX11_advanceToken_217] at hf
  refine lv_goto (tgt := 146) hx hb dX11_advanceToken_217 (by decide) ?_
  exact hK146 _ _ _ _ hf hP hS (lv_sub hl [0] rfl)
set_option maxRecDepth 10000 in
theorem kX11_advanceToken_207 {S1 : MS} {K146 : MS → Option (MS)} {M : MS} {H : Heap} {locs : List Loc} {ls : Array Slot} (X : gX p s m args c cX11_advanceToken 2 RX11 (kR kTab kA)) (hret : gRetV p l e (rmL 3 0 0) s m args below meth c cX11_advanceToken (mΩ ad) (mP dC dI cI kA ad) Q S1) (hK146 : ∀ (M : MS) (H : Heap) (locs : List Loc) (ls : Array Slot), K146 M = some S1 → (mP dC dI cI kA ad) M s H → va_S (Fr (mΩ ad) s.heap.size) s.heap H locs → lv_has ls 2 [(0, .ref (ad 25))] → W p l e (rmL 3 0 0) s m args below meth c H locs 0 0 Q (F0 m 146 ls [])) (hf : fX11_advanceToken_207 K146 M = some S1) (hP : (mP dC dI cI kA ad) M s H) (hS : va_S (Fr (mΩ ad) s.heap.size) s.heap H locs) (hl : lv_has ls 2 [(0, .ref (ad 25))]) : W p l e (rmL 3 0 0) s m args below meth c H locs 0 0 Q (F0 m 207 ls []) := by
  have hx := X.hx
  have hb := X.hb
  have hown := X.hown
  have hts := X.hts
  rw [fX11_advanceToken_207] at hf
  refine lv_aload_n hx hb dX11_advanceToken_207 rfl (lv_at hl 0 rfl) ?_
  refine lv_dup hx hb dX11_advanceToken_208 rfl ?_
  refine mr_get (k := 14) X hP (by decide) rfl rfl tw1679 dX11_advanceToken_209 ?_
  refine lv_iconst (v := 1) hx hb dX11_advanceToken_212 (by decide) ?_
  refine lv_iadd hx hb dX11_advanceToken_213 ?_
  refine mr_put (k := 14) X hP hS (by decide) rfl rfl rfl rfl tw1679 dX11_advanceToken_214 (fun H locs hP hS => ?_)
  exact kX11_advanceToken_217 X hret hK146 hf hP hS (lv_sub hl [0] rfl)
set_option maxRecDepth 10000 in
theorem kX11_advanceToken_204 {S1 : MS} {K146 : MS → Option (MS)} {M : MS} {s0 : Int32} {H : Heap} {locs : List Loc} {ls : Array Slot} (X : gX p s m args c cX11_advanceToken 2 RX11 (kR kTab kA)) (hret : gRetV p l e (rmL 3 0 0) s m args below meth c cX11_advanceToken (mΩ ad) (mP dC dI cI kA ad) Q S1) (hK146 : ∀ (M : MS) (H : Heap) (locs : List Loc) (ls : Array Slot), K146 M = some S1 → (mP dC dI cI kA ad) M s H → va_S (Fr (mΩ ad) s.heap.size) s.heap H locs → lv_has ls 2 [(0, .ref (ad 25))] → W p l e (rmL 3 0 0) s m args below meth c H locs 0 0 Q (F0 m 146 ls [])) (hf : fX11_advanceToken_204 K146 M s0 = some S1) (hP : (mP dC dI cI kA ad) M s H) (hS : va_S (Fr (mΩ ad) s.heap.size) s.heap H locs) (hl : lv_has ls 2 [(0, .ref (ad 25))]) : W p l e (rmL 3 0 0) s m args below meth c H locs 0 0 Q (F0 m 204 ls [.int s0, .ref (ad 25)]) := by
  have hx := X.hx
  have hb := X.hb
  have hown := X.hown
  have hts := X.hts
  rw [fX11_advanceToken_204] at hf
  refine mr_put (k := 16) X hP hS (by decide) rfl rfl rfl rfl tw1681 dX11_advanceToken_204 (fun H locs hP hS => ?_)
  exact kX11_advanceToken_207 X hret hK146 hf hP hS (lv_sub hl [0] rfl)
set_option maxRecDepth 10000 in
theorem kX11_advanceToken_200 {S1 : MS} {K146 : MS → Option (MS)} {M : MS} {H : Heap} {locs : List Loc} {ls : Array Slot} (X : gX p s m args c cX11_advanceToken 2 RX11 (kR kTab kA)) (hret : gRetV p l e (rmL 3 0 0) s m args below meth c cX11_advanceToken (mΩ ad) (mP dC dI cI kA ad) Q S1) (hK146 : ∀ (M : MS) (H : Heap) (locs : List Loc) (ls : Array Slot), K146 M = some S1 → (mP dC dI cI kA ad) M s H → va_S (Fr (mΩ ad) s.heap.size) s.heap H locs → lv_has ls 2 [(0, .ref (ad 25))] → W p l e (rmL 3 0 0) s m args below meth c H locs 0 0 Q (F0 m 146 ls [])) (hf : fX11_advanceToken_200 K146 M = some S1) (hP : (mP dC dI cI kA ad) M s H) (hS : va_S (Fr (mΩ ad) s.heap.size) s.heap H locs) (hl : lv_has ls 2 [(0, .ref (ad 25))]) : W p l e (rmL 3 0 0) s m args below meth c H locs 0 0 Q (F0 m 200 ls [.ref (ad 25)]) := by
  have hx := X.hx
  have hb := X.hb
  have hown := X.hown
  have hts := X.hts
  rw [fX11_advanceToken_200] at hf
  refine lv_aload_n hx hb dX11_advanceToken_200 rfl (lv_at hl 0 rfl) ?_
  refine mr_get (k := 16) X hP (by decide) rfl rfl tw1681 dX11_advanceToken_201 ?_
  exact kX11_advanceToken_204 X hret hK146 hf hP hS (lv_sub hl [0] rfl)
set_option maxRecDepth 10000 in
theorem kX11_advanceToken_193 {S1 : MS} {K146 : MS → Option (MS)} {M : MS} {s0 : Int32} {s1 : Int32} {H : Heap} {locs : List Loc} {ls : Array Slot} (X : gX p s m args c cX11_advanceToken 2 RX11 (kR kTab kA)) (hret : gRetV p l e (rmL 3 0 0) s m args below meth c cX11_advanceToken (mΩ ad) (mP dC dI cI kA ad) Q S1) (hK146 : ∀ (M : MS) (H : Heap) (locs : List Loc) (ls : Array Slot), K146 M = some S1 → (mP dC dI cI kA ad) M s H → va_S (Fr (mΩ ad) s.heap.size) s.heap H locs → lv_has ls 2 [(0, .ref (ad 25))] → W p l e (rmL 3 0 0) s m args below meth c H locs 0 0 Q (F0 m 146 ls [])) (hf : fX11_advanceToken_193 K146 M s0 s1 = some S1) (hP : (mP dC dI cI kA ad) M s H) (hS : va_S (Fr (mΩ ad) s.heap.size) s.heap H locs) (hl : lv_has ls 2 [(0, .ref (ad 25))]) : W p l e (rmL 3 0 0) s m args below meth c H locs 0 0 Q (F0 m 193 ls [.int s0, .int s1, .ref (ad 25)]) := by
  have hx := X.hx
  have hb := X.hb
  have hown := X.hown
  have hts := X.hts
  rw [fX11_advanceToken_193] at hf
  refine lv_iadd hx hb dX11_advanceToken_193 ?_
  refine lv_bipush (v := 48) hx hb dX11_advanceToken_194 (by decide) ?_
  refine lv_isub hx hb dX11_advanceToken_196 ?_
  refine lv_goto (tgt := 204) hx hb dX11_advanceToken_197 (by decide) ?_
  exact kX11_advanceToken_204 X hret hK146 hf hP hS (lv_sub hl [0] rfl)
set_option maxRecDepth 10000 in
theorem kX11_advanceToken_178 {S1 : MS} {K146 : MS → Option (MS)} {M : MS} {H : Heap} {locs : List Loc} {ls : Array Slot} (X : gX p s m args c cX11_advanceToken 2 RX11 (kR kTab kA)) (hret : gRetV p l e (rmL 3 0 0) s m args below meth c cX11_advanceToken (mΩ ad) (mP dC dI cI kA ad) Q S1) (hK146 : ∀ (M : MS) (H : Heap) (locs : List Loc) (ls : Array Slot), K146 M = some S1 → (mP dC dI cI kA ad) M s H → va_S (Fr (mΩ ad) s.heap.size) s.heap H locs → lv_has ls 2 [(0, .ref (ad 25))] → W p l e (rmL 3 0 0) s m args below meth c H locs 0 0 Q (F0 m 146 ls [])) (hf : fX11_advanceToken_178 K146 M = some S1) (hP : (mP dC dI cI kA ad) M s H) (hS : va_S (Fr (mΩ ad) s.heap.size) s.heap H locs) (hl : lv_has ls 2 [(0, .ref (ad 25))]) : W p l e (rmL 3 0 0) s m args below meth c H locs 0 0 Q (F0 m 178 ls [.ref (ad 25)]) := by
  have hx := X.hx
  have hb := X.hb
  have hown := X.hown
  have hts := X.hts
  rw [fX11_advanceToken_178] at hf
  refine lv_bipush (v := 10) hx hb dX11_advanceToken_178 (by decide) ?_
  refine lv_aload_n hx hb dX11_advanceToken_180 rfl (lv_at hl 0 rfl) ?_
  refine mr_get (k := 16) X hP (by decide) rfl rfl tw1681 dX11_advanceToken_181 ?_
  refine lv_imul hx hb dX11_advanceToken_184 ?_
  refine lv_aload_n hx hb dX11_advanceToken_185 rfl (lv_at hl 0 rfl) ?_
  refine lv_aload_n hx hb dX11_advanceToken_186 rfl (lv_at hl 0 rfl) ?_
  refine mr_get (k := 14) X hP (by decide) rfl rfl tw1679 dX11_advanceToken_187 ?_
  obtain ⟨q, hc, hf⟩ := bd hf
  refine gCallVR X rfl (vX11_byteAt hc) gRX11_X11_byteAt hdX11_byteAt rfl ⟨by decide, by decide⟩ (gB_blind mOK) (gB_at mOK X hP) (mrec hP) hl.1 (Nat.le_of_ble_eq_true rfl) ⟨Nat.le_refl _, Nat.le_refl _⟩ dX11_advanceToken_190 (As := [.int (M.1 14)]) (rest := [.int (10 * (M.1 16)), .ref (ad 25)]) rfl ?_
  exact kX11_advanceToken_193 X hret hK146 hf hP hS (lv_sub hl [0] rfl)
set_option maxRecDepth 10000 in
theorem kX11_advanceToken_164 {S1 : MS} {K146 : MS → Option (MS)} {M : MS} {H : Heap} {locs : List Loc} {ls : Array Slot} (X : gX p s m args c cX11_advanceToken 2 RX11 (kR kTab kA)) (hret : gRetV p l e (rmL 3 0 0) s m args below meth c cX11_advanceToken (mΩ ad) (mP dC dI cI kA ad) Q S1) (hK146 : ∀ (M : MS) (H : Heap) (locs : List Loc) (ls : Array Slot), K146 M = some S1 → (mP dC dI cI kA ad) M s H → va_S (Fr (mΩ ad) s.heap.size) s.heap H locs → lv_has ls 2 [(0, .ref (ad 25))] → W p l e (rmL 3 0 0) s m args below meth c H locs 0 0 Q (F0 m 146 ls [])) (hf : fX11_advanceToken_164 K146 M = some S1) (hP : (mP dC dI cI kA ad) M s H) (hS : va_S (Fr (mΩ ad) s.heap.size) s.heap H locs) (hl : lv_has ls 2 [(0, .ref (ad 25))]) : W p l e (rmL 3 0 0) s m args below meth c H locs 0 0 Q (F0 m 164 ls []) := by
  have hx := X.hx
  have hb := X.hb
  have hown := X.hown
  have hts := X.hts
  rw [fX11_advanceToken_164] at hf
  refine lv_aload_n hx hb dX11_advanceToken_164 rfl (lv_at hl 0 rfl) ?_
  refine lv_aload_n hx hb dX11_advanceToken_165 rfl (lv_at hl 0 rfl) ?_
  refine mr_get (k := 14) X hP (by decide) rfl rfl tw1679 dX11_advanceToken_166 ?_
  refine lv_aload_n hx hb dX11_advanceToken_169 rfl (lv_at hl 0 rfl) ?_
  refine mr_get (k := 15) X hP (by decide) rfl rfl tw1680 dX11_advanceToken_170 ?_
  refine lv_isub hx hb dX11_advanceToken_173 ?_
  refine lv_iconst (v := 4) hx hb dX11_advanceToken_174 (by decide) ?_
  refine lv_icmp_ge (tgt := 200) hx hb dX11_advanceToken_175 (by decide) (fun c1 => ?_) (fun c1 => ?_)
  · exact kX11_advanceToken_200 X hret hK146 (ifp c1 hf) hP hS (lv_sub hl [0] rfl)
  · exact kX11_advanceToken_178 X hret hK146 (ifn c1 hf) hP hS (lv_sub hl [0] rfl)
set_option maxRecDepth 10000 in
theorem kX11_advanceToken_161 {S1 : MS} {K146 : MS → Option (MS)} {M : MS} {s0 : Int32} {H : Heap} {locs : List Loc} {ls : Array Slot} (X : gX p s m args c cX11_advanceToken 2 RX11 (kR kTab kA)) (hret : gRetV p l e (rmL 3 0 0) s m args below meth c cX11_advanceToken (mΩ ad) (mP dC dI cI kA ad) Q S1) (hK146 : ∀ (M : MS) (H : Heap) (locs : List Loc) (ls : Array Slot), K146 M = some S1 → (mP dC dI cI kA ad) M s H → va_S (Fr (mΩ ad) s.heap.size) s.heap H locs → lv_has ls 2 [(0, .ref (ad 25))] → W p l e (rmL 3 0 0) s m args below meth c H locs 0 0 Q (F0 m 146 ls [])) (hf : fX11_advanceToken_161 K146 M s0 = some S1) (hP : (mP dC dI cI kA ad) M s H) (hS : va_S (Fr (mΩ ad) s.heap.size) s.heap H locs) (hl : lv_has ls 2 [(0, .ref (ad 25))]) : W p l e (rmL 3 0 0) s m args below meth c H locs 0 0 Q (F0 m 161 ls [.int s0]) := by
  have hx := X.hx
  have hb := X.hb
  have hown := X.hown
  have hts := X.hts
  rw [fX11_advanceToken_161] at hf
  refine lv_if_eq (tgt := 220) hx hb dX11_advanceToken_161 (by decide) (fun c1 => ?_) (fun c1 => ?_)
  · exact kX11_advanceToken_220 X hret (ifp c1 hf) hP hS (lv_sub hl [0] rfl)
  · exact kX11_advanceToken_164 X hret hK146 (ifn c1 hf) hP hS (lv_sub hl [0] rfl)
set_option maxRecDepth 10000 in
theorem kX11_advanceToken_154 {S1 : MS} {K146 : MS → Option (MS)} {M : MS} {s0 : Int32} {H : Heap} {locs : List Loc} {ls : Array Slot} (X : gX p s m args c cX11_advanceToken 2 RX11 (kR kTab kA)) (hret : gRetV p l e (rmL 3 0 0) s m args below meth c cX11_advanceToken (mΩ ad) (mP dC dI cI kA ad) Q S1) (hK146 : ∀ (M : MS) (H : Heap) (locs : List Loc) (ls : Array Slot), K146 M = some S1 → (mP dC dI cI kA ad) M s H → va_S (Fr (mΩ ad) s.heap.size) s.heap H locs → lv_has ls 2 [(0, .ref (ad 25))] → W p l e (rmL 3 0 0) s m args below meth c H locs 0 0 Q (F0 m 146 ls [])) (hf : fX11_advanceToken_154 K146 M s0 = some S1) (hP : (mP dC dI cI kA ad) M s H) (hS : va_S (Fr (mΩ ad) s.heap.size) s.heap H locs) (hl : lv_has ls 2 [(0, .ref (ad 25))]) : W p l e (rmL 3 0 0) s m args below meth c H locs 0 0 Q (F0 m 154 ls [.int s0]) := by
  have hx := X.hx
  have hb := X.hb
  have hown := X.hown
  have hts := X.hts
  rw [fX11_advanceToken_154] at hf
  refine lv_bipush (v := 48) hx hb dX11_advanceToken_154 (by decide) ?_
  refine lv_bipush (v := 57) hx hb dX11_advanceToken_156 (by decide) ?_
  obtain ⟨q, hc, hf⟩ := bd hf
  refine gCallSR X rfl (vX11_inRange hc) gRX11_X11_inRange hdX11_inRange rfl ⟨by decide, by decide⟩ (gB_blind mOK) (gB_at mOK X hP) hl.1 (Nat.le_of_ble_eq_true rfl) ⟨Nat.le_refl _, Nat.le_refl _⟩ dX11_advanceToken_158 (As := [.int s0, .int 48, .int 57]) (rest := []) rfl ?_
  exact kX11_advanceToken_161 X hret hK146 hf hP hS (lv_sub hl [0] rfl)
set_option maxRecDepth 10000 in
theorem kX11_advanceToken_146 {S1 : MS} (X : gX p s m args c cX11_advanceToken 2 RX11 (kR kTab kA)) (hret : gRetV p l e (rmL 3 0 0) s m args below meth c cX11_advanceToken (mΩ ad) (mP dC dI cI kA ad) Q S1) : ∀ (n : Nat) (M : MS) (H : Heap) (locs : List Loc) (ls : Array Slot), fX11_advanceToken_146 n M = some S1 → (mP dC dI cI kA ad) M s H → va_S (Fr (mΩ ad) s.heap.size) s.heap H locs → lv_has ls 2 [(0, .ref (ad 25))] → W p l e (rmL 3 0 0) s m args below meth c H locs 0 0 Q (F0 m 146 ls []) := by
  intro n
  induction n with
  | zero => intro M H locs ls hf; cases hf
  | succ k ih =>
    intro M H locs ls hf hP hS hl
    have hx := X.hx
    have hb := X.hb
    have hown := X.hown
    have hts := X.hts
    rw [fX11_advanceToken_146] at hf
    try dsimp only at hf
    refine lv_aload_n hx hb dX11_advanceToken_146 rfl (lv_at hl 0 rfl) ?_
    refine lv_aload_n hx hb dX11_advanceToken_147 rfl (lv_at hl 0 rfl) ?_
    refine mr_get (k := 14) X hP (by decide) rfl rfl tw1679 dX11_advanceToken_148 ?_
    obtain ⟨q, hc, hf⟩ := bd hf
    refine gCallVR X rfl (vX11_byteAt hc) gRX11_X11_byteAt hdX11_byteAt rfl ⟨by decide, by decide⟩ (gB_blind mOK) (gB_at mOK X hP) (mrec hP) hl.1 (Nat.le_of_ble_eq_true rfl) ⟨Nat.le_refl _, Nat.le_refl _⟩ dX11_advanceToken_151 (As := [.int (M.1 14)]) (rest := []) rfl ?_
    exact kX11_advanceToken_154 X hret ih hf hP hS (lv_sub hl [0] rfl)
set_option maxRecDepth 10000 in
theorem kX11_advanceToken_143 {S1 : MS} {M : MS} {x1 : Int32} {s0 : Int32} {H : Heap} {locs : List Loc} {ls : Array Slot} (X : gX p s m args c cX11_advanceToken 2 RX11 (kR kTab kA)) (hret : gRetV p l e (rmL 3 0 0) s m args below meth c cX11_advanceToken (mΩ ad) (mP dC dI cI kA ad) Q S1) (hf : fX11_advanceToken_143 M x1 s0 = some S1) (hP : (mP dC dI cI kA ad) M s H) (hS : va_S (Fr (mΩ ad) s.heap.size) s.heap H locs) (hl : lv_has ls 2 [(0, .ref (ad 25)), (1, .int x1)]) : W p l e (rmL 3 0 0) s m args below meth c H locs 0 0 Q (F0 m 143 ls [.int s0]) := by
  have hx := X.hx
  have hb := X.hb
  have hown := X.hown
  have hts := X.hts
  rw [fX11_advanceToken_143] at hf
  refine lv_if_eq (tgt := 245) hx hb dX11_advanceToken_143 (by decide) (fun c1 => ?_) (fun c1 => ?_)
  · exact kX11_advanceToken_245 X hret (ifp c1 hf) hP hS (lv_sub hl [0, 1] rfl)
  · exact kX11_advanceToken_146 X hret FU _ _ _ _ (ifn c1 hf) hP hS (lv_sub hl [0] rfl)
set_option maxRecDepth 10000 in
theorem kX11_advanceToken_135 {S1 : MS} {M : MS} {x1 : Int32} {H : Heap} {locs : List Loc} {ls : Array Slot} (X : gX p s m args c cX11_advanceToken 2 RX11 (kR kTab kA)) (hret : gRetV p l e (rmL 3 0 0) s m args below meth c cX11_advanceToken (mΩ ad) (mP dC dI cI kA ad) Q S1) (hf : fX11_advanceToken_135 M x1 = some S1) (hP : (mP dC dI cI kA ad) M s H) (hS : va_S (Fr (mΩ ad) s.heap.size) s.heap H locs) (hl : lv_has ls 2 [(0, .ref (ad 25)), (1, .int x1)]) : W p l e (rmL 3 0 0) s m args below meth c H locs 0 0 Q (F0 m 135 ls []) := by
  have hx := X.hx
  have hb := X.hb
  have hown := X.hown
  have hts := X.hts
  rw [fX11_advanceToken_135] at hf
  refine lv_iload_n hx hb dX11_advanceToken_135 rfl (lv_at hl 1 rfl) ?_
  refine lv_bipush (v := 48) hx hb dX11_advanceToken_136 (by decide) ?_
  refine lv_bipush (v := 57) hx hb dX11_advanceToken_138 (by decide) ?_
  obtain ⟨q, hc, hf⟩ := bd hf
  refine gCallSR X rfl (vX11_inRange hc) gRX11_X11_inRange hdX11_inRange rfl ⟨by decide, by decide⟩ (gB_blind mOK) (gB_at mOK X hP) hl.1 (Nat.le_of_ble_eq_true rfl) ⟨Nat.le_refl _, Nat.le_refl _⟩ dX11_advanceToken_140 (As := [.int x1, .int 48, .int 57]) (rest := []) rfl ?_
  exact kX11_advanceToken_143 X hret hf hP hS (lv_sub hl [0, 1] rfl)
set_option maxRecDepth 10000 in
theorem kX11_advanceToken_132 {S1 : MS} {M : MS} {H : Heap} {locs : List Loc} {ls : Array Slot} (X : gX p s m args c cX11_advanceToken 2 RX11 (kR kTab kA)) (hret : gRetV p l e (rmL 3 0 0) s m args below meth c cX11_advanceToken (mΩ ad) (mP dC dI cI kA ad) Q S1) (hf : fX11_advanceToken_132 M = some S1) (hP : (mP dC dI cI kA ad) M s H) (hS : va_S (Fr (mΩ ad) s.heap.size) s.heap H locs) (hl : lv_has ls 2 [(0, .ref (ad 25))]) : W p l e (rmL 3 0 0) s m args below meth c H locs 0 0 Q (F0 m 132 ls []) := by
  have hx := X.hx
  have hb := X.hb
  have hown := X.hown
  have hts := X.hts
  rw [fX11_advanceToken_132] at hf
  refine lv_goto (tgt := 270) hx hb dX11_advanceToken_132 (by decide) ?_
  exact kX11_advanceToken_270 X hret hf hP hS (lv_sub hl [0] rfl)
set_option maxRecDepth 10000 in
theorem kX11_advanceToken_129 {S1 : MS} {M : MS} {s0 : Int32} {H : Heap} {locs : List Loc} {ls : Array Slot} (X : gX p s m args c cX11_advanceToken 2 RX11 (kR kTab kA)) (hret : gRetV p l e (rmL 3 0 0) s m args below meth c cX11_advanceToken (mΩ ad) (mP dC dI cI kA ad) Q S1) (hf : fX11_advanceToken_129 M s0 = some S1) (hP : (mP dC dI cI kA ad) M s H) (hS : va_S (Fr (mΩ ad) s.heap.size) s.heap H locs) (hl : lv_has ls 2 [(0, .ref (ad 25))]) : W p l e (rmL 3 0 0) s m args below meth c H locs 0 0 Q (F0 m 129 ls [.int s0, .ref (ad 25)]) := by
  have hx := X.hx
  have hb := X.hb
  have hown := X.hown
  have hts := X.hts
  rw [fX11_advanceToken_129] at hf
  refine mr_put (k := 17) X hP hS (by decide) rfl rfl rfl rfl tw1682 dX11_advanceToken_129 (fun H locs hP hS => ?_)
  exact kX11_advanceToken_132 X hret hf hP hS (lv_sub hl [0] rfl)
set_option maxRecDepth 10000 in
theorem kX11_advanceToken_128 {S1 : MS} {M : MS} {H : Heap} {locs : List Loc} {ls : Array Slot} (X : gX p s m args c cX11_advanceToken 2 RX11 (kR kTab kA)) (hret : gRetV p l e (rmL 3 0 0) s m args below meth c cX11_advanceToken (mΩ ad) (mP dC dI cI kA ad) Q S1) (hf : fX11_advanceToken_128 M = some S1) (hP : (mP dC dI cI kA ad) M s H) (hS : va_S (Fr (mΩ ad) s.heap.size) s.heap H locs) (hl : lv_has ls 2 [(0, .ref (ad 25))]) : W p l e (rmL 3 0 0) s m args below meth c H locs 0 0 Q (F0 m 128 ls [.ref (ad 25)]) := by
  have hx := X.hx
  have hb := X.hb
  have hown := X.hown
  have hts := X.hts
  rw [fX11_advanceToken_128] at hf
  refine lv_iconst (v := 1) hx hb dX11_advanceToken_128 (by decide) ?_
  exact kX11_advanceToken_129 X hret hf hP hS (lv_sub hl [0] rfl)
set_option maxRecDepth 10000 in
theorem kX11_advanceToken_124 {S1 : MS} {M : MS} {H : Heap} {locs : List Loc} {ls : Array Slot} (X : gX p s m args c cX11_advanceToken 2 RX11 (kR kTab kA)) (hret : gRetV p l e (rmL 3 0 0) s m args below meth c cX11_advanceToken (mΩ ad) (mP dC dI cI kA ad) Q S1) (hf : fX11_advanceToken_124 M = some S1) (hP : (mP dC dI cI kA ad) M s H) (hS : va_S (Fr (mΩ ad) s.heap.size) s.heap H locs) (hl : lv_has ls 2 [(0, .ref (ad 25))]) : W p l e (rmL 3 0 0) s m args below meth c H locs 0 0 Q (F0 m 124 ls [.ref (ad 25)]) := by
  have hx := X.hx
  have hb := X.hb
  have hown := X.hown
  have hts := X.hts
  rw [fX11_advanceToken_124] at hf
  refine lv_iconst (v := 4) hx hb dX11_advanceToken_124 (by decide) ?_
  refine lv_goto (tgt := 129) hx hb dX11_advanceToken_125 (by decide) ?_
  exact kX11_advanceToken_129 X hret hf hP hS (lv_sub hl [0] rfl)
set_option maxRecDepth 10000 in
theorem kX11_advanceToken_109 {S1 : MS} {M : MS} {H : Heap} {locs : List Loc} {ls : Array Slot} (X : gX p s m args c cX11_advanceToken 2 RX11 (kR kTab kA)) (hret : gRetV p l e (rmL 3 0 0) s m args below meth c cX11_advanceToken (mΩ ad) (mP dC dI cI kA ad) Q S1) (hf : fX11_advanceToken_109 M = some S1) (hP : (mP dC dI cI kA ad) M s H) (hS : va_S (Fr (mΩ ad) s.heap.size) s.heap H locs) (hl : lv_has ls 2 [(0, .ref (ad 25))]) : W p l e (rmL 3 0 0) s m args below meth c H locs 0 0 Q (F0 m 109 ls []) := by
  have hx := X.hx
  have hb := X.hb
  have hown := X.hown
  have hts := X.hts
  rw [fX11_advanceToken_109] at hf
  refine lv_aload_n hx hb dX11_advanceToken_109 rfl (lv_at hl 0 rfl) ?_
  refine lv_aload_n hx hb dX11_advanceToken_110 rfl (lv_at hl 0 rfl) ?_
  refine mr_get (k := 14) X hP (by decide) rfl rfl tw1679 dX11_advanceToken_111 ?_
  refine lv_aload_n hx hb dX11_advanceToken_114 rfl (lv_at hl 0 rfl) ?_
  refine mr_get (k := 15) X hP (by decide) rfl rfl tw1680 dX11_advanceToken_115 ?_
  refine lv_isub hx hb dX11_advanceToken_118 ?_
  refine lv_bipush (v := 8) hx hb dX11_advanceToken_119 (by decide) ?_
  refine lv_icmp_le (tgt := 128) hx hb dX11_advanceToken_121 (by decide) (fun c1 => ?_) (fun c1 => ?_)
  · exact kX11_advanceToken_128 X hret (ifp c1 hf) hP hS (lv_sub hl [0] rfl)
  · exact kX11_advanceToken_124 X hret (ifn c1 hf) hP hS (lv_sub hl [0] rfl)
set_option maxRecDepth 10000 in
theorem kX11_advanceToken_106 {S1 : MS} {K85 : MS → Option (MS)} {M : MS} {H : Heap} {locs : List Loc} {ls : Array Slot} (X : gX p s m args c cX11_advanceToken 2 RX11 (kR kTab kA)) (hret : gRetV p l e (rmL 3 0 0) s m args below meth c cX11_advanceToken (mΩ ad) (mP dC dI cI kA ad) Q S1) (hK85 : ∀ (M : MS) (H : Heap) (locs : List Loc) (ls : Array Slot), K85 M = some S1 → (mP dC dI cI kA ad) M s H → va_S (Fr (mΩ ad) s.heap.size) s.heap H locs → lv_has ls 2 [(0, .ref (ad 25))] → W p l e (rmL 3 0 0) s m args below meth c H locs 0 0 Q (F0 m 85 ls [])) (hf : fX11_advanceToken_106 K85 M = some S1) (hP : (mP dC dI cI kA ad) M s H) (hS : va_S (Fr (mΩ ad) s.heap.size) s.heap H locs) (hl : lv_has ls 2 [(0, .ref (ad 25))]) : W p l e (rmL 3 0 0) s m args below meth c H locs 0 0 Q (F0 m 106 ls []) := by
  have hx := X.hx
  have hb := X.hb
  have hown := X.hown
  have hts := X.hts
  rw [fX11_advanceToken_106] at hf
  refine lv_goto (tgt := 85) hx hb dX11_advanceToken_106 (by decide) ?_
  exact hK85 _ _ _ _ hf hP hS (lv_sub hl [0] rfl)
set_option maxRecDepth 10000 in
theorem kX11_advanceToken_96 {S1 : MS} {K85 : MS → Option (MS)} {M : MS} {H : Heap} {locs : List Loc} {ls : Array Slot} (X : gX p s m args c cX11_advanceToken 2 RX11 (kR kTab kA)) (hret : gRetV p l e (rmL 3 0 0) s m args below meth c cX11_advanceToken (mΩ ad) (mP dC dI cI kA ad) Q S1) (hK85 : ∀ (M : MS) (H : Heap) (locs : List Loc) (ls : Array Slot), K85 M = some S1 → (mP dC dI cI kA ad) M s H → va_S (Fr (mΩ ad) s.heap.size) s.heap H locs → lv_has ls 2 [(0, .ref (ad 25))] → W p l e (rmL 3 0 0) s m args below meth c H locs 0 0 Q (F0 m 85 ls [])) (hf : fX11_advanceToken_96 K85 M = some S1) (hP : (mP dC dI cI kA ad) M s H) (hS : va_S (Fr (mΩ ad) s.heap.size) s.heap H locs) (hl : lv_has ls 2 [(0, .ref (ad 25))]) : W p l e (rmL 3 0 0) s m args below meth c H locs 0 0 Q (F0 m 96 ls []) := by
  have hx := X.hx
  have hb := X.hb
  have hown := X.hown
  have hts := X.hts
  rw [fX11_advanceToken_96] at hf
  refine lv_aload_n hx hb dX11_advanceToken_96 rfl (lv_at hl 0 rfl) ?_
  refine lv_dup hx hb dX11_advanceToken_97 rfl ?_
  refine mr_get (k := 14) X hP (by decide) rfl rfl tw1679 dX11_advanceToken_98 ?_
  refine lv_iconst (v := 1) hx hb dX11_advanceToken_101 (by decide) ?_
  refine lv_iadd hx hb dX11_advanceToken_102 ?_
  refine mr_put (k := 14) X hP hS (by decide) rfl rfl rfl rfl tw1679 dX11_advanceToken_103 (fun H locs hP hS => ?_)
  exact kX11_advanceToken_106 X hret hK85 hf hP hS (lv_sub hl [0] rfl)
set_option maxRecDepth 10000 in
theorem kX11_advanceToken_93 {S1 : MS} {K85 : MS → Option (MS)} {M : MS} {s0 : Int32} {H : Heap} {locs : List Loc} {ls : Array Slot} (X : gX p s m args c cX11_advanceToken 2 RX11 (kR kTab kA)) (hret : gRetV p l e (rmL 3 0 0) s m args below meth c cX11_advanceToken (mΩ ad) (mP dC dI cI kA ad) Q S1) (hK85 : ∀ (M : MS) (H : Heap) (locs : List Loc) (ls : Array Slot), K85 M = some S1 → (mP dC dI cI kA ad) M s H → va_S (Fr (mΩ ad) s.heap.size) s.heap H locs → lv_has ls 2 [(0, .ref (ad 25))] → W p l e (rmL 3 0 0) s m args below meth c H locs 0 0 Q (F0 m 85 ls [])) (hf : fX11_advanceToken_93 K85 M s0 = some S1) (hP : (mP dC dI cI kA ad) M s H) (hS : va_S (Fr (mΩ ad) s.heap.size) s.heap H locs) (hl : lv_has ls 2 [(0, .ref (ad 25))]) : W p l e (rmL 3 0 0) s m args below meth c H locs 0 0 Q (F0 m 93 ls [.int s0]) := by
  have hx := X.hx
  have hb := X.hb
  have hown := X.hown
  have hts := X.hts
  rw [fX11_advanceToken_93] at hf
  refine lv_if_eq (tgt := 109) hx hb dX11_advanceToken_93 (by decide) (fun c1 => ?_) (fun c1 => ?_)
  · exact kX11_advanceToken_109 X hret (ifp c1 hf) hP hS (lv_sub hl [0] rfl)
  · exact kX11_advanceToken_96 X hret hK85 (ifn c1 hf) hP hS (lv_sub hl [0] rfl)
set_option maxRecDepth 10000 in
theorem kX11_advanceToken_85 {S1 : MS} (X : gX p s m args c cX11_advanceToken 2 RX11 (kR kTab kA)) (hret : gRetV p l e (rmL 3 0 0) s m args below meth c cX11_advanceToken (mΩ ad) (mP dC dI cI kA ad) Q S1) : ∀ (n : Nat) (M : MS) (H : Heap) (locs : List Loc) (ls : Array Slot), fX11_advanceToken_85 n M = some S1 → (mP dC dI cI kA ad) M s H → va_S (Fr (mΩ ad) s.heap.size) s.heap H locs → lv_has ls 2 [(0, .ref (ad 25))] → W p l e (rmL 3 0 0) s m args below meth c H locs 0 0 Q (F0 m 85 ls []) := by
  intro n
  induction n with
  | zero => intro M H locs ls hf; cases hf
  | succ k ih =>
    intro M H locs ls hf hP hS hl
    have hx := X.hx
    have hb := X.hb
    have hown := X.hown
    have hts := X.hts
    rw [fX11_advanceToken_85] at hf
    try dsimp only at hf
    refine lv_aload_n hx hb dX11_advanceToken_85 rfl (lv_at hl 0 rfl) ?_
    refine lv_aload_n hx hb dX11_advanceToken_86 rfl (lv_at hl 0 rfl) ?_
    refine mr_get (k := 14) X hP (by decide) rfl rfl tw1679 dX11_advanceToken_87 ?_
    obtain ⟨q, hc, hf⟩ := bd hf
    refine gCallVR X rfl (vX11_isLetter hc) gRX11_X11_isLetter hdX11_isLetter rfl ⟨by decide, by decide⟩ (gB_blind mOK) (gB_at mOK X hP) (mrec hP) hl.1 (Nat.le_of_ble_eq_true rfl) ⟨Nat.le_refl _, Nat.le_refl _⟩ dX11_advanceToken_90 (As := [.int (M.1 14)]) (rest := []) rfl ?_
    exact kX11_advanceToken_93 X hret ih hf hP hS (lv_sub hl [0] rfl)
set_option maxRecDepth 10000 in
theorem kX11_advanceToken_82 {S1 : MS} {M : MS} {x1 : Int32} {s0 : Int32} {H : Heap} {locs : List Loc} {ls : Array Slot} (X : gX p s m args c cX11_advanceToken 2 RX11 (kR kTab kA)) (hret : gRetV p l e (rmL 3 0 0) s m args below meth c cX11_advanceToken (mΩ ad) (mP dC dI cI kA ad) Q S1) (hf : fX11_advanceToken_82 M x1 s0 = some S1) (hP : (mP dC dI cI kA ad) M s H) (hS : va_S (Fr (mΩ ad) s.heap.size) s.heap H locs) (hl : lv_has ls 2 [(0, .ref (ad 25)), (1, .int x1)]) : W p l e (rmL 3 0 0) s m args below meth c H locs 0 0 Q (F0 m 82 ls [.int s0]) := by
  have hx := X.hx
  have hb := X.hb
  have hown := X.hown
  have hts := X.hts
  rw [fX11_advanceToken_82] at hf
  refine lv_if_eq (tgt := 135) hx hb dX11_advanceToken_82 (by decide) (fun c1 => ?_) (fun c1 => ?_)
  · exact kX11_advanceToken_135 X hret (ifp c1 hf) hP hS (lv_sub hl [0, 1] rfl)
  · exact kX11_advanceToken_85 X hret FU _ _ _ _ (ifn c1 hf) hP hS (lv_sub hl [0] rfl)
set_option maxRecDepth 10000 in
theorem kX11_advanceToken_74 {S1 : MS} {M : MS} {x1 : Int32} {H : Heap} {locs : List Loc} {ls : Array Slot} (X : gX p s m args c cX11_advanceToken 2 RX11 (kR kTab kA)) (hret : gRetV p l e (rmL 3 0 0) s m args below meth c cX11_advanceToken (mΩ ad) (mP dC dI cI kA ad) Q S1) (hf : fX11_advanceToken_74 M x1 = some S1) (hP : (mP dC dI cI kA ad) M s H) (hS : va_S (Fr (mΩ ad) s.heap.size) s.heap H locs) (hl : lv_has ls 2 [(0, .ref (ad 25)), (1, .int x1)]) : W p l e (rmL 3 0 0) s m args below meth c H locs 0 0 Q (F0 m 74 ls []) := by
  have hx := X.hx
  have hb := X.hb
  have hown := X.hown
  have hts := X.hts
  rw [fX11_advanceToken_74] at hf
  refine lv_aload_n hx hb dX11_advanceToken_74 rfl (lv_at hl 0 rfl) ?_
  refine lv_aload_n hx hb dX11_advanceToken_75 rfl (lv_at hl 0 rfl) ?_
  refine mr_get (k := 14) X hP (by decide) rfl rfl tw1679 dX11_advanceToken_76 ?_
  obtain ⟨q, hc, hf⟩ := bd hf
  refine gCallVR X rfl (vX11_isLetter hc) gRX11_X11_isLetter hdX11_isLetter rfl ⟨by decide, by decide⟩ (gB_blind mOK) (gB_at mOK X hP) (mrec hP) hl.1 (Nat.le_of_ble_eq_true rfl) ⟨Nat.le_refl _, Nat.le_refl _⟩ dX11_advanceToken_79 (As := [.int (M.1 14)]) (rest := []) rfl ?_
  exact kX11_advanceToken_82 X hret hf hP hS (lv_sub hl [0, 1] rfl)
set_option maxRecDepth 10000 in
theorem kX11_advanceToken_71 {S1 : MS} {M : MS} {H : Heap} {locs : List Loc} {ls : Array Slot} (X : gX p s m args c cX11_advanceToken 2 RX11 (kR kTab kA)) (hret : gRetV p l e (rmL 3 0 0) s m args below meth c cX11_advanceToken (mΩ ad) (mP dC dI cI kA ad) Q S1) (hf : fX11_advanceToken_71 M = some S1) (hP : (mP dC dI cI kA ad) M s H) (hS : va_S (Fr (mΩ ad) s.heap.size) s.heap H locs) (hl : lv_has ls 2 [(0, .ref (ad 25))]) : W p l e (rmL 3 0 0) s m args below meth c H locs 0 0 Q (F0 m 71 ls []) := by
  have hx := X.hx
  have hb := X.hb
  have hown := X.hown
  have hts := X.hts
  rw [fX11_advanceToken_71] at hf
  refine lv_goto (tgt := 270) hx hb dX11_advanceToken_71 (by decide) ?_
  exact kX11_advanceToken_270 X hret hf hP hS (lv_sub hl [0] rfl)
set_option maxRecDepth 10000 in
theorem kX11_advanceToken_66 {S1 : MS} {M : MS} {H : Heap} {locs : List Loc} {ls : Array Slot} (X : gX p s m args c cX11_advanceToken 2 RX11 (kR kTab kA)) (hret : gRetV p l e (rmL 3 0 0) s m args below meth c cX11_advanceToken (mΩ ad) (mP dC dI cI kA ad) Q S1) (hf : fX11_advanceToken_66 M = some S1) (hP : (mP dC dI cI kA ad) M s H) (hS : va_S (Fr (mΩ ad) s.heap.size) s.heap H locs) (hl : lv_has ls 2 [(0, .ref (ad 25))]) : W p l e (rmL 3 0 0) s m args below meth c H locs 0 0 Q (F0 m 66 ls []) := by
  have hx := X.hx
  have hb := X.hb
  have hown := X.hown
  have hts := X.hts
  rw [fX11_advanceToken_66] at hf
  refine lv_aload_n hx hb dX11_advanceToken_66 rfl (lv_at hl 0 rfl) ?_
  refine lv_iconst (v := 0) hx hb dX11_advanceToken_67 (by decide) ?_
  refine mr_put (k := 17) X hP hS (by decide) rfl rfl rfl rfl tw1682 dX11_advanceToken_68 (fun H locs hP hS => ?_)
  exact kX11_advanceToken_71 X hret hf hP hS (lv_sub hl [0] rfl)
set_option maxRecDepth 10000 in
theorem kX11_advanceToken_61 {S1 : MS} {M : MS} {x1 : Int32} {H : Heap} {locs : List Loc} {ls : Array Slot} (X : gX p s m args c cX11_advanceToken 2 RX11 (kR kTab kA)) (hret : gRetV p l e (rmL 3 0 0) s m args below meth c cX11_advanceToken (mΩ ad) (mP dC dI cI kA ad) Q S1) (hf : fX11_advanceToken_61 M x1 = some S1) (hP : (mP dC dI cI kA ad) M s H) (hS : va_S (Fr (mΩ ad) s.heap.size) s.heap H locs) (hl : lv_has ls 2 [(0, .ref (ad 25)), (1, .int x1)]) : W p l e (rmL 3 0 0) s m args below meth c H locs 0 0 Q (F0 m 61 ls []) := by
  have hx := X.hx
  have hb := X.hb
  have hown := X.hown
  have hts := X.hts
  rw [fX11_advanceToken_61] at hf
  refine lv_iload_n hx hb dX11_advanceToken_61 rfl (lv_at hl 1 rfl) ?_
  refine lv_iconst (v := (-1)) hx hb dX11_advanceToken_62 (by decide) ?_
  refine lv_icmp_ne (tgt := 74) hx hb dX11_advanceToken_63 (by decide) (fun c1 => ?_) (fun c1 => ?_)
  · exact kX11_advanceToken_74 X hret (ifn c1 hf) hP hS (lv_sub hl [0, 1] rfl)
  · exact kX11_advanceToken_66 X hret (ifp c1 hf) hP hS (lv_sub hl [0] rfl)
set_option maxRecDepth 10000 in
theorem kX11_advanceToken_55 {S1 : MS} {M : MS} {s0 : Int32} {H : Heap} {locs : List Loc} {ls : Array Slot} (X : gX p s m args c cX11_advanceToken 2 RX11 (kR kTab kA)) (hret : gRetV p l e (rmL 3 0 0) s m args below meth c cX11_advanceToken (mΩ ad) (mP dC dI cI kA ad) Q S1) (hf : fX11_advanceToken_55 M s0 = some S1) (hP : (mP dC dI cI kA ad) M s H) (hS : va_S (Fr (mΩ ad) s.heap.size) s.heap H locs) (hl : lv_has ls 2 [(0, .ref (ad 25))]) : W p l e (rmL 3 0 0) s m args below meth c H locs 0 0 Q (F0 m 55 ls [.int s0]) := by
  have hx := X.hx
  have hb := X.hb
  have hown := X.hown
  have hts := X.hts
  rw [fX11_advanceToken_55] at hf
  refine lv_istore_n (lv' := [(1, .int s0), (0, .ref (ad 25))]) hx hb dX11_advanceToken_55 rfl hl (by decide) rfl (fun ls hl => ?_)
  refine lv_aload_n hx hb dX11_advanceToken_56 rfl (lv_at hl 1 rfl) ?_
  refine lv_iconst (v := 0) hx hb dX11_advanceToken_57 (by decide) ?_
  refine mr_put (k := 16) X hP hS (by decide) rfl rfl rfl rfl tw1681 dX11_advanceToken_58 (fun H locs hP hS => ?_)
  exact kX11_advanceToken_61 X hret hf hP hS (lv_sub hl [1, 0] rfl)
set_option maxRecDepth 10000 in
theorem kX11_advanceToken_47 {S1 : MS} {M : MS} {H : Heap} {locs : List Loc} {ls : Array Slot} (X : gX p s m args c cX11_advanceToken 2 RX11 (kR kTab kA)) (hret : gRetV p l e (rmL 3 0 0) s m args below meth c cX11_advanceToken (mΩ ad) (mP dC dI cI kA ad) Q S1) (hf : fX11_advanceToken_47 M = some S1) (hP : (mP dC dI cI kA ad) M s H) (hS : va_S (Fr (mΩ ad) s.heap.size) s.heap H locs) (hl : lv_has ls 2 [(0, .ref (ad 25))]) : W p l e (rmL 3 0 0) s m args below meth c H locs 0 0 Q (F0 m 47 ls []) := by
  have hx := X.hx
  have hb := X.hb
  have hown := X.hown
  have hts := X.hts
  rw [fX11_advanceToken_47] at hf
  refine lv_aload_n hx hb dX11_advanceToken_47 rfl (lv_at hl 0 rfl) ?_
  refine lv_aload_n hx hb dX11_advanceToken_48 rfl (lv_at hl 0 rfl) ?_
  refine mr_get (k := 14) X hP (by decide) rfl rfl tw1679 dX11_advanceToken_49 ?_
  obtain ⟨q, hc, hf⟩ := bd hf
  refine gCallVR X rfl (vX11_byteAt hc) gRX11_X11_byteAt hdX11_byteAt rfl ⟨by decide, by decide⟩ (gB_blind mOK) (gB_at mOK X hP) (mrec hP) hl.1 (Nat.le_of_ble_eq_true rfl) ⟨Nat.le_refl _, Nat.le_refl _⟩ dX11_advanceToken_52 (As := [.int (M.1 14)]) (rest := []) rfl ?_
  exact kX11_advanceToken_55 X hret hf hP hS (lv_sub hl [0] rfl)
set_option maxRecDepth 10000 in
theorem kX11_advanceToken_39 {S1 : MS} {M : MS} {H : Heap} {locs : List Loc} {ls : Array Slot} (X : gX p s m args c cX11_advanceToken 2 RX11 (kR kTab kA)) (hret : gRetV p l e (rmL 3 0 0) s m args below meth c cX11_advanceToken (mΩ ad) (mP dC dI cI kA ad) Q S1) (hf : fX11_advanceToken_39 M = some S1) (hP : (mP dC dI cI kA ad) M s H) (hS : va_S (Fr (mΩ ad) s.heap.size) s.heap H locs) (hl : lv_has ls 2 [(0, .ref (ad 25))]) : W p l e (rmL 3 0 0) s m args below meth c H locs 0 0 Q (F0 m 39 ls []) := by
  have hx := X.hx
  have hb := X.hb
  have hown := X.hown
  have hts := X.hts
  rw [fX11_advanceToken_39] at hf
  refine lv_aload_n hx hb dX11_advanceToken_39 rfl (lv_at hl 0 rfl) ?_
  refine lv_aload_n hx hb dX11_advanceToken_40 rfl (lv_at hl 0 rfl) ?_
  refine mr_get (k := 14) X hP (by decide) rfl rfl tw1679 dX11_advanceToken_41 ?_
  refine mr_put (k := 15) X hP hS (by decide) rfl rfl rfl rfl tw1680 dX11_advanceToken_44 (fun H locs hP hS => ?_)
  exact kX11_advanceToken_47 X hret hf hP hS (lv_sub hl [0] rfl)
set_option maxRecDepth 10000 in
theorem kX11_advanceToken_21 {S1 : MS} {K0 : MS → Option (MS)} {M : MS} {s0 : Int32} {H : Heap} {locs : List Loc} {ls : Array Slot} (X : gX p s m args c cX11_advanceToken 2 RX11 (kR kTab kA)) (hret : gRetV p l e (rmL 3 0 0) s m args below meth c cX11_advanceToken (mΩ ad) (mP dC dI cI kA ad) Q S1) (hK0 : ∀ (M : MS) (H : Heap) (locs : List Loc) (ls : Array Slot), K0 M = some S1 → (mP dC dI cI kA ad) M s H → va_S (Fr (mΩ ad) s.heap.size) s.heap H locs → lv_has ls 2 [(0, .ref (ad 25))] → W p l e (rmL 3 0 0) s m args below meth c H locs 0 0 Q (F0 m 0 ls [])) (hf : fX11_advanceToken_21 K0 M s0 = some S1) (hP : (mP dC dI cI kA ad) M s H) (hS : va_S (Fr (mΩ ad) s.heap.size) s.heap H locs) (hl : lv_has ls 2 [(0, .ref (ad 25))]) : W p l e (rmL 3 0 0) s m args below meth c H locs 0 0 Q (F0 m 21 ls [.int s0]) := by
  have hx := X.hx
  have hb := X.hb
  have hown := X.hown
  have hts := X.hts
  rw [fX11_advanceToken_21] at hf
  refine lv_bipush (v := 10) hx hb dX11_advanceToken_21 (by decide) ?_
  refine lv_icmp_ne (tgt := 39) hx hb dX11_advanceToken_23 (by decide) (fun c1 => ?_) (fun c1 => ?_)
  · exact kX11_advanceToken_39 X hret (ifn c1 hf) hP hS (lv_sub hl [0] rfl)
  · exact kX11_advanceToken_26 X hret hK0 (ifp c1 hf) hP hS (lv_sub hl [0] rfl)
set_option maxRecDepth 10000 in
theorem kX11_advanceToken_13 {S1 : MS} {K0 : MS → Option (MS)} {M : MS} {H : Heap} {locs : List Loc} {ls : Array Slot} (X : gX p s m args c cX11_advanceToken 2 RX11 (kR kTab kA)) (hret : gRetV p l e (rmL 3 0 0) s m args below meth c cX11_advanceToken (mΩ ad) (mP dC dI cI kA ad) Q S1) (hK0 : ∀ (M : MS) (H : Heap) (locs : List Loc) (ls : Array Slot), K0 M = some S1 → (mP dC dI cI kA ad) M s H → va_S (Fr (mΩ ad) s.heap.size) s.heap H locs → lv_has ls 2 [(0, .ref (ad 25))] → W p l e (rmL 3 0 0) s m args below meth c H locs 0 0 Q (F0 m 0 ls [])) (hf : fX11_advanceToken_13 K0 M = some S1) (hP : (mP dC dI cI kA ad) M s H) (hS : va_S (Fr (mΩ ad) s.heap.size) s.heap H locs) (hl : lv_has ls 2 [(0, .ref (ad 25))]) : W p l e (rmL 3 0 0) s m args below meth c H locs 0 0 Q (F0 m 13 ls []) := by
  have hx := X.hx
  have hb := X.hb
  have hown := X.hown
  have hts := X.hts
  rw [fX11_advanceToken_13] at hf
  refine lv_aload_n hx hb dX11_advanceToken_13 rfl (lv_at hl 0 rfl) ?_
  refine lv_aload_n hx hb dX11_advanceToken_14 rfl (lv_at hl 0 rfl) ?_
  refine mr_get (k := 14) X hP (by decide) rfl rfl tw1679 dX11_advanceToken_15 ?_
  obtain ⟨q, hc, hf⟩ := bd hf
  refine gCallVR X rfl (vX11_byteAt hc) gRX11_X11_byteAt hdX11_byteAt rfl ⟨by decide, by decide⟩ (gB_blind mOK) (gB_at mOK X hP) (mrec hP) hl.1 (Nat.le_of_ble_eq_true rfl) ⟨Nat.le_refl _, Nat.le_refl _⟩ dX11_advanceToken_18 (As := [.int (M.1 14)]) (rest := []) rfl ?_
  exact kX11_advanceToken_21 X hret hK0 hf hP hS (lv_sub hl [0] rfl)
set_option maxRecDepth 10000 in
theorem kX11_advanceToken_8 {S1 : MS} {K0 : MS → Option (MS)} {M : MS} {s0 : Int32} {H : Heap} {locs : List Loc} {ls : Array Slot} (X : gX p s m args c cX11_advanceToken 2 RX11 (kR kTab kA)) (hret : gRetV p l e (rmL 3 0 0) s m args below meth c cX11_advanceToken (mΩ ad) (mP dC dI cI kA ad) Q S1) (hK0 : ∀ (M : MS) (H : Heap) (locs : List Loc) (ls : Array Slot), K0 M = some S1 → (mP dC dI cI kA ad) M s H → va_S (Fr (mΩ ad) s.heap.size) s.heap H locs → lv_has ls 2 [(0, .ref (ad 25))] → W p l e (rmL 3 0 0) s m args below meth c H locs 0 0 Q (F0 m 0 ls [])) (hf : fX11_advanceToken_8 K0 M s0 = some S1) (hP : (mP dC dI cI kA ad) M s H) (hS : va_S (Fr (mΩ ad) s.heap.size) s.heap H locs) (hl : lv_has ls 2 [(0, .ref (ad 25))]) : W p l e (rmL 3 0 0) s m args below meth c H locs 0 0 Q (F0 m 8 ls [.int s0]) := by
  have hx := X.hx
  have hb := X.hb
  have hown := X.hown
  have hts := X.hts
  rw [fX11_advanceToken_8] at hf
  refine lv_bipush (v := 32) hx hb dX11_advanceToken_8 (by decide) ?_
  refine lv_icmp_eq (tgt := 26) hx hb dX11_advanceToken_10 (by decide) (fun c1 => ?_) (fun c1 => ?_)
  · exact kX11_advanceToken_26 X hret hK0 (ifp c1 hf) hP hS (lv_sub hl [0] rfl)
  · exact kX11_advanceToken_13 X hret hK0 (ifn c1 hf) hP hS (lv_sub hl [0] rfl)
set_option maxRecDepth 10000 in
theorem kX11_advanceToken_0 {S1 : MS} (X : gX p s m args c cX11_advanceToken 2 RX11 (kR kTab kA)) (hret : gRetV p l e (rmL 3 0 0) s m args below meth c cX11_advanceToken (mΩ ad) (mP dC dI cI kA ad) Q S1) : ∀ (n : Nat) (M : MS) (H : Heap) (locs : List Loc) (ls : Array Slot), fX11_advanceToken_0 n M = some S1 → (mP dC dI cI kA ad) M s H → va_S (Fr (mΩ ad) s.heap.size) s.heap H locs → lv_has ls 2 [(0, .ref (ad 25))] → W p l e (rmL 3 0 0) s m args below meth c H locs 0 0 Q (F0 m 0 ls []) := by
  intro n
  induction n with
  | zero => intro M H locs ls hf; cases hf
  | succ k ih =>
    intro M H locs ls hf hP hS hl
    have hx := X.hx
    have hb := X.hb
    have hown := X.hown
    have hts := X.hts
    rw [fX11_advanceToken_0] at hf
    try dsimp only at hf
    refine lv_aload_n hx hb dX11_advanceToken_0 rfl (lv_at hl 0 rfl) ?_
    refine lv_aload_n hx hb dX11_advanceToken_1 rfl (lv_at hl 0 rfl) ?_
    refine mr_get (k := 14) X hP (by decide) rfl rfl tw1679 dX11_advanceToken_2 ?_
    obtain ⟨q, hc, hf⟩ := bd hf
    refine gCallVR X rfl (vX11_byteAt hc) gRX11_X11_byteAt hdX11_byteAt rfl ⟨by decide, by decide⟩ (gB_blind mOK) (gB_at mOK X hP) (mrec hP) hl.1 (Nat.le_of_ble_eq_true rfl) ⟨Nat.le_refl _, Nat.le_refl _⟩ dX11_advanceToken_5 (As := [.int (M.1 14)]) (rest := []) rfl ?_
    exact kX11_advanceToken_8 X hret ih hf hP hS (lv_sub hl [0] rfl)
theorem vX11_advanceToken {l : Launch} {dC : Nat → ClassId} {dI : Nat → Nat → Nat} {cI : ClassId} {kA : String → Nat → Nat} {ad : Nat → Nat} {M S1 : MS} (hf : fX11_advanceToken M  = some S1) : gMetV l yX11_advanceToken cX11_advanceToken 2 3 (mΩ ad) (mP dC dI cI kA ad) (kR kTab kA) [.ref (ad 25)] M S1 := gEntryV (by decide) mOK (Nat.le_of_ble_eq_true rfl) (fun p e s m args below meth c Q ls X hP hS hret hl => 
  kX11_advanceToken_0 X hret FU _ _ _ _ hf hP hS (lv_sub hl [0] rfl))
set_option maxRecDepth 10000 in
theorem kX11_reasonOf_35 {r : Int32} {M : MS} {s0 : Int32} (X : gX p s m args c cX11_reasonOf 2 RX11 (kR kTab kA)) (hret : gRetR p l e (rmL 3 0 0) s m args below meth c cX11_reasonOf Q r) (hf : fX11_reasonOf_35 M s0 = some r) {ls : Array Slot} (hP : (mP dC dI cI kA ad) M s s.heap) (hl : lv_has ls 2 [(0, .ref (ad 25))]) : W p l e (rmL 3 0 0) s m args below meth c s.heap [] 0 0 Q (F0 m 35 ls [.int s0]) := by
  have hx := X.hx
  have hb := X.hb
  have hown := X.hown
  have hts := X.hts
  rw [fX11_reasonOf_35] at hf
  cases hf
  exact hret _ _ dX11_reasonOf_35
set_option maxRecDepth 10000 in
theorem kX11_reasonOf_34 {r : Int32} {M : MS} (X : gX p s m args c cX11_reasonOf 2 RX11 (kR kTab kA)) (hret : gRetR p l e (rmL 3 0 0) s m args below meth c cX11_reasonOf Q r) (hf : fX11_reasonOf_34 M = some r) {ls : Array Slot} (hP : (mP dC dI cI kA ad) M s s.heap) (hl : lv_has ls 2 [(0, .ref (ad 25))]) : W p l e (rmL 3 0 0) s m args below meth c s.heap [] 0 0 Q (F0 m 34 ls []) := by
  have hx := X.hx
  have hb := X.hb
  have hown := X.hown
  have hts := X.hts
  rw [fX11_reasonOf_34] at hf
  refine lv_iconst (v := 3) hx hb dX11_reasonOf_34 (by decide) ?_
  exact kX11_reasonOf_35 X hret hf hP (lv_sub hl [0] rfl)
set_option maxRecDepth 10000 in
theorem kX11_reasonOf_30 {r : Int32} {M : MS} (X : gX p s m args c cX11_reasonOf 2 RX11 (kR kTab kA)) (hret : gRetR p l e (rmL 3 0 0) s m args below meth c cX11_reasonOf Q r) (hf : fX11_reasonOf_30 M = some r) {ls : Array Slot} (hP : (mP dC dI cI kA ad) M s s.heap) (hl : lv_has ls 2 [(0, .ref (ad 25))]) : W p l e (rmL 3 0 0) s m args below meth c s.heap [] 0 0 Q (F0 m 30 ls []) := by
  have hx := X.hx
  have hb := X.hb
  have hown := X.hown
  have hts := X.hts
  rw [fX11_reasonOf_30] at hf
  refine lv_iconst (v := 0) hx hb dX11_reasonOf_30 (by decide) ?_
  refine lv_goto (tgt := 35) hx hb dX11_reasonOf_31 (by decide) ?_
  exact kX11_reasonOf_35 X hret hf hP (lv_sub hl [0] rfl)
set_option maxRecDepth 10000 in
theorem kX11_reasonOf_27 {r : Int32} {M : MS} {s0 : Int32} (X : gX p s m args c cX11_reasonOf 2 RX11 (kR kTab kA)) (hret : gRetR p l e (rmL 3 0 0) s m args below meth c cX11_reasonOf Q r) (hf : fX11_reasonOf_27 M s0 = some r) {ls : Array Slot} (hP : (mP dC dI cI kA ad) M s s.heap) (hl : lv_has ls 2 [(0, .ref (ad 25))]) : W p l e (rmL 3 0 0) s m args below meth c s.heap [] 0 0 Q (F0 m 27 ls [.int s0]) := by
  have hx := X.hx
  have hb := X.hb
  have hown := X.hown
  have hts := X.hts
  rw [fX11_reasonOf_27] at hf
  refine lv_if_eq (tgt := 34) hx hb dX11_reasonOf_27 (by decide) (fun c1 => ?_) (fun c1 => ?_)
  · exact kX11_reasonOf_34 X hret (ifp c1 hf) hP (lv_sub hl [0] rfl)
  · exact kX11_reasonOf_30 X hret (ifn c1 hf) hP (lv_sub hl [0] rfl)
set_option maxRecDepth 10000 in
theorem kX11_reasonOf_22 {r : Int32} {M : MS} {x1 : Int32} (X : gX p s m args c cX11_reasonOf 2 RX11 (kR kTab kA)) (hret : gRetR p l e (rmL 3 0 0) s m args below meth c cX11_reasonOf Q r) (hf : fX11_reasonOf_22 M x1 = some r) {ls : Array Slot} (hP : (mP dC dI cI kA ad) M s s.heap) (hl : lv_has ls 2 [(0, .ref (ad 25)), (1, .int x1)]) : W p l e (rmL 3 0 0) s m args below meth c s.heap [] 0 0 Q (F0 m 22 ls []) := by
  have hx := X.hx
  have hb := X.hb
  have hown := X.hown
  have hts := X.hts
  rw [fX11_reasonOf_22] at hf
  refine lv_aload_n hx hb dX11_reasonOf_22 rfl (lv_at hl 0 rfl) ?_
  refine lv_iload_n hx hb dX11_reasonOf_23 rfl (lv_at hl 1 rfl) ?_
  obtain ⟨q, hc, hf⟩ := bd hf
  refine gCallVR X rfl (vX11_isPawRight hc) gRX11_X11_isPawRight hdX11_isPawRight rfl ⟨by decide, by decide⟩ (gB_blind mOK) (gB_at mOK X hP) (mrec hP) hl.1 (Nat.le_of_ble_eq_true rfl) ⟨Nat.le_refl _, Nat.le_refl _⟩ dX11_reasonOf_24 (As := [.int x1]) (rest := []) rfl ?_
  exact kX11_reasonOf_27 X hret hf hP (lv_sub hl [0] rfl)
set_option maxRecDepth 10000 in
theorem kX11_reasonOf_20 {r : Int32} {M : MS} (X : gX p s m args c cX11_reasonOf 2 RX11 (kR kTab kA)) (hret : gRetR p l e (rmL 3 0 0) s m args below meth c cX11_reasonOf Q r) (hf : fX11_reasonOf_20 M = some r) {ls : Array Slot} (hP : (mP dC dI cI kA ad) M s s.heap) (hl : lv_has ls 2 [(0, .ref (ad 25))]) : W p l e (rmL 3 0 0) s m args below meth c s.heap [] 0 0 Q (F0 m 20 ls []) := by
  have hx := X.hx
  have hb := X.hb
  have hown := X.hown
  have hts := X.hts
  rw [fX11_reasonOf_20] at hf
  refine lv_iconst (v := 2) hx hb dX11_reasonOf_20 (by decide) ?_
  cases hf
  exact hret _ _ dX11_reasonOf_21
set_option maxRecDepth 10000 in
theorem kX11_reasonOf_17 {r : Int32} {M : MS} {x1 : Int32} {s0 : Int32} (X : gX p s m args c cX11_reasonOf 2 RX11 (kR kTab kA)) (hret : gRetR p l e (rmL 3 0 0) s m args below meth c cX11_reasonOf Q r) (hf : fX11_reasonOf_17 M x1 s0 = some r) {ls : Array Slot} (hP : (mP dC dI cI kA ad) M s s.heap) (hl : lv_has ls 2 [(0, .ref (ad 25)), (1, .int x1)]) : W p l e (rmL 3 0 0) s m args below meth c s.heap [] 0 0 Q (F0 m 17 ls [.int s0]) := by
  have hx := X.hx
  have hb := X.hb
  have hown := X.hown
  have hts := X.hts
  rw [fX11_reasonOf_17] at hf
  refine lv_if_ne (tgt := 22) hx hb dX11_reasonOf_17 (by decide) (fun c1 => ?_) (fun c1 => ?_)
  · exact kX11_reasonOf_22 X hret (ifn c1 hf) hP (lv_sub hl [0, 1] rfl)
  · exact kX11_reasonOf_20 X hret (ifp c1 hf) hP (lv_sub hl [0] rfl)
set_option maxRecDepth 10000 in
theorem kX11_reasonOf_12 {r : Int32} {M : MS} {x1 : Int32} (X : gX p s m args c cX11_reasonOf 2 RX11 (kR kTab kA)) (hret : gRetR p l e (rmL 3 0 0) s m args below meth c cX11_reasonOf Q r) (hf : fX11_reasonOf_12 M x1 = some r) {ls : Array Slot} (hP : (mP dC dI cI kA ad) M s s.heap) (hl : lv_has ls 2 [(0, .ref (ad 25)), (1, .int x1)]) : W p l e (rmL 3 0 0) s m args below meth c s.heap [] 0 0 Q (F0 m 12 ls []) := by
  have hx := X.hx
  have hb := X.hb
  have hown := X.hown
  have hts := X.hts
  rw [fX11_reasonOf_12] at hf
  refine lv_aload_n hx hb dX11_reasonOf_12 rfl (lv_at hl 0 rfl) ?_
  refine lv_iload_n hx hb dX11_reasonOf_13 rfl (lv_at hl 1 rfl) ?_
  obtain ⟨q, hc, hf⟩ := bd hf
  refine gCallVR X rfl (vX11_isAble hc) gRX11_X11_isAble hdX11_isAble rfl ⟨by decide, by decide⟩ (gB_blind mOK) (gB_at mOK X hP) (mrec hP) hl.1 (Nat.le_of_ble_eq_true rfl) ⟨Nat.le_refl _, Nat.le_refl _⟩ dX11_reasonOf_14 (As := [.int x1]) (rest := []) rfl ?_
  exact kX11_reasonOf_17 X hret hf hP (lv_sub hl [0, 1] rfl)
set_option maxRecDepth 10000 in
theorem kX11_reasonOf_10 {r : Int32} {M : MS} (X : gX p s m args c cX11_reasonOf 2 RX11 (kR kTab kA)) (hret : gRetR p l e (rmL 3 0 0) s m args below meth c cX11_reasonOf Q r) (hf : fX11_reasonOf_10 M = some r) {ls : Array Slot} (hP : (mP dC dI cI kA ad) M s s.heap) (hl : lv_has ls 2 [(0, .ref (ad 25))]) : W p l e (rmL 3 0 0) s m args below meth c s.heap [] 0 0 Q (F0 m 10 ls []) := by
  have hx := X.hx
  have hb := X.hb
  have hown := X.hown
  have hts := X.hts
  rw [fX11_reasonOf_10] at hf
  refine lv_iconst (v := 1) hx hb dX11_reasonOf_10 (by decide) ?_
  cases hf
  exact hret _ _ dX11_reasonOf_11
set_option maxRecDepth 10000 in
theorem kX11_reasonOf_0 {r : Int32} {M : MS} {a1 : Int32} (X : gX p s m args c cX11_reasonOf 2 RX11 (kR kTab kA)) (hret : gRetR p l e (rmL 3 0 0) s m args below meth c cX11_reasonOf Q r) (hf : fX11_reasonOf_0 M a1 = some r) {ls : Array Slot} (hP : (mP dC dI cI kA ad) M s s.heap) (hl : lv_has ls 2 [(0, .ref (ad 25)), (1, .int a1)]) : W p l e (rmL 3 0 0) s m args below meth c s.heap [] 0 0 Q (F0 m 0 ls []) := by
  have hx := X.hx
  have hb := X.hb
  have hown := X.hown
  have hts := X.hts
  rw [fX11_reasonOf_0] at hf
  refine lv_aload_n hx hb dX11_reasonOf_0 rfl (lv_at hl 0 rfl) ?_
  refine mr_get (k := 0) X hP (by decide) rfl rfl tw1665 dX11_reasonOf_1 ?_
  refine lv_iconst (v := 5) hx hb dX11_reasonOf_4 (by decide) ?_
  obtain ⟨g1, hf⟩ := gd hf
  refine mr_ald (a := 0) X hP rfl g1 dX11_reasonOf_5 ?_
  refine lv_iconst (v := (-1)) hx hb dX11_reasonOf_6 (by decide) ?_
  refine lv_icmp_ne (tgt := 12) hx hb dX11_reasonOf_7 (by decide) (fun c1 => ?_) (fun c1 => ?_)
  · exact kX11_reasonOf_12 X hret (ifn c1 hf) hP (lv_sub hl [0, 1] rfl)
  · exact kX11_reasonOf_10 X hret (ifp c1 hf) hP (lv_sub hl [0] rfl)
theorem vX11_reasonOf {l : Launch} {dC : Nat → ClassId} {dI : Nat → Nat → Nat} {cI : ClassId} {kA : String → Nat → Nat} {ad : Nat → Nat} {M : MS} {r : Int32} {a1 : Int32} (hf : fX11_reasonOf M a1 = some r) : gMetR l yX11_reasonOf cX11_reasonOf 2 (some .int) 3 (gB (mP dC dI cI kA ad) (kR kTab kA) M) [.ref (ad 25), .int a1] r := gEntryR (ty := .int) (by decide) rfl rfl (Nat.le_of_ble_eq_true rfl) (fun _ h => h.2) (fun p e s m args below meth c Q ls X hB hret hl => 
  kX11_reasonOf_0 X hret hf hB.1 (lv_sub hl [0, 1] rfl))
set_option maxRecDepth 10000 in
theorem kX11_speedOf_24 {r : Int32} {S1 : MS} {M : MS} {s0 : Int32} {H : Heap} {locs : List Loc} {ls : Array Slot} (X : gX p s m args c cX11_speedOf 2 RX11 (kR kTab kA)) (hret : gRetI p l e (rmL 3 0 0) s m args below meth c cX11_speedOf (mΩ ad) (mP dC dI cI kA ad) Q r S1) (hf : fX11_speedOf_24 M s0 = some (r, S1)) (hP : (mP dC dI cI kA ad) M s H) (hS : va_S (Fr (mΩ ad) s.heap.size) s.heap H locs) (hl : lv_has ls 2 [(0, .ref (ad 25))]) : W p l e (rmL 3 0 0) s m args below meth c H locs 0 0 Q (F0 m 24 ls [.int s0]) := by
  have hx := X.hx
  have hb := X.hb
  have hown := X.hown
  have hts := X.hts
  rw [fX11_speedOf_24] at hf
  cases hf
  exact hret _ _ _ _ dX11_speedOf_24 hP hS
set_option maxRecDepth 10000 in
theorem kX11_speedOf_17 {r : Int32} {S1 : MS} {M : MS} {x1 : Int32} {H : Heap} {locs : List Loc} {ls : Array Slot} (X : gX p s m args c cX11_speedOf 2 RX11 (kR kTab kA)) (hret : gRetI p l e (rmL 3 0 0) s m args below meth c cX11_speedOf (mΩ ad) (mP dC dI cI kA ad) Q r S1) (hf : fX11_speedOf_17 M x1 = some (r, S1)) (hP : (mP dC dI cI kA ad) M s H) (hS : va_S (Fr (mΩ ad) s.heap.size) s.heap H locs) (hl : lv_has ls 2 [(0, .ref (ad 25)), (1, .int x1)]) : W p l e (rmL 3 0 0) s m args below meth c H locs 0 0 Q (F0 m 17 ls []) := by
  have hx := X.hx
  have hb := X.hb
  have hown := X.hown
  have hts := X.hts
  rw [fX11_speedOf_17] at hf
  refine lv_aload_n hx hb dX11_speedOf_17 rfl (lv_at hl 0 rfl) ?_
  refine lv_iload_n hx hb dX11_speedOf_18 rfl (lv_at hl 1 rfl) ?_
  refine lv_bipush (v := 7) hx hb dX11_speedOf_19 (by decide) ?_
  obtain ⟨q, hc, hf⟩ := bd hf
  refine gCallVR X rfl (vX11_ofCat hc) gRX11_X11_ofCat hdX11_ofCat rfl ⟨by decide, by decide⟩ (gB_blind mOK) (gB_at mOK X hP) (mrec hP) hl.1 (Nat.le_of_ble_eq_true rfl) ⟨Nat.le_refl _, Nat.le_refl _⟩ dX11_speedOf_21 (As := [.int x1, .int 7]) (rest := []) rfl ?_
  exact kX11_speedOf_24 X hret hf hP hS (lv_sub hl [0] rfl)
set_option maxRecDepth 10000 in
theorem kX11_speedOf_13 {r : Int32} {S1 : MS} {M : MS} {H : Heap} {locs : List Loc} {ls : Array Slot} (X : gX p s m args c cX11_speedOf 2 RX11 (kR kTab kA)) (hret : gRetI p l e (rmL 3 0 0) s m args below meth c cX11_speedOf (mΩ ad) (mP dC dI cI kA ad) Q r S1) (hf : fX11_speedOf_13 M = some (r, S1)) (hP : (mP dC dI cI kA ad) M s H) (hS : va_S (Fr (mΩ ad) s.heap.size) s.heap H locs) (hl : lv_has ls 2 [(0, .ref (ad 25))]) : W p l e (rmL 3 0 0) s m args below meth c H locs 0 0 Q (F0 m 13 ls []) := by
  have hx := X.hx
  have hb := X.hb
  have hown := X.hown
  have hts := X.hts
  rw [fX11_speedOf_13] at hf
  refine lv_iconst (v := 0) hx hb dX11_speedOf_13 (by decide) ?_
  refine lv_goto (tgt := 24) hx hb dX11_speedOf_14 (by decide) ?_
  exact kX11_speedOf_24 X hret hf hP hS (lv_sub hl [0] rfl)
set_option maxRecDepth 10000 in
theorem kX11_speedOf_10 {r : Int32} {S1 : MS} {M : MS} {x1 : Int32} {s0 : Int32} {H : Heap} {locs : List Loc} {ls : Array Slot} (X : gX p s m args c cX11_speedOf 2 RX11 (kR kTab kA)) (hret : gRetI p l e (rmL 3 0 0) s m args below meth c cX11_speedOf (mΩ ad) (mP dC dI cI kA ad) Q r S1) (hf : fX11_speedOf_10 M x1 s0 = some (r, S1)) (hP : (mP dC dI cI kA ad) M s H) (hS : va_S (Fr (mΩ ad) s.heap.size) s.heap H locs) (hl : lv_has ls 2 [(0, .ref (ad 25)), (1, .int x1)]) : W p l e (rmL 3 0 0) s m args below meth c H locs 0 0 Q (F0 m 10 ls [.int s0]) := by
  have hx := X.hx
  have hb := X.hb
  have hown := X.hown
  have hts := X.hts
  rw [fX11_speedOf_10] at hf
  refine lv_if_eq (tgt := 17) hx hb dX11_speedOf_10 (by decide) (fun c1 => ?_) (fun c1 => ?_)
  · exact kX11_speedOf_17 X hret (ifp c1 hf) hP hS (lv_sub hl [0, 1] rfl)
  · exact kX11_speedOf_13 X hret (ifn c1 hf) hP hS (lv_sub hl [0] rfl)
set_option maxRecDepth 10000 in
theorem kX11_speedOf_5 {r : Int32} {S1 : MS} {M : MS} {x1 : Int32} {H : Heap} {locs : List Loc} {ls : Array Slot} (X : gX p s m args c cX11_speedOf 2 RX11 (kR kTab kA)) (hret : gRetI p l e (rmL 3 0 0) s m args below meth c cX11_speedOf (mΩ ad) (mP dC dI cI kA ad) Q r S1) (hf : fX11_speedOf_5 M x1 = some (r, S1)) (hP : (mP dC dI cI kA ad) M s H) (hS : va_S (Fr (mΩ ad) s.heap.size) s.heap H locs) (hl : lv_has ls 2 [(0, .ref (ad 25)), (1, .int x1)]) : W p l e (rmL 3 0 0) s m args below meth c H locs 0 0 Q (F0 m 5 ls []) := by
  have hx := X.hx
  have hb := X.hb
  have hown := X.hown
  have hts := X.hts
  rw [fX11_speedOf_5] at hf
  refine lv_aload_n hx hb dX11_speedOf_5 rfl (lv_at hl 0 rfl) ?_
  refine lv_iload_n hx hb dX11_speedOf_6 rfl (lv_at hl 1 rfl) ?_
  obtain ⟨q, hc, hf⟩ := bd hf
  refine gCallVI X mOK rfl (vX11_noCat hc) gRX11_X11_noCat hdX11_noCat rfl ⟨by decide, by decide⟩ hP hS (mrec hP) hl.1 (Nat.le_of_ble_eq_true rfl) ⟨Nat.le_refl _, Nat.le_refl _⟩ dX11_speedOf_7 (As := [.int x1]) (rest := []) rfl (fun H locs hP hS => ?_)
  exact kX11_speedOf_10 X hret hf hP hS (lv_sub hl [0, 1] rfl)
set_option maxRecDepth 10000 in
theorem kX11_speedOf_0 {r : Int32} {S1 : MS} {M : MS} {a1 : Int32} {H : Heap} {locs : List Loc} {ls : Array Slot} (X : gX p s m args c cX11_speedOf 2 RX11 (kR kTab kA)) (hret : gRetI p l e (rmL 3 0 0) s m args below meth c cX11_speedOf (mΩ ad) (mP dC dI cI kA ad) Q r S1) (hf : fX11_speedOf_0 M a1 = some (r, S1)) (hP : (mP dC dI cI kA ad) M s H) (hS : va_S (Fr (mΩ ad) s.heap.size) s.heap H locs) (hl : lv_has ls 2 [(0, .ref (ad 25)), (1, .int a1)]) : W p l e (rmL 3 0 0) s m args below meth c H locs 0 0 Q (F0 m 0 ls []) := by
  have hx := X.hx
  have hb := X.hb
  have hown := X.hown
  have hts := X.hts
  rw [fX11_speedOf_0] at hf
  refine lv_aload_n hx hb dX11_speedOf_0 rfl (lv_at hl 0 rfl) ?_
  refine lv_iconst (v := 0) hx hb dX11_speedOf_1 (by decide) ?_
  refine mr_put (k := 7) X hP hS (by decide) rfl rfl rfl rfl tw1672 dX11_speedOf_2 (fun H locs hP hS => ?_)
  exact kX11_speedOf_5 X hret hf hP hS (lv_sub hl [0, 1] rfl)
theorem vX11_speedOf {l : Launch} {dC : Nat → ClassId} {dI : Nat → Nat → Nat} {cI : ClassId} {kA : String → Nat → Nat} {ad : Nat → Nat} {M S1 : MS} {r : Int32} {a1 : Int32} (hf : fX11_speedOf M a1 = some (r, S1)) : gMetI l yX11_speedOf cX11_speedOf 2 (some .int) 3 (mΩ ad) (mP dC dI cI kA ad) (kR kTab kA) [.ref (ad 25), .int a1] M r S1 := gEntryI (ty := .int) (by decide) rfl rfl mOK (Nat.le_of_ble_eq_true rfl) (fun p e s m args below meth c Q ls X hP hS hret hl => 
  kX11_speedOf_0 X hret hf hP hS (lv_sub hl [0, 1] rfl))
set_option maxRecDepth 10000 in
theorem kX11_tirednessOf_24 {r : Int32} {S1 : MS} {M : MS} {s0 : Int32} {H : Heap} {locs : List Loc} {ls : Array Slot} (X : gX p s m args c cX11_tirednessOf 2 RX11 (kR kTab kA)) (hret : gRetI p l e (rmL 3 0 0) s m args below meth c cX11_tirednessOf (mΩ ad) (mP dC dI cI kA ad) Q r S1) (hf : fX11_tirednessOf_24 M s0 = some (r, S1)) (hP : (mP dC dI cI kA ad) M s H) (hS : va_S (Fr (mΩ ad) s.heap.size) s.heap H locs) (hl : lv_has ls 2 [(0, .ref (ad 25))]) : W p l e (rmL 3 0 0) s m args below meth c H locs 0 0 Q (F0 m 24 ls [.int s0]) := by
  have hx := X.hx
  have hb := X.hb
  have hown := X.hown
  have hts := X.hts
  rw [fX11_tirednessOf_24] at hf
  cases hf
  exact hret _ _ _ _ dX11_tirednessOf_24 hP hS
set_option maxRecDepth 10000 in
theorem kX11_tirednessOf_17 {r : Int32} {S1 : MS} {M : MS} {x1 : Int32} {H : Heap} {locs : List Loc} {ls : Array Slot} (X : gX p s m args c cX11_tirednessOf 2 RX11 (kR kTab kA)) (hret : gRetI p l e (rmL 3 0 0) s m args below meth c cX11_tirednessOf (mΩ ad) (mP dC dI cI kA ad) Q r S1) (hf : fX11_tirednessOf_17 M x1 = some (r, S1)) (hP : (mP dC dI cI kA ad) M s H) (hS : va_S (Fr (mΩ ad) s.heap.size) s.heap H locs) (hl : lv_has ls 2 [(0, .ref (ad 25)), (1, .int x1)]) : W p l e (rmL 3 0 0) s m args below meth c H locs 0 0 Q (F0 m 17 ls []) := by
  have hx := X.hx
  have hb := X.hb
  have hown := X.hown
  have hts := X.hts
  rw [fX11_tirednessOf_17] at hf
  refine lv_aload_n hx hb dX11_tirednessOf_17 rfl (lv_at hl 0 rfl) ?_
  refine lv_iload_n hx hb dX11_tirednessOf_18 rfl (lv_at hl 1 rfl) ?_
  refine lv_bipush (v := 9) hx hb dX11_tirednessOf_19 (by decide) ?_
  obtain ⟨q, hc, hf⟩ := bd hf
  refine gCallVR X rfl (vX11_ofCat hc) gRX11_X11_ofCat hdX11_ofCat rfl ⟨by decide, by decide⟩ (gB_blind mOK) (gB_at mOK X hP) (mrec hP) hl.1 (Nat.le_of_ble_eq_true rfl) ⟨Nat.le_refl _, Nat.le_refl _⟩ dX11_tirednessOf_21 (As := [.int x1, .int 9]) (rest := []) rfl ?_
  exact kX11_tirednessOf_24 X hret hf hP hS (lv_sub hl [0] rfl)
set_option maxRecDepth 10000 in
theorem kX11_tirednessOf_13 {r : Int32} {S1 : MS} {M : MS} {H : Heap} {locs : List Loc} {ls : Array Slot} (X : gX p s m args c cX11_tirednessOf 2 RX11 (kR kTab kA)) (hret : gRetI p l e (rmL 3 0 0) s m args below meth c cX11_tirednessOf (mΩ ad) (mP dC dI cI kA ad) Q r S1) (hf : fX11_tirednessOf_13 M = some (r, S1)) (hP : (mP dC dI cI kA ad) M s H) (hS : va_S (Fr (mΩ ad) s.heap.size) s.heap H locs) (hl : lv_has ls 2 [(0, .ref (ad 25))]) : W p l e (rmL 3 0 0) s m args below meth c H locs 0 0 Q (F0 m 13 ls []) := by
  have hx := X.hx
  have hb := X.hb
  have hown := X.hown
  have hts := X.hts
  rw [fX11_tirednessOf_13] at hf
  refine lv_iconst (v := 0) hx hb dX11_tirednessOf_13 (by decide) ?_
  refine lv_goto (tgt := 24) hx hb dX11_tirednessOf_14 (by decide) ?_
  exact kX11_tirednessOf_24 X hret hf hP hS (lv_sub hl [0] rfl)
set_option maxRecDepth 10000 in
theorem kX11_tirednessOf_10 {r : Int32} {S1 : MS} {M : MS} {x1 : Int32} {s0 : Int32} {H : Heap} {locs : List Loc} {ls : Array Slot} (X : gX p s m args c cX11_tirednessOf 2 RX11 (kR kTab kA)) (hret : gRetI p l e (rmL 3 0 0) s m args below meth c cX11_tirednessOf (mΩ ad) (mP dC dI cI kA ad) Q r S1) (hf : fX11_tirednessOf_10 M x1 s0 = some (r, S1)) (hP : (mP dC dI cI kA ad) M s H) (hS : va_S (Fr (mΩ ad) s.heap.size) s.heap H locs) (hl : lv_has ls 2 [(0, .ref (ad 25)), (1, .int x1)]) : W p l e (rmL 3 0 0) s m args below meth c H locs 0 0 Q (F0 m 10 ls [.int s0]) := by
  have hx := X.hx
  have hb := X.hb
  have hown := X.hown
  have hts := X.hts
  rw [fX11_tirednessOf_10] at hf
  refine lv_if_eq (tgt := 17) hx hb dX11_tirednessOf_10 (by decide) (fun c1 => ?_) (fun c1 => ?_)
  · exact kX11_tirednessOf_17 X hret (ifp c1 hf) hP hS (lv_sub hl [0, 1] rfl)
  · exact kX11_tirednessOf_13 X hret (ifn c1 hf) hP hS (lv_sub hl [0] rfl)
set_option maxRecDepth 10000 in
theorem kX11_tirednessOf_5 {r : Int32} {S1 : MS} {M : MS} {x1 : Int32} {H : Heap} {locs : List Loc} {ls : Array Slot} (X : gX p s m args c cX11_tirednessOf 2 RX11 (kR kTab kA)) (hret : gRetI p l e (rmL 3 0 0) s m args below meth c cX11_tirednessOf (mΩ ad) (mP dC dI cI kA ad) Q r S1) (hf : fX11_tirednessOf_5 M x1 = some (r, S1)) (hP : (mP dC dI cI kA ad) M s H) (hS : va_S (Fr (mΩ ad) s.heap.size) s.heap H locs) (hl : lv_has ls 2 [(0, .ref (ad 25)), (1, .int x1)]) : W p l e (rmL 3 0 0) s m args below meth c H locs 0 0 Q (F0 m 5 ls []) := by
  have hx := X.hx
  have hb := X.hb
  have hown := X.hown
  have hts := X.hts
  rw [fX11_tirednessOf_5] at hf
  refine lv_aload_n hx hb dX11_tirednessOf_5 rfl (lv_at hl 0 rfl) ?_
  refine lv_iload_n hx hb dX11_tirednessOf_6 rfl (lv_at hl 1 rfl) ?_
  obtain ⟨q, hc, hf⟩ := bd hf
  refine gCallVI X mOK rfl (vX11_noCat hc) gRX11_X11_noCat hdX11_noCat rfl ⟨by decide, by decide⟩ hP hS (mrec hP) hl.1 (Nat.le_of_ble_eq_true rfl) ⟨Nat.le_refl _, Nat.le_refl _⟩ dX11_tirednessOf_7 (As := [.int x1]) (rest := []) rfl (fun H locs hP hS => ?_)
  exact kX11_tirednessOf_10 X hret hf hP hS (lv_sub hl [0, 1] rfl)
set_option maxRecDepth 10000 in
theorem kX11_tirednessOf_0 {r : Int32} {S1 : MS} {M : MS} {a1 : Int32} {H : Heap} {locs : List Loc} {ls : Array Slot} (X : gX p s m args c cX11_tirednessOf 2 RX11 (kR kTab kA)) (hret : gRetI p l e (rmL 3 0 0) s m args below meth c cX11_tirednessOf (mΩ ad) (mP dC dI cI kA ad) Q r S1) (hf : fX11_tirednessOf_0 M a1 = some (r, S1)) (hP : (mP dC dI cI kA ad) M s H) (hS : va_S (Fr (mΩ ad) s.heap.size) s.heap H locs) (hl : lv_has ls 2 [(0, .ref (ad 25)), (1, .int a1)]) : W p l e (rmL 3 0 0) s m args below meth c H locs 0 0 Q (F0 m 0 ls []) := by
  have hx := X.hx
  have hb := X.hb
  have hown := X.hown
  have hts := X.hts
  rw [fX11_tirednessOf_0] at hf
  refine lv_aload_n hx hb dX11_tirednessOf_0 rfl (lv_at hl 0 rfl) ?_
  refine lv_iconst (v := 0) hx hb dX11_tirednessOf_1 (by decide) ?_
  refine mr_put (k := 7) X hP hS (by decide) rfl rfl rfl rfl tw1672 dX11_tirednessOf_2 (fun H locs hP hS => ?_)
  exact kX11_tirednessOf_5 X hret hf hP hS (lv_sub hl [0, 1] rfl)
theorem vX11_tirednessOf {l : Launch} {dC : Nat → ClassId} {dI : Nat → Nat → Nat} {cI : ClassId} {kA : String → Nat → Nat} {ad : Nat → Nat} {M S1 : MS} {r : Int32} {a1 : Int32} (hf : fX11_tirednessOf M a1 = some (r, S1)) : gMetI l yX11_tirednessOf cX11_tirednessOf 2 (some .int) 3 (mΩ ad) (mP dC dI cI kA ad) (kR kTab kA) [.ref (ad 25), .int a1] M r S1 := gEntryI (ty := .int) (by decide) rfl rfl mOK (Nat.le_of_ble_eq_true rfl) (fun p e s m args below meth c Q ls X hP hS hret hl => 
  kX11_tirednessOf_0 X hret hf hP hS (lv_sub hl [0, 1] rfl))
set_option maxRecDepth 10000 in
theorem kX11_strengthOf_22 {r : Int32} {S1 : MS} {M : MS} {s0 : Int32} {H : Heap} {locs : List Loc} {ls : Array Slot} (X : gX p s m args c cX11_strengthOf 2 RX11 (kR kTab kA)) (hret : gRetI p l e (rmL 3 0 0) s m args below meth c cX11_strengthOf (mΩ ad) (mP dC dI cI kA ad) Q r S1) (hf : fX11_strengthOf_22 M s0 = some (r, S1)) (hP : (mP dC dI cI kA ad) M s H) (hS : va_S (Fr (mΩ ad) s.heap.size) s.heap H locs) (hl : lv_has ls 2 [(0, .ref (ad 25))]) : W p l e (rmL 3 0 0) s m args below meth c H locs 0 0 Q (F0 m 22 ls [.int s0]) := by
  have hx := X.hx
  have hb := X.hb
  have hown := X.hown
  have hts := X.hts
  rw [fX11_strengthOf_22] at hf
  cases hf
  exact hret _ _ _ _ dX11_strengthOf_22 hP hS
set_option maxRecDepth 10000 in
theorem kX11_strengthOf_17 {r : Int32} {S1 : MS} {M : MS} {x1 : Int32} {H : Heap} {locs : List Loc} {ls : Array Slot} (X : gX p s m args c cX11_strengthOf 2 RX11 (kR kTab kA)) (hret : gRetI p l e (rmL 3 0 0) s m args below meth c cX11_strengthOf (mΩ ad) (mP dC dI cI kA ad) Q r S1) (hf : fX11_strengthOf_17 M x1 = some (r, S1)) (hP : (mP dC dI cI kA ad) M s H) (hS : va_S (Fr (mΩ ad) s.heap.size) s.heap H locs) (hl : lv_has ls 2 [(0, .ref (ad 25)), (1, .int x1)]) : W p l e (rmL 3 0 0) s m args below meth c H locs 0 0 Q (F0 m 17 ls []) := by
  have hx := X.hx
  have hb := X.hb
  have hown := X.hown
  have hts := X.hts
  rw [fX11_strengthOf_17] at hf
  refine lv_aload_n hx hb dX11_strengthOf_17 rfl (lv_at hl 0 rfl) ?_
  refine lv_iload_n hx hb dX11_strengthOf_18 rfl (lv_at hl 1 rfl) ?_
  obtain ⟨q, hc, hf⟩ := bd hf
  refine gCallVR X rfl (vX11_strength hc) gRX11_X11_strength hdX11_strength rfl ⟨by decide, by decide⟩ (gB_blind mOK) (gB_at mOK X hP) (mrec hP) hl.1 (Nat.le_of_ble_eq_true rfl) ⟨Nat.le_refl _, Nat.le_refl _⟩ dX11_strengthOf_19 (As := [.int x1]) (rest := []) rfl ?_
  exact kX11_strengthOf_22 X hret hf hP hS (lv_sub hl [0] rfl)
set_option maxRecDepth 10000 in
theorem kX11_strengthOf_13 {r : Int32} {S1 : MS} {M : MS} {H : Heap} {locs : List Loc} {ls : Array Slot} (X : gX p s m args c cX11_strengthOf 2 RX11 (kR kTab kA)) (hret : gRetI p l e (rmL 3 0 0) s m args below meth c cX11_strengthOf (mΩ ad) (mP dC dI cI kA ad) Q r S1) (hf : fX11_strengthOf_13 M = some (r, S1)) (hP : (mP dC dI cI kA ad) M s H) (hS : va_S (Fr (mΩ ad) s.heap.size) s.heap H locs) (hl : lv_has ls 2 [(0, .ref (ad 25))]) : W p l e (rmL 3 0 0) s m args below meth c H locs 0 0 Q (F0 m 13 ls []) := by
  have hx := X.hx
  have hb := X.hb
  have hown := X.hown
  have hts := X.hts
  rw [fX11_strengthOf_13] at hf
  refine lv_iconst (v := 0) hx hb dX11_strengthOf_13 (by decide) ?_
  refine lv_goto (tgt := 22) hx hb dX11_strengthOf_14 (by decide) ?_
  exact kX11_strengthOf_22 X hret hf hP hS (lv_sub hl [0] rfl)
set_option maxRecDepth 10000 in
theorem kX11_strengthOf_10 {r : Int32} {S1 : MS} {M : MS} {x1 : Int32} {s0 : Int32} {H : Heap} {locs : List Loc} {ls : Array Slot} (X : gX p s m args c cX11_strengthOf 2 RX11 (kR kTab kA)) (hret : gRetI p l e (rmL 3 0 0) s m args below meth c cX11_strengthOf (mΩ ad) (mP dC dI cI kA ad) Q r S1) (hf : fX11_strengthOf_10 M x1 s0 = some (r, S1)) (hP : (mP dC dI cI kA ad) M s H) (hS : va_S (Fr (mΩ ad) s.heap.size) s.heap H locs) (hl : lv_has ls 2 [(0, .ref (ad 25)), (1, .int x1)]) : W p l e (rmL 3 0 0) s m args below meth c H locs 0 0 Q (F0 m 10 ls [.int s0]) := by
  have hx := X.hx
  have hb := X.hb
  have hown := X.hown
  have hts := X.hts
  rw [fX11_strengthOf_10] at hf
  refine lv_if_eq (tgt := 17) hx hb dX11_strengthOf_10 (by decide) (fun c1 => ?_) (fun c1 => ?_)
  · exact kX11_strengthOf_17 X hret (ifp c1 hf) hP hS (lv_sub hl [0, 1] rfl)
  · exact kX11_strengthOf_13 X hret (ifn c1 hf) hP hS (lv_sub hl [0] rfl)
set_option maxRecDepth 10000 in
theorem kX11_strengthOf_5 {r : Int32} {S1 : MS} {M : MS} {x1 : Int32} {H : Heap} {locs : List Loc} {ls : Array Slot} (X : gX p s m args c cX11_strengthOf 2 RX11 (kR kTab kA)) (hret : gRetI p l e (rmL 3 0 0) s m args below meth c cX11_strengthOf (mΩ ad) (mP dC dI cI kA ad) Q r S1) (hf : fX11_strengthOf_5 M x1 = some (r, S1)) (hP : (mP dC dI cI kA ad) M s H) (hS : va_S (Fr (mΩ ad) s.heap.size) s.heap H locs) (hl : lv_has ls 2 [(0, .ref (ad 25)), (1, .int x1)]) : W p l e (rmL 3 0 0) s m args below meth c H locs 0 0 Q (F0 m 5 ls []) := by
  have hx := X.hx
  have hb := X.hb
  have hown := X.hown
  have hts := X.hts
  rw [fX11_strengthOf_5] at hf
  refine lv_aload_n hx hb dX11_strengthOf_5 rfl (lv_at hl 0 rfl) ?_
  refine lv_iload_n hx hb dX11_strengthOf_6 rfl (lv_at hl 1 rfl) ?_
  obtain ⟨q, hc, hf⟩ := bd hf
  refine gCallVI X mOK rfl (vX11_noCat hc) gRX11_X11_noCat hdX11_noCat rfl ⟨by decide, by decide⟩ hP hS (mrec hP) hl.1 (Nat.le_of_ble_eq_true rfl) ⟨Nat.le_refl _, Nat.le_refl _⟩ dX11_strengthOf_7 (As := [.int x1]) (rest := []) rfl (fun H locs hP hS => ?_)
  exact kX11_strengthOf_10 X hret hf hP hS (lv_sub hl [0, 1] rfl)
set_option maxRecDepth 10000 in
theorem kX11_strengthOf_0 {r : Int32} {S1 : MS} {M : MS} {a1 : Int32} {H : Heap} {locs : List Loc} {ls : Array Slot} (X : gX p s m args c cX11_strengthOf 2 RX11 (kR kTab kA)) (hret : gRetI p l e (rmL 3 0 0) s m args below meth c cX11_strengthOf (mΩ ad) (mP dC dI cI kA ad) Q r S1) (hf : fX11_strengthOf_0 M a1 = some (r, S1)) (hP : (mP dC dI cI kA ad) M s H) (hS : va_S (Fr (mΩ ad) s.heap.size) s.heap H locs) (hl : lv_has ls 2 [(0, .ref (ad 25)), (1, .int a1)]) : W p l e (rmL 3 0 0) s m args below meth c H locs 0 0 Q (F0 m 0 ls []) := by
  have hx := X.hx
  have hb := X.hb
  have hown := X.hown
  have hts := X.hts
  rw [fX11_strengthOf_0] at hf
  refine lv_aload_n hx hb dX11_strengthOf_0 rfl (lv_at hl 0 rfl) ?_
  refine lv_iconst (v := 0) hx hb dX11_strengthOf_1 (by decide) ?_
  refine mr_put (k := 7) X hP hS (by decide) rfl rfl rfl rfl tw1672 dX11_strengthOf_2 (fun H locs hP hS => ?_)
  exact kX11_strengthOf_5 X hret hf hP hS (lv_sub hl [0, 1] rfl)
theorem vX11_strengthOf {l : Launch} {dC : Nat → ClassId} {dI : Nat → Nat → Nat} {cI : ClassId} {kA : String → Nat → Nat} {ad : Nat → Nat} {M S1 : MS} {r : Int32} {a1 : Int32} (hf : fX11_strengthOf M a1 = some (r, S1)) : gMetI l yX11_strengthOf cX11_strengthOf 2 (some .int) 3 (mΩ ad) (mP dC dI cI kA ad) (kR kTab kA) [.ref (ad 25), .int a1] M r S1 := gEntryI (ty := .int) (by decide) rfl rfl mOK (Nat.le_of_ble_eq_true rfl) (fun p e s m args below meth c Q ls X hP hS hret hl => 
  kX11_strengthOf_0 X hret hf hP hS (lv_sub hl [0, 1] rfl))
set_option maxRecDepth 10000 in
theorem kX11_caughtBy_24 {r : Int32} {S1 : MS} {M : MS} {s0 : Int32} {H : Heap} {locs : List Loc} {ls : Array Slot} (X : gX p s m args c cX11_caughtBy 2 RX11 (kR kTab kA)) (hret : gRetI p l e (rmL 3 0 0) s m args below meth c cX11_caughtBy (mΩ ad) (mP dC dI cI kA ad) Q r S1) (hf : fX11_caughtBy_24 M s0 = some (r, S1)) (hP : (mP dC dI cI kA ad) M s H) (hS : va_S (Fr (mΩ ad) s.heap.size) s.heap H locs) (hl : lv_has ls 2 [(0, .ref (ad 25))]) : W p l e (rmL 3 0 0) s m args below meth c H locs 0 0 Q (F0 m 24 ls [.int s0]) := by
  have hx := X.hx
  have hb := X.hb
  have hown := X.hown
  have hts := X.hts
  rw [fX11_caughtBy_24] at hf
  cases hf
  exact hret _ _ _ _ dX11_caughtBy_24 hP hS
set_option maxRecDepth 10000 in
theorem kX11_caughtBy_17 {r : Int32} {S1 : MS} {M : MS} {x1 : Int32} {H : Heap} {locs : List Loc} {ls : Array Slot} (X : gX p s m args c cX11_caughtBy 2 RX11 (kR kTab kA)) (hret : gRetI p l e (rmL 3 0 0) s m args below meth c cX11_caughtBy (mΩ ad) (mP dC dI cI kA ad) Q r S1) (hf : fX11_caughtBy_17 M x1 = some (r, S1)) (hP : (mP dC dI cI kA ad) M s H) (hS : va_S (Fr (mΩ ad) s.heap.size) s.heap H locs) (hl : lv_has ls 2 [(0, .ref (ad 25)), (1, .int x1)]) : W p l e (rmL 3 0 0) s m args below meth c H locs 0 0 Q (F0 m 17 ls []) := by
  have hx := X.hx
  have hb := X.hb
  have hown := X.hown
  have hts := X.hts
  rw [fX11_caughtBy_17] at hf
  refine lv_aload_n hx hb dX11_caughtBy_17 rfl (lv_at hl 0 rfl) ?_
  refine lv_iload_n hx hb dX11_caughtBy_18 rfl (lv_at hl 1 rfl) ?_
  refine lv_bipush (v := 10) hx hb dX11_caughtBy_19 (by decide) ?_
  obtain ⟨q, hc, hf⟩ := bd hf
  refine gCallVR X rfl (vX11_ofCat hc) gRX11_X11_ofCat hdX11_ofCat rfl ⟨by decide, by decide⟩ (gB_blind mOK) (gB_at mOK X hP) (mrec hP) hl.1 (Nat.le_of_ble_eq_true rfl) ⟨Nat.le_refl _, Nat.le_refl _⟩ dX11_caughtBy_21 (As := [.int x1, .int 10]) (rest := []) rfl ?_
  exact kX11_caughtBy_24 X hret hf hP hS (lv_sub hl [0] rfl)
set_option maxRecDepth 10000 in
theorem kX11_caughtBy_13 {r : Int32} {S1 : MS} {M : MS} {H : Heap} {locs : List Loc} {ls : Array Slot} (X : gX p s m args c cX11_caughtBy 2 RX11 (kR kTab kA)) (hret : gRetI p l e (rmL 3 0 0) s m args below meth c cX11_caughtBy (mΩ ad) (mP dC dI cI kA ad) Q r S1) (hf : fX11_caughtBy_13 M = some (r, S1)) (hP : (mP dC dI cI kA ad) M s H) (hS : va_S (Fr (mΩ ad) s.heap.size) s.heap H locs) (hl : lv_has ls 2 [(0, .ref (ad 25))]) : W p l e (rmL 3 0 0) s m args below meth c H locs 0 0 Q (F0 m 13 ls []) := by
  have hx := X.hx
  have hb := X.hb
  have hown := X.hown
  have hts := X.hts
  rw [fX11_caughtBy_13] at hf
  refine lv_iconst (v := 0) hx hb dX11_caughtBy_13 (by decide) ?_
  refine lv_goto (tgt := 24) hx hb dX11_caughtBy_14 (by decide) ?_
  exact kX11_caughtBy_24 X hret hf hP hS (lv_sub hl [0] rfl)
set_option maxRecDepth 10000 in
theorem kX11_caughtBy_10 {r : Int32} {S1 : MS} {M : MS} {x1 : Int32} {s0 : Int32} {H : Heap} {locs : List Loc} {ls : Array Slot} (X : gX p s m args c cX11_caughtBy 2 RX11 (kR kTab kA)) (hret : gRetI p l e (rmL 3 0 0) s m args below meth c cX11_caughtBy (mΩ ad) (mP dC dI cI kA ad) Q r S1) (hf : fX11_caughtBy_10 M x1 s0 = some (r, S1)) (hP : (mP dC dI cI kA ad) M s H) (hS : va_S (Fr (mΩ ad) s.heap.size) s.heap H locs) (hl : lv_has ls 2 [(0, .ref (ad 25)), (1, .int x1)]) : W p l e (rmL 3 0 0) s m args below meth c H locs 0 0 Q (F0 m 10 ls [.int s0]) := by
  have hx := X.hx
  have hb := X.hb
  have hown := X.hown
  have hts := X.hts
  rw [fX11_caughtBy_10] at hf
  refine lv_if_eq (tgt := 17) hx hb dX11_caughtBy_10 (by decide) (fun c1 => ?_) (fun c1 => ?_)
  · exact kX11_caughtBy_17 X hret (ifp c1 hf) hP hS (lv_sub hl [0, 1] rfl)
  · exact kX11_caughtBy_13 X hret (ifn c1 hf) hP hS (lv_sub hl [0] rfl)
set_option maxRecDepth 10000 in
theorem kX11_caughtBy_5 {r : Int32} {S1 : MS} {M : MS} {x1 : Int32} {H : Heap} {locs : List Loc} {ls : Array Slot} (X : gX p s m args c cX11_caughtBy 2 RX11 (kR kTab kA)) (hret : gRetI p l e (rmL 3 0 0) s m args below meth c cX11_caughtBy (mΩ ad) (mP dC dI cI kA ad) Q r S1) (hf : fX11_caughtBy_5 M x1 = some (r, S1)) (hP : (mP dC dI cI kA ad) M s H) (hS : va_S (Fr (mΩ ad) s.heap.size) s.heap H locs) (hl : lv_has ls 2 [(0, .ref (ad 25)), (1, .int x1)]) : W p l e (rmL 3 0 0) s m args below meth c H locs 0 0 Q (F0 m 5 ls []) := by
  have hx := X.hx
  have hb := X.hb
  have hown := X.hown
  have hts := X.hts
  rw [fX11_caughtBy_5] at hf
  refine lv_aload_n hx hb dX11_caughtBy_5 rfl (lv_at hl 0 rfl) ?_
  refine lv_iload_n hx hb dX11_caughtBy_6 rfl (lv_at hl 1 rfl) ?_
  obtain ⟨q, hc, hf⟩ := bd hf
  refine gCallVI X mOK rfl (vX11_noCat hc) gRX11_X11_noCat hdX11_noCat rfl ⟨by decide, by decide⟩ hP hS (mrec hP) hl.1 (Nat.le_of_ble_eq_true rfl) ⟨Nat.le_refl _, Nat.le_refl _⟩ dX11_caughtBy_7 (As := [.int x1]) (rest := []) rfl (fun H locs hP hS => ?_)
  exact kX11_caughtBy_10 X hret hf hP hS (lv_sub hl [0, 1] rfl)
set_option maxRecDepth 10000 in
theorem kX11_caughtBy_0 {r : Int32} {S1 : MS} {M : MS} {a1 : Int32} {H : Heap} {locs : List Loc} {ls : Array Slot} (X : gX p s m args c cX11_caughtBy 2 RX11 (kR kTab kA)) (hret : gRetI p l e (rmL 3 0 0) s m args below meth c cX11_caughtBy (mΩ ad) (mP dC dI cI kA ad) Q r S1) (hf : fX11_caughtBy_0 M a1 = some (r, S1)) (hP : (mP dC dI cI kA ad) M s H) (hS : va_S (Fr (mΩ ad) s.heap.size) s.heap H locs) (hl : lv_has ls 2 [(0, .ref (ad 25)), (1, .int a1)]) : W p l e (rmL 3 0 0) s m args below meth c H locs 0 0 Q (F0 m 0 ls []) := by
  have hx := X.hx
  have hb := X.hb
  have hown := X.hown
  have hts := X.hts
  rw [fX11_caughtBy_0] at hf
  refine lv_aload_n hx hb dX11_caughtBy_0 rfl (lv_at hl 0 rfl) ?_
  refine lv_iconst (v := 0) hx hb dX11_caughtBy_1 (by decide) ?_
  refine mr_put (k := 7) X hP hS (by decide) rfl rfl rfl rfl tw1672 dX11_caughtBy_2 (fun H locs hP hS => ?_)
  exact kX11_caughtBy_5 X hret hf hP hS (lv_sub hl [0, 1] rfl)
theorem vX11_caughtBy {l : Launch} {dC : Nat → ClassId} {dI : Nat → Nat → Nat} {cI : ClassId} {kA : String → Nat → Nat} {ad : Nat → Nat} {M S1 : MS} {r : Int32} {a1 : Int32} (hf : fX11_caughtBy M a1 = some (r, S1)) : gMetI l yX11_caughtBy cX11_caughtBy 2 (some .int) 3 (mΩ ad) (mP dC dI cI kA ad) (kR kTab kA) [.ref (ad 25), .int a1] M r S1 := gEntryI (ty := .int) (by decide) rfl rfl mOK (Nat.le_of_ble_eq_true rfl) (fun p e s m args below meth c Q ls X hP hS hret hl => 
  kX11_caughtBy_0 X hret hf hP hS (lv_sub hl [0, 1] rfl))
set_option maxRecDepth 10000 in
theorem kX11_oathsOf_24 {r : Int32} {S1 : MS} {M : MS} {s0 : Int32} {H : Heap} {locs : List Loc} {ls : Array Slot} (X : gX p s m args c cX11_oathsOf 2 RX11 (kR kTab kA)) (hret : gRetI p l e (rmL 3 0 0) s m args below meth c cX11_oathsOf (mΩ ad) (mP dC dI cI kA ad) Q r S1) (hf : fX11_oathsOf_24 M s0 = some (r, S1)) (hP : (mP dC dI cI kA ad) M s H) (hS : va_S (Fr (mΩ ad) s.heap.size) s.heap H locs) (hl : lv_has ls 2 [(0, .ref (ad 25))]) : W p l e (rmL 3 0 0) s m args below meth c H locs 0 0 Q (F0 m 24 ls [.int s0]) := by
  have hx := X.hx
  have hb := X.hb
  have hown := X.hown
  have hts := X.hts
  rw [fX11_oathsOf_24] at hf
  cases hf
  exact hret _ _ _ _ dX11_oathsOf_24 hP hS
set_option maxRecDepth 10000 in
theorem kX11_oathsOf_17 {r : Int32} {S1 : MS} {M : MS} {x1 : Int32} {H : Heap} {locs : List Loc} {ls : Array Slot} (X : gX p s m args c cX11_oathsOf 2 RX11 (kR kTab kA)) (hret : gRetI p l e (rmL 3 0 0) s m args below meth c cX11_oathsOf (mΩ ad) (mP dC dI cI kA ad) Q r S1) (hf : fX11_oathsOf_17 M x1 = some (r, S1)) (hP : (mP dC dI cI kA ad) M s H) (hS : va_S (Fr (mΩ ad) s.heap.size) s.heap H locs) (hl : lv_has ls 2 [(0, .ref (ad 25)), (1, .int x1)]) : W p l e (rmL 3 0 0) s m args below meth c H locs 0 0 Q (F0 m 17 ls []) := by
  have hx := X.hx
  have hb := X.hb
  have hown := X.hown
  have hts := X.hts
  rw [fX11_oathsOf_17] at hf
  refine lv_aload_n hx hb dX11_oathsOf_17 rfl (lv_at hl 0 rfl) ?_
  refine lv_iload_n hx hb dX11_oathsOf_18 rfl (lv_at hl 1 rfl) ?_
  refine lv_bipush (v := 11) hx hb dX11_oathsOf_19 (by decide) ?_
  obtain ⟨q, hc, hf⟩ := bd hf
  refine gCallVR X rfl (vX11_ofCat hc) gRX11_X11_ofCat hdX11_ofCat rfl ⟨by decide, by decide⟩ (gB_blind mOK) (gB_at mOK X hP) (mrec hP) hl.1 (Nat.le_of_ble_eq_true rfl) ⟨Nat.le_refl _, Nat.le_refl _⟩ dX11_oathsOf_21 (As := [.int x1, .int 11]) (rest := []) rfl ?_
  exact kX11_oathsOf_24 X hret hf hP hS (lv_sub hl [0] rfl)
set_option maxRecDepth 10000 in
theorem kX11_oathsOf_13 {r : Int32} {S1 : MS} {M : MS} {H : Heap} {locs : List Loc} {ls : Array Slot} (X : gX p s m args c cX11_oathsOf 2 RX11 (kR kTab kA)) (hret : gRetI p l e (rmL 3 0 0) s m args below meth c cX11_oathsOf (mΩ ad) (mP dC dI cI kA ad) Q r S1) (hf : fX11_oathsOf_13 M = some (r, S1)) (hP : (mP dC dI cI kA ad) M s H) (hS : va_S (Fr (mΩ ad) s.heap.size) s.heap H locs) (hl : lv_has ls 2 [(0, .ref (ad 25))]) : W p l e (rmL 3 0 0) s m args below meth c H locs 0 0 Q (F0 m 13 ls []) := by
  have hx := X.hx
  have hb := X.hb
  have hown := X.hown
  have hts := X.hts
  rw [fX11_oathsOf_13] at hf
  refine lv_iconst (v := 0) hx hb dX11_oathsOf_13 (by decide) ?_
  refine lv_goto (tgt := 24) hx hb dX11_oathsOf_14 (by decide) ?_
  exact kX11_oathsOf_24 X hret hf hP hS (lv_sub hl [0] rfl)
set_option maxRecDepth 10000 in
theorem kX11_oathsOf_10 {r : Int32} {S1 : MS} {M : MS} {x1 : Int32} {s0 : Int32} {H : Heap} {locs : List Loc} {ls : Array Slot} (X : gX p s m args c cX11_oathsOf 2 RX11 (kR kTab kA)) (hret : gRetI p l e (rmL 3 0 0) s m args below meth c cX11_oathsOf (mΩ ad) (mP dC dI cI kA ad) Q r S1) (hf : fX11_oathsOf_10 M x1 s0 = some (r, S1)) (hP : (mP dC dI cI kA ad) M s H) (hS : va_S (Fr (mΩ ad) s.heap.size) s.heap H locs) (hl : lv_has ls 2 [(0, .ref (ad 25)), (1, .int x1)]) : W p l e (rmL 3 0 0) s m args below meth c H locs 0 0 Q (F0 m 10 ls [.int s0]) := by
  have hx := X.hx
  have hb := X.hb
  have hown := X.hown
  have hts := X.hts
  rw [fX11_oathsOf_10] at hf
  refine lv_if_eq (tgt := 17) hx hb dX11_oathsOf_10 (by decide) (fun c1 => ?_) (fun c1 => ?_)
  · exact kX11_oathsOf_17 X hret (ifp c1 hf) hP hS (lv_sub hl [0, 1] rfl)
  · exact kX11_oathsOf_13 X hret (ifn c1 hf) hP hS (lv_sub hl [0] rfl)
set_option maxRecDepth 10000 in
theorem kX11_oathsOf_5 {r : Int32} {S1 : MS} {M : MS} {x1 : Int32} {H : Heap} {locs : List Loc} {ls : Array Slot} (X : gX p s m args c cX11_oathsOf 2 RX11 (kR kTab kA)) (hret : gRetI p l e (rmL 3 0 0) s m args below meth c cX11_oathsOf (mΩ ad) (mP dC dI cI kA ad) Q r S1) (hf : fX11_oathsOf_5 M x1 = some (r, S1)) (hP : (mP dC dI cI kA ad) M s H) (hS : va_S (Fr (mΩ ad) s.heap.size) s.heap H locs) (hl : lv_has ls 2 [(0, .ref (ad 25)), (1, .int x1)]) : W p l e (rmL 3 0 0) s m args below meth c H locs 0 0 Q (F0 m 5 ls []) := by
  have hx := X.hx
  have hb := X.hb
  have hown := X.hown
  have hts := X.hts
  rw [fX11_oathsOf_5] at hf
  refine lv_aload_n hx hb dX11_oathsOf_5 rfl (lv_at hl 0 rfl) ?_
  refine lv_iload_n hx hb dX11_oathsOf_6 rfl (lv_at hl 1 rfl) ?_
  obtain ⟨q, hc, hf⟩ := bd hf
  refine gCallVI X mOK rfl (vX11_noCat hc) gRX11_X11_noCat hdX11_noCat rfl ⟨by decide, by decide⟩ hP hS (mrec hP) hl.1 (Nat.le_of_ble_eq_true rfl) ⟨Nat.le_refl _, Nat.le_refl _⟩ dX11_oathsOf_7 (As := [.int x1]) (rest := []) rfl (fun H locs hP hS => ?_)
  exact kX11_oathsOf_10 X hret hf hP hS (lv_sub hl [0, 1] rfl)
set_option maxRecDepth 10000 in
theorem kX11_oathsOf_0 {r : Int32} {S1 : MS} {M : MS} {a1 : Int32} {H : Heap} {locs : List Loc} {ls : Array Slot} (X : gX p s m args c cX11_oathsOf 2 RX11 (kR kTab kA)) (hret : gRetI p l e (rmL 3 0 0) s m args below meth c cX11_oathsOf (mΩ ad) (mP dC dI cI kA ad) Q r S1) (hf : fX11_oathsOf_0 M a1 = some (r, S1)) (hP : (mP dC dI cI kA ad) M s H) (hS : va_S (Fr (mΩ ad) s.heap.size) s.heap H locs) (hl : lv_has ls 2 [(0, .ref (ad 25)), (1, .int a1)]) : W p l e (rmL 3 0 0) s m args below meth c H locs 0 0 Q (F0 m 0 ls []) := by
  have hx := X.hx
  have hb := X.hb
  have hown := X.hown
  have hts := X.hts
  rw [fX11_oathsOf_0] at hf
  refine lv_aload_n hx hb dX11_oathsOf_0 rfl (lv_at hl 0 rfl) ?_
  refine lv_iconst (v := 0) hx hb dX11_oathsOf_1 (by decide) ?_
  refine mr_put (k := 7) X hP hS (by decide) rfl rfl rfl rfl tw1672 dX11_oathsOf_2 (fun H locs hP hS => ?_)
  exact kX11_oathsOf_5 X hret hf hP hS (lv_sub hl [0, 1] rfl)
theorem vX11_oathsOf {l : Launch} {dC : Nat → ClassId} {dI : Nat → Nat → Nat} {cI : ClassId} {kA : String → Nat → Nat} {ad : Nat → Nat} {M S1 : MS} {r : Int32} {a1 : Int32} (hf : fX11_oathsOf M a1 = some (r, S1)) : gMetI l yX11_oathsOf cX11_oathsOf 2 (some .int) 3 (mΩ ad) (mP dC dI cI kA ad) (kR kTab kA) [.ref (ad 25), .int a1] M r S1 := gEntryI (ty := .int) (by decide) rfl rfl mOK (Nat.le_of_ble_eq_true rfl) (fun p e s m args below meth c Q ls X hP hS hret hl => 
  kX11_oathsOf_0 X hret hf hP hS (lv_sub hl [0, 1] rfl))
set_option maxRecDepth 10000 in
theorem kX11_grainIn_24 {r : Int32} {S1 : MS} {M : MS} {s0 : Int32} {H : Heap} {locs : List Loc} {ls : Array Slot} (X : gX p s m args c cX11_grainIn 2 RX11 (kR kTab kA)) (hret : gRetI p l e (rmL 3 0 0) s m args below meth c cX11_grainIn (mΩ ad) (mP dC dI cI kA ad) Q r S1) (hf : fX11_grainIn_24 M s0 = some (r, S1)) (hP : (mP dC dI cI kA ad) M s H) (hS : va_S (Fr (mΩ ad) s.heap.size) s.heap H locs) (hl : lv_has ls 2 [(0, .ref (ad 25))]) : W p l e (rmL 3 0 0) s m args below meth c H locs 0 0 Q (F0 m 24 ls [.int s0]) := by
  have hx := X.hx
  have hb := X.hb
  have hown := X.hown
  have hts := X.hts
  rw [fX11_grainIn_24] at hf
  cases hf
  exact hret _ _ _ _ dX11_grainIn_24 hP hS
set_option maxRecDepth 10000 in
theorem kX11_grainIn_17 {r : Int32} {S1 : MS} {M : MS} {x1 : Int32} {H : Heap} {locs : List Loc} {ls : Array Slot} (X : gX p s m args c cX11_grainIn 2 RX11 (kR kTab kA)) (hret : gRetI p l e (rmL 3 0 0) s m args below meth c cX11_grainIn (mΩ ad) (mP dC dI cI kA ad) Q r S1) (hf : fX11_grainIn_17 M x1 = some (r, S1)) (hP : (mP dC dI cI kA ad) M s H) (hS : va_S (Fr (mΩ ad) s.heap.size) s.heap H locs) (hl : lv_has ls 2 [(0, .ref (ad 25)), (1, .int x1)]) : W p l e (rmL 3 0 0) s m args below meth c H locs 0 0 Q (F0 m 17 ls []) := by
  have hx := X.hx
  have hb := X.hb
  have hown := X.hown
  have hts := X.hts
  rw [fX11_grainIn_17] at hf
  refine lv_aload_n hx hb dX11_grainIn_17 rfl (lv_at hl 0 rfl) ?_
  refine lv_iload_n hx hb dX11_grainIn_18 rfl (lv_at hl 1 rfl) ?_
  refine lv_bipush (v := 7) hx hb dX11_grainIn_19 (by decide) ?_
  obtain ⟨q, hc, hf⟩ := bd hf
  refine gCallVR X rfl (vX11_ofSack hc) gRX11_X11_ofSack hdX11_ofSack rfl ⟨by decide, by decide⟩ (gB_blind mOK) (gB_at mOK X hP) (mrec hP) hl.1 (Nat.le_of_ble_eq_true rfl) ⟨Nat.le_refl _, Nat.le_refl _⟩ dX11_grainIn_21 (As := [.int x1, .int 7]) (rest := []) rfl ?_
  exact kX11_grainIn_24 X hret hf hP hS (lv_sub hl [0] rfl)
set_option maxRecDepth 10000 in
theorem kX11_grainIn_13 {r : Int32} {S1 : MS} {M : MS} {H : Heap} {locs : List Loc} {ls : Array Slot} (X : gX p s m args c cX11_grainIn 2 RX11 (kR kTab kA)) (hret : gRetI p l e (rmL 3 0 0) s m args below meth c cX11_grainIn (mΩ ad) (mP dC dI cI kA ad) Q r S1) (hf : fX11_grainIn_13 M = some (r, S1)) (hP : (mP dC dI cI kA ad) M s H) (hS : va_S (Fr (mΩ ad) s.heap.size) s.heap H locs) (hl : lv_has ls 2 [(0, .ref (ad 25))]) : W p l e (rmL 3 0 0) s m args below meth c H locs 0 0 Q (F0 m 13 ls []) := by
  have hx := X.hx
  have hb := X.hb
  have hown := X.hown
  have hts := X.hts
  rw [fX11_grainIn_13] at hf
  refine lv_iconst (v := 0) hx hb dX11_grainIn_13 (by decide) ?_
  refine lv_goto (tgt := 24) hx hb dX11_grainIn_14 (by decide) ?_
  exact kX11_grainIn_24 X hret hf hP hS (lv_sub hl [0] rfl)
set_option maxRecDepth 10000 in
theorem kX11_grainIn_10 {r : Int32} {S1 : MS} {M : MS} {x1 : Int32} {s0 : Int32} {H : Heap} {locs : List Loc} {ls : Array Slot} (X : gX p s m args c cX11_grainIn 2 RX11 (kR kTab kA)) (hret : gRetI p l e (rmL 3 0 0) s m args below meth c cX11_grainIn (mΩ ad) (mP dC dI cI kA ad) Q r S1) (hf : fX11_grainIn_10 M x1 s0 = some (r, S1)) (hP : (mP dC dI cI kA ad) M s H) (hS : va_S (Fr (mΩ ad) s.heap.size) s.heap H locs) (hl : lv_has ls 2 [(0, .ref (ad 25)), (1, .int x1)]) : W p l e (rmL 3 0 0) s m args below meth c H locs 0 0 Q (F0 m 10 ls [.int s0]) := by
  have hx := X.hx
  have hb := X.hb
  have hown := X.hown
  have hts := X.hts
  rw [fX11_grainIn_10] at hf
  refine lv_if_eq (tgt := 17) hx hb dX11_grainIn_10 (by decide) (fun c1 => ?_) (fun c1 => ?_)
  · exact kX11_grainIn_17 X hret (ifp c1 hf) hP hS (lv_sub hl [0, 1] rfl)
  · exact kX11_grainIn_13 X hret (ifn c1 hf) hP hS (lv_sub hl [0] rfl)
set_option maxRecDepth 10000 in
theorem kX11_grainIn_5 {r : Int32} {S1 : MS} {M : MS} {x1 : Int32} {H : Heap} {locs : List Loc} {ls : Array Slot} (X : gX p s m args c cX11_grainIn 2 RX11 (kR kTab kA)) (hret : gRetI p l e (rmL 3 0 0) s m args below meth c cX11_grainIn (mΩ ad) (mP dC dI cI kA ad) Q r S1) (hf : fX11_grainIn_5 M x1 = some (r, S1)) (hP : (mP dC dI cI kA ad) M s H) (hS : va_S (Fr (mΩ ad) s.heap.size) s.heap H locs) (hl : lv_has ls 2 [(0, .ref (ad 25)), (1, .int x1)]) : W p l e (rmL 3 0 0) s m args below meth c H locs 0 0 Q (F0 m 5 ls []) := by
  have hx := X.hx
  have hb := X.hb
  have hown := X.hown
  have hts := X.hts
  rw [fX11_grainIn_5] at hf
  refine lv_aload_n hx hb dX11_grainIn_5 rfl (lv_at hl 0 rfl) ?_
  refine lv_iload_n hx hb dX11_grainIn_6 rfl (lv_at hl 1 rfl) ?_
  obtain ⟨q, hc, hf⟩ := bd hf
  refine gCallVI X mOK rfl (vX11_noSack hc) gRX11_X11_noSack hdX11_noSack rfl ⟨by decide, by decide⟩ hP hS (mrec hP) hl.1 (Nat.le_of_ble_eq_true rfl) ⟨Nat.le_refl _, Nat.le_refl _⟩ dX11_grainIn_7 (As := [.int x1]) (rest := []) rfl (fun H locs hP hS => ?_)
  exact kX11_grainIn_10 X hret hf hP hS (lv_sub hl [0, 1] rfl)
set_option maxRecDepth 10000 in
theorem kX11_grainIn_0 {r : Int32} {S1 : MS} {M : MS} {a1 : Int32} {H : Heap} {locs : List Loc} {ls : Array Slot} (X : gX p s m args c cX11_grainIn 2 RX11 (kR kTab kA)) (hret : gRetI p l e (rmL 3 0 0) s m args below meth c cX11_grainIn (mΩ ad) (mP dC dI cI kA ad) Q r S1) (hf : fX11_grainIn_0 M a1 = some (r, S1)) (hP : (mP dC dI cI kA ad) M s H) (hS : va_S (Fr (mΩ ad) s.heap.size) s.heap H locs) (hl : lv_has ls 2 [(0, .ref (ad 25)), (1, .int a1)]) : W p l e (rmL 3 0 0) s m args below meth c H locs 0 0 Q (F0 m 0 ls []) := by
  have hx := X.hx
  have hb := X.hb
  have hown := X.hown
  have hts := X.hts
  rw [fX11_grainIn_0] at hf
  refine lv_aload_n hx hb dX11_grainIn_0 rfl (lv_at hl 0 rfl) ?_
  refine lv_iconst (v := 0) hx hb dX11_grainIn_1 (by decide) ?_
  refine mr_put (k := 7) X hP hS (by decide) rfl rfl rfl rfl tw1672 dX11_grainIn_2 (fun H locs hP hS => ?_)
  exact kX11_grainIn_5 X hret hf hP hS (lv_sub hl [0, 1] rfl)
theorem vX11_grainIn {l : Launch} {dC : Nat → ClassId} {dI : Nat → Nat → Nat} {cI : ClassId} {kA : String → Nat → Nat} {ad : Nat → Nat} {M S1 : MS} {r : Int32} {a1 : Int32} (hf : fX11_grainIn M a1 = some (r, S1)) : gMetI l yX11_grainIn cX11_grainIn 2 (some .int) 3 (mΩ ad) (mP dC dI cI kA ad) (kR kTab kA) [.ref (ad 25), .int a1] M r S1 := gEntryI (ty := .int) (by decide) rfl rfl mOK (Nat.le_of_ble_eq_true rfl) (fun p e s m args below meth c Q ls X hP hS hret hl => 
  kX11_grainIn_0 X hret hf hP hS (lv_sub hl [0, 1] rfl))
set_option maxRecDepth 10000 in
theorem kX11_miceIn_24 {r : Int32} {S1 : MS} {M : MS} {s0 : Int32} {H : Heap} {locs : List Loc} {ls : Array Slot} (X : gX p s m args c cX11_miceIn 2 RX11 (kR kTab kA)) (hret : gRetI p l e (rmL 3 0 0) s m args below meth c cX11_miceIn (mΩ ad) (mP dC dI cI kA ad) Q r S1) (hf : fX11_miceIn_24 M s0 = some (r, S1)) (hP : (mP dC dI cI kA ad) M s H) (hS : va_S (Fr (mΩ ad) s.heap.size) s.heap H locs) (hl : lv_has ls 2 [(0, .ref (ad 25))]) : W p l e (rmL 3 0 0) s m args below meth c H locs 0 0 Q (F0 m 24 ls [.int s0]) := by
  have hx := X.hx
  have hb := X.hb
  have hown := X.hown
  have hts := X.hts
  rw [fX11_miceIn_24] at hf
  cases hf
  exact hret _ _ _ _ dX11_miceIn_24 hP hS
set_option maxRecDepth 10000 in
theorem kX11_miceIn_17 {r : Int32} {S1 : MS} {M : MS} {x1 : Int32} {H : Heap} {locs : List Loc} {ls : Array Slot} (X : gX p s m args c cX11_miceIn 2 RX11 (kR kTab kA)) (hret : gRetI p l e (rmL 3 0 0) s m args below meth c cX11_miceIn (mΩ ad) (mP dC dI cI kA ad) Q r S1) (hf : fX11_miceIn_17 M x1 = some (r, S1)) (hP : (mP dC dI cI kA ad) M s H) (hS : va_S (Fr (mΩ ad) s.heap.size) s.heap H locs) (hl : lv_has ls 2 [(0, .ref (ad 25)), (1, .int x1)]) : W p l e (rmL 3 0 0) s m args below meth c H locs 0 0 Q (F0 m 17 ls []) := by
  have hx := X.hx
  have hb := X.hb
  have hown := X.hown
  have hts := X.hts
  rw [fX11_miceIn_17] at hf
  refine lv_aload_n hx hb dX11_miceIn_17 rfl (lv_at hl 0 rfl) ?_
  refine lv_iload_n hx hb dX11_miceIn_18 rfl (lv_at hl 1 rfl) ?_
  refine lv_bipush (v := 8) hx hb dX11_miceIn_19 (by decide) ?_
  obtain ⟨q, hc, hf⟩ := bd hf
  refine gCallVR X rfl (vX11_ofSack hc) gRX11_X11_ofSack hdX11_ofSack rfl ⟨by decide, by decide⟩ (gB_blind mOK) (gB_at mOK X hP) (mrec hP) hl.1 (Nat.le_of_ble_eq_true rfl) ⟨Nat.le_refl _, Nat.le_refl _⟩ dX11_miceIn_21 (As := [.int x1, .int 8]) (rest := []) rfl ?_
  exact kX11_miceIn_24 X hret hf hP hS (lv_sub hl [0] rfl)
set_option maxRecDepth 10000 in
theorem kX11_miceIn_13 {r : Int32} {S1 : MS} {M : MS} {H : Heap} {locs : List Loc} {ls : Array Slot} (X : gX p s m args c cX11_miceIn 2 RX11 (kR kTab kA)) (hret : gRetI p l e (rmL 3 0 0) s m args below meth c cX11_miceIn (mΩ ad) (mP dC dI cI kA ad) Q r S1) (hf : fX11_miceIn_13 M = some (r, S1)) (hP : (mP dC dI cI kA ad) M s H) (hS : va_S (Fr (mΩ ad) s.heap.size) s.heap H locs) (hl : lv_has ls 2 [(0, .ref (ad 25))]) : W p l e (rmL 3 0 0) s m args below meth c H locs 0 0 Q (F0 m 13 ls []) := by
  have hx := X.hx
  have hb := X.hb
  have hown := X.hown
  have hts := X.hts
  rw [fX11_miceIn_13] at hf
  refine lv_iconst (v := 0) hx hb dX11_miceIn_13 (by decide) ?_
  refine lv_goto (tgt := 24) hx hb dX11_miceIn_14 (by decide) ?_
  exact kX11_miceIn_24 X hret hf hP hS (lv_sub hl [0] rfl)
set_option maxRecDepth 10000 in
theorem kX11_miceIn_10 {r : Int32} {S1 : MS} {M : MS} {x1 : Int32} {s0 : Int32} {H : Heap} {locs : List Loc} {ls : Array Slot} (X : gX p s m args c cX11_miceIn 2 RX11 (kR kTab kA)) (hret : gRetI p l e (rmL 3 0 0) s m args below meth c cX11_miceIn (mΩ ad) (mP dC dI cI kA ad) Q r S1) (hf : fX11_miceIn_10 M x1 s0 = some (r, S1)) (hP : (mP dC dI cI kA ad) M s H) (hS : va_S (Fr (mΩ ad) s.heap.size) s.heap H locs) (hl : lv_has ls 2 [(0, .ref (ad 25)), (1, .int x1)]) : W p l e (rmL 3 0 0) s m args below meth c H locs 0 0 Q (F0 m 10 ls [.int s0]) := by
  have hx := X.hx
  have hb := X.hb
  have hown := X.hown
  have hts := X.hts
  rw [fX11_miceIn_10] at hf
  refine lv_if_eq (tgt := 17) hx hb dX11_miceIn_10 (by decide) (fun c1 => ?_) (fun c1 => ?_)
  · exact kX11_miceIn_17 X hret (ifp c1 hf) hP hS (lv_sub hl [0, 1] rfl)
  · exact kX11_miceIn_13 X hret (ifn c1 hf) hP hS (lv_sub hl [0] rfl)
set_option maxRecDepth 10000 in
theorem kX11_miceIn_5 {r : Int32} {S1 : MS} {M : MS} {x1 : Int32} {H : Heap} {locs : List Loc} {ls : Array Slot} (X : gX p s m args c cX11_miceIn 2 RX11 (kR kTab kA)) (hret : gRetI p l e (rmL 3 0 0) s m args below meth c cX11_miceIn (mΩ ad) (mP dC dI cI kA ad) Q r S1) (hf : fX11_miceIn_5 M x1 = some (r, S1)) (hP : (mP dC dI cI kA ad) M s H) (hS : va_S (Fr (mΩ ad) s.heap.size) s.heap H locs) (hl : lv_has ls 2 [(0, .ref (ad 25)), (1, .int x1)]) : W p l e (rmL 3 0 0) s m args below meth c H locs 0 0 Q (F0 m 5 ls []) := by
  have hx := X.hx
  have hb := X.hb
  have hown := X.hown
  have hts := X.hts
  rw [fX11_miceIn_5] at hf
  refine lv_aload_n hx hb dX11_miceIn_5 rfl (lv_at hl 0 rfl) ?_
  refine lv_iload_n hx hb dX11_miceIn_6 rfl (lv_at hl 1 rfl) ?_
  obtain ⟨q, hc, hf⟩ := bd hf
  refine gCallVI X mOK rfl (vX11_noSack hc) gRX11_X11_noSack hdX11_noSack rfl ⟨by decide, by decide⟩ hP hS (mrec hP) hl.1 (Nat.le_of_ble_eq_true rfl) ⟨Nat.le_refl _, Nat.le_refl _⟩ dX11_miceIn_7 (As := [.int x1]) (rest := []) rfl (fun H locs hP hS => ?_)
  exact kX11_miceIn_10 X hret hf hP hS (lv_sub hl [0, 1] rfl)
set_option maxRecDepth 10000 in
theorem kX11_miceIn_0 {r : Int32} {S1 : MS} {M : MS} {a1 : Int32} {H : Heap} {locs : List Loc} {ls : Array Slot} (X : gX p s m args c cX11_miceIn 2 RX11 (kR kTab kA)) (hret : gRetI p l e (rmL 3 0 0) s m args below meth c cX11_miceIn (mΩ ad) (mP dC dI cI kA ad) Q r S1) (hf : fX11_miceIn_0 M a1 = some (r, S1)) (hP : (mP dC dI cI kA ad) M s H) (hS : va_S (Fr (mΩ ad) s.heap.size) s.heap H locs) (hl : lv_has ls 2 [(0, .ref (ad 25)), (1, .int a1)]) : W p l e (rmL 3 0 0) s m args below meth c H locs 0 0 Q (F0 m 0 ls []) := by
  have hx := X.hx
  have hb := X.hb
  have hown := X.hown
  have hts := X.hts
  rw [fX11_miceIn_0] at hf
  refine lv_aload_n hx hb dX11_miceIn_0 rfl (lv_at hl 0 rfl) ?_
  refine lv_iconst (v := 0) hx hb dX11_miceIn_1 (by decide) ?_
  refine mr_put (k := 7) X hP hS (by decide) rfl rfl rfl rfl tw1672 dX11_miceIn_2 (fun H locs hP hS => ?_)
  exact kX11_miceIn_5 X hret hf hP hS (lv_sub hl [0, 1] rfl)
theorem vX11_miceIn {l : Launch} {dC : Nat → ClassId} {dI : Nat → Nat → Nat} {cI : ClassId} {kA : String → Nat → Nat} {ad : Nat → Nat} {M S1 : MS} {r : Int32} {a1 : Int32} (hf : fX11_miceIn M a1 = some (r, S1)) : gMetI l yX11_miceIn cX11_miceIn 2 (some .int) 3 (mΩ ad) (mP dC dI cI kA ad) (kR kTab kA) [.ref (ad 25), .int a1] M r S1 := gEntryI (ty := .int) (by decide) rfl rfl mOK (Nat.le_of_ble_eq_true rfl) (fun p e s m args below meth c Q ls X hP hS hret hl => 
  kX11_miceIn_0 X hret hf hP hS (lv_sub hl [0, 1] rfl))
set_option maxRecDepth 10000 in
theorem kX11_eatenFrom_24 {r : Int32} {S1 : MS} {M : MS} {s0 : Int32} {H : Heap} {locs : List Loc} {ls : Array Slot} (X : gX p s m args c cX11_eatenFrom 2 RX11 (kR kTab kA)) (hret : gRetI p l e (rmL 3 0 0) s m args below meth c cX11_eatenFrom (mΩ ad) (mP dC dI cI kA ad) Q r S1) (hf : fX11_eatenFrom_24 M s0 = some (r, S1)) (hP : (mP dC dI cI kA ad) M s H) (hS : va_S (Fr (mΩ ad) s.heap.size) s.heap H locs) (hl : lv_has ls 2 [(0, .ref (ad 25))]) : W p l e (rmL 3 0 0) s m args below meth c H locs 0 0 Q (F0 m 24 ls [.int s0]) := by
  have hx := X.hx
  have hb := X.hb
  have hown := X.hown
  have hts := X.hts
  rw [fX11_eatenFrom_24] at hf
  cases hf
  exact hret _ _ _ _ dX11_eatenFrom_24 hP hS
set_option maxRecDepth 10000 in
theorem kX11_eatenFrom_17 {r : Int32} {S1 : MS} {M : MS} {x1 : Int32} {H : Heap} {locs : List Loc} {ls : Array Slot} (X : gX p s m args c cX11_eatenFrom 2 RX11 (kR kTab kA)) (hret : gRetI p l e (rmL 3 0 0) s m args below meth c cX11_eatenFrom (mΩ ad) (mP dC dI cI kA ad) Q r S1) (hf : fX11_eatenFrom_17 M x1 = some (r, S1)) (hP : (mP dC dI cI kA ad) M s H) (hS : va_S (Fr (mΩ ad) s.heap.size) s.heap H locs) (hl : lv_has ls 2 [(0, .ref (ad 25)), (1, .int x1)]) : W p l e (rmL 3 0 0) s m args below meth c H locs 0 0 Q (F0 m 17 ls []) := by
  have hx := X.hx
  have hb := X.hb
  have hown := X.hown
  have hts := X.hts
  rw [fX11_eatenFrom_17] at hf
  refine lv_aload_n hx hb dX11_eatenFrom_17 rfl (lv_at hl 0 rfl) ?_
  refine lv_iload_n hx hb dX11_eatenFrom_18 rfl (lv_at hl 1 rfl) ?_
  refine lv_bipush (v := 10) hx hb dX11_eatenFrom_19 (by decide) ?_
  obtain ⟨q, hc, hf⟩ := bd hf
  refine gCallVR X rfl (vX11_ofSack hc) gRX11_X11_ofSack hdX11_ofSack rfl ⟨by decide, by decide⟩ (gB_blind mOK) (gB_at mOK X hP) (mrec hP) hl.1 (Nat.le_of_ble_eq_true rfl) ⟨Nat.le_refl _, Nat.le_refl _⟩ dX11_eatenFrom_21 (As := [.int x1, .int 10]) (rest := []) rfl ?_
  exact kX11_eatenFrom_24 X hret hf hP hS (lv_sub hl [0] rfl)
set_option maxRecDepth 10000 in
theorem kX11_eatenFrom_13 {r : Int32} {S1 : MS} {M : MS} {H : Heap} {locs : List Loc} {ls : Array Slot} (X : gX p s m args c cX11_eatenFrom 2 RX11 (kR kTab kA)) (hret : gRetI p l e (rmL 3 0 0) s m args below meth c cX11_eatenFrom (mΩ ad) (mP dC dI cI kA ad) Q r S1) (hf : fX11_eatenFrom_13 M = some (r, S1)) (hP : (mP dC dI cI kA ad) M s H) (hS : va_S (Fr (mΩ ad) s.heap.size) s.heap H locs) (hl : lv_has ls 2 [(0, .ref (ad 25))]) : W p l e (rmL 3 0 0) s m args below meth c H locs 0 0 Q (F0 m 13 ls []) := by
  have hx := X.hx
  have hb := X.hb
  have hown := X.hown
  have hts := X.hts
  rw [fX11_eatenFrom_13] at hf
  refine lv_iconst (v := 0) hx hb dX11_eatenFrom_13 (by decide) ?_
  refine lv_goto (tgt := 24) hx hb dX11_eatenFrom_14 (by decide) ?_
  exact kX11_eatenFrom_24 X hret hf hP hS (lv_sub hl [0] rfl)
set_option maxRecDepth 10000 in
theorem kX11_eatenFrom_10 {r : Int32} {S1 : MS} {M : MS} {x1 : Int32} {s0 : Int32} {H : Heap} {locs : List Loc} {ls : Array Slot} (X : gX p s m args c cX11_eatenFrom 2 RX11 (kR kTab kA)) (hret : gRetI p l e (rmL 3 0 0) s m args below meth c cX11_eatenFrom (mΩ ad) (mP dC dI cI kA ad) Q r S1) (hf : fX11_eatenFrom_10 M x1 s0 = some (r, S1)) (hP : (mP dC dI cI kA ad) M s H) (hS : va_S (Fr (mΩ ad) s.heap.size) s.heap H locs) (hl : lv_has ls 2 [(0, .ref (ad 25)), (1, .int x1)]) : W p l e (rmL 3 0 0) s m args below meth c H locs 0 0 Q (F0 m 10 ls [.int s0]) := by
  have hx := X.hx
  have hb := X.hb
  have hown := X.hown
  have hts := X.hts
  rw [fX11_eatenFrom_10] at hf
  refine lv_if_eq (tgt := 17) hx hb dX11_eatenFrom_10 (by decide) (fun c1 => ?_) (fun c1 => ?_)
  · exact kX11_eatenFrom_17 X hret (ifp c1 hf) hP hS (lv_sub hl [0, 1] rfl)
  · exact kX11_eatenFrom_13 X hret (ifn c1 hf) hP hS (lv_sub hl [0] rfl)
set_option maxRecDepth 10000 in
theorem kX11_eatenFrom_5 {r : Int32} {S1 : MS} {M : MS} {x1 : Int32} {H : Heap} {locs : List Loc} {ls : Array Slot} (X : gX p s m args c cX11_eatenFrom 2 RX11 (kR kTab kA)) (hret : gRetI p l e (rmL 3 0 0) s m args below meth c cX11_eatenFrom (mΩ ad) (mP dC dI cI kA ad) Q r S1) (hf : fX11_eatenFrom_5 M x1 = some (r, S1)) (hP : (mP dC dI cI kA ad) M s H) (hS : va_S (Fr (mΩ ad) s.heap.size) s.heap H locs) (hl : lv_has ls 2 [(0, .ref (ad 25)), (1, .int x1)]) : W p l e (rmL 3 0 0) s m args below meth c H locs 0 0 Q (F0 m 5 ls []) := by
  have hx := X.hx
  have hb := X.hb
  have hown := X.hown
  have hts := X.hts
  rw [fX11_eatenFrom_5] at hf
  refine lv_aload_n hx hb dX11_eatenFrom_5 rfl (lv_at hl 0 rfl) ?_
  refine lv_iload_n hx hb dX11_eatenFrom_6 rfl (lv_at hl 1 rfl) ?_
  obtain ⟨q, hc, hf⟩ := bd hf
  refine gCallVI X mOK rfl (vX11_noSack hc) gRX11_X11_noSack hdX11_noSack rfl ⟨by decide, by decide⟩ hP hS (mrec hP) hl.1 (Nat.le_of_ble_eq_true rfl) ⟨Nat.le_refl _, Nat.le_refl _⟩ dX11_eatenFrom_7 (As := [.int x1]) (rest := []) rfl (fun H locs hP hS => ?_)
  exact kX11_eatenFrom_10 X hret hf hP hS (lv_sub hl [0, 1] rfl)
set_option maxRecDepth 10000 in
theorem kX11_eatenFrom_0 {r : Int32} {S1 : MS} {M : MS} {a1 : Int32} {H : Heap} {locs : List Loc} {ls : Array Slot} (X : gX p s m args c cX11_eatenFrom 2 RX11 (kR kTab kA)) (hret : gRetI p l e (rmL 3 0 0) s m args below meth c cX11_eatenFrom (mΩ ad) (mP dC dI cI kA ad) Q r S1) (hf : fX11_eatenFrom_0 M a1 = some (r, S1)) (hP : (mP dC dI cI kA ad) M s H) (hS : va_S (Fr (mΩ ad) s.heap.size) s.heap H locs) (hl : lv_has ls 2 [(0, .ref (ad 25)), (1, .int a1)]) : W p l e (rmL 3 0 0) s m args below meth c H locs 0 0 Q (F0 m 0 ls []) := by
  have hx := X.hx
  have hb := X.hb
  have hown := X.hown
  have hts := X.hts
  rw [fX11_eatenFrom_0] at hf
  refine lv_aload_n hx hb dX11_eatenFrom_0 rfl (lv_at hl 0 rfl) ?_
  refine lv_iconst (v := 0) hx hb dX11_eatenFrom_1 (by decide) ?_
  refine mr_put (k := 7) X hP hS (by decide) rfl rfl rfl rfl tw1672 dX11_eatenFrom_2 (fun H locs hP hS => ?_)
  exact kX11_eatenFrom_5 X hret hf hP hS (lv_sub hl [0, 1] rfl)
theorem vX11_eatenFrom {l : Launch} {dC : Nat → ClassId} {dI : Nat → Nat → Nat} {cI : ClassId} {kA : String → Nat → Nat} {ad : Nat → Nat} {M S1 : MS} {r : Int32} {a1 : Int32} (hf : fX11_eatenFrom M a1 = some (r, S1)) : gMetI l yX11_eatenFrom cX11_eatenFrom 2 (some .int) 3 (mΩ ad) (mP dC dI cI kA ad) (kR kTab kA) [.ref (ad 25), .int a1] M r S1 := gEntryI (ty := .int) (by decide) rfl rfl mOK (Nat.le_of_ble_eq_true rfl) (fun p e s m args below meth c Q ls X hP hS hret hl => 
  kX11_eatenFrom_0 X hret hf hP hS (lv_sub hl [0, 1] rfl))
set_option maxRecDepth 10000 in
theorem kX11_catNameByte_43 {r : Int32} {S1 : MS} {M : MS} {s0 : Int32} {H : Heap} {locs : List Loc} {ls : Array Slot} (X : gX p s m args c cX11_catNameByte 3 RX11 (kR kTab kA)) (hret : gRetI p l e (rmL 3 0 0) s m args below meth c cX11_catNameByte (mΩ ad) (mP dC dI cI kA ad) Q r S1) (hf : fX11_catNameByte_43 M s0 = some (r, S1)) (hP : (mP dC dI cI kA ad) M s H) (hS : va_S (Fr (mΩ ad) s.heap.size) s.heap H locs) (hl : lv_has ls 3 [(0, .ref (ad 25))]) : W p l e (rmL 3 0 0) s m args below meth c H locs 0 0 Q (F0 m 43 ls [.int s0]) := by
  have hx := X.hx
  have hb := X.hb
  have hown := X.hown
  have hts := X.hts
  rw [fX11_catNameByte_43] at hf
  cases hf
  exact hret _ _ _ _ dX11_catNameByte_43 hP hS
set_option maxRecDepth 10000 in
theorem kX11_catNameByte_42 {r : Int32} {S1 : MS} {M : MS} {H : Heap} {locs : List Loc} {ls : Array Slot} (X : gX p s m args c cX11_catNameByte 3 RX11 (kR kTab kA)) (hret : gRetI p l e (rmL 3 0 0) s m args below meth c cX11_catNameByte (mΩ ad) (mP dC dI cI kA ad) Q r S1) (hf : fX11_catNameByte_42 M = some (r, S1)) (hP : (mP dC dI cI kA ad) M s H) (hS : va_S (Fr (mΩ ad) s.heap.size) s.heap H locs) (hl : lv_has ls 3 [(0, .ref (ad 25))]) : W p l e (rmL 3 0 0) s m args below meth c H locs 0 0 Q (F0 m 42 ls []) := by
  have hx := X.hx
  have hb := X.hb
  have hown := X.hown
  have hts := X.hts
  rw [fX11_catNameByte_42] at hf
  refine lv_iconst (v := (-1)) hx hb dX11_catNameByte_42 (by decide) ?_
  exact kX11_catNameByte_43 X hret hf hP hS (lv_sub hl [0] rfl)
set_option maxRecDepth 10000 in
theorem kX11_catNameByte_39 {r : Int32} {S1 : MS} {M : MS} {s0 : Int32} {H : Heap} {locs : List Loc} {ls : Array Slot} (X : gX p s m args c cX11_catNameByte 3 RX11 (kR kTab kA)) (hret : gRetI p l e (rmL 3 0 0) s m args below meth c cX11_catNameByte (mΩ ad) (mP dC dI cI kA ad) Q r S1) (hf : fX11_catNameByte_39 M s0 = some (r, S1)) (hP : (mP dC dI cI kA ad) M s H) (hS : va_S (Fr (mΩ ad) s.heap.size) s.heap H locs) (hl : lv_has ls 3 [(0, .ref (ad 25))]) : W p l e (rmL 3 0 0) s m args below meth c H locs 0 0 Q (F0 m 39 ls [.int s0]) := by
  have hx := X.hx
  have hb := X.hb
  have hown := X.hown
  have hts := X.hts
  rw [fX11_catNameByte_39] at hf
  refine lv_goto (tgt := 43) hx hb dX11_catNameByte_39 (by decide) ?_
  exact kX11_catNameByte_43 X hret hf hP hS (lv_sub hl [0] rfl)
set_option maxRecDepth 10000 in
theorem kX11_catNameByte_31 {r : Int32} {S1 : MS} {M : MS} {x1 : Int32} {x2 : Int32} {H : Heap} {locs : List Loc} {ls : Array Slot} (X : gX p s m args c cX11_catNameByte 3 RX11 (kR kTab kA)) (hret : gRetI p l e (rmL 3 0 0) s m args below meth c cX11_catNameByte (mΩ ad) (mP dC dI cI kA ad) Q r S1) (hf : fX11_catNameByte_31 M x1 x2 = some (r, S1)) (hP : (mP dC dI cI kA ad) M s H) (hS : va_S (Fr (mΩ ad) s.heap.size) s.heap H locs) (hl : lv_has ls 3 [(0, .ref (ad 25)), (1, .int x1), (2, .int x2)]) : W p l e (rmL 3 0 0) s m args below meth c H locs 0 0 Q (F0 m 31 ls []) := by
  have hx := X.hx
  have hb := X.hb
  have hown := X.hown
  have hts := X.hts
  rw [fX11_catNameByte_31] at hf
  refine lv_aload_n hx hb dX11_catNameByte_31 rfl (lv_at hl 0 rfl) ?_
  refine lv_iload_n hx hb dX11_catNameByte_32 rfl (lv_at hl 1 rfl) ?_
  refine lv_iconst (v := 1) hx hb dX11_catNameByte_33 (by decide) ?_
  refine lv_iload_n hx hb dX11_catNameByte_34 rfl (lv_at hl 2 rfl) ?_
  refine lv_iadd hx hb dX11_catNameByte_35 ?_
  obtain ⟨q, hc, hf⟩ := bd hf
  refine gCallVR X rfl (vX11_ofCat hc) gRX11_X11_ofCat hdX11_ofCat rfl ⟨by decide, by decide⟩ (gB_blind mOK) (gB_at mOK X hP) (mrec hP) hl.1 (Nat.le_of_ble_eq_true rfl) ⟨Nat.le_refl _, Nat.le_refl _⟩ dX11_catNameByte_36 (As := [.int x1, .int (1 + x2)]) (rest := []) rfl ?_
  exact kX11_catNameByte_39 X hret hf hP hS (lv_sub hl [0] rfl)
set_option maxRecDepth 10000 in
theorem kX11_catNameByte_28 {r : Int32} {S1 : MS} {M : MS} {x1 : Int32} {x2 : Int32} {s0 : Int32} {H : Heap} {locs : List Loc} {ls : Array Slot} (X : gX p s m args c cX11_catNameByte 3 RX11 (kR kTab kA)) (hret : gRetI p l e (rmL 3 0 0) s m args below meth c cX11_catNameByte (mΩ ad) (mP dC dI cI kA ad) Q r S1) (hf : fX11_catNameByte_28 M x1 x2 s0 = some (r, S1)) (hP : (mP dC dI cI kA ad) M s H) (hS : va_S (Fr (mΩ ad) s.heap.size) s.heap H locs) (hl : lv_has ls 3 [(0, .ref (ad 25)), (1, .int x1), (2, .int x2)]) : W p l e (rmL 3 0 0) s m args below meth c H locs 0 0 Q (F0 m 28 ls [.int s0]) := by
  have hx := X.hx
  have hb := X.hb
  have hown := X.hown
  have hts := X.hts
  rw [fX11_catNameByte_28] at hf
  refine lv_if_eq (tgt := 42) hx hb dX11_catNameByte_28 (by decide) (fun c1 => ?_) (fun c1 => ?_)
  · exact kX11_catNameByte_42 X hret (ifp c1 hf) hP hS (lv_sub hl [0] rfl)
  · exact kX11_catNameByte_31 X hret (ifn c1 hf) hP hS (lv_sub hl [0, 1, 2] rfl)
set_option maxRecDepth 10000 in
theorem kX11_catNameByte_23 {r : Int32} {S1 : MS} {M : MS} {x1 : Int32} {x2 : Int32} {s0 : Int32} {s1 : Int32} {s2 : Int32} {H : Heap} {locs : List Loc} {ls : Array Slot} (X : gX p s m args c cX11_catNameByte 3 RX11 (kR kTab kA)) (hret : gRetI p l e (rmL 3 0 0) s m args below meth c cX11_catNameByte (mΩ ad) (mP dC dI cI kA ad) Q r S1) (hf : fX11_catNameByte_23 M x1 x2 s0 s1 s2 = some (r, S1)) (hP : (mP dC dI cI kA ad) M s H) (hS : va_S (Fr (mΩ ad) s.heap.size) s.heap H locs) (hl : lv_has ls 3 [(0, .ref (ad 25)), (1, .int x1), (2, .int x2)]) : W p l e (rmL 3 0 0) s m args below meth c H locs 0 0 Q (F0 m 23 ls [.int s0, .int s1, .int s2]) := by
  have hx := X.hx
  have hb := X.hb
  have hown := X.hown
  have hts := X.hts
  rw [fX11_catNameByte_23] at hf
  refine lv_iconst (v := 1) hx hb dX11_catNameByte_23 (by decide) ?_
  refine lv_isub hx hb dX11_catNameByte_24 ?_
  obtain ⟨q, hc, hf⟩ := bd hf
  refine gCallSR X rfl (vX11_inRange hc) gRX11_X11_inRange hdX11_inRange rfl ⟨by decide, by decide⟩ (gB_blind mOK) (gB_at mOK X hP) hl.1 (Nat.le_of_ble_eq_true rfl) ⟨Nat.le_refl _, Nat.le_refl _⟩ dX11_catNameByte_25 (As := [.int s2, .int s1, .int (s0 - 1)]) (rest := []) rfl ?_
  exact kX11_catNameByte_28 X hret hf hP hS (lv_sub hl [0, 1, 2] rfl)
set_option maxRecDepth 10000 in
theorem kX11_catNameByte_15 {r : Int32} {S1 : MS} {M : MS} {x1 : Int32} {x2 : Int32} {H : Heap} {locs : List Loc} {ls : Array Slot} (X : gX p s m args c cX11_catNameByte 3 RX11 (kR kTab kA)) (hret : gRetI p l e (rmL 3 0 0) s m args below meth c cX11_catNameByte (mΩ ad) (mP dC dI cI kA ad) Q r S1) (hf : fX11_catNameByte_15 M x1 x2 = some (r, S1)) (hP : (mP dC dI cI kA ad) M s H) (hS : va_S (Fr (mΩ ad) s.heap.size) s.heap H locs) (hl : lv_has ls 3 [(0, .ref (ad 25)), (1, .int x1), (2, .int x2)]) : W p l e (rmL 3 0 0) s m args below meth c H locs 0 0 Q (F0 m 15 ls []) := by
  have hx := X.hx
  have hb := X.hb
  have hown := X.hown
  have hts := X.hts
  rw [fX11_catNameByte_15] at hf
  refine lv_iload_n hx hb dX11_catNameByte_15 rfl (lv_at hl 2 rfl) ?_
  refine lv_iconst (v := 0) hx hb dX11_catNameByte_16 (by decide) ?_
  refine lv_aload_n hx hb dX11_catNameByte_17 rfl (lv_at hl 0 rfl) ?_
  refine lv_iload_n hx hb dX11_catNameByte_18 rfl (lv_at hl 1 rfl) ?_
  refine lv_iconst (v := 0) hx hb dX11_catNameByte_19 (by decide) ?_
  obtain ⟨q, hc, hf⟩ := bd hf
  refine gCallVR X rfl (vX11_ofCat hc) gRX11_X11_ofCat hdX11_ofCat rfl ⟨by decide, by decide⟩ (gB_blind mOK) (gB_at mOK X hP) (mrec hP) hl.1 (Nat.le_of_ble_eq_true rfl) ⟨Nat.le_refl _, Nat.le_refl _⟩ dX11_catNameByte_20 (As := [.int x1, .int 0]) (rest := [.int 0, .int x2]) rfl ?_
  exact kX11_catNameByte_23 X hret hf hP hS (lv_sub hl [0, 1, 2] rfl)
set_option maxRecDepth 10000 in
theorem kX11_catNameByte_13 {r : Int32} {S1 : MS} {M : MS} {H : Heap} {locs : List Loc} {ls : Array Slot} (X : gX p s m args c cX11_catNameByte 3 RX11 (kR kTab kA)) (hret : gRetI p l e (rmL 3 0 0) s m args below meth c cX11_catNameByte (mΩ ad) (mP dC dI cI kA ad) Q r S1) (hf : fX11_catNameByte_13 M = some (r, S1)) (hP : (mP dC dI cI kA ad) M s H) (hS : va_S (Fr (mΩ ad) s.heap.size) s.heap H locs) (hl : lv_has ls 3 [(0, .ref (ad 25))]) : W p l e (rmL 3 0 0) s m args below meth c H locs 0 0 Q (F0 m 13 ls []) := by
  have hx := X.hx
  have hb := X.hb
  have hown := X.hown
  have hts := X.hts
  rw [fX11_catNameByte_13] at hf
  refine lv_iconst (v := 0) hx hb dX11_catNameByte_13 (by decide) ?_
  cases hf
  exact hret _ _ _ _ dX11_catNameByte_14 hP hS
set_option maxRecDepth 10000 in
theorem kX11_catNameByte_10 {r : Int32} {S1 : MS} {M : MS} {x1 : Int32} {x2 : Int32} {s0 : Int32} {H : Heap} {locs : List Loc} {ls : Array Slot} (X : gX p s m args c cX11_catNameByte 3 RX11 (kR kTab kA)) (hret : gRetI p l e (rmL 3 0 0) s m args below meth c cX11_catNameByte (mΩ ad) (mP dC dI cI kA ad) Q r S1) (hf : fX11_catNameByte_10 M x1 x2 s0 = some (r, S1)) (hP : (mP dC dI cI kA ad) M s H) (hS : va_S (Fr (mΩ ad) s.heap.size) s.heap H locs) (hl : lv_has ls 3 [(0, .ref (ad 25)), (1, .int x1), (2, .int x2)]) : W p l e (rmL 3 0 0) s m args below meth c H locs 0 0 Q (F0 m 10 ls [.int s0]) := by
  have hx := X.hx
  have hb := X.hb
  have hown := X.hown
  have hts := X.hts
  rw [fX11_catNameByte_10] at hf
  refine lv_if_eq (tgt := 15) hx hb dX11_catNameByte_10 (by decide) (fun c1 => ?_) (fun c1 => ?_)
  · exact kX11_catNameByte_15 X hret (ifp c1 hf) hP hS (lv_sub hl [0, 1, 2] rfl)
  · exact kX11_catNameByte_13 X hret (ifn c1 hf) hP hS (lv_sub hl [0] rfl)
set_option maxRecDepth 10000 in
theorem kX11_catNameByte_5 {r : Int32} {S1 : MS} {M : MS} {x1 : Int32} {x2 : Int32} {H : Heap} {locs : List Loc} {ls : Array Slot} (X : gX p s m args c cX11_catNameByte 3 RX11 (kR kTab kA)) (hret : gRetI p l e (rmL 3 0 0) s m args below meth c cX11_catNameByte (mΩ ad) (mP dC dI cI kA ad) Q r S1) (hf : fX11_catNameByte_5 M x1 x2 = some (r, S1)) (hP : (mP dC dI cI kA ad) M s H) (hS : va_S (Fr (mΩ ad) s.heap.size) s.heap H locs) (hl : lv_has ls 3 [(0, .ref (ad 25)), (1, .int x1), (2, .int x2)]) : W p l e (rmL 3 0 0) s m args below meth c H locs 0 0 Q (F0 m 5 ls []) := by
  have hx := X.hx
  have hb := X.hb
  have hown := X.hown
  have hts := X.hts
  rw [fX11_catNameByte_5] at hf
  refine lv_aload_n hx hb dX11_catNameByte_5 rfl (lv_at hl 0 rfl) ?_
  refine lv_iload_n hx hb dX11_catNameByte_6 rfl (lv_at hl 1 rfl) ?_
  obtain ⟨q, hc, hf⟩ := bd hf
  refine gCallVI X mOK rfl (vX11_noCat hc) gRX11_X11_noCat hdX11_noCat rfl ⟨by decide, by decide⟩ hP hS (mrec hP) hl.1 (Nat.le_of_ble_eq_true rfl) ⟨Nat.le_refl _, Nat.le_refl _⟩ dX11_catNameByte_7 (As := [.int x1]) (rest := []) rfl (fun H locs hP hS => ?_)
  exact kX11_catNameByte_10 X hret hf hP hS (lv_sub hl [0, 1, 2] rfl)
set_option maxRecDepth 10000 in
theorem kX11_catNameByte_0 {r : Int32} {S1 : MS} {M : MS} {a1 : Int32} {a2 : Int32} {H : Heap} {locs : List Loc} {ls : Array Slot} (X : gX p s m args c cX11_catNameByte 3 RX11 (kR kTab kA)) (hret : gRetI p l e (rmL 3 0 0) s m args below meth c cX11_catNameByte (mΩ ad) (mP dC dI cI kA ad) Q r S1) (hf : fX11_catNameByte_0 M a1 a2 = some (r, S1)) (hP : (mP dC dI cI kA ad) M s H) (hS : va_S (Fr (mΩ ad) s.heap.size) s.heap H locs) (hl : lv_has ls 3 [(0, .ref (ad 25)), (1, .int a1), (2, .int a2)]) : W p l e (rmL 3 0 0) s m args below meth c H locs 0 0 Q (F0 m 0 ls []) := by
  have hx := X.hx
  have hb := X.hb
  have hown := X.hown
  have hts := X.hts
  rw [fX11_catNameByte_0] at hf
  refine lv_aload_n hx hb dX11_catNameByte_0 rfl (lv_at hl 0 rfl) ?_
  refine lv_iconst (v := 0) hx hb dX11_catNameByte_1 (by decide) ?_
  refine mr_put (k := 7) X hP hS (by decide) rfl rfl rfl rfl tw1672 dX11_catNameByte_2 (fun H locs hP hS => ?_)
  exact kX11_catNameByte_5 X hret hf hP hS (lv_sub hl [0, 1, 2] rfl)
theorem vX11_catNameByte {l : Launch} {dC : Nat → ClassId} {dI : Nat → Nat → Nat} {cI : ClassId} {kA : String → Nat → Nat} {ad : Nat → Nat} {M S1 : MS} {r : Int32} {a1 : Int32} {a2 : Int32} (hf : fX11_catNameByte M a1 a2 = some (r, S1)) : gMetI l yX11_catNameByte cX11_catNameByte 3 (some .int) 3 (mΩ ad) (mP dC dI cI kA ad) (kR kTab kA) [.ref (ad 25), .int a1, .int a2] M r S1 := gEntryI (ty := .int) (by decide) rfl rfl mOK (Nat.le_of_ble_eq_true rfl) (fun p e s m args below meth c Q ls X hP hS hret hl => 
  kX11_catNameByte_0 X hret hf hP hS (lv_sub hl [0, 1, 2] rfl))
set_option maxRecDepth 10000 in
theorem kX11_sackNameByte_43 {r : Int32} {S1 : MS} {M : MS} {s0 : Int32} {H : Heap} {locs : List Loc} {ls : Array Slot} (X : gX p s m args c cX11_sackNameByte 3 RX11 (kR kTab kA)) (hret : gRetI p l e (rmL 3 0 0) s m args below meth c cX11_sackNameByte (mΩ ad) (mP dC dI cI kA ad) Q r S1) (hf : fX11_sackNameByte_43 M s0 = some (r, S1)) (hP : (mP dC dI cI kA ad) M s H) (hS : va_S (Fr (mΩ ad) s.heap.size) s.heap H locs) (hl : lv_has ls 3 [(0, .ref (ad 25))]) : W p l e (rmL 3 0 0) s m args below meth c H locs 0 0 Q (F0 m 43 ls [.int s0]) := by
  have hx := X.hx
  have hb := X.hb
  have hown := X.hown
  have hts := X.hts
  rw [fX11_sackNameByte_43] at hf
  cases hf
  exact hret _ _ _ _ dX11_sackNameByte_43 hP hS
set_option maxRecDepth 10000 in
theorem kX11_sackNameByte_42 {r : Int32} {S1 : MS} {M : MS} {H : Heap} {locs : List Loc} {ls : Array Slot} (X : gX p s m args c cX11_sackNameByte 3 RX11 (kR kTab kA)) (hret : gRetI p l e (rmL 3 0 0) s m args below meth c cX11_sackNameByte (mΩ ad) (mP dC dI cI kA ad) Q r S1) (hf : fX11_sackNameByte_42 M = some (r, S1)) (hP : (mP dC dI cI kA ad) M s H) (hS : va_S (Fr (mΩ ad) s.heap.size) s.heap H locs) (hl : lv_has ls 3 [(0, .ref (ad 25))]) : W p l e (rmL 3 0 0) s m args below meth c H locs 0 0 Q (F0 m 42 ls []) := by
  have hx := X.hx
  have hb := X.hb
  have hown := X.hown
  have hts := X.hts
  rw [fX11_sackNameByte_42] at hf
  refine lv_iconst (v := (-1)) hx hb dX11_sackNameByte_42 (by decide) ?_
  exact kX11_sackNameByte_43 X hret hf hP hS (lv_sub hl [0] rfl)
set_option maxRecDepth 10000 in
theorem kX11_sackNameByte_39 {r : Int32} {S1 : MS} {M : MS} {s0 : Int32} {H : Heap} {locs : List Loc} {ls : Array Slot} (X : gX p s m args c cX11_sackNameByte 3 RX11 (kR kTab kA)) (hret : gRetI p l e (rmL 3 0 0) s m args below meth c cX11_sackNameByte (mΩ ad) (mP dC dI cI kA ad) Q r S1) (hf : fX11_sackNameByte_39 M s0 = some (r, S1)) (hP : (mP dC dI cI kA ad) M s H) (hS : va_S (Fr (mΩ ad) s.heap.size) s.heap H locs) (hl : lv_has ls 3 [(0, .ref (ad 25))]) : W p l e (rmL 3 0 0) s m args below meth c H locs 0 0 Q (F0 m 39 ls [.int s0]) := by
  have hx := X.hx
  have hb := X.hb
  have hown := X.hown
  have hts := X.hts
  rw [fX11_sackNameByte_39] at hf
  refine lv_goto (tgt := 43) hx hb dX11_sackNameByte_39 (by decide) ?_
  exact kX11_sackNameByte_43 X hret hf hP hS (lv_sub hl [0] rfl)
set_option maxRecDepth 10000 in
theorem kX11_sackNameByte_31 {r : Int32} {S1 : MS} {M : MS} {x1 : Int32} {x2 : Int32} {H : Heap} {locs : List Loc} {ls : Array Slot} (X : gX p s m args c cX11_sackNameByte 3 RX11 (kR kTab kA)) (hret : gRetI p l e (rmL 3 0 0) s m args below meth c cX11_sackNameByte (mΩ ad) (mP dC dI cI kA ad) Q r S1) (hf : fX11_sackNameByte_31 M x1 x2 = some (r, S1)) (hP : (mP dC dI cI kA ad) M s H) (hS : va_S (Fr (mΩ ad) s.heap.size) s.heap H locs) (hl : lv_has ls 3 [(0, .ref (ad 25)), (1, .int x1), (2, .int x2)]) : W p l e (rmL 3 0 0) s m args below meth c H locs 0 0 Q (F0 m 31 ls []) := by
  have hx := X.hx
  have hb := X.hb
  have hown := X.hown
  have hts := X.hts
  rw [fX11_sackNameByte_31] at hf
  refine lv_aload_n hx hb dX11_sackNameByte_31 rfl (lv_at hl 0 rfl) ?_
  refine lv_iload_n hx hb dX11_sackNameByte_32 rfl (lv_at hl 1 rfl) ?_
  refine lv_iconst (v := 1) hx hb dX11_sackNameByte_33 (by decide) ?_
  refine lv_iload_n hx hb dX11_sackNameByte_34 rfl (lv_at hl 2 rfl) ?_
  refine lv_iadd hx hb dX11_sackNameByte_35 ?_
  obtain ⟨q, hc, hf⟩ := bd hf
  refine gCallVR X rfl (vX11_ofSack hc) gRX11_X11_ofSack hdX11_ofSack rfl ⟨by decide, by decide⟩ (gB_blind mOK) (gB_at mOK X hP) (mrec hP) hl.1 (Nat.le_of_ble_eq_true rfl) ⟨Nat.le_refl _, Nat.le_refl _⟩ dX11_sackNameByte_36 (As := [.int x1, .int (1 + x2)]) (rest := []) rfl ?_
  exact kX11_sackNameByte_39 X hret hf hP hS (lv_sub hl [0] rfl)
set_option maxRecDepth 10000 in
theorem kX11_sackNameByte_28 {r : Int32} {S1 : MS} {M : MS} {x1 : Int32} {x2 : Int32} {s0 : Int32} {H : Heap} {locs : List Loc} {ls : Array Slot} (X : gX p s m args c cX11_sackNameByte 3 RX11 (kR kTab kA)) (hret : gRetI p l e (rmL 3 0 0) s m args below meth c cX11_sackNameByte (mΩ ad) (mP dC dI cI kA ad) Q r S1) (hf : fX11_sackNameByte_28 M x1 x2 s0 = some (r, S1)) (hP : (mP dC dI cI kA ad) M s H) (hS : va_S (Fr (mΩ ad) s.heap.size) s.heap H locs) (hl : lv_has ls 3 [(0, .ref (ad 25)), (1, .int x1), (2, .int x2)]) : W p l e (rmL 3 0 0) s m args below meth c H locs 0 0 Q (F0 m 28 ls [.int s0]) := by
  have hx := X.hx
  have hb := X.hb
  have hown := X.hown
  have hts := X.hts
  rw [fX11_sackNameByte_28] at hf
  refine lv_if_eq (tgt := 42) hx hb dX11_sackNameByte_28 (by decide) (fun c1 => ?_) (fun c1 => ?_)
  · exact kX11_sackNameByte_42 X hret (ifp c1 hf) hP hS (lv_sub hl [0] rfl)
  · exact kX11_sackNameByte_31 X hret (ifn c1 hf) hP hS (lv_sub hl [0, 1, 2] rfl)
set_option maxRecDepth 10000 in
theorem kX11_sackNameByte_23 {r : Int32} {S1 : MS} {M : MS} {x1 : Int32} {x2 : Int32} {s0 : Int32} {s1 : Int32} {s2 : Int32} {H : Heap} {locs : List Loc} {ls : Array Slot} (X : gX p s m args c cX11_sackNameByte 3 RX11 (kR kTab kA)) (hret : gRetI p l e (rmL 3 0 0) s m args below meth c cX11_sackNameByte (mΩ ad) (mP dC dI cI kA ad) Q r S1) (hf : fX11_sackNameByte_23 M x1 x2 s0 s1 s2 = some (r, S1)) (hP : (mP dC dI cI kA ad) M s H) (hS : va_S (Fr (mΩ ad) s.heap.size) s.heap H locs) (hl : lv_has ls 3 [(0, .ref (ad 25)), (1, .int x1), (2, .int x2)]) : W p l e (rmL 3 0 0) s m args below meth c H locs 0 0 Q (F0 m 23 ls [.int s0, .int s1, .int s2]) := by
  have hx := X.hx
  have hb := X.hb
  have hown := X.hown
  have hts := X.hts
  rw [fX11_sackNameByte_23] at hf
  refine lv_iconst (v := 1) hx hb dX11_sackNameByte_23 (by decide) ?_
  refine lv_isub hx hb dX11_sackNameByte_24 ?_
  obtain ⟨q, hc, hf⟩ := bd hf
  refine gCallSR X rfl (vX11_inRange hc) gRX11_X11_inRange hdX11_inRange rfl ⟨by decide, by decide⟩ (gB_blind mOK) (gB_at mOK X hP) hl.1 (Nat.le_of_ble_eq_true rfl) ⟨Nat.le_refl _, Nat.le_refl _⟩ dX11_sackNameByte_25 (As := [.int s2, .int s1, .int (s0 - 1)]) (rest := []) rfl ?_
  exact kX11_sackNameByte_28 X hret hf hP hS (lv_sub hl [0, 1, 2] rfl)
set_option maxRecDepth 10000 in
theorem kX11_sackNameByte_15 {r : Int32} {S1 : MS} {M : MS} {x1 : Int32} {x2 : Int32} {H : Heap} {locs : List Loc} {ls : Array Slot} (X : gX p s m args c cX11_sackNameByte 3 RX11 (kR kTab kA)) (hret : gRetI p l e (rmL 3 0 0) s m args below meth c cX11_sackNameByte (mΩ ad) (mP dC dI cI kA ad) Q r S1) (hf : fX11_sackNameByte_15 M x1 x2 = some (r, S1)) (hP : (mP dC dI cI kA ad) M s H) (hS : va_S (Fr (mΩ ad) s.heap.size) s.heap H locs) (hl : lv_has ls 3 [(0, .ref (ad 25)), (1, .int x1), (2, .int x2)]) : W p l e (rmL 3 0 0) s m args below meth c H locs 0 0 Q (F0 m 15 ls []) := by
  have hx := X.hx
  have hb := X.hb
  have hown := X.hown
  have hts := X.hts
  rw [fX11_sackNameByte_15] at hf
  refine lv_iload_n hx hb dX11_sackNameByte_15 rfl (lv_at hl 2 rfl) ?_
  refine lv_iconst (v := 0) hx hb dX11_sackNameByte_16 (by decide) ?_
  refine lv_aload_n hx hb dX11_sackNameByte_17 rfl (lv_at hl 0 rfl) ?_
  refine lv_iload_n hx hb dX11_sackNameByte_18 rfl (lv_at hl 1 rfl) ?_
  refine lv_iconst (v := 0) hx hb dX11_sackNameByte_19 (by decide) ?_
  obtain ⟨q, hc, hf⟩ := bd hf
  refine gCallVR X rfl (vX11_ofSack hc) gRX11_X11_ofSack hdX11_ofSack rfl ⟨by decide, by decide⟩ (gB_blind mOK) (gB_at mOK X hP) (mrec hP) hl.1 (Nat.le_of_ble_eq_true rfl) ⟨Nat.le_refl _, Nat.le_refl _⟩ dX11_sackNameByte_20 (As := [.int x1, .int 0]) (rest := [.int 0, .int x2]) rfl ?_
  exact kX11_sackNameByte_23 X hret hf hP hS (lv_sub hl [0, 1, 2] rfl)
set_option maxRecDepth 10000 in
theorem kX11_sackNameByte_13 {r : Int32} {S1 : MS} {M : MS} {H : Heap} {locs : List Loc} {ls : Array Slot} (X : gX p s m args c cX11_sackNameByte 3 RX11 (kR kTab kA)) (hret : gRetI p l e (rmL 3 0 0) s m args below meth c cX11_sackNameByte (mΩ ad) (mP dC dI cI kA ad) Q r S1) (hf : fX11_sackNameByte_13 M = some (r, S1)) (hP : (mP dC dI cI kA ad) M s H) (hS : va_S (Fr (mΩ ad) s.heap.size) s.heap H locs) (hl : lv_has ls 3 [(0, .ref (ad 25))]) : W p l e (rmL 3 0 0) s m args below meth c H locs 0 0 Q (F0 m 13 ls []) := by
  have hx := X.hx
  have hb := X.hb
  have hown := X.hown
  have hts := X.hts
  rw [fX11_sackNameByte_13] at hf
  refine lv_iconst (v := 0) hx hb dX11_sackNameByte_13 (by decide) ?_
  cases hf
  exact hret _ _ _ _ dX11_sackNameByte_14 hP hS
set_option maxRecDepth 10000 in
theorem kX11_sackNameByte_10 {r : Int32} {S1 : MS} {M : MS} {x1 : Int32} {x2 : Int32} {s0 : Int32} {H : Heap} {locs : List Loc} {ls : Array Slot} (X : gX p s m args c cX11_sackNameByte 3 RX11 (kR kTab kA)) (hret : gRetI p l e (rmL 3 0 0) s m args below meth c cX11_sackNameByte (mΩ ad) (mP dC dI cI kA ad) Q r S1) (hf : fX11_sackNameByte_10 M x1 x2 s0 = some (r, S1)) (hP : (mP dC dI cI kA ad) M s H) (hS : va_S (Fr (mΩ ad) s.heap.size) s.heap H locs) (hl : lv_has ls 3 [(0, .ref (ad 25)), (1, .int x1), (2, .int x2)]) : W p l e (rmL 3 0 0) s m args below meth c H locs 0 0 Q (F0 m 10 ls [.int s0]) := by
  have hx := X.hx
  have hb := X.hb
  have hown := X.hown
  have hts := X.hts
  rw [fX11_sackNameByte_10] at hf
  refine lv_if_eq (tgt := 15) hx hb dX11_sackNameByte_10 (by decide) (fun c1 => ?_) (fun c1 => ?_)
  · exact kX11_sackNameByte_15 X hret (ifp c1 hf) hP hS (lv_sub hl [0, 1, 2] rfl)
  · exact kX11_sackNameByte_13 X hret (ifn c1 hf) hP hS (lv_sub hl [0] rfl)
set_option maxRecDepth 10000 in
theorem kX11_sackNameByte_5 {r : Int32} {S1 : MS} {M : MS} {x1 : Int32} {x2 : Int32} {H : Heap} {locs : List Loc} {ls : Array Slot} (X : gX p s m args c cX11_sackNameByte 3 RX11 (kR kTab kA)) (hret : gRetI p l e (rmL 3 0 0) s m args below meth c cX11_sackNameByte (mΩ ad) (mP dC dI cI kA ad) Q r S1) (hf : fX11_sackNameByte_5 M x1 x2 = some (r, S1)) (hP : (mP dC dI cI kA ad) M s H) (hS : va_S (Fr (mΩ ad) s.heap.size) s.heap H locs) (hl : lv_has ls 3 [(0, .ref (ad 25)), (1, .int x1), (2, .int x2)]) : W p l e (rmL 3 0 0) s m args below meth c H locs 0 0 Q (F0 m 5 ls []) := by
  have hx := X.hx
  have hb := X.hb
  have hown := X.hown
  have hts := X.hts
  rw [fX11_sackNameByte_5] at hf
  refine lv_aload_n hx hb dX11_sackNameByte_5 rfl (lv_at hl 0 rfl) ?_
  refine lv_iload_n hx hb dX11_sackNameByte_6 rfl (lv_at hl 1 rfl) ?_
  obtain ⟨q, hc, hf⟩ := bd hf
  refine gCallVI X mOK rfl (vX11_noSack hc) gRX11_X11_noSack hdX11_noSack rfl ⟨by decide, by decide⟩ hP hS (mrec hP) hl.1 (Nat.le_of_ble_eq_true rfl) ⟨Nat.le_refl _, Nat.le_refl _⟩ dX11_sackNameByte_7 (As := [.int x1]) (rest := []) rfl (fun H locs hP hS => ?_)
  exact kX11_sackNameByte_10 X hret hf hP hS (lv_sub hl [0, 1, 2] rfl)
set_option maxRecDepth 10000 in
theorem kX11_sackNameByte_0 {r : Int32} {S1 : MS} {M : MS} {a1 : Int32} {a2 : Int32} {H : Heap} {locs : List Loc} {ls : Array Slot} (X : gX p s m args c cX11_sackNameByte 3 RX11 (kR kTab kA)) (hret : gRetI p l e (rmL 3 0 0) s m args below meth c cX11_sackNameByte (mΩ ad) (mP dC dI cI kA ad) Q r S1) (hf : fX11_sackNameByte_0 M a1 a2 = some (r, S1)) (hP : (mP dC dI cI kA ad) M s H) (hS : va_S (Fr (mΩ ad) s.heap.size) s.heap H locs) (hl : lv_has ls 3 [(0, .ref (ad 25)), (1, .int a1), (2, .int a2)]) : W p l e (rmL 3 0 0) s m args below meth c H locs 0 0 Q (F0 m 0 ls []) := by
  have hx := X.hx
  have hb := X.hb
  have hown := X.hown
  have hts := X.hts
  rw [fX11_sackNameByte_0] at hf
  refine lv_aload_n hx hb dX11_sackNameByte_0 rfl (lv_at hl 0 rfl) ?_
  refine lv_iconst (v := 0) hx hb dX11_sackNameByte_1 (by decide) ?_
  refine mr_put (k := 7) X hP hS (by decide) rfl rfl rfl rfl tw1672 dX11_sackNameByte_2 (fun H locs hP hS => ?_)
  exact kX11_sackNameByte_5 X hret hf hP hS (lv_sub hl [0, 1, 2] rfl)
theorem vX11_sackNameByte {l : Launch} {dC : Nat → ClassId} {dI : Nat → Nat → Nat} {cI : ClassId} {kA : String → Nat → Nat} {ad : Nat → Nat} {M S1 : MS} {r : Int32} {a1 : Int32} {a2 : Int32} (hf : fX11_sackNameByte M a1 a2 = some (r, S1)) : gMetI l yX11_sackNameByte cX11_sackNameByte 3 (some .int) 3 (mΩ ad) (mP dC dI cI kA ad) (kR kTab kA) [.ref (ad 25), .int a1, .int a2] M r S1 := gEntryI (ty := .int) (by decide) rfl rfl mOK (Nat.le_of_ble_eq_true rfl) (fun p e s m args below meth c Q ls X hP hS hret hl => 
  kX11_sackNameByte_0 X hret hf hP hS (lv_sub hl [0, 1, 2] rfl))
set_option maxRecDepth 10000 in
theorem kX11_isLeftPawed_29 {r : Int32} {S1 : MS} {M : MS} {s0 : Int32} {H : Heap} {locs : List Loc} {ls : Array Slot} (X : gX p s m args c cX11_isLeftPawed 2 RX11 (kR kTab kA)) (hret : gRetI p l e (rmL 3 0 0) s m args below meth c cX11_isLeftPawed (mΩ ad) (mP dC dI cI kA ad) Q r S1) (hf : fX11_isLeftPawed_29 M s0 = some (r, S1)) (hP : (mP dC dI cI kA ad) M s H) (hS : va_S (Fr (mΩ ad) s.heap.size) s.heap H locs) (hl : lv_has ls 2 [(0, .ref (ad 25))]) : W p l e (rmL 3 0 0) s m args below meth c H locs 0 0 Q (F0 m 29 ls [.int s0]) := by
  have hx := X.hx
  have hb := X.hb
  have hown := X.hown
  have hts := X.hts
  rw [fX11_isLeftPawed_29] at hf
  cases hf
  exact hret _ _ _ _ dX11_isLeftPawed_29 hP hS
set_option maxRecDepth 10000 in
theorem kX11_isLeftPawed_28 {r : Int32} {S1 : MS} {M : MS} {H : Heap} {locs : List Loc} {ls : Array Slot} (X : gX p s m args c cX11_isLeftPawed 2 RX11 (kR kTab kA)) (hret : gRetI p l e (rmL 3 0 0) s m args below meth c cX11_isLeftPawed (mΩ ad) (mP dC dI cI kA ad) Q r S1) (hf : fX11_isLeftPawed_28 M = some (r, S1)) (hP : (mP dC dI cI kA ad) M s H) (hS : va_S (Fr (mΩ ad) s.heap.size) s.heap H locs) (hl : lv_has ls 2 [(0, .ref (ad 25))]) : W p l e (rmL 3 0 0) s m args below meth c H locs 0 0 Q (F0 m 28 ls []) := by
  have hx := X.hx
  have hb := X.hb
  have hown := X.hown
  have hts := X.hts
  rw [fX11_isLeftPawed_28] at hf
  refine lv_iconst (v := 0) hx hb dX11_isLeftPawed_28 (by decide) ?_
  exact kX11_isLeftPawed_29 X hret hf hP hS (lv_sub hl [0] rfl)
set_option maxRecDepth 10000 in
theorem kX11_isLeftPawed_24 {r : Int32} {S1 : MS} {M : MS} {H : Heap} {locs : List Loc} {ls : Array Slot} (X : gX p s m args c cX11_isLeftPawed 2 RX11 (kR kTab kA)) (hret : gRetI p l e (rmL 3 0 0) s m args below meth c cX11_isLeftPawed (mΩ ad) (mP dC dI cI kA ad) Q r S1) (hf : fX11_isLeftPawed_24 M = some (r, S1)) (hP : (mP dC dI cI kA ad) M s H) (hS : va_S (Fr (mΩ ad) s.heap.size) s.heap H locs) (hl : lv_has ls 2 [(0, .ref (ad 25))]) : W p l e (rmL 3 0 0) s m args below meth c H locs 0 0 Q (F0 m 24 ls []) := by
  have hx := X.hx
  have hb := X.hb
  have hown := X.hown
  have hts := X.hts
  rw [fX11_isLeftPawed_24] at hf
  refine lv_iconst (v := 1) hx hb dX11_isLeftPawed_24 (by decide) ?_
  refine lv_goto (tgt := 29) hx hb dX11_isLeftPawed_25 (by decide) ?_
  exact kX11_isLeftPawed_29 X hret hf hP hS (lv_sub hl [0] rfl)
set_option maxRecDepth 10000 in
theorem kX11_isLeftPawed_20 {r : Int32} {S1 : MS} {M : MS} {s0 : Int32} {H : Heap} {locs : List Loc} {ls : Array Slot} (X : gX p s m args c cX11_isLeftPawed 2 RX11 (kR kTab kA)) (hret : gRetI p l e (rmL 3 0 0) s m args below meth c cX11_isLeftPawed (mΩ ad) (mP dC dI cI kA ad) Q r S1) (hf : fX11_isLeftPawed_20 M s0 = some (r, S1)) (hP : (mP dC dI cI kA ad) M s H) (hS : va_S (Fr (mΩ ad) s.heap.size) s.heap H locs) (hl : lv_has ls 2 [(0, .ref (ad 25))]) : W p l e (rmL 3 0 0) s m args below meth c H locs 0 0 Q (F0 m 20 ls [.int s0]) := by
  have hx := X.hx
  have hb := X.hb
  have hown := X.hown
  have hts := X.hts
  rw [fX11_isLeftPawed_20] at hf
  refine lv_iconst (v := 1) hx hb dX11_isLeftPawed_20 (by decide) ?_
  refine lv_icmp_ne (tgt := 28) hx hb dX11_isLeftPawed_21 (by decide) (fun c1 => ?_) (fun c1 => ?_)
  · exact kX11_isLeftPawed_28 X hret (ifn c1 hf) hP hS (lv_sub hl [0] rfl)
  · exact kX11_isLeftPawed_24 X hret (ifp c1 hf) hP hS (lv_sub hl [0] rfl)
set_option maxRecDepth 10000 in
theorem kX11_isLeftPawed_13 {r : Int32} {S1 : MS} {M : MS} {x1 : Int32} {H : Heap} {locs : List Loc} {ls : Array Slot} (X : gX p s m args c cX11_isLeftPawed 2 RX11 (kR kTab kA)) (hret : gRetI p l e (rmL 3 0 0) s m args below meth c cX11_isLeftPawed (mΩ ad) (mP dC dI cI kA ad) Q r S1) (hf : fX11_isLeftPawed_13 M x1 = some (r, S1)) (hP : (mP dC dI cI kA ad) M s H) (hS : va_S (Fr (mΩ ad) s.heap.size) s.heap H locs) (hl : lv_has ls 2 [(0, .ref (ad 25)), (1, .int x1)]) : W p l e (rmL 3 0 0) s m args below meth c H locs 0 0 Q (F0 m 13 ls []) := by
  have hx := X.hx
  have hb := X.hb
  have hown := X.hown
  have hts := X.hts
  rw [fX11_isLeftPawed_13] at hf
  refine lv_aload_n hx hb dX11_isLeftPawed_13 rfl (lv_at hl 0 rfl) ?_
  refine lv_iload_n hx hb dX11_isLeftPawed_14 rfl (lv_at hl 1 rfl) ?_
  refine lv_bipush (v := 8) hx hb dX11_isLeftPawed_15 (by decide) ?_
  obtain ⟨q, hc, hf⟩ := bd hf
  refine gCallVR X rfl (vX11_ofCat hc) gRX11_X11_ofCat hdX11_ofCat rfl ⟨by decide, by decide⟩ (gB_blind mOK) (gB_at mOK X hP) (mrec hP) hl.1 (Nat.le_of_ble_eq_true rfl) ⟨Nat.le_refl _, Nat.le_refl _⟩ dX11_isLeftPawed_17 (As := [.int x1, .int 8]) (rest := []) rfl ?_
  exact kX11_isLeftPawed_20 X hret hf hP hS (lv_sub hl [0] rfl)
set_option maxRecDepth 10000 in
theorem kX11_isLeftPawed_10 {r : Int32} {S1 : MS} {M : MS} {x1 : Int32} {s0 : Int32} {H : Heap} {locs : List Loc} {ls : Array Slot} (X : gX p s m args c cX11_isLeftPawed 2 RX11 (kR kTab kA)) (hret : gRetI p l e (rmL 3 0 0) s m args below meth c cX11_isLeftPawed (mΩ ad) (mP dC dI cI kA ad) Q r S1) (hf : fX11_isLeftPawed_10 M x1 s0 = some (r, S1)) (hP : (mP dC dI cI kA ad) M s H) (hS : va_S (Fr (mΩ ad) s.heap.size) s.heap H locs) (hl : lv_has ls 2 [(0, .ref (ad 25)), (1, .int x1)]) : W p l e (rmL 3 0 0) s m args below meth c H locs 0 0 Q (F0 m 10 ls [.int s0]) := by
  have hx := X.hx
  have hb := X.hb
  have hown := X.hown
  have hts := X.hts
  rw [fX11_isLeftPawed_10] at hf
  refine lv_if_ne (tgt := 28) hx hb dX11_isLeftPawed_10 (by decide) (fun c1 => ?_) (fun c1 => ?_)
  · exact kX11_isLeftPawed_28 X hret (ifn c1 hf) hP hS (lv_sub hl [0] rfl)
  · exact kX11_isLeftPawed_13 X hret (ifp c1 hf) hP hS (lv_sub hl [0, 1] rfl)
set_option maxRecDepth 10000 in
theorem kX11_isLeftPawed_5 {r : Int32} {S1 : MS} {M : MS} {x1 : Int32} {H : Heap} {locs : List Loc} {ls : Array Slot} (X : gX p s m args c cX11_isLeftPawed 2 RX11 (kR kTab kA)) (hret : gRetI p l e (rmL 3 0 0) s m args below meth c cX11_isLeftPawed (mΩ ad) (mP dC dI cI kA ad) Q r S1) (hf : fX11_isLeftPawed_5 M x1 = some (r, S1)) (hP : (mP dC dI cI kA ad) M s H) (hS : va_S (Fr (mΩ ad) s.heap.size) s.heap H locs) (hl : lv_has ls 2 [(0, .ref (ad 25)), (1, .int x1)]) : W p l e (rmL 3 0 0) s m args below meth c H locs 0 0 Q (F0 m 5 ls []) := by
  have hx := X.hx
  have hb := X.hb
  have hown := X.hown
  have hts := X.hts
  rw [fX11_isLeftPawed_5] at hf
  refine lv_aload_n hx hb dX11_isLeftPawed_5 rfl (lv_at hl 0 rfl) ?_
  refine lv_iload_n hx hb dX11_isLeftPawed_6 rfl (lv_at hl 1 rfl) ?_
  obtain ⟨q, hc, hf⟩ := bd hf
  refine gCallVI X mOK rfl (vX11_noCat hc) gRX11_X11_noCat hdX11_noCat rfl ⟨by decide, by decide⟩ hP hS (mrec hP) hl.1 (Nat.le_of_ble_eq_true rfl) ⟨Nat.le_refl _, Nat.le_refl _⟩ dX11_isLeftPawed_7 (As := [.int x1]) (rest := []) rfl (fun H locs hP hS => ?_)
  exact kX11_isLeftPawed_10 X hret hf hP hS (lv_sub hl [0, 1] rfl)
set_option maxRecDepth 10000 in
theorem kX11_isLeftPawed_0 {r : Int32} {S1 : MS} {M : MS} {a1 : Int32} {H : Heap} {locs : List Loc} {ls : Array Slot} (X : gX p s m args c cX11_isLeftPawed 2 RX11 (kR kTab kA)) (hret : gRetI p l e (rmL 3 0 0) s m args below meth c cX11_isLeftPawed (mΩ ad) (mP dC dI cI kA ad) Q r S1) (hf : fX11_isLeftPawed_0 M a1 = some (r, S1)) (hP : (mP dC dI cI kA ad) M s H) (hS : va_S (Fr (mΩ ad) s.heap.size) s.heap H locs) (hl : lv_has ls 2 [(0, .ref (ad 25)), (1, .int a1)]) : W p l e (rmL 3 0 0) s m args below meth c H locs 0 0 Q (F0 m 0 ls []) := by
  have hx := X.hx
  have hb := X.hb
  have hown := X.hown
  have hts := X.hts
  rw [fX11_isLeftPawed_0] at hf
  refine lv_aload_n hx hb dX11_isLeftPawed_0 rfl (lv_at hl 0 rfl) ?_
  refine lv_iconst (v := 0) hx hb dX11_isLeftPawed_1 (by decide) ?_
  refine mr_put (k := 7) X hP hS (by decide) rfl rfl rfl rfl tw1672 dX11_isLeftPawed_2 (fun H locs hP hS => ?_)
  exact kX11_isLeftPawed_5 X hret hf hP hS (lv_sub hl [0, 1] rfl)
theorem vX11_isLeftPawed {l : Launch} {dC : Nat → ClassId} {dI : Nat → Nat → Nat} {cI : ClassId} {kA : String → Nat → Nat} {ad : Nat → Nat} {M S1 : MS} {r : Int32} {a1 : Int32} (hf : fX11_isLeftPawed M a1 = some (r, S1)) : gMetI l yX11_isLeftPawed cX11_isLeftPawed 2 (some .boolean) 3 (mΩ ad) (mP dC dI cI kA ad) (kR kTab kA) [.ref (ad 25), .int a1] M r S1 := gEntryI (ty := .boolean) (by decide) rfl (bz_n hf) mOK (Nat.le_of_ble_eq_true rfl) (fun p e s m args below meth c Q ls X hP hS hret hl => 
  kX11_isLeftPawed_0 X hret (bz_f hf) hP hS (lv_sub hl [0, 1] rfl))
set_option maxRecDepth 10000 in
theorem kX11_isOpen_26 {r : Int32} {S1 : MS} {M : MS} {s0 : Int32} {H : Heap} {locs : List Loc} {ls : Array Slot} (X : gX p s m args c cX11_isOpen 2 RX11 (kR kTab kA)) (hret : gRetI p l e (rmL 3 0 0) s m args below meth c cX11_isOpen (mΩ ad) (mP dC dI cI kA ad) Q r S1) (hf : fX11_isOpen_26 M s0 = some (r, S1)) (hP : (mP dC dI cI kA ad) M s H) (hS : va_S (Fr (mΩ ad) s.heap.size) s.heap H locs) (hl : lv_has ls 2 [(0, .ref (ad 25))]) : W p l e (rmL 3 0 0) s m args below meth c H locs 0 0 Q (F0 m 26 ls [.int s0]) := by
  have hx := X.hx
  have hb := X.hb
  have hown := X.hown
  have hts := X.hts
  rw [fX11_isOpen_26] at hf
  cases hf
  exact hret _ _ _ _ dX11_isOpen_26 hP hS
set_option maxRecDepth 10000 in
theorem kX11_isOpen_25 {r : Int32} {S1 : MS} {M : MS} {H : Heap} {locs : List Loc} {ls : Array Slot} (X : gX p s m args c cX11_isOpen 2 RX11 (kR kTab kA)) (hret : gRetI p l e (rmL 3 0 0) s m args below meth c cX11_isOpen (mΩ ad) (mP dC dI cI kA ad) Q r S1) (hf : fX11_isOpen_25 M = some (r, S1)) (hP : (mP dC dI cI kA ad) M s H) (hS : va_S (Fr (mΩ ad) s.heap.size) s.heap H locs) (hl : lv_has ls 2 [(0, .ref (ad 25))]) : W p l e (rmL 3 0 0) s m args below meth c H locs 0 0 Q (F0 m 25 ls []) := by
  have hx := X.hx
  have hb := X.hb
  have hown := X.hown
  have hts := X.hts
  rw [fX11_isOpen_25] at hf
  refine lv_iconst (v := 0) hx hb dX11_isOpen_25 (by decide) ?_
  exact kX11_isOpen_26 X hret hf hP hS (lv_sub hl [0] rfl)
set_option maxRecDepth 10000 in
theorem kX11_isOpen_21 {r : Int32} {S1 : MS} {M : MS} {H : Heap} {locs : List Loc} {ls : Array Slot} (X : gX p s m args c cX11_isOpen 2 RX11 (kR kTab kA)) (hret : gRetI p l e (rmL 3 0 0) s m args below meth c cX11_isOpen (mΩ ad) (mP dC dI cI kA ad) Q r S1) (hf : fX11_isOpen_21 M = some (r, S1)) (hP : (mP dC dI cI kA ad) M s H) (hS : va_S (Fr (mΩ ad) s.heap.size) s.heap H locs) (hl : lv_has ls 2 [(0, .ref (ad 25))]) : W p l e (rmL 3 0 0) s m args below meth c H locs 0 0 Q (F0 m 21 ls []) := by
  have hx := X.hx
  have hb := X.hb
  have hown := X.hown
  have hts := X.hts
  rw [fX11_isOpen_21] at hf
  refine lv_iconst (v := 1) hx hb dX11_isOpen_21 (by decide) ?_
  refine lv_goto (tgt := 26) hx hb dX11_isOpen_22 (by decide) ?_
  exact kX11_isOpen_26 X hret hf hP hS (lv_sub hl [0] rfl)
set_option maxRecDepth 10000 in
theorem kX11_isOpen_18 {r : Int32} {S1 : MS} {M : MS} {s0 : Int32} {H : Heap} {locs : List Loc} {ls : Array Slot} (X : gX p s m args c cX11_isOpen 2 RX11 (kR kTab kA)) (hret : gRetI p l e (rmL 3 0 0) s m args below meth c cX11_isOpen (mΩ ad) (mP dC dI cI kA ad) Q r S1) (hf : fX11_isOpen_18 M s0 = some (r, S1)) (hP : (mP dC dI cI kA ad) M s H) (hS : va_S (Fr (mΩ ad) s.heap.size) s.heap H locs) (hl : lv_has ls 2 [(0, .ref (ad 25))]) : W p l e (rmL 3 0 0) s m args below meth c H locs 0 0 Q (F0 m 18 ls [.int s0]) := by
  have hx := X.hx
  have hb := X.hb
  have hown := X.hown
  have hts := X.hts
  rw [fX11_isOpen_18] at hf
  refine lv_if_eq (tgt := 25) hx hb dX11_isOpen_18 (by decide) (fun c1 => ?_) (fun c1 => ?_)
  · exact kX11_isOpen_25 X hret (ifp c1 hf) hP hS (lv_sub hl [0] rfl)
  · exact kX11_isOpen_21 X hret (ifn c1 hf) hP hS (lv_sub hl [0] rfl)
set_option maxRecDepth 10000 in
theorem kX11_isOpen_13 {r : Int32} {S1 : MS} {M : MS} {x1 : Int32} {H : Heap} {locs : List Loc} {ls : Array Slot} (X : gX p s m args c cX11_isOpen 2 RX11 (kR kTab kA)) (hret : gRetI p l e (rmL 3 0 0) s m args below meth c cX11_isOpen (mΩ ad) (mP dC dI cI kA ad) Q r S1) (hf : fX11_isOpen_13 M x1 = some (r, S1)) (hP : (mP dC dI cI kA ad) M s H) (hS : va_S (Fr (mΩ ad) s.heap.size) s.heap H locs) (hl : lv_has ls 2 [(0, .ref (ad 25)), (1, .int x1)]) : W p l e (rmL 3 0 0) s m args below meth c H locs 0 0 Q (F0 m 13 ls []) := by
  have hx := X.hx
  have hb := X.hb
  have hown := X.hown
  have hts := X.hts
  rw [fX11_isOpen_13] at hf
  refine lv_aload_n hx hb dX11_isOpen_13 rfl (lv_at hl 0 rfl) ?_
  refine lv_iload_n hx hb dX11_isOpen_14 rfl (lv_at hl 1 rfl) ?_
  obtain ⟨q, hc, hf⟩ := bd hf
  refine gCallVR X rfl (vX11_isOpenSack hc) gRX11_X11_isOpenSack hdX11_isOpenSack rfl ⟨by decide, by decide⟩ (gB_blind mOK) (gB_at mOK X hP) (mrec hP) hl.1 (Nat.le_of_ble_eq_true rfl) ⟨Nat.le_refl _, Nat.le_refl _⟩ dX11_isOpen_15 (As := [.int x1]) (rest := []) rfl ?_
  exact kX11_isOpen_18 X hret hf hP hS (lv_sub hl [0] rfl)
set_option maxRecDepth 10000 in
theorem kX11_isOpen_10 {r : Int32} {S1 : MS} {M : MS} {x1 : Int32} {s0 : Int32} {H : Heap} {locs : List Loc} {ls : Array Slot} (X : gX p s m args c cX11_isOpen 2 RX11 (kR kTab kA)) (hret : gRetI p l e (rmL 3 0 0) s m args below meth c cX11_isOpen (mΩ ad) (mP dC dI cI kA ad) Q r S1) (hf : fX11_isOpen_10 M x1 s0 = some (r, S1)) (hP : (mP dC dI cI kA ad) M s H) (hS : va_S (Fr (mΩ ad) s.heap.size) s.heap H locs) (hl : lv_has ls 2 [(0, .ref (ad 25)), (1, .int x1)]) : W p l e (rmL 3 0 0) s m args below meth c H locs 0 0 Q (F0 m 10 ls [.int s0]) := by
  have hx := X.hx
  have hb := X.hb
  have hown := X.hown
  have hts := X.hts
  rw [fX11_isOpen_10] at hf
  refine lv_if_ne (tgt := 25) hx hb dX11_isOpen_10 (by decide) (fun c1 => ?_) (fun c1 => ?_)
  · exact kX11_isOpen_25 X hret (ifn c1 hf) hP hS (lv_sub hl [0] rfl)
  · exact kX11_isOpen_13 X hret (ifp c1 hf) hP hS (lv_sub hl [0, 1] rfl)
set_option maxRecDepth 10000 in
theorem kX11_isOpen_5 {r : Int32} {S1 : MS} {M : MS} {x1 : Int32} {H : Heap} {locs : List Loc} {ls : Array Slot} (X : gX p s m args c cX11_isOpen 2 RX11 (kR kTab kA)) (hret : gRetI p l e (rmL 3 0 0) s m args below meth c cX11_isOpen (mΩ ad) (mP dC dI cI kA ad) Q r S1) (hf : fX11_isOpen_5 M x1 = some (r, S1)) (hP : (mP dC dI cI kA ad) M s H) (hS : va_S (Fr (mΩ ad) s.heap.size) s.heap H locs) (hl : lv_has ls 2 [(0, .ref (ad 25)), (1, .int x1)]) : W p l e (rmL 3 0 0) s m args below meth c H locs 0 0 Q (F0 m 5 ls []) := by
  have hx := X.hx
  have hb := X.hb
  have hown := X.hown
  have hts := X.hts
  rw [fX11_isOpen_5] at hf
  refine lv_aload_n hx hb dX11_isOpen_5 rfl (lv_at hl 0 rfl) ?_
  refine lv_iload_n hx hb dX11_isOpen_6 rfl (lv_at hl 1 rfl) ?_
  obtain ⟨q, hc, hf⟩ := bd hf
  refine gCallVI X mOK rfl (vX11_noSack hc) gRX11_X11_noSack hdX11_noSack rfl ⟨by decide, by decide⟩ hP hS (mrec hP) hl.1 (Nat.le_of_ble_eq_true rfl) ⟨Nat.le_refl _, Nat.le_refl _⟩ dX11_isOpen_7 (As := [.int x1]) (rest := []) rfl (fun H locs hP hS => ?_)
  exact kX11_isOpen_10 X hret hf hP hS (lv_sub hl [0, 1] rfl)
set_option maxRecDepth 10000 in
theorem kX11_isOpen_0 {r : Int32} {S1 : MS} {M : MS} {a1 : Int32} {H : Heap} {locs : List Loc} {ls : Array Slot} (X : gX p s m args c cX11_isOpen 2 RX11 (kR kTab kA)) (hret : gRetI p l e (rmL 3 0 0) s m args below meth c cX11_isOpen (mΩ ad) (mP dC dI cI kA ad) Q r S1) (hf : fX11_isOpen_0 M a1 = some (r, S1)) (hP : (mP dC dI cI kA ad) M s H) (hS : va_S (Fr (mΩ ad) s.heap.size) s.heap H locs) (hl : lv_has ls 2 [(0, .ref (ad 25)), (1, .int a1)]) : W p l e (rmL 3 0 0) s m args below meth c H locs 0 0 Q (F0 m 0 ls []) := by
  have hx := X.hx
  have hb := X.hb
  have hown := X.hown
  have hts := X.hts
  rw [fX11_isOpen_0] at hf
  refine lv_aload_n hx hb dX11_isOpen_0 rfl (lv_at hl 0 rfl) ?_
  refine lv_iconst (v := 0) hx hb dX11_isOpen_1 (by decide) ?_
  refine mr_put (k := 7) X hP hS (by decide) rfl rfl rfl rfl tw1672 dX11_isOpen_2 (fun H locs hP hS => ?_)
  exact kX11_isOpen_5 X hret hf hP hS (lv_sub hl [0, 1] rfl)
theorem vX11_isOpen {l : Launch} {dC : Nat → ClassId} {dI : Nat → Nat → Nat} {cI : ClassId} {kA : String → Nat → Nat} {ad : Nat → Nat} {M S1 : MS} {r : Int32} {a1 : Int32} (hf : fX11_isOpen M a1 = some (r, S1)) : gMetI l yX11_isOpen cX11_isOpen 2 (some .boolean) 3 (mΩ ad) (mP dC dI cI kA ad) (kR kTab kA) [.ref (ad 25), .int a1] M r S1 := gEntryI (ty := .boolean) (by decide) rfl (bz_n hf) mOK (Nat.le_of_ble_eq_true rfl) (fun p e s m args below meth c Q ls X hP hS hret hl => 
  kX11_isOpen_0 X hret (bz_f hf) hP hS (lv_sub hl [0, 1] rfl))
set_option maxRecDepth 10000 in
theorem kX11_catOfShift_22 {r : Int32} {S1 : MS} {M : MS} {s0 : Int32} {H : Heap} {locs : List Loc} {ls : Array Slot} (X : gX p s m args c cX11_catOfShift 2 RX11 (kR kTab kA)) (hret : gRetI p l e (rmL 3 0 0) s m args below meth c cX11_catOfShift (mΩ ad) (mP dC dI cI kA ad) Q r S1) (hf : fX11_catOfShift_22 M s0 = some (r, S1)) (hP : (mP dC dI cI kA ad) M s H) (hS : va_S (Fr (mΩ ad) s.heap.size) s.heap H locs) (hl : lv_has ls 2 [(0, .ref (ad 25))]) : W p l e (rmL 3 0 0) s m args below meth c H locs 0 0 Q (F0 m 22 ls [.int s0]) := by
  have hx := X.hx
  have hb := X.hb
  have hown := X.hown
  have hts := X.hts
  rw [fX11_catOfShift_22] at hf
  cases hf
  exact hret _ _ _ _ dX11_catOfShift_22 hP hS
set_option maxRecDepth 10000 in
theorem kX11_catOfShift_17 {r : Int32} {S1 : MS} {M : MS} {x1 : Int32} {H : Heap} {locs : List Loc} {ls : Array Slot} (X : gX p s m args c cX11_catOfShift 2 RX11 (kR kTab kA)) (hret : gRetI p l e (rmL 3 0 0) s m args below meth c cX11_catOfShift (mΩ ad) (mP dC dI cI kA ad) Q r S1) (hf : fX11_catOfShift_17 M x1 = some (r, S1)) (hP : (mP dC dI cI kA ad) M s H) (hS : va_S (Fr (mΩ ad) s.heap.size) s.heap H locs) (hl : lv_has ls 2 [(0, .ref (ad 25)), (1, .int x1)]) : W p l e (rmL 3 0 0) s m args below meth c H locs 0 0 Q (F0 m 17 ls []) := by
  have hx := X.hx
  have hb := X.hb
  have hown := X.hown
  have hts := X.hts
  rw [fX11_catOfShift_17] at hf
  refine lv_aload_n hx hb dX11_catOfShift_17 rfl (lv_at hl 0 rfl) ?_
  refine lv_iload_n hx hb dX11_catOfShift_18 rfl (lv_at hl 1 rfl) ?_
  obtain ⟨q, hc, hf⟩ := bd hf
  refine gCallVR X rfl (vX11_shiftCat hc) gRX11_X11_shiftCat hdX11_shiftCat rfl ⟨by decide, by decide⟩ (gB_blind mOK) (gB_at mOK X hP) (mrec hP) hl.1 (Nat.le_of_ble_eq_true rfl) ⟨Nat.le_refl _, Nat.le_refl _⟩ dX11_catOfShift_19 (As := [.int x1]) (rest := []) rfl ?_
  exact kX11_catOfShift_22 X hret hf hP hS (lv_sub hl [0] rfl)
set_option maxRecDepth 10000 in
theorem kX11_catOfShift_13 {r : Int32} {S1 : MS} {M : MS} {H : Heap} {locs : List Loc} {ls : Array Slot} (X : gX p s m args c cX11_catOfShift 2 RX11 (kR kTab kA)) (hret : gRetI p l e (rmL 3 0 0) s m args below meth c cX11_catOfShift (mΩ ad) (mP dC dI cI kA ad) Q r S1) (hf : fX11_catOfShift_13 M = some (r, S1)) (hP : (mP dC dI cI kA ad) M s H) (hS : va_S (Fr (mΩ ad) s.heap.size) s.heap H locs) (hl : lv_has ls 2 [(0, .ref (ad 25))]) : W p l e (rmL 3 0 0) s m args below meth c H locs 0 0 Q (F0 m 13 ls []) := by
  have hx := X.hx
  have hb := X.hb
  have hown := X.hown
  have hts := X.hts
  rw [fX11_catOfShift_13] at hf
  refine lv_iconst (v := 0) hx hb dX11_catOfShift_13 (by decide) ?_
  refine lv_goto (tgt := 22) hx hb dX11_catOfShift_14 (by decide) ?_
  exact kX11_catOfShift_22 X hret hf hP hS (lv_sub hl [0] rfl)
set_option maxRecDepth 10000 in
theorem kX11_catOfShift_10 {r : Int32} {S1 : MS} {M : MS} {x1 : Int32} {s0 : Int32} {H : Heap} {locs : List Loc} {ls : Array Slot} (X : gX p s m args c cX11_catOfShift 2 RX11 (kR kTab kA)) (hret : gRetI p l e (rmL 3 0 0) s m args below meth c cX11_catOfShift (mΩ ad) (mP dC dI cI kA ad) Q r S1) (hf : fX11_catOfShift_10 M x1 s0 = some (r, S1)) (hP : (mP dC dI cI kA ad) M s H) (hS : va_S (Fr (mΩ ad) s.heap.size) s.heap H locs) (hl : lv_has ls 2 [(0, .ref (ad 25)), (1, .int x1)]) : W p l e (rmL 3 0 0) s m args below meth c H locs 0 0 Q (F0 m 10 ls [.int s0]) := by
  have hx := X.hx
  have hb := X.hb
  have hown := X.hown
  have hts := X.hts
  rw [fX11_catOfShift_10] at hf
  refine lv_if_eq (tgt := 17) hx hb dX11_catOfShift_10 (by decide) (fun c1 => ?_) (fun c1 => ?_)
  · exact kX11_catOfShift_17 X hret (ifp c1 hf) hP hS (lv_sub hl [0, 1] rfl)
  · exact kX11_catOfShift_13 X hret (ifn c1 hf) hP hS (lv_sub hl [0] rfl)
set_option maxRecDepth 10000 in
theorem kX11_catOfShift_5 {r : Int32} {S1 : MS} {M : MS} {x1 : Int32} {H : Heap} {locs : List Loc} {ls : Array Slot} (X : gX p s m args c cX11_catOfShift 2 RX11 (kR kTab kA)) (hret : gRetI p l e (rmL 3 0 0) s m args below meth c cX11_catOfShift (mΩ ad) (mP dC dI cI kA ad) Q r S1) (hf : fX11_catOfShift_5 M x1 = some (r, S1)) (hP : (mP dC dI cI kA ad) M s H) (hS : va_S (Fr (mΩ ad) s.heap.size) s.heap H locs) (hl : lv_has ls 2 [(0, .ref (ad 25)), (1, .int x1)]) : W p l e (rmL 3 0 0) s m args below meth c H locs 0 0 Q (F0 m 5 ls []) := by
  have hx := X.hx
  have hb := X.hb
  have hown := X.hown
  have hts := X.hts
  rw [fX11_catOfShift_5] at hf
  refine lv_aload_n hx hb dX11_catOfShift_5 rfl (lv_at hl 0 rfl) ?_
  refine lv_iload_n hx hb dX11_catOfShift_6 rfl (lv_at hl 1 rfl) ?_
  obtain ⟨q, hc, hf⟩ := bd hf
  refine gCallVI X mOK rfl (vX11_noShift hc) gRX11_X11_noShift hdX11_noShift rfl ⟨by decide, by decide⟩ hP hS (mrec hP) hl.1 (Nat.le_of_ble_eq_true rfl) ⟨Nat.le_refl _, Nat.le_refl _⟩ dX11_catOfShift_7 (As := [.int x1]) (rest := []) rfl (fun H locs hP hS => ?_)
  exact kX11_catOfShift_10 X hret hf hP hS (lv_sub hl [0, 1] rfl)
set_option maxRecDepth 10000 in
theorem kX11_catOfShift_0 {r : Int32} {S1 : MS} {M : MS} {a1 : Int32} {H : Heap} {locs : List Loc} {ls : Array Slot} (X : gX p s m args c cX11_catOfShift 2 RX11 (kR kTab kA)) (hret : gRetI p l e (rmL 3 0 0) s m args below meth c cX11_catOfShift (mΩ ad) (mP dC dI cI kA ad) Q r S1) (hf : fX11_catOfShift_0 M a1 = some (r, S1)) (hP : (mP dC dI cI kA ad) M s H) (hS : va_S (Fr (mΩ ad) s.heap.size) s.heap H locs) (hl : lv_has ls 2 [(0, .ref (ad 25)), (1, .int a1)]) : W p l e (rmL 3 0 0) s m args below meth c H locs 0 0 Q (F0 m 0 ls []) := by
  have hx := X.hx
  have hb := X.hb
  have hown := X.hown
  have hts := X.hts
  rw [fX11_catOfShift_0] at hf
  refine lv_aload_n hx hb dX11_catOfShift_0 rfl (lv_at hl 0 rfl) ?_
  refine lv_iconst (v := 0) hx hb dX11_catOfShift_1 (by decide) ?_
  refine mr_put (k := 7) X hP hS (by decide) rfl rfl rfl rfl tw1672 dX11_catOfShift_2 (fun H locs hP hS => ?_)
  exact kX11_catOfShift_5 X hret hf hP hS (lv_sub hl [0, 1] rfl)
theorem vX11_catOfShift {l : Launch} {dC : Nat → ClassId} {dI : Nat → Nat → Nat} {cI : ClassId} {kA : String → Nat → Nat} {ad : Nat → Nat} {M S1 : MS} {r : Int32} {a1 : Int32} (hf : fX11_catOfShift M a1 = some (r, S1)) : gMetI l yX11_catOfShift cX11_catOfShift 2 (some .int) 3 (mΩ ad) (mP dC dI cI kA ad) (kR kTab kA) [.ref (ad 25), .int a1] M r S1 := gEntryI (ty := .int) (by decide) rfl rfl mOK (Nat.le_of_ble_eq_true rfl) (fun p e s m args below meth c Q ls X hP hS hret hl => 
  kX11_catOfShift_0 X hret hf hP hS (lv_sub hl [0, 1] rfl))
set_option maxRecDepth 10000 in
theorem kX11_hoursOfShift_22 {r : Int32} {S1 : MS} {M : MS} {s0 : Int32} {H : Heap} {locs : List Loc} {ls : Array Slot} (X : gX p s m args c cX11_hoursOfShift 2 RX11 (kR kTab kA)) (hret : gRetI p l e (rmL 3 0 0) s m args below meth c cX11_hoursOfShift (mΩ ad) (mP dC dI cI kA ad) Q r S1) (hf : fX11_hoursOfShift_22 M s0 = some (r, S1)) (hP : (mP dC dI cI kA ad) M s H) (hS : va_S (Fr (mΩ ad) s.heap.size) s.heap H locs) (hl : lv_has ls 2 [(0, .ref (ad 25))]) : W p l e (rmL 3 0 0) s m args below meth c H locs 0 0 Q (F0 m 22 ls [.int s0]) := by
  have hx := X.hx
  have hb := X.hb
  have hown := X.hown
  have hts := X.hts
  rw [fX11_hoursOfShift_22] at hf
  cases hf
  exact hret _ _ _ _ dX11_hoursOfShift_22 hP hS
set_option maxRecDepth 10000 in
theorem kX11_hoursOfShift_17 {r : Int32} {S1 : MS} {M : MS} {x1 : Int32} {H : Heap} {locs : List Loc} {ls : Array Slot} (X : gX p s m args c cX11_hoursOfShift 2 RX11 (kR kTab kA)) (hret : gRetI p l e (rmL 3 0 0) s m args below meth c cX11_hoursOfShift (mΩ ad) (mP dC dI cI kA ad) Q r S1) (hf : fX11_hoursOfShift_17 M x1 = some (r, S1)) (hP : (mP dC dI cI kA ad) M s H) (hS : va_S (Fr (mΩ ad) s.heap.size) s.heap H locs) (hl : lv_has ls 2 [(0, .ref (ad 25)), (1, .int x1)]) : W p l e (rmL 3 0 0) s m args below meth c H locs 0 0 Q (F0 m 17 ls []) := by
  have hx := X.hx
  have hb := X.hb
  have hown := X.hown
  have hts := X.hts
  rw [fX11_hoursOfShift_17] at hf
  refine lv_aload_n hx hb dX11_hoursOfShift_17 rfl (lv_at hl 0 rfl) ?_
  refine lv_iload_n hx hb dX11_hoursOfShift_18 rfl (lv_at hl 1 rfl) ?_
  obtain ⟨q, hc, hf⟩ := bd hf
  refine gCallVR X rfl (vX11_shiftHours hc) gRX11_X11_shiftHours hdX11_shiftHours rfl ⟨by decide, by decide⟩ (gB_blind mOK) (gB_at mOK X hP) (mrec hP) hl.1 (Nat.le_of_ble_eq_true rfl) ⟨Nat.le_refl _, Nat.le_refl _⟩ dX11_hoursOfShift_19 (As := [.int x1]) (rest := []) rfl ?_
  exact kX11_hoursOfShift_22 X hret hf hP hS (lv_sub hl [0] rfl)
set_option maxRecDepth 10000 in
theorem kX11_hoursOfShift_13 {r : Int32} {S1 : MS} {M : MS} {H : Heap} {locs : List Loc} {ls : Array Slot} (X : gX p s m args c cX11_hoursOfShift 2 RX11 (kR kTab kA)) (hret : gRetI p l e (rmL 3 0 0) s m args below meth c cX11_hoursOfShift (mΩ ad) (mP dC dI cI kA ad) Q r S1) (hf : fX11_hoursOfShift_13 M = some (r, S1)) (hP : (mP dC dI cI kA ad) M s H) (hS : va_S (Fr (mΩ ad) s.heap.size) s.heap H locs) (hl : lv_has ls 2 [(0, .ref (ad 25))]) : W p l e (rmL 3 0 0) s m args below meth c H locs 0 0 Q (F0 m 13 ls []) := by
  have hx := X.hx
  have hb := X.hb
  have hown := X.hown
  have hts := X.hts
  rw [fX11_hoursOfShift_13] at hf
  refine lv_iconst (v := 0) hx hb dX11_hoursOfShift_13 (by decide) ?_
  refine lv_goto (tgt := 22) hx hb dX11_hoursOfShift_14 (by decide) ?_
  exact kX11_hoursOfShift_22 X hret hf hP hS (lv_sub hl [0] rfl)
set_option maxRecDepth 10000 in
theorem kX11_hoursOfShift_10 {r : Int32} {S1 : MS} {M : MS} {x1 : Int32} {s0 : Int32} {H : Heap} {locs : List Loc} {ls : Array Slot} (X : gX p s m args c cX11_hoursOfShift 2 RX11 (kR kTab kA)) (hret : gRetI p l e (rmL 3 0 0) s m args below meth c cX11_hoursOfShift (mΩ ad) (mP dC dI cI kA ad) Q r S1) (hf : fX11_hoursOfShift_10 M x1 s0 = some (r, S1)) (hP : (mP dC dI cI kA ad) M s H) (hS : va_S (Fr (mΩ ad) s.heap.size) s.heap H locs) (hl : lv_has ls 2 [(0, .ref (ad 25)), (1, .int x1)]) : W p l e (rmL 3 0 0) s m args below meth c H locs 0 0 Q (F0 m 10 ls [.int s0]) := by
  have hx := X.hx
  have hb := X.hb
  have hown := X.hown
  have hts := X.hts
  rw [fX11_hoursOfShift_10] at hf
  refine lv_if_eq (tgt := 17) hx hb dX11_hoursOfShift_10 (by decide) (fun c1 => ?_) (fun c1 => ?_)
  · exact kX11_hoursOfShift_17 X hret (ifp c1 hf) hP hS (lv_sub hl [0, 1] rfl)
  · exact kX11_hoursOfShift_13 X hret (ifn c1 hf) hP hS (lv_sub hl [0] rfl)
set_option maxRecDepth 10000 in
theorem kX11_hoursOfShift_5 {r : Int32} {S1 : MS} {M : MS} {x1 : Int32} {H : Heap} {locs : List Loc} {ls : Array Slot} (X : gX p s m args c cX11_hoursOfShift 2 RX11 (kR kTab kA)) (hret : gRetI p l e (rmL 3 0 0) s m args below meth c cX11_hoursOfShift (mΩ ad) (mP dC dI cI kA ad) Q r S1) (hf : fX11_hoursOfShift_5 M x1 = some (r, S1)) (hP : (mP dC dI cI kA ad) M s H) (hS : va_S (Fr (mΩ ad) s.heap.size) s.heap H locs) (hl : lv_has ls 2 [(0, .ref (ad 25)), (1, .int x1)]) : W p l e (rmL 3 0 0) s m args below meth c H locs 0 0 Q (F0 m 5 ls []) := by
  have hx := X.hx
  have hb := X.hb
  have hown := X.hown
  have hts := X.hts
  rw [fX11_hoursOfShift_5] at hf
  refine lv_aload_n hx hb dX11_hoursOfShift_5 rfl (lv_at hl 0 rfl) ?_
  refine lv_iload_n hx hb dX11_hoursOfShift_6 rfl (lv_at hl 1 rfl) ?_
  obtain ⟨q, hc, hf⟩ := bd hf
  refine gCallVI X mOK rfl (vX11_noShift hc) gRX11_X11_noShift hdX11_noShift rfl ⟨by decide, by decide⟩ hP hS (mrec hP) hl.1 (Nat.le_of_ble_eq_true rfl) ⟨Nat.le_refl _, Nat.le_refl _⟩ dX11_hoursOfShift_7 (As := [.int x1]) (rest := []) rfl (fun H locs hP hS => ?_)
  exact kX11_hoursOfShift_10 X hret hf hP hS (lv_sub hl [0, 1] rfl)
set_option maxRecDepth 10000 in
theorem kX11_hoursOfShift_0 {r : Int32} {S1 : MS} {M : MS} {a1 : Int32} {H : Heap} {locs : List Loc} {ls : Array Slot} (X : gX p s m args c cX11_hoursOfShift 2 RX11 (kR kTab kA)) (hret : gRetI p l e (rmL 3 0 0) s m args below meth c cX11_hoursOfShift (mΩ ad) (mP dC dI cI kA ad) Q r S1) (hf : fX11_hoursOfShift_0 M a1 = some (r, S1)) (hP : (mP dC dI cI kA ad) M s H) (hS : va_S (Fr (mΩ ad) s.heap.size) s.heap H locs) (hl : lv_has ls 2 [(0, .ref (ad 25)), (1, .int a1)]) : W p l e (rmL 3 0 0) s m args below meth c H locs 0 0 Q (F0 m 0 ls []) := by
  have hx := X.hx
  have hb := X.hb
  have hown := X.hown
  have hts := X.hts
  rw [fX11_hoursOfShift_0] at hf
  refine lv_aload_n hx hb dX11_hoursOfShift_0 rfl (lv_at hl 0 rfl) ?_
  refine lv_iconst (v := 0) hx hb dX11_hoursOfShift_1 (by decide) ?_
  refine mr_put (k := 7) X hP hS (by decide) rfl rfl rfl rfl tw1672 dX11_hoursOfShift_2 (fun H locs hP hS => ?_)
  exact kX11_hoursOfShift_5 X hret hf hP hS (lv_sub hl [0, 1] rfl)
theorem vX11_hoursOfShift {l : Launch} {dC : Nat → ClassId} {dI : Nat → Nat → Nat} {cI : ClassId} {kA : String → Nat → Nat} {ad : Nat → Nat} {M S1 : MS} {r : Int32} {a1 : Int32} (hf : fX11_hoursOfShift M a1 = some (r, S1)) : gMetI l yX11_hoursOfShift cX11_hoursOfShift 2 (some .int) 3 (mΩ ad) (mP dC dI cI kA ad) (kR kTab kA) [.ref (ad 25), .int a1] M r S1 := gEntryI (ty := .int) (by decide) rfl rfl mOK (Nat.le_of_ble_eq_true rfl) (fun p e s m args below meth c Q ls X hP hS hret hl => 
  kX11_hoursOfShift_0 X hret hf hP hS (lv_sub hl [0, 1] rfl))
set_option maxRecDepth 10000 in
theorem kX11_eventKind_11 {r : Int32} {S1 : MS} {M : MS} {s0 : Int32} {H : Heap} {locs : List Loc} {ls : Array Slot} (X : gX p s m args c cX11_eventKind 2 RX11 (kR kTab kA)) (hret : gRetI p l e (rmL 3 0 0) s m args below meth c cX11_eventKind (mΩ ad) (mP dC dI cI kA ad) Q r S1) (hf : fX11_eventKind_11 M s0 = some (r, S1)) (hP : (mP dC dI cI kA ad) M s H) (hS : va_S (Fr (mΩ ad) s.heap.size) s.heap H locs) (hl : lv_has ls 2 [(0, .ref (ad 25))]) : W p l e (rmL 3 0 0) s m args below meth c H locs 0 0 Q (F0 m 11 ls [.int s0]) := by
  have hx := X.hx
  have hb := X.hb
  have hown := X.hown
  have hts := X.hts
  rw [fX11_eventKind_11] at hf
  cases hf
  exact hret _ _ _ _ dX11_eventKind_11 hP hS
set_option maxRecDepth 10000 in
theorem kX11_eventKind_5 {r : Int32} {S1 : MS} {M : MS} {x1 : Int32} {H : Heap} {locs : List Loc} {ls : Array Slot} (X : gX p s m args c cX11_eventKind 2 RX11 (kR kTab kA)) (hret : gRetI p l e (rmL 3 0 0) s m args below meth c cX11_eventKind (mΩ ad) (mP dC dI cI kA ad) Q r S1) (hf : fX11_eventKind_5 M x1 = some (r, S1)) (hP : (mP dC dI cI kA ad) M s H) (hS : va_S (Fr (mΩ ad) s.heap.size) s.heap H locs) (hl : lv_has ls 2 [(0, .ref (ad 25)), (1, .int x1)]) : W p l e (rmL 3 0 0) s m args below meth c H locs 0 0 Q (F0 m 5 ls []) := by
  have hx := X.hx
  have hb := X.hb
  have hown := X.hown
  have hts := X.hts
  rw [fX11_eventKind_5] at hf
  refine lv_aload_n hx hb dX11_eventKind_5 rfl (lv_at hl 0 rfl) ?_
  refine lv_iload_n hx hb dX11_eventKind_6 rfl (lv_at hl 1 rfl) ?_
  refine lv_iconst (v := 0) hx hb dX11_eventKind_7 (by decide) ?_
  obtain ⟨q, hc, hf⟩ := bd hf
  refine gCallVR X rfl (vX11_logged hc) gRX11_X11_logged hdX11_logged rfl ⟨by decide, by decide⟩ (gB_blind mOK) (gB_at mOK X hP) (mrec hP) hl.1 (Nat.le_of_ble_eq_true rfl) ⟨Nat.le_refl _, Nat.le_refl _⟩ dX11_eventKind_8 (As := [.int x1, .int 0]) (rest := []) rfl ?_
  exact kX11_eventKind_11 X hret hf hP hS (lv_sub hl [0] rfl)
set_option maxRecDepth 10000 in
theorem kX11_eventKind_0 {r : Int32} {S1 : MS} {M : MS} {a1 : Int32} {H : Heap} {locs : List Loc} {ls : Array Slot} (X : gX p s m args c cX11_eventKind 2 RX11 (kR kTab kA)) (hret : gRetI p l e (rmL 3 0 0) s m args below meth c cX11_eventKind (mΩ ad) (mP dC dI cI kA ad) Q r S1) (hf : fX11_eventKind_0 M a1 = some (r, S1)) (hP : (mP dC dI cI kA ad) M s H) (hS : va_S (Fr (mΩ ad) s.heap.size) s.heap H locs) (hl : lv_has ls 2 [(0, .ref (ad 25)), (1, .int a1)]) : W p l e (rmL 3 0 0) s m args below meth c H locs 0 0 Q (F0 m 0 ls []) := by
  have hx := X.hx
  have hb := X.hb
  have hown := X.hown
  have hts := X.hts
  rw [fX11_eventKind_0] at hf
  refine lv_aload_n hx hb dX11_eventKind_0 rfl (lv_at hl 0 rfl) ?_
  refine lv_iconst (v := 0) hx hb dX11_eventKind_1 (by decide) ?_
  refine mr_put (k := 7) X hP hS (by decide) rfl rfl rfl rfl tw1672 dX11_eventKind_2 (fun H locs hP hS => ?_)
  exact kX11_eventKind_5 X hret hf hP hS (lv_sub hl [0, 1] rfl)
theorem vX11_eventKind {l : Launch} {dC : Nat → ClassId} {dI : Nat → Nat → Nat} {cI : ClassId} {kA : String → Nat → Nat} {ad : Nat → Nat} {M S1 : MS} {r : Int32} {a1 : Int32} (hf : fX11_eventKind M a1 = some (r, S1)) : gMetI l yX11_eventKind cX11_eventKind 2 (some .int) 3 (mΩ ad) (mP dC dI cI kA ad) (kR kTab kA) [.ref (ad 25), .int a1] M r S1 := gEntryI (ty := .int) (by decide) rfl rfl mOK (Nat.le_of_ble_eq_true rfl) (fun p e s m args below meth c Q ls X hP hS hret hl => 
  kX11_eventKind_0 X hret hf hP hS (lv_sub hl [0, 1] rfl))
set_option maxRecDepth 10000 in
theorem kX11_eventCat_11 {r : Int32} {S1 : MS} {M : MS} {s0 : Int32} {H : Heap} {locs : List Loc} {ls : Array Slot} (X : gX p s m args c cX11_eventCat 2 RX11 (kR kTab kA)) (hret : gRetI p l e (rmL 3 0 0) s m args below meth c cX11_eventCat (mΩ ad) (mP dC dI cI kA ad) Q r S1) (hf : fX11_eventCat_11 M s0 = some (r, S1)) (hP : (mP dC dI cI kA ad) M s H) (hS : va_S (Fr (mΩ ad) s.heap.size) s.heap H locs) (hl : lv_has ls 2 [(0, .ref (ad 25))]) : W p l e (rmL 3 0 0) s m args below meth c H locs 0 0 Q (F0 m 11 ls [.int s0]) := by
  have hx := X.hx
  have hb := X.hb
  have hown := X.hown
  have hts := X.hts
  rw [fX11_eventCat_11] at hf
  cases hf
  exact hret _ _ _ _ dX11_eventCat_11 hP hS
set_option maxRecDepth 10000 in
theorem kX11_eventCat_5 {r : Int32} {S1 : MS} {M : MS} {x1 : Int32} {H : Heap} {locs : List Loc} {ls : Array Slot} (X : gX p s m args c cX11_eventCat 2 RX11 (kR kTab kA)) (hret : gRetI p l e (rmL 3 0 0) s m args below meth c cX11_eventCat (mΩ ad) (mP dC dI cI kA ad) Q r S1) (hf : fX11_eventCat_5 M x1 = some (r, S1)) (hP : (mP dC dI cI kA ad) M s H) (hS : va_S (Fr (mΩ ad) s.heap.size) s.heap H locs) (hl : lv_has ls 2 [(0, .ref (ad 25)), (1, .int x1)]) : W p l e (rmL 3 0 0) s m args below meth c H locs 0 0 Q (F0 m 5 ls []) := by
  have hx := X.hx
  have hb := X.hb
  have hown := X.hown
  have hts := X.hts
  rw [fX11_eventCat_5] at hf
  refine lv_aload_n hx hb dX11_eventCat_5 rfl (lv_at hl 0 rfl) ?_
  refine lv_iload_n hx hb dX11_eventCat_6 rfl (lv_at hl 1 rfl) ?_
  refine lv_iconst (v := 1) hx hb dX11_eventCat_7 (by decide) ?_
  obtain ⟨q, hc, hf⟩ := bd hf
  refine gCallVR X rfl (vX11_logged hc) gRX11_X11_logged hdX11_logged rfl ⟨by decide, by decide⟩ (gB_blind mOK) (gB_at mOK X hP) (mrec hP) hl.1 (Nat.le_of_ble_eq_true rfl) ⟨Nat.le_refl _, Nat.le_refl _⟩ dX11_eventCat_8 (As := [.int x1, .int 1]) (rest := []) rfl ?_
  exact kX11_eventCat_11 X hret hf hP hS (lv_sub hl [0] rfl)
set_option maxRecDepth 10000 in
theorem kX11_eventCat_0 {r : Int32} {S1 : MS} {M : MS} {a1 : Int32} {H : Heap} {locs : List Loc} {ls : Array Slot} (X : gX p s m args c cX11_eventCat 2 RX11 (kR kTab kA)) (hret : gRetI p l e (rmL 3 0 0) s m args below meth c cX11_eventCat (mΩ ad) (mP dC dI cI kA ad) Q r S1) (hf : fX11_eventCat_0 M a1 = some (r, S1)) (hP : (mP dC dI cI kA ad) M s H) (hS : va_S (Fr (mΩ ad) s.heap.size) s.heap H locs) (hl : lv_has ls 2 [(0, .ref (ad 25)), (1, .int a1)]) : W p l e (rmL 3 0 0) s m args below meth c H locs 0 0 Q (F0 m 0 ls []) := by
  have hx := X.hx
  have hb := X.hb
  have hown := X.hown
  have hts := X.hts
  rw [fX11_eventCat_0] at hf
  refine lv_aload_n hx hb dX11_eventCat_0 rfl (lv_at hl 0 rfl) ?_
  refine lv_iconst (v := 0) hx hb dX11_eventCat_1 (by decide) ?_
  refine mr_put (k := 7) X hP hS (by decide) rfl rfl rfl rfl tw1672 dX11_eventCat_2 (fun H locs hP hS => ?_)
  exact kX11_eventCat_5 X hret hf hP hS (lv_sub hl [0, 1] rfl)
theorem vX11_eventCat {l : Launch} {dC : Nat → ClassId} {dI : Nat → Nat → Nat} {cI : ClassId} {kA : String → Nat → Nat} {ad : Nat → Nat} {M S1 : MS} {r : Int32} {a1 : Int32} (hf : fX11_eventCat M a1 = some (r, S1)) : gMetI l yX11_eventCat cX11_eventCat 2 (some .int) 3 (mΩ ad) (mP dC dI cI kA ad) (kR kTab kA) [.ref (ad 25), .int a1] M r S1 := gEntryI (ty := .int) (by decide) rfl rfl mOK (Nat.le_of_ble_eq_true rfl) (fun p e s m args below meth c Q ls X hP hS hret hl => 
  kX11_eventCat_0 X hret hf hP hS (lv_sub hl [0, 1] rfl))
set_option maxRecDepth 10000 in
theorem kX11_eventNumber_11 {r : Int32} {S1 : MS} {M : MS} {s0 : Int32} {H : Heap} {locs : List Loc} {ls : Array Slot} (X : gX p s m args c cX11_eventNumber 2 RX11 (kR kTab kA)) (hret : gRetI p l e (rmL 3 0 0) s m args below meth c cX11_eventNumber (mΩ ad) (mP dC dI cI kA ad) Q r S1) (hf : fX11_eventNumber_11 M s0 = some (r, S1)) (hP : (mP dC dI cI kA ad) M s H) (hS : va_S (Fr (mΩ ad) s.heap.size) s.heap H locs) (hl : lv_has ls 2 [(0, .ref (ad 25))]) : W p l e (rmL 3 0 0) s m args below meth c H locs 0 0 Q (F0 m 11 ls [.int s0]) := by
  have hx := X.hx
  have hb := X.hb
  have hown := X.hown
  have hts := X.hts
  rw [fX11_eventNumber_11] at hf
  cases hf
  exact hret _ _ _ _ dX11_eventNumber_11 hP hS
set_option maxRecDepth 10000 in
theorem kX11_eventNumber_5 {r : Int32} {S1 : MS} {M : MS} {x1 : Int32} {H : Heap} {locs : List Loc} {ls : Array Slot} (X : gX p s m args c cX11_eventNumber 2 RX11 (kR kTab kA)) (hret : gRetI p l e (rmL 3 0 0) s m args below meth c cX11_eventNumber (mΩ ad) (mP dC dI cI kA ad) Q r S1) (hf : fX11_eventNumber_5 M x1 = some (r, S1)) (hP : (mP dC dI cI kA ad) M s H) (hS : va_S (Fr (mΩ ad) s.heap.size) s.heap H locs) (hl : lv_has ls 2 [(0, .ref (ad 25)), (1, .int x1)]) : W p l e (rmL 3 0 0) s m args below meth c H locs 0 0 Q (F0 m 5 ls []) := by
  have hx := X.hx
  have hb := X.hb
  have hown := X.hown
  have hts := X.hts
  rw [fX11_eventNumber_5] at hf
  refine lv_aload_n hx hb dX11_eventNumber_5 rfl (lv_at hl 0 rfl) ?_
  refine lv_iload_n hx hb dX11_eventNumber_6 rfl (lv_at hl 1 rfl) ?_
  refine lv_iconst (v := 2) hx hb dX11_eventNumber_7 (by decide) ?_
  obtain ⟨q, hc, hf⟩ := bd hf
  refine gCallVR X rfl (vX11_logged hc) gRX11_X11_logged hdX11_logged rfl ⟨by decide, by decide⟩ (gB_blind mOK) (gB_at mOK X hP) (mrec hP) hl.1 (Nat.le_of_ble_eq_true rfl) ⟨Nat.le_refl _, Nat.le_refl _⟩ dX11_eventNumber_8 (As := [.int x1, .int 2]) (rest := []) rfl ?_
  exact kX11_eventNumber_11 X hret hf hP hS (lv_sub hl [0] rfl)
set_option maxRecDepth 10000 in
theorem kX11_eventNumber_0 {r : Int32} {S1 : MS} {M : MS} {a1 : Int32} {H : Heap} {locs : List Loc} {ls : Array Slot} (X : gX p s m args c cX11_eventNumber 2 RX11 (kR kTab kA)) (hret : gRetI p l e (rmL 3 0 0) s m args below meth c cX11_eventNumber (mΩ ad) (mP dC dI cI kA ad) Q r S1) (hf : fX11_eventNumber_0 M a1 = some (r, S1)) (hP : (mP dC dI cI kA ad) M s H) (hS : va_S (Fr (mΩ ad) s.heap.size) s.heap H locs) (hl : lv_has ls 2 [(0, .ref (ad 25)), (1, .int a1)]) : W p l e (rmL 3 0 0) s m args below meth c H locs 0 0 Q (F0 m 0 ls []) := by
  have hx := X.hx
  have hb := X.hb
  have hown := X.hown
  have hts := X.hts
  rw [fX11_eventNumber_0] at hf
  refine lv_aload_n hx hb dX11_eventNumber_0 rfl (lv_at hl 0 rfl) ?_
  refine lv_iconst (v := 0) hx hb dX11_eventNumber_1 (by decide) ?_
  refine mr_put (k := 7) X hP hS (by decide) rfl rfl rfl rfl tw1672 dX11_eventNumber_2 (fun H locs hP hS => ?_)
  exact kX11_eventNumber_5 X hret hf hP hS (lv_sub hl [0, 1] rfl)
theorem vX11_eventNumber {l : Launch} {dC : Nat → ClassId} {dI : Nat → Nat → Nat} {cI : ClassId} {kA : String → Nat → Nat} {ad : Nat → Nat} {M S1 : MS} {r : Int32} {a1 : Int32} (hf : fX11_eventNumber M a1 = some (r, S1)) : gMetI l yX11_eventNumber cX11_eventNumber 2 (some .int) 3 (mΩ ad) (mP dC dI cI kA ad) (kR kTab kA) [.ref (ad 25), .int a1] M r S1 := gEntryI (ty := .int) (by decide) rfl rfl mOK (Nat.le_of_ble_eq_true rfl) (fun p e s m args below meth c Q ls X hP hS hret hl => 
  kX11_eventNumber_0 X hret hf hP hS (lv_sub hl [0, 1] rfl))
set_option maxRecDepth 10000 in
theorem kX11_isConsistent_170 {r : Int32} {S1 : MS} {M : MS} {s0 : Int32} {H : Heap} {locs : List Loc} {ls : Array Slot} (X : gX p s m args c cX11_isConsistent 4 RX11 (kR kTab kA)) (hret : gRetI p l e (rmL 3 0 0) s m args below meth c cX11_isConsistent (mΩ ad) (mP dC dI cI kA ad) Q r S1) (hf : fX11_isConsistent_170 M s0 = some (r, S1)) (hP : (mP dC dI cI kA ad) M s H) (hS : va_S (Fr (mΩ ad) s.heap.size) s.heap H locs) (hl : lv_has ls 4 [(0, .ref (ad 25))]) : W p l e (rmL 3 0 0) s m args below meth c H locs 0 0 Q (F0 m 170 ls [.int s0]) := by
  have hx := X.hx
  have hb := X.hb
  have hown := X.hown
  have hts := X.hts
  rw [fX11_isConsistent_170] at hf
  cases hf
  exact hret _ _ _ _ dX11_isConsistent_170 hP hS
set_option maxRecDepth 10000 in
theorem kX11_isConsistent_169 {r : Int32} {S1 : MS} {M : MS} {H : Heap} {locs : List Loc} {ls : Array Slot} (X : gX p s m args c cX11_isConsistent 4 RX11 (kR kTab kA)) (hret : gRetI p l e (rmL 3 0 0) s m args below meth c cX11_isConsistent (mΩ ad) (mP dC dI cI kA ad) Q r S1) (hf : fX11_isConsistent_169 M = some (r, S1)) (hP : (mP dC dI cI kA ad) M s H) (hS : va_S (Fr (mΩ ad) s.heap.size) s.heap H locs) (hl : lv_has ls 4 [(0, .ref (ad 25))]) : W p l e (rmL 3 0 0) s m args below meth c H locs 0 0 Q (F0 m 169 ls []) := by
  have hx := X.hx
  have hb := X.hb
  have hown := X.hown
  have hts := X.hts
  rw [fX11_isConsistent_169] at hf
  refine lv_iconst (v := 0) hx hb dX11_isConsistent_169 (by decide) ?_
  exact kX11_isConsistent_170 X hret hf hP hS (lv_sub hl [0] rfl)
set_option maxRecDepth 10000 in
theorem kX11_isConsistent_165 {r : Int32} {S1 : MS} {M : MS} {H : Heap} {locs : List Loc} {ls : Array Slot} (X : gX p s m args c cX11_isConsistent 4 RX11 (kR kTab kA)) (hret : gRetI p l e (rmL 3 0 0) s m args below meth c cX11_isConsistent (mΩ ad) (mP dC dI cI kA ad) Q r S1) (hf : fX11_isConsistent_165 M = some (r, S1)) (hP : (mP dC dI cI kA ad) M s H) (hS : va_S (Fr (mΩ ad) s.heap.size) s.heap H locs) (hl : lv_has ls 4 [(0, .ref (ad 25))]) : W p l e (rmL 3 0 0) s m args below meth c H locs 0 0 Q (F0 m 165 ls []) := by
  have hx := X.hx
  have hb := X.hb
  have hown := X.hown
  have hts := X.hts
  rw [fX11_isConsistent_165] at hf
  refine lv_iconst (v := 1) hx hb dX11_isConsistent_165 (by decide) ?_
  refine lv_goto (tgt := 170) hx hb dX11_isConsistent_166 (by decide) ?_
  exact kX11_isConsistent_170 X hret hf hP hS (lv_sub hl [0] rfl)
set_option maxRecDepth 10000 in
theorem kX11_isConsistent_155 {r : Int32} {S1 : MS} {M : MS} {s0 : Int32} {H : Heap} {locs : List Loc} {ls : Array Slot} (X : gX p s m args c cX11_isConsistent 4 RX11 (kR kTab kA)) (hret : gRetI p l e (rmL 3 0 0) s m args below meth c cX11_isConsistent (mΩ ad) (mP dC dI cI kA ad) Q r S1) (hf : fX11_isConsistent_155 M s0 = some (r, S1)) (hP : (mP dC dI cI kA ad) M s H) (hS : va_S (Fr (mΩ ad) s.heap.size) s.heap H locs) (hl : lv_has ls 4 [(0, .ref (ad 25))]) : W p l e (rmL 3 0 0) s m args below meth c H locs 0 0 Q (F0 m 155 ls [.int s0]) := by
  have hx := X.hx
  have hb := X.hb
  have hown := X.hown
  have hts := X.hts
  rw [fX11_isConsistent_155] at hf
  refine lv_aload_n hx hb dX11_isConsistent_155 rfl (lv_at hl 0 rfl) ?_
  refine mr_get (k := 0) X hP (by decide) rfl rfl tw1665 dX11_isConsistent_156 ?_
  refine lv_bipush (v := 12) hx hb dX11_isConsistent_159 (by decide) ?_
  obtain ⟨g1, hf⟩ := gd hf
  refine mr_ald (a := 0) X hP rfl g1 dX11_isConsistent_161 ?_
  refine lv_icmp_ne (tgt := 169) hx hb dX11_isConsistent_162 (by decide) (fun c1 => ?_) (fun c1 => ?_)
  · exact kX11_isConsistent_169 X hret (ifn c1 hf) hP hS (lv_sub hl [0] rfl)
  · exact kX11_isConsistent_165 X hret (ifp c1 hf) hP hS (lv_sub hl [0] rfl)
set_option maxRecDepth 10000 in
theorem kX11_isConsistent_146 {r : Int32} {S1 : MS} {M : MS} {H : Heap} {locs : List Loc} {ls : Array Slot} (X : gX p s m args c cX11_isConsistent 4 RX11 (kR kTab kA)) (hret : gRetI p l e (rmL 3 0 0) s m args below meth c cX11_isConsistent (mΩ ad) (mP dC dI cI kA ad) Q r S1) (hf : fX11_isConsistent_146 M = some (r, S1)) (hP : (mP dC dI cI kA ad) M s H) (hS : va_S (Fr (mΩ ad) s.heap.size) s.heap H locs) (hl : lv_has ls 4 [(0, .ref (ad 25))]) : W p l e (rmL 3 0 0) s m args below meth c H locs 0 0 Q (F0 m 146 ls []) := by
  have hx := X.hx
  have hb := X.hb
  have hown := X.hown
  have hts := X.hts
  rw [fX11_isConsistent_146] at hf
  refine lv_aload_n hx hb dX11_isConsistent_146 rfl (lv_at hl 0 rfl) ?_
  refine lv_bipush (v := 65) hx hb dX11_isConsistent_147 (by decide) ?_
  refine lv_iconst (v := 0) hx hb dX11_isConsistent_149 (by decide) ?_
  refine lv_bipush (v := 11) hx hb dX11_isConsistent_150 (by decide) ?_
  obtain ⟨q, hc, hf⟩ := bd hf
  refine gCallVR X rfl (vX11_sumOf hc) gRX11_X11_sumOf hdX11_sumOf rfl ⟨by decide, by decide⟩ (gB_blind mOK) (gB_at mOK X hP) (mrec hP) hl.1 (Nat.le_of_ble_eq_true rfl) ⟨Nat.le_refl _, Nat.le_refl _⟩ dX11_isConsistent_152 (As := [.int 65, .int 0, .int 11]) (rest := []) rfl ?_
  exact kX11_isConsistent_155 X hret hf hP hS (lv_sub hl [0] rfl)
set_option maxRecDepth 10000 in
theorem kX11_isConsistent_136 {r : Int32} {S1 : MS} {M : MS} {s0 : Int32} {H : Heap} {locs : List Loc} {ls : Array Slot} (X : gX p s m args c cX11_isConsistent 4 RX11 (kR kTab kA)) (hret : gRetI p l e (rmL 3 0 0) s m args below meth c cX11_isConsistent (mΩ ad) (mP dC dI cI kA ad) Q r S1) (hf : fX11_isConsistent_136 M s0 = some (r, S1)) (hP : (mP dC dI cI kA ad) M s H) (hS : va_S (Fr (mΩ ad) s.heap.size) s.heap H locs) (hl : lv_has ls 4 [(0, .ref (ad 25))]) : W p l e (rmL 3 0 0) s m args below meth c H locs 0 0 Q (F0 m 136 ls [.int s0]) := by
  have hx := X.hx
  have hb := X.hb
  have hown := X.hown
  have hts := X.hts
  rw [fX11_isConsistent_136] at hf
  refine lv_aload_n hx hb dX11_isConsistent_136 rfl (lv_at hl 0 rfl) ?_
  refine mr_get (k := 0) X hP (by decide) rfl rfl tw1665 dX11_isConsistent_137 ?_
  refine lv_bipush (v := 8) hx hb dX11_isConsistent_140 (by decide) ?_
  obtain ⟨g1, hf⟩ := gd hf
  refine mr_ald (a := 0) X hP rfl g1 dX11_isConsistent_142 ?_
  refine lv_icmp_ne (tgt := 169) hx hb dX11_isConsistent_143 (by decide) (fun c1 => ?_) (fun c1 => ?_)
  · exact kX11_isConsistent_169 X hret (ifn c1 hf) hP hS (lv_sub hl [0] rfl)
  · exact kX11_isConsistent_146 X hret (ifp c1 hf) hP hS (lv_sub hl [0] rfl)
set_option maxRecDepth 10000 in
theorem kX11_isConsistent_127 {r : Int32} {S1 : MS} {M : MS} {H : Heap} {locs : List Loc} {ls : Array Slot} (X : gX p s m args c cX11_isConsistent 4 RX11 (kR kTab kA)) (hret : gRetI p l e (rmL 3 0 0) s m args below meth c cX11_isConsistent (mΩ ad) (mP dC dI cI kA ad) Q r S1) (hf : fX11_isConsistent_127 M = some (r, S1)) (hP : (mP dC dI cI kA ad) M s H) (hS : va_S (Fr (mΩ ad) s.heap.size) s.heap H locs) (hl : lv_has ls 4 [(0, .ref (ad 25))]) : W p l e (rmL 3 0 0) s m args below meth c H locs 0 0 Q (F0 m 127 ls []) := by
  have hx := X.hx
  have hb := X.hb
  have hown := X.hown
  have hts := X.hts
  rw [fX11_isConsistent_127] at hf
  refine lv_aload_n hx hb dX11_isConsistent_127 rfl (lv_at hl 0 rfl) ?_
  refine lv_bipush (v := 65) hx hb dX11_isConsistent_128 (by decide) ?_
  refine lv_iconst (v := 0) hx hb dX11_isConsistent_130 (by decide) ?_
  refine lv_bipush (v := 10) hx hb dX11_isConsistent_131 (by decide) ?_
  obtain ⟨q, hc, hf⟩ := bd hf
  refine gCallVR X rfl (vX11_sumOf hc) gRX11_X11_sumOf hdX11_sumOf rfl ⟨by decide, by decide⟩ (gB_blind mOK) (gB_at mOK X hP) (mrec hP) hl.1 (Nat.le_of_ble_eq_true rfl) ⟨Nat.le_refl _, Nat.le_refl _⟩ dX11_isConsistent_133 (As := [.int 65, .int 0, .int 10]) (rest := []) rfl ?_
  exact kX11_isConsistent_136 X hret hf hP hS (lv_sub hl [0] rfl)
set_option maxRecDepth 10000 in
theorem kX11_isConsistent_123 {r : Int32} {S1 : MS} {M : MS} {x3 : Int32} {H : Heap} {locs : List Loc} {ls : Array Slot} (X : gX p s m args c cX11_isConsistent 4 RX11 (kR kTab kA)) (hret : gRetI p l e (rmL 3 0 0) s m args below meth c cX11_isConsistent (mΩ ad) (mP dC dI cI kA ad) Q r S1) (hf : fX11_isConsistent_123 M x3 = some (r, S1)) (hP : (mP dC dI cI kA ad) M s H) (hS : va_S (Fr (mΩ ad) s.heap.size) s.heap H locs) (hl : lv_has ls 4 [(0, .ref (ad 25)), (3, .int x3)]) : W p l e (rmL 3 0 0) s m args below meth c H locs 0 0 Q (F0 m 123 ls []) := by
  have hx := X.hx
  have hb := X.hb
  have hown := X.hown
  have hts := X.hts
  rw [fX11_isConsistent_123] at hf
  refine lv_iload_n hx hb dX11_isConsistent_123 rfl (lv_at hl 1 rfl) ?_
  refine lv_if_eq (tgt := 169) hx hb dX11_isConsistent_124 (by decide) (fun c1 => ?_) (fun c1 => ?_)
  · exact kX11_isConsistent_169 X hret (ifp c1 hf) hP hS (lv_sub hl [0] rfl)
  · exact kX11_isConsistent_127 X hret (ifn c1 hf) hP hS (lv_sub hl [0] rfl)
set_option maxRecDepth 10000 in
theorem kX11_isConsistent_118 {r : Int32} {S1 : MS} {M : MS} {x2 : Int32} {s0 : Int32} {H : Heap} {locs : List Loc} {ls : Array Slot} (X : gX p s m args c cX11_isConsistent 4 RX11 (kR kTab kA)) (hret : gRetI p l e (rmL 3 0 0) s m args below meth c cX11_isConsistent (mΩ ad) (mP dC dI cI kA ad) Q r S1) (hf : fX11_isConsistent_118 M x2 s0 = some (r, S1)) (hP : (mP dC dI cI kA ad) M s H) (hS : va_S (Fr (mΩ ad) s.heap.size) s.heap H locs) (hl : lv_has ls 4 [(0, .ref (ad 25)), (2, .int x2)]) : W p l e (rmL 3 0 0) s m args below meth c H locs 0 0 Q (F0 m 118 ls [.int s0]) := by
  have hx := X.hx
  have hb := X.hb
  have hown := X.hown
  have hts := X.hts
  rw [fX11_isConsistent_118] at hf
  refine lv_istore_n (lv' := [(3, .int s0), (0, .ref (ad 25)), (2, .int x2)]) hx hb dX11_isConsistent_118 rfl hl (by decide) rfl (fun ls hl => ?_)
  refine lv_iload_n hx hb dX11_isConsistent_119 rfl (lv_at hl 2 rfl) ?_
  refine lv_if_eq (tgt := 169) hx hb dX11_isConsistent_120 (by decide) (fun c1 => ?_) (fun c1 => ?_)
  · exact kX11_isConsistent_169 X hret (ifp c1 hf) hP hS (lv_sub hl [1] rfl)
  · exact kX11_isConsistent_123 X hret (ifn c1 hf) hP hS (lv_sub hl [1, 0] rfl)
set_option maxRecDepth 10000 in
theorem kX11_isConsistent_117 {r : Int32} {S1 : MS} {M : MS} {x2 : Int32} {H : Heap} {locs : List Loc} {ls : Array Slot} (X : gX p s m args c cX11_isConsistent 4 RX11 (kR kTab kA)) (hret : gRetI p l e (rmL 3 0 0) s m args below meth c cX11_isConsistent (mΩ ad) (mP dC dI cI kA ad) Q r S1) (hf : fX11_isConsistent_117 M x2 = some (r, S1)) (hP : (mP dC dI cI kA ad) M s H) (hS : va_S (Fr (mΩ ad) s.heap.size) s.heap H locs) (hl : lv_has ls 4 [(0, .ref (ad 25)), (2, .int x2)]) : W p l e (rmL 3 0 0) s m args below meth c H locs 0 0 Q (F0 m 117 ls []) := by
  have hx := X.hx
  have hb := X.hb
  have hown := X.hown
  have hts := X.hts
  rw [fX11_isConsistent_117] at hf
  refine lv_iconst (v := 0) hx hb dX11_isConsistent_117 (by decide) ?_
  exact kX11_isConsistent_118 X hret hf hP hS (lv_sub hl [0, 1] rfl)
set_option maxRecDepth 10000 in
theorem kX11_isConsistent_113 {r : Int32} {S1 : MS} {M : MS} {x2 : Int32} {H : Heap} {locs : List Loc} {ls : Array Slot} (X : gX p s m args c cX11_isConsistent 4 RX11 (kR kTab kA)) (hret : gRetI p l e (rmL 3 0 0) s m args below meth c cX11_isConsistent (mΩ ad) (mP dC dI cI kA ad) Q r S1) (hf : fX11_isConsistent_113 M x2 = some (r, S1)) (hP : (mP dC dI cI kA ad) M s H) (hS : va_S (Fr (mΩ ad) s.heap.size) s.heap H locs) (hl : lv_has ls 4 [(0, .ref (ad 25)), (2, .int x2)]) : W p l e (rmL 3 0 0) s m args below meth c H locs 0 0 Q (F0 m 113 ls []) := by
  have hx := X.hx
  have hb := X.hb
  have hown := X.hown
  have hts := X.hts
  rw [fX11_isConsistent_113] at hf
  refine lv_iconst (v := 1) hx hb dX11_isConsistent_113 (by decide) ?_
  refine lv_goto (tgt := 118) hx hb dX11_isConsistent_114 (by decide) ?_
  exact kX11_isConsistent_118 X hret hf hP hS (lv_sub hl [0, 1] rfl)
set_option maxRecDepth 10000 in
theorem kX11_isConsistent_103 {r : Int32} {S1 : MS} {M : MS} {x2 : Int32} {s0 : Int32} {H : Heap} {locs : List Loc} {ls : Array Slot} (X : gX p s m args c cX11_isConsistent 4 RX11 (kR kTab kA)) (hret : gRetI p l e (rmL 3 0 0) s m args below meth c cX11_isConsistent (mΩ ad) (mP dC dI cI kA ad) Q r S1) (hf : fX11_isConsistent_103 M x2 s0 = some (r, S1)) (hP : (mP dC dI cI kA ad) M s H) (hS : va_S (Fr (mΩ ad) s.heap.size) s.heap H locs) (hl : lv_has ls 4 [(0, .ref (ad 25)), (2, .int x2)]) : W p l e (rmL 3 0 0) s m args below meth c H locs 0 0 Q (F0 m 103 ls [.int s0]) := by
  have hx := X.hx
  have hb := X.hb
  have hown := X.hown
  have hts := X.hts
  rw [fX11_isConsistent_103] at hf
  refine lv_aload_n hx hb dX11_isConsistent_103 rfl (lv_at hl 0 rfl) ?_
  refine mr_get (k := 0) X hP (by decide) rfl rfl tw1665 dX11_isConsistent_104 ?_
  refine lv_bipush (v := 9) hx hb dX11_isConsistent_107 (by decide) ?_
  obtain ⟨g1, hf⟩ := gd hf
  refine mr_ald (a := 0) X hP rfl g1 dX11_isConsistent_109 ?_
  refine lv_icmp_ne (tgt := 117) hx hb dX11_isConsistent_110 (by decide) (fun c1 => ?_) (fun c1 => ?_)
  · exact kX11_isConsistent_117 X hret (ifn c1 hf) hP hS (lv_sub hl [0, 1] rfl)
  · exact kX11_isConsistent_113 X hret (ifp c1 hf) hP hS (lv_sub hl [0, 1] rfl)
set_option maxRecDepth 10000 in
theorem kX11_isConsistent_93 {r : Int32} {S1 : MS} {M : MS} {x2 : Int32} {H : Heap} {locs : List Loc} {ls : Array Slot} (X : gX p s m args c cX11_isConsistent 4 RX11 (kR kTab kA)) (hret : gRetI p l e (rmL 3 0 0) s m args below meth c cX11_isConsistent (mΩ ad) (mP dC dI cI kA ad) Q r S1) (hf : fX11_isConsistent_93 M x2 = some (r, S1)) (hP : (mP dC dI cI kA ad) M s H) (hS : va_S (Fr (mΩ ad) s.heap.size) s.heap H locs) (hl : lv_has ls 4 [(0, .ref (ad 25)), (2, .int x2)]) : W p l e (rmL 3 0 0) s m args below meth c H locs 0 0 Q (F0 m 93 ls []) := by
  have hx := X.hx
  have hb := X.hb
  have hown := X.hown
  have hts := X.hts
  rw [fX11_isConsistent_93] at hf
  refine lv_aload_n hx hb dX11_isConsistent_93 rfl (lv_at hl 0 rfl) ?_
  refine lv_sipush (v := 161) hx hb dX11_isConsistent_94 (by decide) ?_
  refine lv_iconst (v := 1) hx hb dX11_isConsistent_97 (by decide) ?_
  refine lv_bipush (v := 10) hx hb dX11_isConsistent_98 (by decide) ?_
  obtain ⟨q, hc, hf⟩ := bd hf
  refine gCallVR X rfl (vX11_sumOf hc) gRX11_X11_sumOf hdX11_sumOf rfl ⟨by decide, by decide⟩ (gB_blind mOK) (gB_at mOK X hP) (mrec hP) hl.1 (Nat.le_of_ble_eq_true rfl) ⟨Nat.le_refl _, Nat.le_refl _⟩ dX11_isConsistent_100 (As := [.int 161, .int 1, .int 10]) (rest := []) rfl ?_
  exact kX11_isConsistent_103 X hret hf hP hS (lv_sub hl [0, 1] rfl)
set_option maxRecDepth 10000 in
theorem kX11_isConsistent_75 {r : Int32} {S1 : MS} {M : MS} {x2 : Int32} {s0 : Int32} {H : Heap} {locs : List Loc} {ls : Array Slot} (X : gX p s m args c cX11_isConsistent 4 RX11 (kR kTab kA)) (hret : gRetI p l e (rmL 3 0 0) s m args below meth c cX11_isConsistent (mΩ ad) (mP dC dI cI kA ad) Q r S1) (hf : fX11_isConsistent_75 M x2 s0 = some (r, S1)) (hP : (mP dC dI cI kA ad) M s H) (hS : va_S (Fr (mΩ ad) s.heap.size) s.heap H locs) (hl : lv_has ls 4 [(0, .ref (ad 25)), (2, .int x2)]) : W p l e (rmL 3 0 0) s m args below meth c H locs 0 0 Q (F0 m 75 ls [.int s0]) := by
  have hx := X.hx
  have hb := X.hb
  have hown := X.hown
  have hts := X.hts
  rw [fX11_isConsistent_75] at hf
  refine lv_aload_n hx hb dX11_isConsistent_75 rfl (lv_at hl 0 rfl) ?_
  refine mr_get (k := 0) X hP (by decide) rfl rfl tw1665 dX11_isConsistent_76 ?_
  refine lv_bipush (v := 15) hx hb dX11_isConsistent_79 (by decide) ?_
  obtain ⟨g1, hf⟩ := gd hf
  refine mr_ald (a := 0) X hP rfl g1 dX11_isConsistent_81 ?_
  refine lv_aload_n hx hb dX11_isConsistent_82 rfl (lv_at hl 0 rfl) ?_
  refine mr_get (k := 0) X hP (by decide) rfl rfl tw1665 dX11_isConsistent_83 ?_
  refine lv_bipush (v := 9) hx hb dX11_isConsistent_86 (by decide) ?_
  obtain ⟨g2, hf⟩ := gd hf
  refine mr_ald (a := 0) X hP rfl g2 dX11_isConsistent_88 ?_
  refine lv_isub hx hb dX11_isConsistent_89 ?_
  refine lv_icmp_ne (tgt := 117) hx hb dX11_isConsistent_90 (by decide) (fun c1 => ?_) (fun c1 => ?_)
  · exact kX11_isConsistent_117 X hret (ifn c1 hf) hP hS (lv_sub hl [0, 1] rfl)
  · exact kX11_isConsistent_93 X hret (ifp c1 hf) hP hS (lv_sub hl [0, 1] rfl)
set_option maxRecDepth 10000 in
theorem kX11_isConsistent_64 {r : Int32} {S1 : MS} {M : MS} {s0 : Int32} {H : Heap} {locs : List Loc} {ls : Array Slot} (X : gX p s m args c cX11_isConsistent 4 RX11 (kR kTab kA)) (hret : gRetI p l e (rmL 3 0 0) s m args below meth c cX11_isConsistent (mΩ ad) (mP dC dI cI kA ad) Q r S1) (hf : fX11_isConsistent_64 M s0 = some (r, S1)) (hP : (mP dC dI cI kA ad) M s H) (hS : va_S (Fr (mΩ ad) s.heap.size) s.heap H locs) (hl : lv_has ls 4 [(0, .ref (ad 25))]) : W p l e (rmL 3 0 0) s m args below meth c H locs 0 0 Q (F0 m 64 ls [.int s0]) := by
  have hx := X.hx
  have hb := X.hb
  have hown := X.hown
  have hts := X.hts
  rw [fX11_isConsistent_64] at hf
  refine lv_istore_n (lv' := [(2, .int s0), (0, .ref (ad 25))]) hx hb dX11_isConsistent_64 rfl hl (by decide) rfl (fun ls hl => ?_)
  refine lv_aload_n hx hb dX11_isConsistent_65 rfl (lv_at hl 1 rfl) ?_
  refine lv_sipush (v := 161) hx hb dX11_isConsistent_66 (by decide) ?_
  refine lv_iconst (v := 1) hx hb dX11_isConsistent_69 (by decide) ?_
  refine lv_bipush (v := 7) hx hb dX11_isConsistent_70 (by decide) ?_
  obtain ⟨q, hc, hf⟩ := bd hf
  refine gCallVR X rfl (vX11_sumOf hc) gRX11_X11_sumOf hdX11_sumOf rfl ⟨by decide, by decide⟩ (gB_blind mOK) (gB_at mOK X hP) (mrec hP) hl.1 (Nat.le_of_ble_eq_true rfl) ⟨Nat.le_refl _, Nat.le_refl _⟩ dX11_isConsistent_72 (As := [.int 161, .int 1, .int 7]) (rest := []) rfl ?_
  exact kX11_isConsistent_75 X hret hf hP hS (lv_sub hl [1, 0] rfl)
set_option maxRecDepth 10000 in
theorem kX11_isConsistent_63 {r : Int32} {S1 : MS} {M : MS} {H : Heap} {locs : List Loc} {ls : Array Slot} (X : gX p s m args c cX11_isConsistent 4 RX11 (kR kTab kA)) (hret : gRetI p l e (rmL 3 0 0) s m args below meth c cX11_isConsistent (mΩ ad) (mP dC dI cI kA ad) Q r S1) (hf : fX11_isConsistent_63 M = some (r, S1)) (hP : (mP dC dI cI kA ad) M s H) (hS : va_S (Fr (mΩ ad) s.heap.size) s.heap H locs) (hl : lv_has ls 4 [(0, .ref (ad 25))]) : W p l e (rmL 3 0 0) s m args below meth c H locs 0 0 Q (F0 m 63 ls []) := by
  have hx := X.hx
  have hb := X.hb
  have hown := X.hown
  have hts := X.hts
  rw [fX11_isConsistent_63] at hf
  refine lv_iconst (v := 0) hx hb dX11_isConsistent_63 (by decide) ?_
  exact kX11_isConsistent_64 X hret hf hP hS (lv_sub hl [0] rfl)
set_option maxRecDepth 10000 in
theorem kX11_isConsistent_59 {r : Int32} {S1 : MS} {M : MS} {H : Heap} {locs : List Loc} {ls : Array Slot} (X : gX p s m args c cX11_isConsistent 4 RX11 (kR kTab kA)) (hret : gRetI p l e (rmL 3 0 0) s m args below meth c cX11_isConsistent (mΩ ad) (mP dC dI cI kA ad) Q r S1) (hf : fX11_isConsistent_59 M = some (r, S1)) (hP : (mP dC dI cI kA ad) M s H) (hS : va_S (Fr (mΩ ad) s.heap.size) s.heap H locs) (hl : lv_has ls 4 [(0, .ref (ad 25))]) : W p l e (rmL 3 0 0) s m args below meth c H locs 0 0 Q (F0 m 59 ls []) := by
  have hx := X.hx
  have hb := X.hb
  have hown := X.hown
  have hts := X.hts
  rw [fX11_isConsistent_59] at hf
  refine lv_iconst (v := 1) hx hb dX11_isConsistent_59 (by decide) ?_
  refine lv_goto (tgt := 64) hx hb dX11_isConsistent_60 (by decide) ?_
  exact kX11_isConsistent_64 X hret hf hP hS (lv_sub hl [0] rfl)
set_option maxRecDepth 10000 in
theorem kX11_isConsistent_56 {r : Int32} {S1 : MS} {M : MS} {s0 : Int32} {s1 : Int32} {H : Heap} {locs : List Loc} {ls : Array Slot} (X : gX p s m args c cX11_isConsistent 4 RX11 (kR kTab kA)) (hret : gRetI p l e (rmL 3 0 0) s m args below meth c cX11_isConsistent (mΩ ad) (mP dC dI cI kA ad) Q r S1) (hf : fX11_isConsistent_56 M s0 s1 = some (r, S1)) (hP : (mP dC dI cI kA ad) M s H) (hS : va_S (Fr (mΩ ad) s.heap.size) s.heap H locs) (hl : lv_has ls 4 [(0, .ref (ad 25))]) : W p l e (rmL 3 0 0) s m args below meth c H locs 0 0 Q (F0 m 56 ls [.int s0, .int s1]) := by
  have hx := X.hx
  have hb := X.hb
  have hown := X.hown
  have hts := X.hts
  rw [fX11_isConsistent_56] at hf
  refine lv_icmp_ne (tgt := 63) hx hb dX11_isConsistent_56 (by decide) (fun c1 => ?_) (fun c1 => ?_)
  · exact kX11_isConsistent_63 X hret (ifn c1 hf) hP hS (lv_sub hl [0] rfl)
  · exact kX11_isConsistent_59 X hret (ifp c1 hf) hP hS (lv_sub hl [0] rfl)
set_option maxRecDepth 10000 in
theorem kX11_isConsistent_51 {r : Int32} {S1 : MS} {M : MS} {x1 : Int32} {H : Heap} {locs : List Loc} {ls : Array Slot} (X : gX p s m args c cX11_isConsistent 4 RX11 (kR kTab kA)) (hret : gRetI p l e (rmL 3 0 0) s m args below meth c cX11_isConsistent (mΩ ad) (mP dC dI cI kA ad) Q r S1) (hf : fX11_isConsistent_51 M x1 = some (r, S1)) (hP : (mP dC dI cI kA ad) M s H) (hS : va_S (Fr (mΩ ad) s.heap.size) s.heap H locs) (hl : lv_has ls 4 [(0, .ref (ad 25)), (1, .int x1)]) : W p l e (rmL 3 0 0) s m args below meth c H locs 0 0 Q (F0 m 51 ls []) := by
  have hx := X.hx
  have hb := X.hb
  have hown := X.hown
  have hts := X.hts
  rw [fX11_isConsistent_51] at hf
  refine lv_iload_n hx hb dX11_isConsistent_51 rfl (lv_at hl 1 rfl) ?_
  refine lv_aload_n hx hb dX11_isConsistent_52 rfl (lv_at hl 0 rfl) ?_
  obtain ⟨q, hc, hf⟩ := bd hf
  refine gCallVR X rfl (vX11_miceBackwards hc) gRX11_X11_miceBackwards hdX11_miceBackwards rfl ⟨by decide, by decide⟩ (gB_blind mOK) (gB_at mOK X hP) (mrec hP) hl.1 (Nat.le_of_ble_eq_true rfl) ⟨Nat.le_refl _, Nat.le_refl _⟩ dX11_isConsistent_53 (As := []) (rest := [.int x1]) rfl ?_
  exact kX11_isConsistent_56 X hret hf hP hS (lv_sub hl [0] rfl)
set_option maxRecDepth 10000 in
theorem kX11_isConsistent_15 {r : Int32} {S1 : MS} {M : MS} {s0 : Int32} {H : Heap} {locs : List Loc} {ls : Array Slot} (X : gX p s m args c cX11_isConsistent 4 RX11 (kR kTab kA)) (hret : gRetI p l e (rmL 3 0 0) s m args below meth c cX11_isConsistent (mΩ ad) (mP dC dI cI kA ad) Q r S1) (hf : fX11_isConsistent_15 M s0 = some (r, S1)) (hP : (mP dC dI cI kA ad) M s H) (hS : va_S (Fr (mΩ ad) s.heap.size) s.heap H locs) (hl : lv_has ls 4 [(0, .ref (ad 25))]) : W p l e (rmL 3 0 0) s m args below meth c H locs 0 0 Q (F0 m 15 ls [.int s0]) := by
  have hx := X.hx
  have hb := X.hb
  have hown := X.hown
  have hts := X.hts
  rw [fX11_isConsistent_15] at hf
  refine lv_istore_n (lv' := [(1, .int s0), (0, .ref (ad 25))]) hx hb dX11_isConsistent_15 rfl hl (by decide) rfl (fun ls hl => ?_)
  refine lv_iload_n hx hb dX11_isConsistent_16 rfl (lv_at hl 0 rfl) ?_
  refine lv_aload_n hx hb dX11_isConsistent_17 rfl (lv_at hl 1 rfl) ?_
  refine mr_get (k := 0) X hP (by decide) rfl rfl tw1665 dX11_isConsistent_18 ?_
  refine lv_bipush (v := 14) hx hb dX11_isConsistent_21 (by decide) ?_
  obtain ⟨g1, hf⟩ := gd hf
  refine mr_ald (a := 0) X hP rfl g1 dX11_isConsistent_23 ?_
  refine lv_aload_n hx hb dX11_isConsistent_24 rfl (lv_at hl 1 rfl) ?_
  refine mr_get (k := 0) X hP (by decide) rfl rfl tw1665 dX11_isConsistent_25 ?_
  refine lv_bipush (v := 10) hx hb dX11_isConsistent_28 (by decide) ?_
  obtain ⟨g2, hf⟩ := gd hf
  refine mr_ald (a := 0) X hP rfl g2 dX11_isConsistent_30 ?_
  refine lv_iadd hx hb dX11_isConsistent_31 ?_
  refine lv_aload_n hx hb dX11_isConsistent_32 rfl (lv_at hl 1 rfl) ?_
  refine mr_get (k := 0) X hP (by decide) rfl rfl tw1665 dX11_isConsistent_33 ?_
  refine lv_bipush (v := 8) hx hb dX11_isConsistent_36 (by decide) ?_
  obtain ⟨g3, hf⟩ := gd hf
  refine mr_ald (a := 0) X hP rfl g3 dX11_isConsistent_38 ?_
  refine lv_isub hx hb dX11_isConsistent_39 ?_
  refine lv_aload_n hx hb dX11_isConsistent_40 rfl (lv_at hl 1 rfl) ?_
  refine mr_get (k := 0) X hP (by decide) rfl rfl tw1665 dX11_isConsistent_41 ?_
  refine lv_bipush (v := 11) hx hb dX11_isConsistent_44 (by decide) ?_
  obtain ⟨g4, hf⟩ := gd hf
  refine mr_ald (a := 0) X hP rfl g4 dX11_isConsistent_46 ?_
  refine lv_isub hx hb dX11_isConsistent_47 ?_
  refine lv_icmp_ne (tgt := 63) hx hb dX11_isConsistent_48 (by decide) (fun c1 => ?_) (fun c1 => ?_)
  · exact kX11_isConsistent_63 X hret (ifn c1 hf) hP hS (lv_sub hl [1] rfl)
  · exact kX11_isConsistent_51 X hret (ifp c1 hf) hP hS (lv_sub hl [1, 0] rfl)
set_option maxRecDepth 10000 in
theorem kX11_isConsistent_5 {r : Int32} {S1 : MS} {M : MS} {H : Heap} {locs : List Loc} {ls : Array Slot} (X : gX p s m args c cX11_isConsistent 4 RX11 (kR kTab kA)) (hret : gRetI p l e (rmL 3 0 0) s m args below meth c cX11_isConsistent (mΩ ad) (mP dC dI cI kA ad) Q r S1) (hf : fX11_isConsistent_5 M = some (r, S1)) (hP : (mP dC dI cI kA ad) M s H) (hS : va_S (Fr (mΩ ad) s.heap.size) s.heap H locs) (hl : lv_has ls 4 [(0, .ref (ad 25))]) : W p l e (rmL 3 0 0) s m args below meth c H locs 0 0 Q (F0 m 5 ls []) := by
  have hx := X.hx
  have hb := X.hb
  have hown := X.hown
  have hts := X.hts
  rw [fX11_isConsistent_5] at hf
  refine lv_aload_n hx hb dX11_isConsistent_5 rfl (lv_at hl 0 rfl) ?_
  refine lv_sipush (v := 161) hx hb dX11_isConsistent_6 (by decide) ?_
  refine lv_iconst (v := 1) hx hb dX11_isConsistent_9 (by decide) ?_
  refine lv_bipush (v := 8) hx hb dX11_isConsistent_10 (by decide) ?_
  obtain ⟨q, hc, hf⟩ := bd hf
  refine gCallVR X rfl (vX11_sumOf hc) gRX11_X11_sumOf hdX11_sumOf rfl ⟨by decide, by decide⟩ (gB_blind mOK) (gB_at mOK X hP) (mrec hP) hl.1 (Nat.le_of_ble_eq_true rfl) ⟨Nat.le_refl _, Nat.le_refl _⟩ dX11_isConsistent_12 (As := [.int 161, .int 1, .int 8]) (rest := []) rfl ?_
  exact kX11_isConsistent_15 X hret hf hP hS (lv_sub hl [0] rfl)
set_option maxRecDepth 10000 in
theorem kX11_isConsistent_0 {r : Int32} {S1 : MS} {M : MS} {H : Heap} {locs : List Loc} {ls : Array Slot} (X : gX p s m args c cX11_isConsistent 4 RX11 (kR kTab kA)) (hret : gRetI p l e (rmL 3 0 0) s m args below meth c cX11_isConsistent (mΩ ad) (mP dC dI cI kA ad) Q r S1) (hf : fX11_isConsistent_0 M = some (r, S1)) (hP : (mP dC dI cI kA ad) M s H) (hS : va_S (Fr (mΩ ad) s.heap.size) s.heap H locs) (hl : lv_has ls 4 [(0, .ref (ad 25))]) : W p l e (rmL 3 0 0) s m args below meth c H locs 0 0 Q (F0 m 0 ls []) := by
  have hx := X.hx
  have hb := X.hb
  have hown := X.hown
  have hts := X.hts
  rw [fX11_isConsistent_0] at hf
  refine lv_aload_n hx hb dX11_isConsistent_0 rfl (lv_at hl 0 rfl) ?_
  refine lv_iconst (v := 0) hx hb dX11_isConsistent_1 (by decide) ?_
  refine mr_put (k := 7) X hP hS (by decide) rfl rfl rfl rfl tw1672 dX11_isConsistent_2 (fun H locs hP hS => ?_)
  exact kX11_isConsistent_5 X hret hf hP hS (lv_sub hl [0] rfl)
theorem vX11_isConsistent {l : Launch} {dC : Nat → ClassId} {dI : Nat → Nat → Nat} {cI : ClassId} {kA : String → Nat → Nat} {ad : Nat → Nat} {M S1 : MS} {r : Int32} (hf : fX11_isConsistent M  = some (r, S1)) : gMetI l yX11_isConsistent cX11_isConsistent 4 (some .boolean) 3 (mΩ ad) (mP dC dI cI kA ad) (kR kTab kA) [.ref (ad 25)] M r S1 := gEntryI (ty := .boolean) (by decide) rfl (bz_n hf) mOK (Nat.le_of_ble_eq_true rfl) (fun p e s m args below meth c Q ls X hP hS hret hl => 
  kX11_isConsistent_0 X hret (bz_f hf) hP hS (lv_sub hl [0] rfl))
set_option maxRecDepth 10000 in
theorem kX11_addMice_58 {r : Int32} {S1 : MS} {M : MS} {H : Heap} {locs : List Loc} {ls : Array Slot} (X : gX p s m args c cX11_addMice 3 RX11 (kR kTab kA)) (hret : gRetI p l e (rmL 3 0 0) s m args below meth c cX11_addMice (mΩ ad) (mP dC dI cI kA ad) Q r S1) (hf : fX11_addMice_58 M = some (r, S1)) (hP : (mP dC dI cI kA ad) M s H) (hS : va_S (Fr (mΩ ad) s.heap.size) s.heap H locs) (hl : lv_has ls 3 [(0, .ref (ad 25))]) : W p l e (rmL 3 0 0) s m args below meth c H locs 0 0 Q (F0 m 58 ls []) := by
  have hx := X.hx
  have hb := X.hb
  have hown := X.hown
  have hts := X.hts
  rw [fX11_addMice_58] at hf
  refine lv_iconst (v := 0) hx hb dX11_addMice_58 (by decide) ?_
  cases hf
  exact hret _ _ _ _ dX11_addMice_59 hP hS
set_option maxRecDepth 10000 in
theorem kX11_addMice_70 {r : Int32} {S1 : MS} {M : MS} {s0 : Int32} {H : Heap} {locs : List Loc} {ls : Array Slot} (X : gX p s m args c cX11_addMice 3 RX11 (kR kTab kA)) (hret : gRetI p l e (rmL 3 0 0) s m args below meth c cX11_addMice (mΩ ad) (mP dC dI cI kA ad) Q r S1) (hf : fX11_addMice_70 M s0 = some (r, S1)) (hP : (mP dC dI cI kA ad) M s H) (hS : va_S (Fr (mΩ ad) s.heap.size) s.heap H locs) (hl : lv_has ls 3 [(0, .ref (ad 25))]) : W p l e (rmL 3 0 0) s m args below meth c H locs 0 0 Q (F0 m 70 ls [.int s0]) := by
  have hx := X.hx
  have hb := X.hb
  have hown := X.hown
  have hts := X.hts
  rw [fX11_addMice_70] at hf
  cases hf
  exact hret _ _ _ _ dX11_addMice_70 hP hS
set_option maxRecDepth 10000 in
theorem kX11_addMice_64 {r : Int32} {S1 : MS} {M : MS} {x1 : Int32} {x2 : Int32} {H : Heap} {locs : List Loc} {ls : Array Slot} (X : gX p s m args c cX11_addMice 3 RX11 (kR kTab kA)) (hret : gRetI p l e (rmL 3 0 0) s m args below meth c cX11_addMice (mΩ ad) (mP dC dI cI kA ad) Q r S1) (hf : fX11_addMice_64 M x1 x2 = some (r, S1)) (hP : (mP dC dI cI kA ad) M s H) (hS : va_S (Fr (mΩ ad) s.heap.size) s.heap H locs) (hl : lv_has ls 3 [(0, .ref (ad 25)), (1, .int x1), (2, .int x2)]) : W p l e (rmL 3 0 0) s m args below meth c H locs 0 0 Q (F0 m 64 ls []) := by
  have hx := X.hx
  have hb := X.hb
  have hown := X.hown
  have hts := X.hts
  rw [fX11_addMice_64] at hf
  refine lv_aload_n hx hb dX11_addMice_64 rfl (lv_at hl 0 rfl) ?_
  refine lv_iload_n hx hb dX11_addMice_65 rfl (lv_at hl 1 rfl) ?_
  refine lv_iload_n hx hb dX11_addMice_66 rfl (lv_at hl 2 rfl) ?_
  obtain ⟨q, hc, hf⟩ := bd hf
  refine gCallVI X mOK rfl (vX11_addsMice hc) gRX11_X11_addsMice hdX11_addsMice rfl ⟨by decide, by decide⟩ hP hS (mrec hP) hl.1 (Nat.le_of_ble_eq_true rfl) ⟨Nat.le_refl _, Nat.le_refl _⟩ dX11_addMice_67 (As := [.int x1, .int x2]) (rest := []) rfl (fun H locs hP hS => ?_)
  exact kX11_addMice_70 X hret hf hP hS (lv_sub hl [0] rfl)
set_option maxRecDepth 10000 in
theorem kX11_addMice_60 {r : Int32} {S1 : MS} {M : MS} {x1 : Int32} {x2 : Int32} {H : Heap} {locs : List Loc} {ls : Array Slot} (X : gX p s m args c cX11_addMice 3 RX11 (kR kTab kA)) (hret : gRetI p l e (rmL 3 0 0) s m args below meth c cX11_addMice (mΩ ad) (mP dC dI cI kA ad) Q r S1) (hf : fX11_addMice_60 M x1 x2 = some (r, S1)) (hP : (mP dC dI cI kA ad) M s H) (hS : va_S (Fr (mΩ ad) s.heap.size) s.heap H locs) (hl : lv_has ls 3 [(0, .ref (ad 25)), (1, .int x1), (2, .int x2)]) : W p l e (rmL 3 0 0) s m args below meth c H locs 0 0 Q (F0 m 60 ls []) := by
  have hx := X.hx
  have hb := X.hb
  have hown := X.hown
  have hts := X.hts
  rw [fX11_addMice_60] at hf
  refine lv_aload_n hx hb dX11_addMice_60 rfl (lv_at hl 0 rfl) ?_
  obtain ⟨q, hc, hf⟩ := bd hf
  refine gCallVV X mOK rfl (vX11_remembers hc) gRX11_X11_remembers hdX11_remembers rfl ⟨by decide, by decide⟩ hP hS (mrec hP) hl.1 (Nat.le_of_ble_eq_true rfl) ⟨Nat.le_refl _, Nat.le_refl _⟩ dX11_addMice_61 (As := []) (rest := []) rfl (fun H locs hP hS => ?_)
  exact kX11_addMice_64 X hret hf hP hS (lv_sub hl [0, 1, 2] rfl)
set_option maxRecDepth 10000 in
theorem kX11_addMice_55 {r : Int32} {S1 : MS} {M : MS} {x1 : Int32} {x2 : Int32} {s0 : Int32} {H : Heap} {locs : List Loc} {ls : Array Slot} (X : gX p s m args c cX11_addMice 3 RX11 (kR kTab kA)) (hret : gRetI p l e (rmL 3 0 0) s m args below meth c cX11_addMice (mΩ ad) (mP dC dI cI kA ad) Q r S1) (hf : fX11_addMice_55 M x1 x2 s0 = some (r, S1)) (hP : (mP dC dI cI kA ad) M s H) (hS : va_S (Fr (mΩ ad) s.heap.size) s.heap H locs) (hl : lv_has ls 3 [(0, .ref (ad 25)), (1, .int x1), (2, .int x2)]) : W p l e (rmL 3 0 0) s m args below meth c H locs 0 0 Q (F0 m 55 ls [.int s0]) := by
  have hx := X.hx
  have hb := X.hb
  have hown := X.hown
  have hts := X.hts
  rw [fX11_addMice_55] at hf
  refine lv_if_eq (tgt := 60) hx hb dX11_addMice_55 (by decide) (fun c1 => ?_) (fun c1 => ?_)
  · exact kX11_addMice_60 X hret (ifp c1 hf) hP hS (lv_sub hl [0, 1, 2] rfl)
  · exact kX11_addMice_58 X hret (ifn c1 hf) hP hS (lv_sub hl [0] rfl)
set_option maxRecDepth 10000 in
theorem kX11_addMice_51 {r : Int32} {S1 : MS} {M : MS} {x1 : Int32} {x2 : Int32} {s0 : Int32} {H : Heap} {locs : List Loc} {ls : Array Slot} (X : gX p s m args c cX11_addMice 3 RX11 (kR kTab kA)) (hret : gRetI p l e (rmL 3 0 0) s m args below meth c cX11_addMice (mΩ ad) (mP dC dI cI kA ad) Q r S1) (hf : fX11_addMice_51 M x1 x2 s0 = some (r, S1)) (hP : (mP dC dI cI kA ad) M s H) (hS : va_S (Fr (mΩ ad) s.heap.size) s.heap H locs) (hl : lv_has ls 3 [(0, .ref (ad 25)), (1, .int x1), (2, .int x2)]) : W p l e (rmL 3 0 0) s m args below meth c H locs 0 0 Q (F0 m 51 ls [.int s0, .ref (ad 25)]) := by
  have hx := X.hx
  have hb := X.hb
  have hown := X.hown
  have hts := X.hts
  rw [fX11_addMice_51] at hf
  refine lv_iconst (v := 3) hx hb dX11_addMice_51 (by decide) ?_
  obtain ⟨q, hc, hf⟩ := bd hf
  refine gCallVI X mOK rfl (vX11_fails hc) gRX11_X11_fails hdX11_fails rfl ⟨by decide, by decide⟩ hP hS (mrec hP) hl.1 (Nat.le_of_ble_eq_true rfl) ⟨Nat.le_refl _, Nat.le_refl _⟩ dX11_addMice_52 (As := [.int s0, .int 3]) (rest := []) rfl (fun H locs hP hS => ?_)
  exact kX11_addMice_55 X hret hf hP hS (lv_sub hl [0, 1, 2] rfl)
set_option maxRecDepth 10000 in
theorem kX11_addMice_50 {r : Int32} {S1 : MS} {M : MS} {x1 : Int32} {x2 : Int32} {H : Heap} {locs : List Loc} {ls : Array Slot} (X : gX p s m args c cX11_addMice 3 RX11 (kR kTab kA)) (hret : gRetI p l e (rmL 3 0 0) s m args below meth c cX11_addMice (mΩ ad) (mP dC dI cI kA ad) Q r S1) (hf : fX11_addMice_50 M x1 x2 = some (r, S1)) (hP : (mP dC dI cI kA ad) M s H) (hS : va_S (Fr (mΩ ad) s.heap.size) s.heap H locs) (hl : lv_has ls 3 [(0, .ref (ad 25)), (1, .int x1), (2, .int x2)]) : W p l e (rmL 3 0 0) s m args below meth c H locs 0 0 Q (F0 m 50 ls [.ref (ad 25)]) := by
  have hx := X.hx
  have hb := X.hb
  have hown := X.hown
  have hts := X.hts
  rw [fX11_addMice_50] at hf
  refine lv_iconst (v := 0) hx hb dX11_addMice_50 (by decide) ?_
  exact kX11_addMice_51 X hret hf hP hS (lv_sub hl [0, 1, 2] rfl)
set_option maxRecDepth 10000 in
theorem kX11_addMice_46 {r : Int32} {S1 : MS} {M : MS} {x1 : Int32} {x2 : Int32} {H : Heap} {locs : List Loc} {ls : Array Slot} (X : gX p s m args c cX11_addMice 3 RX11 (kR kTab kA)) (hret : gRetI p l e (rmL 3 0 0) s m args below meth c cX11_addMice (mΩ ad) (mP dC dI cI kA ad) Q r S1) (hf : fX11_addMice_46 M x1 x2 = some (r, S1)) (hP : (mP dC dI cI kA ad) M s H) (hS : va_S (Fr (mΩ ad) s.heap.size) s.heap H locs) (hl : lv_has ls 3 [(0, .ref (ad 25)), (1, .int x1), (2, .int x2)]) : W p l e (rmL 3 0 0) s m args below meth c H locs 0 0 Q (F0 m 46 ls [.ref (ad 25)]) := by
  have hx := X.hx
  have hb := X.hb
  have hown := X.hown
  have hts := X.hts
  rw [fX11_addMice_46] at hf
  refine lv_iconst (v := 1) hx hb dX11_addMice_46 (by decide) ?_
  refine lv_goto (tgt := 51) hx hb dX11_addMice_47 (by decide) ?_
  exact kX11_addMice_51 X hret hf hP hS (lv_sub hl [0, 1, 2] rfl)
set_option maxRecDepth 10000 in
theorem kX11_addMice_43 {r : Int32} {S1 : MS} {M : MS} {x1 : Int32} {x2 : Int32} {s0 : Int32} {H : Heap} {locs : List Loc} {ls : Array Slot} (X : gX p s m args c cX11_addMice 3 RX11 (kR kTab kA)) (hret : gRetI p l e (rmL 3 0 0) s m args below meth c cX11_addMice (mΩ ad) (mP dC dI cI kA ad) Q r S1) (hf : fX11_addMice_43 M x1 x2 s0 = some (r, S1)) (hP : (mP dC dI cI kA ad) M s H) (hS : va_S (Fr (mΩ ad) s.heap.size) s.heap H locs) (hl : lv_has ls 3 [(0, .ref (ad 25)), (1, .int x1), (2, .int x2)]) : W p l e (rmL 3 0 0) s m args below meth c H locs 0 0 Q (F0 m 43 ls [.int s0, .ref (ad 25)]) := by
  have hx := X.hx
  have hb := X.hb
  have hown := X.hown
  have hts := X.hts
  rw [fX11_addMice_43] at hf
  refine lv_if_ne (tgt := 50) hx hb dX11_addMice_43 (by decide) (fun c1 => ?_) (fun c1 => ?_)
  · exact kX11_addMice_50 X hret (ifn c1 hf) hP hS (lv_sub hl [0, 1, 2] rfl)
  · exact kX11_addMice_46 X hret (ifp c1 hf) hP hS (lv_sub hl [0, 1, 2] rfl)
set_option maxRecDepth 10000 in
theorem kX11_addMice_36 {r : Int32} {S1 : MS} {M : MS} {x1 : Int32} {x2 : Int32} {H : Heap} {locs : List Loc} {ls : Array Slot} (X : gX p s m args c cX11_addMice 3 RX11 (kR kTab kA)) (hret : gRetI p l e (rmL 3 0 0) s m args below meth c cX11_addMice (mΩ ad) (mP dC dI cI kA ad) Q r S1) (hf : fX11_addMice_36 M x1 x2 = some (r, S1)) (hP : (mP dC dI cI kA ad) M s H) (hS : va_S (Fr (mΩ ad) s.heap.size) s.heap H locs) (hl : lv_has ls 3 [(0, .ref (ad 25)), (1, .int x1), (2, .int x2)]) : W p l e (rmL 3 0 0) s m args below meth c H locs 0 0 Q (F0 m 36 ls []) := by
  have hx := X.hx
  have hb := X.hb
  have hown := X.hown
  have hts := X.hts
  rw [fX11_addMice_36] at hf
  refine lv_aload_n hx hb dX11_addMice_36 rfl (lv_at hl 0 rfl) ?_
  refine lv_aload_n hx hb dX11_addMice_37 rfl (lv_at hl 0 rfl) ?_
  refine lv_iload_n hx hb dX11_addMice_38 rfl (lv_at hl 1 rfl) ?_
  refine lv_iload_n hx hb dX11_addMice_39 rfl (lv_at hl 2 rfl) ?_
  obtain ⟨q, hc, hf⟩ := bd hf
  refine gCallVR X rfl (vX11_mayAddMice hc) gRX11_X11_mayAddMice hdX11_mayAddMice rfl ⟨by decide, by decide⟩ (gB_blind mOK) (gB_at mOK X hP) (mrec hP) hl.1 (Nat.le_of_ble_eq_true rfl) ⟨Nat.le_refl _, Nat.le_refl _⟩ dX11_addMice_40 (As := [.int x1, .int x2]) (rest := [.ref (ad 25)]) rfl ?_
  exact kX11_addMice_43 X hret hf hP hS (lv_sub hl [0, 1, 2] rfl)
set_option maxRecDepth 10000 in
theorem kX11_addMice_33 {r : Int32} {S1 : MS} {M : MS} {x1 : Int32} {x2 : Int32} {s0 : Int32} {H : Heap} {locs : List Loc} {ls : Array Slot} (X : gX p s m args c cX11_addMice 3 RX11 (kR kTab kA)) (hret : gRetI p l e (rmL 3 0 0) s m args below meth c cX11_addMice (mΩ ad) (mP dC dI cI kA ad) Q r S1) (hf : fX11_addMice_33 M x1 x2 s0 = some (r, S1)) (hP : (mP dC dI cI kA ad) M s H) (hS : va_S (Fr (mΩ ad) s.heap.size) s.heap H locs) (hl : lv_has ls 3 [(0, .ref (ad 25)), (1, .int x1), (2, .int x2)]) : W p l e (rmL 3 0 0) s m args below meth c H locs 0 0 Q (F0 m 33 ls [.int s0]) := by
  have hx := X.hx
  have hb := X.hb
  have hown := X.hown
  have hts := X.hts
  rw [fX11_addMice_33] at hf
  refine lv_if_ne (tgt := 58) hx hb dX11_addMice_33 (by decide) (fun c1 => ?_) (fun c1 => ?_)
  · exact kX11_addMice_58 X hret (ifn c1 hf) hP hS (lv_sub hl [0] rfl)
  · exact kX11_addMice_36 X hret (ifp c1 hf) hP hS (lv_sub hl [0, 1, 2] rfl)
set_option maxRecDepth 10000 in
theorem kX11_addMice_29 {r : Int32} {S1 : MS} {M : MS} {x1 : Int32} {x2 : Int32} {s0 : Int32} {H : Heap} {locs : List Loc} {ls : Array Slot} (X : gX p s m args c cX11_addMice 3 RX11 (kR kTab kA)) (hret : gRetI p l e (rmL 3 0 0) s m args below meth c cX11_addMice (mΩ ad) (mP dC dI cI kA ad) Q r S1) (hf : fX11_addMice_29 M x1 x2 s0 = some (r, S1)) (hP : (mP dC dI cI kA ad) M s H) (hS : va_S (Fr (mΩ ad) s.heap.size) s.heap H locs) (hl : lv_has ls 3 [(0, .ref (ad 25)), (1, .int x1), (2, .int x2)]) : W p l e (rmL 3 0 0) s m args below meth c H locs 0 0 Q (F0 m 29 ls [.int s0, .ref (ad 25)]) := by
  have hx := X.hx
  have hb := X.hb
  have hown := X.hown
  have hts := X.hts
  rw [fX11_addMice_29] at hf
  refine lv_iconst (v := 2) hx hb dX11_addMice_29 (by decide) ?_
  obtain ⟨q, hc, hf⟩ := bd hf
  refine gCallVI X mOK rfl (vX11_fails hc) gRX11_X11_fails hdX11_fails rfl ⟨by decide, by decide⟩ hP hS (mrec hP) hl.1 (Nat.le_of_ble_eq_true rfl) ⟨Nat.le_refl _, Nat.le_refl _⟩ dX11_addMice_30 (As := [.int s0, .int 2]) (rest := []) rfl (fun H locs hP hS => ?_)
  exact kX11_addMice_33 X hret hf hP hS (lv_sub hl [0, 1, 2] rfl)
set_option maxRecDepth 10000 in
theorem kX11_addMice_28 {r : Int32} {S1 : MS} {M : MS} {x1 : Int32} {x2 : Int32} {H : Heap} {locs : List Loc} {ls : Array Slot} (X : gX p s m args c cX11_addMice 3 RX11 (kR kTab kA)) (hret : gRetI p l e (rmL 3 0 0) s m args below meth c cX11_addMice (mΩ ad) (mP dC dI cI kA ad) Q r S1) (hf : fX11_addMice_28 M x1 x2 = some (r, S1)) (hP : (mP dC dI cI kA ad) M s H) (hS : va_S (Fr (mΩ ad) s.heap.size) s.heap H locs) (hl : lv_has ls 3 [(0, .ref (ad 25)), (1, .int x1), (2, .int x2)]) : W p l e (rmL 3 0 0) s m args below meth c H locs 0 0 Q (F0 m 28 ls [.ref (ad 25)]) := by
  have hx := X.hx
  have hb := X.hb
  have hown := X.hown
  have hts := X.hts
  rw [fX11_addMice_28] at hf
  refine lv_iconst (v := 0) hx hb dX11_addMice_28 (by decide) ?_
  exact kX11_addMice_29 X hret hf hP hS (lv_sub hl [0, 1, 2] rfl)
set_option maxRecDepth 10000 in
theorem kX11_addMice_24 {r : Int32} {S1 : MS} {M : MS} {x1 : Int32} {x2 : Int32} {H : Heap} {locs : List Loc} {ls : Array Slot} (X : gX p s m args c cX11_addMice 3 RX11 (kR kTab kA)) (hret : gRetI p l e (rmL 3 0 0) s m args below meth c cX11_addMice (mΩ ad) (mP dC dI cI kA ad) Q r S1) (hf : fX11_addMice_24 M x1 x2 = some (r, S1)) (hP : (mP dC dI cI kA ad) M s H) (hS : va_S (Fr (mΩ ad) s.heap.size) s.heap H locs) (hl : lv_has ls 3 [(0, .ref (ad 25)), (1, .int x1), (2, .int x2)]) : W p l e (rmL 3 0 0) s m args below meth c H locs 0 0 Q (F0 m 24 ls [.ref (ad 25)]) := by
  have hx := X.hx
  have hb := X.hb
  have hown := X.hown
  have hts := X.hts
  rw [fX11_addMice_24] at hf
  refine lv_iconst (v := 1) hx hb dX11_addMice_24 (by decide) ?_
  refine lv_goto (tgt := 29) hx hb dX11_addMice_25 (by decide) ?_
  exact kX11_addMice_29 X hret hf hP hS (lv_sub hl [0, 1, 2] rfl)
set_option maxRecDepth 10000 in
theorem kX11_addMice_21 {r : Int32} {S1 : MS} {M : MS} {x1 : Int32} {x2 : Int32} {s0 : Int32} {H : Heap} {locs : List Loc} {ls : Array Slot} (X : gX p s m args c cX11_addMice 3 RX11 (kR kTab kA)) (hret : gRetI p l e (rmL 3 0 0) s m args below meth c cX11_addMice (mΩ ad) (mP dC dI cI kA ad) Q r S1) (hf : fX11_addMice_21 M x1 x2 s0 = some (r, S1)) (hP : (mP dC dI cI kA ad) M s H) (hS : va_S (Fr (mΩ ad) s.heap.size) s.heap H locs) (hl : lv_has ls 3 [(0, .ref (ad 25)), (1, .int x1), (2, .int x2)]) : W p l e (rmL 3 0 0) s m args below meth c H locs 0 0 Q (F0 m 21 ls [.int s0, .ref (ad 25)]) := by
  have hx := X.hx
  have hb := X.hb
  have hown := X.hown
  have hts := X.hts
  rw [fX11_addMice_21] at hf
  refine lv_if_ne (tgt := 28) hx hb dX11_addMice_21 (by decide) (fun c1 => ?_) (fun c1 => ?_)
  · exact kX11_addMice_28 X hret (ifn c1 hf) hP hS (lv_sub hl [0, 1, 2] rfl)
  · exact kX11_addMice_24 X hret (ifp c1 hf) hP hS (lv_sub hl [0, 1, 2] rfl)
set_option maxRecDepth 10000 in
theorem kX11_addMice_13 {r : Int32} {S1 : MS} {M : MS} {x1 : Int32} {x2 : Int32} {H : Heap} {locs : List Loc} {ls : Array Slot} (X : gX p s m args c cX11_addMice 3 RX11 (kR kTab kA)) (hret : gRetI p l e (rmL 3 0 0) s m args below meth c cX11_addMice (mΩ ad) (mP dC dI cI kA ad) Q r S1) (hf : fX11_addMice_13 M x1 x2 = some (r, S1)) (hP : (mP dC dI cI kA ad) M s H) (hS : va_S (Fr (mΩ ad) s.heap.size) s.heap H locs) (hl : lv_has ls 3 [(0, .ref (ad 25)), (1, .int x1), (2, .int x2)]) : W p l e (rmL 3 0 0) s m args below meth c H locs 0 0 Q (F0 m 13 ls []) := by
  have hx := X.hx
  have hb := X.hb
  have hown := X.hown
  have hts := X.hts
  rw [fX11_addMice_13] at hf
  refine lv_aload_n hx hb dX11_addMice_13 rfl (lv_at hl 0 rfl) ?_
  refine lv_iload_n hx hb dX11_addMice_14 rfl (lv_at hl 2 rfl) ?_
  refine lv_iconst (v := 1) hx hb dX11_addMice_15 (by decide) ?_
  refine lv_bipush (v := 99) hx hb dX11_addMice_16 (by decide) ?_
  obtain ⟨q, hc, hf⟩ := bd hf
  refine gCallSR X rfl (vX11_inRange hc) gRX11_X11_inRange hdX11_inRange rfl ⟨by decide, by decide⟩ (gB_blind mOK) (gB_at mOK X hP) hl.1 (Nat.le_of_ble_eq_true rfl) ⟨Nat.le_refl _, Nat.le_refl _⟩ dX11_addMice_18 (As := [.int x2, .int 1, .int 99]) (rest := [.ref (ad 25)]) rfl ?_
  exact kX11_addMice_21 X hret hf hP hS (lv_sub hl [0, 1, 2] rfl)
set_option maxRecDepth 10000 in
theorem kX11_addMice_10 {r : Int32} {S1 : MS} {M : MS} {x1 : Int32} {x2 : Int32} {s0 : Int32} {H : Heap} {locs : List Loc} {ls : Array Slot} (X : gX p s m args c cX11_addMice 3 RX11 (kR kTab kA)) (hret : gRetI p l e (rmL 3 0 0) s m args below meth c cX11_addMice (mΩ ad) (mP dC dI cI kA ad) Q r S1) (hf : fX11_addMice_10 M x1 x2 s0 = some (r, S1)) (hP : (mP dC dI cI kA ad) M s H) (hS : va_S (Fr (mΩ ad) s.heap.size) s.heap H locs) (hl : lv_has ls 3 [(0, .ref (ad 25)), (1, .int x1), (2, .int x2)]) : W p l e (rmL 3 0 0) s m args below meth c H locs 0 0 Q (F0 m 10 ls [.int s0]) := by
  have hx := X.hx
  have hb := X.hb
  have hown := X.hown
  have hts := X.hts
  rw [fX11_addMice_10] at hf
  refine lv_if_ne (tgt := 58) hx hb dX11_addMice_10 (by decide) (fun c1 => ?_) (fun c1 => ?_)
  · exact kX11_addMice_58 X hret (ifn c1 hf) hP hS (lv_sub hl [0] rfl)
  · exact kX11_addMice_13 X hret (ifp c1 hf) hP hS (lv_sub hl [0, 1, 2] rfl)
set_option maxRecDepth 10000 in
theorem kX11_addMice_5 {r : Int32} {S1 : MS} {M : MS} {x1 : Int32} {x2 : Int32} {H : Heap} {locs : List Loc} {ls : Array Slot} (X : gX p s m args c cX11_addMice 3 RX11 (kR kTab kA)) (hret : gRetI p l e (rmL 3 0 0) s m args below meth c cX11_addMice (mΩ ad) (mP dC dI cI kA ad) Q r S1) (hf : fX11_addMice_5 M x1 x2 = some (r, S1)) (hP : (mP dC dI cI kA ad) M s H) (hS : va_S (Fr (mΩ ad) s.heap.size) s.heap H locs) (hl : lv_has ls 3 [(0, .ref (ad 25)), (1, .int x1), (2, .int x2)]) : W p l e (rmL 3 0 0) s m args below meth c H locs 0 0 Q (F0 m 5 ls []) := by
  have hx := X.hx
  have hb := X.hb
  have hown := X.hown
  have hts := X.hts
  rw [fX11_addMice_5] at hf
  refine lv_aload_n hx hb dX11_addMice_5 rfl (lv_at hl 0 rfl) ?_
  refine lv_iload_n hx hb dX11_addMice_6 rfl (lv_at hl 1 rfl) ?_
  obtain ⟨q, hc, hf⟩ := bd hf
  refine gCallVI X mOK rfl (vX11_noSack hc) gRX11_X11_noSack hdX11_noSack rfl ⟨by decide, by decide⟩ hP hS (mrec hP) hl.1 (Nat.le_of_ble_eq_true rfl) ⟨Nat.le_refl _, Nat.le_refl _⟩ dX11_addMice_7 (As := [.int x1]) (rest := []) rfl (fun H locs hP hS => ?_)
  exact kX11_addMice_10 X hret hf hP hS (lv_sub hl [0, 1, 2] rfl)
set_option maxRecDepth 10000 in
theorem kX11_addMice_0 {r : Int32} {S1 : MS} {M : MS} {a1 : Int32} {a2 : Int32} {H : Heap} {locs : List Loc} {ls : Array Slot} (X : gX p s m args c cX11_addMice 3 RX11 (kR kTab kA)) (hret : gRetI p l e (rmL 3 0 0) s m args below meth c cX11_addMice (mΩ ad) (mP dC dI cI kA ad) Q r S1) (hf : fX11_addMice_0 M a1 a2 = some (r, S1)) (hP : (mP dC dI cI kA ad) M s H) (hS : va_S (Fr (mΩ ad) s.heap.size) s.heap H locs) (hl : lv_has ls 3 [(0, .ref (ad 25)), (1, .int a1), (2, .int a2)]) : W p l e (rmL 3 0 0) s m args below meth c H locs 0 0 Q (F0 m 0 ls []) := by
  have hx := X.hx
  have hb := X.hb
  have hown := X.hown
  have hts := X.hts
  rw [fX11_addMice_0] at hf
  refine lv_aload_n hx hb dX11_addMice_0 rfl (lv_at hl 0 rfl) ?_
  refine lv_iconst (v := 0) hx hb dX11_addMice_1 (by decide) ?_
  refine mr_put (k := 7) X hP hS (by decide) rfl rfl rfl rfl tw1672 dX11_addMice_2 (fun H locs hP hS => ?_)
  exact kX11_addMice_5 X hret hf hP hS (lv_sub hl [0, 1, 2] rfl)
theorem vX11_addMice {l : Launch} {dC : Nat → ClassId} {dI : Nat → Nat → Nat} {cI : ClassId} {kA : String → Nat → Nat} {ad : Nat → Nat} {M S1 : MS} {r : Int32} {a1 : Int32} {a2 : Int32} (hf : fX11_addMice M a1 a2 = some (r, S1)) : gMetI l yX11_addMice cX11_addMice 3 (some .int) 3 (mΩ ad) (mP dC dI cI kA ad) (kR kTab kA) [.ref (ad 25), .int a1, .int a2] M r S1 := gEntryI (ty := .int) (by decide) rfl rfl mOK (Nat.le_of_ble_eq_true rfl) (fun p e s m args below meth c Q ls X hP hS hret hl => 
  kX11_addMice_0 X hret hf hP hS (lv_sub hl [0, 1, 2] rfl))
set_option maxRecDepth 10000 in
theorem kX11_addGrain_59 {r : Int32} {S1 : MS} {M : MS} {H : Heap} {locs : List Loc} {ls : Array Slot} (X : gX p s m args c cX11_addGrain 3 RX11 (kR kTab kA)) (hret : gRetI p l e (rmL 3 0 0) s m args below meth c cX11_addGrain (mΩ ad) (mP dC dI cI kA ad) Q r S1) (hf : fX11_addGrain_59 M = some (r, S1)) (hP : (mP dC dI cI kA ad) M s H) (hS : va_S (Fr (mΩ ad) s.heap.size) s.heap H locs) (hl : lv_has ls 3 [(0, .ref (ad 25))]) : W p l e (rmL 3 0 0) s m args below meth c H locs 0 0 Q (F0 m 59 ls []) := by
  have hx := X.hx
  have hb := X.hb
  have hown := X.hown
  have hts := X.hts
  rw [fX11_addGrain_59] at hf
  refine lv_iconst (v := 0) hx hb dX11_addGrain_59 (by decide) ?_
  cases hf
  exact hret _ _ _ _ dX11_addGrain_60 hP hS
set_option maxRecDepth 10000 in
theorem kX11_addGrain_71 {r : Int32} {S1 : MS} {M : MS} {s0 : Int32} {H : Heap} {locs : List Loc} {ls : Array Slot} (X : gX p s m args c cX11_addGrain 3 RX11 (kR kTab kA)) (hret : gRetI p l e (rmL 3 0 0) s m args below meth c cX11_addGrain (mΩ ad) (mP dC dI cI kA ad) Q r S1) (hf : fX11_addGrain_71 M s0 = some (r, S1)) (hP : (mP dC dI cI kA ad) M s H) (hS : va_S (Fr (mΩ ad) s.heap.size) s.heap H locs) (hl : lv_has ls 3 [(0, .ref (ad 25))]) : W p l e (rmL 3 0 0) s m args below meth c H locs 0 0 Q (F0 m 71 ls [.int s0]) := by
  have hx := X.hx
  have hb := X.hb
  have hown := X.hown
  have hts := X.hts
  rw [fX11_addGrain_71] at hf
  cases hf
  exact hret _ _ _ _ dX11_addGrain_71 hP hS
set_option maxRecDepth 10000 in
theorem kX11_addGrain_65 {r : Int32} {S1 : MS} {M : MS} {x1 : Int32} {x2 : Int32} {H : Heap} {locs : List Loc} {ls : Array Slot} (X : gX p s m args c cX11_addGrain 3 RX11 (kR kTab kA)) (hret : gRetI p l e (rmL 3 0 0) s m args below meth c cX11_addGrain (mΩ ad) (mP dC dI cI kA ad) Q r S1) (hf : fX11_addGrain_65 M x1 x2 = some (r, S1)) (hP : (mP dC dI cI kA ad) M s H) (hS : va_S (Fr (mΩ ad) s.heap.size) s.heap H locs) (hl : lv_has ls 3 [(0, .ref (ad 25)), (1, .int x1), (2, .int x2)]) : W p l e (rmL 3 0 0) s m args below meth c H locs 0 0 Q (F0 m 65 ls []) := by
  have hx := X.hx
  have hb := X.hb
  have hown := X.hown
  have hts := X.hts
  rw [fX11_addGrain_65] at hf
  refine lv_aload_n hx hb dX11_addGrain_65 rfl (lv_at hl 0 rfl) ?_
  refine lv_iload_n hx hb dX11_addGrain_66 rfl (lv_at hl 1 rfl) ?_
  refine lv_iload_n hx hb dX11_addGrain_67 rfl (lv_at hl 2 rfl) ?_
  obtain ⟨q, hc, hf⟩ := bd hf
  refine gCallVI X mOK rfl (vX11_addsGrain hc) gRX11_X11_addsGrain hdX11_addsGrain rfl ⟨by decide, by decide⟩ hP hS (mrec hP) hl.1 (Nat.le_of_ble_eq_true rfl) ⟨Nat.le_refl _, Nat.le_refl _⟩ dX11_addGrain_68 (As := [.int x1, .int x2]) (rest := []) rfl (fun H locs hP hS => ?_)
  exact kX11_addGrain_71 X hret hf hP hS (lv_sub hl [0] rfl)
set_option maxRecDepth 10000 in
theorem kX11_addGrain_61 {r : Int32} {S1 : MS} {M : MS} {x1 : Int32} {x2 : Int32} {H : Heap} {locs : List Loc} {ls : Array Slot} (X : gX p s m args c cX11_addGrain 3 RX11 (kR kTab kA)) (hret : gRetI p l e (rmL 3 0 0) s m args below meth c cX11_addGrain (mΩ ad) (mP dC dI cI kA ad) Q r S1) (hf : fX11_addGrain_61 M x1 x2 = some (r, S1)) (hP : (mP dC dI cI kA ad) M s H) (hS : va_S (Fr (mΩ ad) s.heap.size) s.heap H locs) (hl : lv_has ls 3 [(0, .ref (ad 25)), (1, .int x1), (2, .int x2)]) : W p l e (rmL 3 0 0) s m args below meth c H locs 0 0 Q (F0 m 61 ls []) := by
  have hx := X.hx
  have hb := X.hb
  have hown := X.hown
  have hts := X.hts
  rw [fX11_addGrain_61] at hf
  refine lv_aload_n hx hb dX11_addGrain_61 rfl (lv_at hl 0 rfl) ?_
  obtain ⟨q, hc, hf⟩ := bd hf
  refine gCallVV X mOK rfl (vX11_remembers hc) gRX11_X11_remembers hdX11_remembers rfl ⟨by decide, by decide⟩ hP hS (mrec hP) hl.1 (Nat.le_of_ble_eq_true rfl) ⟨Nat.le_refl _, Nat.le_refl _⟩ dX11_addGrain_62 (As := []) (rest := []) rfl (fun H locs hP hS => ?_)
  exact kX11_addGrain_65 X hret hf hP hS (lv_sub hl [0, 1, 2] rfl)
set_option maxRecDepth 10000 in
theorem kX11_addGrain_56 {r : Int32} {S1 : MS} {M : MS} {x1 : Int32} {x2 : Int32} {s0 : Int32} {H : Heap} {locs : List Loc} {ls : Array Slot} (X : gX p s m args c cX11_addGrain 3 RX11 (kR kTab kA)) (hret : gRetI p l e (rmL 3 0 0) s m args below meth c cX11_addGrain (mΩ ad) (mP dC dI cI kA ad) Q r S1) (hf : fX11_addGrain_56 M x1 x2 s0 = some (r, S1)) (hP : (mP dC dI cI kA ad) M s H) (hS : va_S (Fr (mΩ ad) s.heap.size) s.heap H locs) (hl : lv_has ls 3 [(0, .ref (ad 25)), (1, .int x1), (2, .int x2)]) : W p l e (rmL 3 0 0) s m args below meth c H locs 0 0 Q (F0 m 56 ls [.int s0]) := by
  have hx := X.hx
  have hb := X.hb
  have hown := X.hown
  have hts := X.hts
  rw [fX11_addGrain_56] at hf
  refine lv_if_eq (tgt := 61) hx hb dX11_addGrain_56 (by decide) (fun c1 => ?_) (fun c1 => ?_)
  · exact kX11_addGrain_61 X hret (ifp c1 hf) hP hS (lv_sub hl [0, 1, 2] rfl)
  · exact kX11_addGrain_59 X hret (ifn c1 hf) hP hS (lv_sub hl [0] rfl)
set_option maxRecDepth 10000 in
theorem kX11_addGrain_52 {r : Int32} {S1 : MS} {M : MS} {x1 : Int32} {x2 : Int32} {s0 : Int32} {H : Heap} {locs : List Loc} {ls : Array Slot} (X : gX p s m args c cX11_addGrain 3 RX11 (kR kTab kA)) (hret : gRetI p l e (rmL 3 0 0) s m args below meth c cX11_addGrain (mΩ ad) (mP dC dI cI kA ad) Q r S1) (hf : fX11_addGrain_52 M x1 x2 s0 = some (r, S1)) (hP : (mP dC dI cI kA ad) M s H) (hS : va_S (Fr (mΩ ad) s.heap.size) s.heap H locs) (hl : lv_has ls 3 [(0, .ref (ad 25)), (1, .int x1), (2, .int x2)]) : W p l e (rmL 3 0 0) s m args below meth c H locs 0 0 Q (F0 m 52 ls [.int s0, .ref (ad 25)]) := by
  have hx := X.hx
  have hb := X.hb
  have hown := X.hown
  have hts := X.hts
  rw [fX11_addGrain_52] at hf
  refine lv_iconst (v := 3) hx hb dX11_addGrain_52 (by decide) ?_
  obtain ⟨q, hc, hf⟩ := bd hf
  refine gCallVI X mOK rfl (vX11_fails hc) gRX11_X11_fails hdX11_fails rfl ⟨by decide, by decide⟩ hP hS (mrec hP) hl.1 (Nat.le_of_ble_eq_true rfl) ⟨Nat.le_refl _, Nat.le_refl _⟩ dX11_addGrain_53 (As := [.int s0, .int 3]) (rest := []) rfl (fun H locs hP hS => ?_)
  exact kX11_addGrain_56 X hret hf hP hS (lv_sub hl [0, 1, 2] rfl)
set_option maxRecDepth 10000 in
theorem kX11_addGrain_51 {r : Int32} {S1 : MS} {M : MS} {x1 : Int32} {x2 : Int32} {H : Heap} {locs : List Loc} {ls : Array Slot} (X : gX p s m args c cX11_addGrain 3 RX11 (kR kTab kA)) (hret : gRetI p l e (rmL 3 0 0) s m args below meth c cX11_addGrain (mΩ ad) (mP dC dI cI kA ad) Q r S1) (hf : fX11_addGrain_51 M x1 x2 = some (r, S1)) (hP : (mP dC dI cI kA ad) M s H) (hS : va_S (Fr (mΩ ad) s.heap.size) s.heap H locs) (hl : lv_has ls 3 [(0, .ref (ad 25)), (1, .int x1), (2, .int x2)]) : W p l e (rmL 3 0 0) s m args below meth c H locs 0 0 Q (F0 m 51 ls [.ref (ad 25)]) := by
  have hx := X.hx
  have hb := X.hb
  have hown := X.hown
  have hts := X.hts
  rw [fX11_addGrain_51] at hf
  refine lv_iconst (v := 0) hx hb dX11_addGrain_51 (by decide) ?_
  exact kX11_addGrain_52 X hret hf hP hS (lv_sub hl [0, 1, 2] rfl)
set_option maxRecDepth 10000 in
theorem kX11_addGrain_47 {r : Int32} {S1 : MS} {M : MS} {x1 : Int32} {x2 : Int32} {H : Heap} {locs : List Loc} {ls : Array Slot} (X : gX p s m args c cX11_addGrain 3 RX11 (kR kTab kA)) (hret : gRetI p l e (rmL 3 0 0) s m args below meth c cX11_addGrain (mΩ ad) (mP dC dI cI kA ad) Q r S1) (hf : fX11_addGrain_47 M x1 x2 = some (r, S1)) (hP : (mP dC dI cI kA ad) M s H) (hS : va_S (Fr (mΩ ad) s.heap.size) s.heap H locs) (hl : lv_has ls 3 [(0, .ref (ad 25)), (1, .int x1), (2, .int x2)]) : W p l e (rmL 3 0 0) s m args below meth c H locs 0 0 Q (F0 m 47 ls [.ref (ad 25)]) := by
  have hx := X.hx
  have hb := X.hb
  have hown := X.hown
  have hts := X.hts
  rw [fX11_addGrain_47] at hf
  refine lv_iconst (v := 1) hx hb dX11_addGrain_47 (by decide) ?_
  refine lv_goto (tgt := 52) hx hb dX11_addGrain_48 (by decide) ?_
  exact kX11_addGrain_52 X hret hf hP hS (lv_sub hl [0, 1, 2] rfl)
set_option maxRecDepth 10000 in
theorem kX11_addGrain_44 {r : Int32} {S1 : MS} {M : MS} {x1 : Int32} {x2 : Int32} {s0 : Int32} {H : Heap} {locs : List Loc} {ls : Array Slot} (X : gX p s m args c cX11_addGrain 3 RX11 (kR kTab kA)) (hret : gRetI p l e (rmL 3 0 0) s m args below meth c cX11_addGrain (mΩ ad) (mP dC dI cI kA ad) Q r S1) (hf : fX11_addGrain_44 M x1 x2 s0 = some (r, S1)) (hP : (mP dC dI cI kA ad) M s H) (hS : va_S (Fr (mΩ ad) s.heap.size) s.heap H locs) (hl : lv_has ls 3 [(0, .ref (ad 25)), (1, .int x1), (2, .int x2)]) : W p l e (rmL 3 0 0) s m args below meth c H locs 0 0 Q (F0 m 44 ls [.int s0, .ref (ad 25)]) := by
  have hx := X.hx
  have hb := X.hb
  have hown := X.hown
  have hts := X.hts
  rw [fX11_addGrain_44] at hf
  refine lv_if_ne (tgt := 51) hx hb dX11_addGrain_44 (by decide) (fun c1 => ?_) (fun c1 => ?_)
  · exact kX11_addGrain_51 X hret (ifn c1 hf) hP hS (lv_sub hl [0, 1, 2] rfl)
  · exact kX11_addGrain_47 X hret (ifp c1 hf) hP hS (lv_sub hl [0, 1, 2] rfl)
set_option maxRecDepth 10000 in
theorem kX11_addGrain_37 {r : Int32} {S1 : MS} {M : MS} {x1 : Int32} {x2 : Int32} {H : Heap} {locs : List Loc} {ls : Array Slot} (X : gX p s m args c cX11_addGrain 3 RX11 (kR kTab kA)) (hret : gRetI p l e (rmL 3 0 0) s m args below meth c cX11_addGrain (mΩ ad) (mP dC dI cI kA ad) Q r S1) (hf : fX11_addGrain_37 M x1 x2 = some (r, S1)) (hP : (mP dC dI cI kA ad) M s H) (hS : va_S (Fr (mΩ ad) s.heap.size) s.heap H locs) (hl : lv_has ls 3 [(0, .ref (ad 25)), (1, .int x1), (2, .int x2)]) : W p l e (rmL 3 0 0) s m args below meth c H locs 0 0 Q (F0 m 37 ls []) := by
  have hx := X.hx
  have hb := X.hb
  have hown := X.hown
  have hts := X.hts
  rw [fX11_addGrain_37] at hf
  refine lv_aload_n hx hb dX11_addGrain_37 rfl (lv_at hl 0 rfl) ?_
  refine lv_aload_n hx hb dX11_addGrain_38 rfl (lv_at hl 0 rfl) ?_
  refine lv_iload_n hx hb dX11_addGrain_39 rfl (lv_at hl 1 rfl) ?_
  refine lv_iload_n hx hb dX11_addGrain_40 rfl (lv_at hl 2 rfl) ?_
  obtain ⟨q, hc, hf⟩ := bd hf
  refine gCallVR X rfl (vX11_mayAddGrain hc) gRX11_X11_mayAddGrain hdX11_mayAddGrain rfl ⟨by decide, by decide⟩ (gB_blind mOK) (gB_at mOK X hP) (mrec hP) hl.1 (Nat.le_of_ble_eq_true rfl) ⟨Nat.le_refl _, Nat.le_refl _⟩ dX11_addGrain_41 (As := [.int x1, .int x2]) (rest := [.ref (ad 25)]) rfl ?_
  exact kX11_addGrain_44 X hret hf hP hS (lv_sub hl [0, 1, 2] rfl)
set_option maxRecDepth 10000 in
theorem kX11_addGrain_34 {r : Int32} {S1 : MS} {M : MS} {x1 : Int32} {x2 : Int32} {s0 : Int32} {H : Heap} {locs : List Loc} {ls : Array Slot} (X : gX p s m args c cX11_addGrain 3 RX11 (kR kTab kA)) (hret : gRetI p l e (rmL 3 0 0) s m args below meth c cX11_addGrain (mΩ ad) (mP dC dI cI kA ad) Q r S1) (hf : fX11_addGrain_34 M x1 x2 s0 = some (r, S1)) (hP : (mP dC dI cI kA ad) M s H) (hS : va_S (Fr (mΩ ad) s.heap.size) s.heap H locs) (hl : lv_has ls 3 [(0, .ref (ad 25)), (1, .int x1), (2, .int x2)]) : W p l e (rmL 3 0 0) s m args below meth c H locs 0 0 Q (F0 m 34 ls [.int s0]) := by
  have hx := X.hx
  have hb := X.hb
  have hown := X.hown
  have hts := X.hts
  rw [fX11_addGrain_34] at hf
  refine lv_if_ne (tgt := 59) hx hb dX11_addGrain_34 (by decide) (fun c1 => ?_) (fun c1 => ?_)
  · exact kX11_addGrain_59 X hret (ifn c1 hf) hP hS (lv_sub hl [0] rfl)
  · exact kX11_addGrain_37 X hret (ifp c1 hf) hP hS (lv_sub hl [0, 1, 2] rfl)
set_option maxRecDepth 10000 in
theorem kX11_addGrain_30 {r : Int32} {S1 : MS} {M : MS} {x1 : Int32} {x2 : Int32} {s0 : Int32} {H : Heap} {locs : List Loc} {ls : Array Slot} (X : gX p s m args c cX11_addGrain 3 RX11 (kR kTab kA)) (hret : gRetI p l e (rmL 3 0 0) s m args below meth c cX11_addGrain (mΩ ad) (mP dC dI cI kA ad) Q r S1) (hf : fX11_addGrain_30 M x1 x2 s0 = some (r, S1)) (hP : (mP dC dI cI kA ad) M s H) (hS : va_S (Fr (mΩ ad) s.heap.size) s.heap H locs) (hl : lv_has ls 3 [(0, .ref (ad 25)), (1, .int x1), (2, .int x2)]) : W p l e (rmL 3 0 0) s m args below meth c H locs 0 0 Q (F0 m 30 ls [.int s0, .ref (ad 25)]) := by
  have hx := X.hx
  have hb := X.hb
  have hown := X.hown
  have hts := X.hts
  rw [fX11_addGrain_30] at hf
  refine lv_iconst (v := 2) hx hb dX11_addGrain_30 (by decide) ?_
  obtain ⟨q, hc, hf⟩ := bd hf
  refine gCallVI X mOK rfl (vX11_fails hc) gRX11_X11_fails hdX11_fails rfl ⟨by decide, by decide⟩ hP hS (mrec hP) hl.1 (Nat.le_of_ble_eq_true rfl) ⟨Nat.le_refl _, Nat.le_refl _⟩ dX11_addGrain_31 (As := [.int s0, .int 2]) (rest := []) rfl (fun H locs hP hS => ?_)
  exact kX11_addGrain_34 X hret hf hP hS (lv_sub hl [0, 1, 2] rfl)
set_option maxRecDepth 10000 in
theorem kX11_addGrain_29 {r : Int32} {S1 : MS} {M : MS} {x1 : Int32} {x2 : Int32} {H : Heap} {locs : List Loc} {ls : Array Slot} (X : gX p s m args c cX11_addGrain 3 RX11 (kR kTab kA)) (hret : gRetI p l e (rmL 3 0 0) s m args below meth c cX11_addGrain (mΩ ad) (mP dC dI cI kA ad) Q r S1) (hf : fX11_addGrain_29 M x1 x2 = some (r, S1)) (hP : (mP dC dI cI kA ad) M s H) (hS : va_S (Fr (mΩ ad) s.heap.size) s.heap H locs) (hl : lv_has ls 3 [(0, .ref (ad 25)), (1, .int x1), (2, .int x2)]) : W p l e (rmL 3 0 0) s m args below meth c H locs 0 0 Q (F0 m 29 ls [.ref (ad 25)]) := by
  have hx := X.hx
  have hb := X.hb
  have hown := X.hown
  have hts := X.hts
  rw [fX11_addGrain_29] at hf
  refine lv_iconst (v := 0) hx hb dX11_addGrain_29 (by decide) ?_
  exact kX11_addGrain_30 X hret hf hP hS (lv_sub hl [0, 1, 2] rfl)
set_option maxRecDepth 10000 in
theorem kX11_addGrain_25 {r : Int32} {S1 : MS} {M : MS} {x1 : Int32} {x2 : Int32} {H : Heap} {locs : List Loc} {ls : Array Slot} (X : gX p s m args c cX11_addGrain 3 RX11 (kR kTab kA)) (hret : gRetI p l e (rmL 3 0 0) s m args below meth c cX11_addGrain (mΩ ad) (mP dC dI cI kA ad) Q r S1) (hf : fX11_addGrain_25 M x1 x2 = some (r, S1)) (hP : (mP dC dI cI kA ad) M s H) (hS : va_S (Fr (mΩ ad) s.heap.size) s.heap H locs) (hl : lv_has ls 3 [(0, .ref (ad 25)), (1, .int x1), (2, .int x2)]) : W p l e (rmL 3 0 0) s m args below meth c H locs 0 0 Q (F0 m 25 ls [.ref (ad 25)]) := by
  have hx := X.hx
  have hb := X.hb
  have hown := X.hown
  have hts := X.hts
  rw [fX11_addGrain_25] at hf
  refine lv_iconst (v := 1) hx hb dX11_addGrain_25 (by decide) ?_
  refine lv_goto (tgt := 30) hx hb dX11_addGrain_26 (by decide) ?_
  exact kX11_addGrain_30 X hret hf hP hS (lv_sub hl [0, 1, 2] rfl)
set_option maxRecDepth 10000 in
theorem kX11_addGrain_22 {r : Int32} {S1 : MS} {M : MS} {x1 : Int32} {x2 : Int32} {s0 : Int32} {H : Heap} {locs : List Loc} {ls : Array Slot} (X : gX p s m args c cX11_addGrain 3 RX11 (kR kTab kA)) (hret : gRetI p l e (rmL 3 0 0) s m args below meth c cX11_addGrain (mΩ ad) (mP dC dI cI kA ad) Q r S1) (hf : fX11_addGrain_22 M x1 x2 s0 = some (r, S1)) (hP : (mP dC dI cI kA ad) M s H) (hS : va_S (Fr (mΩ ad) s.heap.size) s.heap H locs) (hl : lv_has ls 3 [(0, .ref (ad 25)), (1, .int x1), (2, .int x2)]) : W p l e (rmL 3 0 0) s m args below meth c H locs 0 0 Q (F0 m 22 ls [.int s0, .ref (ad 25)]) := by
  have hx := X.hx
  have hb := X.hb
  have hown := X.hown
  have hts := X.hts
  rw [fX11_addGrain_22] at hf
  refine lv_if_ne (tgt := 29) hx hb dX11_addGrain_22 (by decide) (fun c1 => ?_) (fun c1 => ?_)
  · exact kX11_addGrain_29 X hret (ifn c1 hf) hP hS (lv_sub hl [0, 1, 2] rfl)
  · exact kX11_addGrain_25 X hret (ifp c1 hf) hP hS (lv_sub hl [0, 1, 2] rfl)
set_option maxRecDepth 10000 in
theorem kX11_addGrain_13 {r : Int32} {S1 : MS} {M : MS} {x1 : Int32} {x2 : Int32} {H : Heap} {locs : List Loc} {ls : Array Slot} (X : gX p s m args c cX11_addGrain 3 RX11 (kR kTab kA)) (hret : gRetI p l e (rmL 3 0 0) s m args below meth c cX11_addGrain (mΩ ad) (mP dC dI cI kA ad) Q r S1) (hf : fX11_addGrain_13 M x1 x2 = some (r, S1)) (hP : (mP dC dI cI kA ad) M s H) (hS : va_S (Fr (mΩ ad) s.heap.size) s.heap H locs) (hl : lv_has ls 3 [(0, .ref (ad 25)), (1, .int x1), (2, .int x2)]) : W p l e (rmL 3 0 0) s m args below meth c H locs 0 0 Q (F0 m 13 ls []) := by
  have hx := X.hx
  have hb := X.hb
  have hown := X.hown
  have hts := X.hts
  rw [fX11_addGrain_13] at hf
  refine lv_aload_n hx hb dX11_addGrain_13 rfl (lv_at hl 0 rfl) ?_
  refine lv_iload_n hx hb dX11_addGrain_14 rfl (lv_at hl 2 rfl) ?_
  refine lv_iconst (v := 1) hx hb dX11_addGrain_15 (by decide) ?_
  refine lv_sipush (v := 999) hx hb dX11_addGrain_16 (by decide) ?_
  obtain ⟨q, hc, hf⟩ := bd hf
  refine gCallSR X rfl (vX11_inRange hc) gRX11_X11_inRange hdX11_inRange rfl ⟨by decide, by decide⟩ (gB_blind mOK) (gB_at mOK X hP) hl.1 (Nat.le_of_ble_eq_true rfl) ⟨Nat.le_refl _, Nat.le_refl _⟩ dX11_addGrain_19 (As := [.int x2, .int 1, .int 999]) (rest := [.ref (ad 25)]) rfl ?_
  exact kX11_addGrain_22 X hret hf hP hS (lv_sub hl [0, 1, 2] rfl)
set_option maxRecDepth 10000 in
theorem kX11_addGrain_10 {r : Int32} {S1 : MS} {M : MS} {x1 : Int32} {x2 : Int32} {s0 : Int32} {H : Heap} {locs : List Loc} {ls : Array Slot} (X : gX p s m args c cX11_addGrain 3 RX11 (kR kTab kA)) (hret : gRetI p l e (rmL 3 0 0) s m args below meth c cX11_addGrain (mΩ ad) (mP dC dI cI kA ad) Q r S1) (hf : fX11_addGrain_10 M x1 x2 s0 = some (r, S1)) (hP : (mP dC dI cI kA ad) M s H) (hS : va_S (Fr (mΩ ad) s.heap.size) s.heap H locs) (hl : lv_has ls 3 [(0, .ref (ad 25)), (1, .int x1), (2, .int x2)]) : W p l e (rmL 3 0 0) s m args below meth c H locs 0 0 Q (F0 m 10 ls [.int s0]) := by
  have hx := X.hx
  have hb := X.hb
  have hown := X.hown
  have hts := X.hts
  rw [fX11_addGrain_10] at hf
  refine lv_if_ne (tgt := 59) hx hb dX11_addGrain_10 (by decide) (fun c1 => ?_) (fun c1 => ?_)
  · exact kX11_addGrain_59 X hret (ifn c1 hf) hP hS (lv_sub hl [0] rfl)
  · exact kX11_addGrain_13 X hret (ifp c1 hf) hP hS (lv_sub hl [0, 1, 2] rfl)
set_option maxRecDepth 10000 in
theorem kX11_addGrain_5 {r : Int32} {S1 : MS} {M : MS} {x1 : Int32} {x2 : Int32} {H : Heap} {locs : List Loc} {ls : Array Slot} (X : gX p s m args c cX11_addGrain 3 RX11 (kR kTab kA)) (hret : gRetI p l e (rmL 3 0 0) s m args below meth c cX11_addGrain (mΩ ad) (mP dC dI cI kA ad) Q r S1) (hf : fX11_addGrain_5 M x1 x2 = some (r, S1)) (hP : (mP dC dI cI kA ad) M s H) (hS : va_S (Fr (mΩ ad) s.heap.size) s.heap H locs) (hl : lv_has ls 3 [(0, .ref (ad 25)), (1, .int x1), (2, .int x2)]) : W p l e (rmL 3 0 0) s m args below meth c H locs 0 0 Q (F0 m 5 ls []) := by
  have hx := X.hx
  have hb := X.hb
  have hown := X.hown
  have hts := X.hts
  rw [fX11_addGrain_5] at hf
  refine lv_aload_n hx hb dX11_addGrain_5 rfl (lv_at hl 0 rfl) ?_
  refine lv_iload_n hx hb dX11_addGrain_6 rfl (lv_at hl 1 rfl) ?_
  obtain ⟨q, hc, hf⟩ := bd hf
  refine gCallVI X mOK rfl (vX11_noSack hc) gRX11_X11_noSack hdX11_noSack rfl ⟨by decide, by decide⟩ hP hS (mrec hP) hl.1 (Nat.le_of_ble_eq_true rfl) ⟨Nat.le_refl _, Nat.le_refl _⟩ dX11_addGrain_7 (As := [.int x1]) (rest := []) rfl (fun H locs hP hS => ?_)
  exact kX11_addGrain_10 X hret hf hP hS (lv_sub hl [0, 1, 2] rfl)
set_option maxRecDepth 10000 in
theorem kX11_addGrain_0 {r : Int32} {S1 : MS} {M : MS} {a1 : Int32} {a2 : Int32} {H : Heap} {locs : List Loc} {ls : Array Slot} (X : gX p s m args c cX11_addGrain 3 RX11 (kR kTab kA)) (hret : gRetI p l e (rmL 3 0 0) s m args below meth c cX11_addGrain (mΩ ad) (mP dC dI cI kA ad) Q r S1) (hf : fX11_addGrain_0 M a1 a2 = some (r, S1)) (hP : (mP dC dI cI kA ad) M s H) (hS : va_S (Fr (mΩ ad) s.heap.size) s.heap H locs) (hl : lv_has ls 3 [(0, .ref (ad 25)), (1, .int a1), (2, .int a2)]) : W p l e (rmL 3 0 0) s m args below meth c H locs 0 0 Q (F0 m 0 ls []) := by
  have hx := X.hx
  have hb := X.hb
  have hown := X.hown
  have hts := X.hts
  rw [fX11_addGrain_0] at hf
  refine lv_aload_n hx hb dX11_addGrain_0 rfl (lv_at hl 0 rfl) ?_
  refine lv_iconst (v := 0) hx hb dX11_addGrain_1 (by decide) ?_
  refine mr_put (k := 7) X hP hS (by decide) rfl rfl rfl rfl tw1672 dX11_addGrain_2 (fun H locs hP hS => ?_)
  exact kX11_addGrain_5 X hret hf hP hS (lv_sub hl [0, 1, 2] rfl)
theorem vX11_addGrain {l : Launch} {dC : Nat → ClassId} {dI : Nat → Nat → Nat} {cI : ClassId} {kA : String → Nat → Nat} {ad : Nat → Nat} {M S1 : MS} {r : Int32} {a1 : Int32} {a2 : Int32} (hf : fX11_addGrain M a1 a2 = some (r, S1)) : gMetI l yX11_addGrain cX11_addGrain 3 (some .int) 3 (mΩ ad) (mP dC dI cI kA ad) (kR kTab kA) [.ref (ad 25), .int a1, .int a2] M r S1 := gEntryI (ty := .int) (by decide) rfl rfl mOK (Nat.le_of_ble_eq_true rfl) (fun p e s m args below meth c Q ls X hP hS hret hl => 
  kX11_addGrain_0 X hret hf hP hS (lv_sub hl [0, 1, 2] rfl))
set_option maxRecDepth 10000 in
theorem kX11_dismiss_40 {r : Int32} {S1 : MS} {M : MS} {s0 : Int32} {H : Heap} {locs : List Loc} {ls : Array Slot} (X : gX p s m args c cX11_dismiss 1 RX11 (kR kTab kA)) (hret : gRetI p l e (rmL 3 0 0) s m args below meth c cX11_dismiss (mΩ ad) (mP dC dI cI kA ad) Q r S1) (hf : fX11_dismiss_40 M s0 = some (r, S1)) (hP : (mP dC dI cI kA ad) M s H) (hS : va_S (Fr (mΩ ad) s.heap.size) s.heap H locs) (hl : lv_has ls 1 [(0, .ref (ad 25))]) : W p l e (rmL 3 0 0) s m args below meth c H locs 0 0 Q (F0 m 40 ls [.int s0]) := by
  have hx := X.hx
  have hb := X.hb
  have hown := X.hown
  have hts := X.hts
  rw [fX11_dismiss_40] at hf
  cases hf
  exact hret _ _ _ _ dX11_dismiss_40 hP hS
set_option maxRecDepth 10000 in
theorem kX11_dismiss_34 {r : Int32} {S1 : MS} {M : MS} {H : Heap} {locs : List Loc} {ls : Array Slot} (X : gX p s m args c cX11_dismiss 1 RX11 (kR kTab kA)) (hret : gRetI p l e (rmL 3 0 0) s m args below meth c cX11_dismiss (mΩ ad) (mP dC dI cI kA ad) Q r S1) (hf : fX11_dismiss_34 M = some (r, S1)) (hP : (mP dC dI cI kA ad) M s H) (hS : va_S (Fr (mΩ ad) s.heap.size) s.heap H locs) (hl : lv_has ls 1 [(0, .ref (ad 25))]) : W p l e (rmL 3 0 0) s m args below meth c H locs 0 0 Q (F0 m 34 ls []) := by
  have hx := X.hx
  have hb := X.hb
  have hown := X.hown
  have hts := X.hts
  rw [fX11_dismiss_34] at hf
  refine lv_aload_n hx hb dX11_dismiss_34 rfl (lv_at hl 0 rfl) ?_
  refine lv_iconst (v := 5) hx hb dX11_dismiss_35 (by decide) ?_
  refine lv_iconst (v := (-1)) hx hb dX11_dismiss_36 (by decide) ?_
  obtain ⟨q, hc, hf⟩ := bd hf
  refine gCallVI X mOK rfl (vX11_sets hc) gRX11_X11_sets hdX11_sets rfl ⟨by decide, by decide⟩ hP hS (mrec hP) hl.1 (Nat.le_of_ble_eq_true rfl) ⟨Nat.le_refl _, Nat.le_refl _⟩ dX11_dismiss_37 (As := [.int 5, .int (-1)]) (rest := []) rfl (fun H locs hP hS => ?_)
  exact kX11_dismiss_40 X hret hf hP hS (lv_sub hl [0] rfl)
set_option maxRecDepth 10000 in
theorem kX11_dismiss_30 {r : Int32} {S1 : MS} {M : MS} {H : Heap} {locs : List Loc} {ls : Array Slot} (X : gX p s m args c cX11_dismiss 1 RX11 (kR kTab kA)) (hret : gRetI p l e (rmL 3 0 0) s m args below meth c cX11_dismiss (mΩ ad) (mP dC dI cI kA ad) Q r S1) (hf : fX11_dismiss_30 M = some (r, S1)) (hP : (mP dC dI cI kA ad) M s H) (hS : va_S (Fr (mΩ ad) s.heap.size) s.heap H locs) (hl : lv_has ls 1 [(0, .ref (ad 25))]) : W p l e (rmL 3 0 0) s m args below meth c H locs 0 0 Q (F0 m 30 ls []) := by
  have hx := X.hx
  have hb := X.hb
  have hown := X.hown
  have hts := X.hts
  rw [fX11_dismiss_30] at hf
  refine lv_aload_n hx hb dX11_dismiss_30 rfl (lv_at hl 0 rfl) ?_
  obtain ⟨q, hc, hf⟩ := bd hf
  refine gCallVV X mOK rfl (vX11_remembers hc) gRX11_X11_remembers hdX11_remembers rfl ⟨by decide, by decide⟩ hP hS (mrec hP) hl.1 (Nat.le_of_ble_eq_true rfl) ⟨Nat.le_refl _, Nat.le_refl _⟩ dX11_dismiss_31 (As := []) (rest := []) rfl (fun H locs hP hS => ?_)
  exact kX11_dismiss_34 X hret hf hP hS (lv_sub hl [0] rfl)
set_option maxRecDepth 10000 in
theorem kX11_dismiss_28 {r : Int32} {S1 : MS} {M : MS} {H : Heap} {locs : List Loc} {ls : Array Slot} (X : gX p s m args c cX11_dismiss 1 RX11 (kR kTab kA)) (hret : gRetI p l e (rmL 3 0 0) s m args below meth c cX11_dismiss (mΩ ad) (mP dC dI cI kA ad) Q r S1) (hf : fX11_dismiss_28 M = some (r, S1)) (hP : (mP dC dI cI kA ad) M s H) (hS : va_S (Fr (mΩ ad) s.heap.size) s.heap H locs) (hl : lv_has ls 1 [(0, .ref (ad 25))]) : W p l e (rmL 3 0 0) s m args below meth c H locs 0 0 Q (F0 m 28 ls []) := by
  have hx := X.hx
  have hb := X.hb
  have hown := X.hown
  have hts := X.hts
  rw [fX11_dismiss_28] at hf
  refine lv_iconst (v := 0) hx hb dX11_dismiss_28 (by decide) ?_
  cases hf
  exact hret _ _ _ _ dX11_dismiss_29 hP hS
set_option maxRecDepth 10000 in
theorem kX11_dismiss_25 {r : Int32} {S1 : MS} {M : MS} {s0 : Int32} {H : Heap} {locs : List Loc} {ls : Array Slot} (X : gX p s m args c cX11_dismiss 1 RX11 (kR kTab kA)) (hret : gRetI p l e (rmL 3 0 0) s m args below meth c cX11_dismiss (mΩ ad) (mP dC dI cI kA ad) Q r S1) (hf : fX11_dismiss_25 M s0 = some (r, S1)) (hP : (mP dC dI cI kA ad) M s H) (hS : va_S (Fr (mΩ ad) s.heap.size) s.heap H locs) (hl : lv_has ls 1 [(0, .ref (ad 25))]) : W p l e (rmL 3 0 0) s m args below meth c H locs 0 0 Q (F0 m 25 ls [.int s0]) := by
  have hx := X.hx
  have hb := X.hb
  have hown := X.hown
  have hts := X.hts
  rw [fX11_dismiss_25] at hf
  refine lv_if_eq (tgt := 30) hx hb dX11_dismiss_25 (by decide) (fun c1 => ?_) (fun c1 => ?_)
  · exact kX11_dismiss_30 X hret (ifp c1 hf) hP hS (lv_sub hl [0] rfl)
  · exact kX11_dismiss_28 X hret (ifn c1 hf) hP hS (lv_sub hl [0] rfl)
set_option maxRecDepth 10000 in
theorem kX11_dismiss_21 {r : Int32} {S1 : MS} {M : MS} {s0 : Int32} {H : Heap} {locs : List Loc} {ls : Array Slot} (X : gX p s m args c cX11_dismiss 1 RX11 (kR kTab kA)) (hret : gRetI p l e (rmL 3 0 0) s m args below meth c cX11_dismiss (mΩ ad) (mP dC dI cI kA ad) Q r S1) (hf : fX11_dismiss_21 M s0 = some (r, S1)) (hP : (mP dC dI cI kA ad) M s H) (hS : va_S (Fr (mΩ ad) s.heap.size) s.heap H locs) (hl : lv_has ls 1 [(0, .ref (ad 25))]) : W p l e (rmL 3 0 0) s m args below meth c H locs 0 0 Q (F0 m 21 ls [.int s0, .ref (ad 25)]) := by
  have hx := X.hx
  have hb := X.hb
  have hown := X.hown
  have hts := X.hts
  rw [fX11_dismiss_21] at hf
  refine lv_iconst (v := 1) hx hb dX11_dismiss_21 (by decide) ?_
  obtain ⟨q, hc, hf⟩ := bd hf
  refine gCallVI X mOK rfl (vX11_fails hc) gRX11_X11_fails hdX11_fails rfl ⟨by decide, by decide⟩ hP hS (mrec hP) hl.1 (Nat.le_of_ble_eq_true rfl) ⟨Nat.le_refl _, Nat.le_refl _⟩ dX11_dismiss_22 (As := [.int s0, .int 1]) (rest := []) rfl (fun H locs hP hS => ?_)
  exact kX11_dismiss_25 X hret hf hP hS (lv_sub hl [0] rfl)
set_option maxRecDepth 10000 in
theorem kX11_dismiss_20 {r : Int32} {S1 : MS} {M : MS} {H : Heap} {locs : List Loc} {ls : Array Slot} (X : gX p s m args c cX11_dismiss 1 RX11 (kR kTab kA)) (hret : gRetI p l e (rmL 3 0 0) s m args below meth c cX11_dismiss (mΩ ad) (mP dC dI cI kA ad) Q r S1) (hf : fX11_dismiss_20 M = some (r, S1)) (hP : (mP dC dI cI kA ad) M s H) (hS : va_S (Fr (mΩ ad) s.heap.size) s.heap H locs) (hl : lv_has ls 1 [(0, .ref (ad 25))]) : W p l e (rmL 3 0 0) s m args below meth c H locs 0 0 Q (F0 m 20 ls [.ref (ad 25)]) := by
  have hx := X.hx
  have hb := X.hb
  have hown := X.hown
  have hts := X.hts
  rw [fX11_dismiss_20] at hf
  refine lv_iconst (v := 0) hx hb dX11_dismiss_20 (by decide) ?_
  exact kX11_dismiss_21 X hret hf hP hS (lv_sub hl [0] rfl)
set_option maxRecDepth 10000 in
theorem kX11_dismiss_16 {r : Int32} {S1 : MS} {M : MS} {H : Heap} {locs : List Loc} {ls : Array Slot} (X : gX p s m args c cX11_dismiss 1 RX11 (kR kTab kA)) (hret : gRetI p l e (rmL 3 0 0) s m args below meth c cX11_dismiss (mΩ ad) (mP dC dI cI kA ad) Q r S1) (hf : fX11_dismiss_16 M = some (r, S1)) (hP : (mP dC dI cI kA ad) M s H) (hS : va_S (Fr (mΩ ad) s.heap.size) s.heap H locs) (hl : lv_has ls 1 [(0, .ref (ad 25))]) : W p l e (rmL 3 0 0) s m args below meth c H locs 0 0 Q (F0 m 16 ls [.ref (ad 25)]) := by
  have hx := X.hx
  have hb := X.hb
  have hown := X.hown
  have hts := X.hts
  rw [fX11_dismiss_16] at hf
  refine lv_iconst (v := 1) hx hb dX11_dismiss_16 (by decide) ?_
  refine lv_goto (tgt := 21) hx hb dX11_dismiss_17 (by decide) ?_
  exact kX11_dismiss_21 X hret hf hP hS (lv_sub hl [0] rfl)
set_option maxRecDepth 10000 in
theorem kX11_dismiss_5 {r : Int32} {S1 : MS} {M : MS} {H : Heap} {locs : List Loc} {ls : Array Slot} (X : gX p s m args c cX11_dismiss 1 RX11 (kR kTab kA)) (hret : gRetI p l e (rmL 3 0 0) s m args below meth c cX11_dismiss (mΩ ad) (mP dC dI cI kA ad) Q r S1) (hf : fX11_dismiss_5 M = some (r, S1)) (hP : (mP dC dI cI kA ad) M s H) (hS : va_S (Fr (mΩ ad) s.heap.size) s.heap H locs) (hl : lv_has ls 1 [(0, .ref (ad 25))]) : W p l e (rmL 3 0 0) s m args below meth c H locs 0 0 Q (F0 m 5 ls []) := by
  have hx := X.hx
  have hb := X.hb
  have hown := X.hown
  have hts := X.hts
  rw [fX11_dismiss_5] at hf
  refine lv_aload_n hx hb dX11_dismiss_5 rfl (lv_at hl 0 rfl) ?_
  refine lv_aload_n hx hb dX11_dismiss_6 rfl (lv_at hl 0 rfl) ?_
  refine mr_get (k := 0) X hP (by decide) rfl rfl tw1665 dX11_dismiss_7 ?_
  refine lv_iconst (v := 5) hx hb dX11_dismiss_10 (by decide) ?_
  obtain ⟨g1, hf⟩ := gd hf
  refine mr_ald (a := 0) X hP rfl g1 dX11_dismiss_11 ?_
  refine lv_iconst (v := (-1)) hx hb dX11_dismiss_12 (by decide) ?_
  refine lv_icmp_ne (tgt := 20) hx hb dX11_dismiss_13 (by decide) (fun c1 => ?_) (fun c1 => ?_)
  · exact kX11_dismiss_20 X hret (ifn c1 hf) hP hS (lv_sub hl [0] rfl)
  · exact kX11_dismiss_16 X hret (ifp c1 hf) hP hS (lv_sub hl [0] rfl)
set_option maxRecDepth 10000 in
theorem kX11_dismiss_0 {r : Int32} {S1 : MS} {M : MS} {H : Heap} {locs : List Loc} {ls : Array Slot} (X : gX p s m args c cX11_dismiss 1 RX11 (kR kTab kA)) (hret : gRetI p l e (rmL 3 0 0) s m args below meth c cX11_dismiss (mΩ ad) (mP dC dI cI kA ad) Q r S1) (hf : fX11_dismiss_0 M = some (r, S1)) (hP : (mP dC dI cI kA ad) M s H) (hS : va_S (Fr (mΩ ad) s.heap.size) s.heap H locs) (hl : lv_has ls 1 [(0, .ref (ad 25))]) : W p l e (rmL 3 0 0) s m args below meth c H locs 0 0 Q (F0 m 0 ls []) := by
  have hx := X.hx
  have hb := X.hb
  have hown := X.hown
  have hts := X.hts
  rw [fX11_dismiss_0] at hf
  refine lv_aload_n hx hb dX11_dismiss_0 rfl (lv_at hl 0 rfl) ?_
  refine lv_iconst (v := 0) hx hb dX11_dismiss_1 (by decide) ?_
  refine mr_put (k := 7) X hP hS (by decide) rfl rfl rfl rfl tw1672 dX11_dismiss_2 (fun H locs hP hS => ?_)
  exact kX11_dismiss_5 X hret hf hP hS (lv_sub hl [0] rfl)
theorem vX11_dismiss {l : Launch} {dC : Nat → ClassId} {dI : Nat → Nat → Nat} {cI : ClassId} {kA : String → Nat → Nat} {ad : Nat → Nat} {M S1 : MS} {r : Int32} (hf : fX11_dismiss M  = some (r, S1)) : gMetI l yX11_dismiss cX11_dismiss 1 (some .int) 3 (mΩ ad) (mP dC dI cI kA ad) (kR kTab kA) [.ref (ad 25)] M r S1 := gEntryI (ty := .int) (by decide) rfl rfl mOK (Nat.le_of_ble_eq_true rfl) (fun p e s m args below meth c Q ls X hP hS hret hl => 
  kX11_dismiss_0 X hret hf hP hS (lv_sub hl [0] rfl))
set_option maxRecDepth 10000 in
theorem kX11_setMilk_40 {r : Int32} {S1 : MS} {M : MS} {s0 : Int32} {H : Heap} {locs : List Loc} {ls : Array Slot} (X : gX p s m args c cX11_setMilk 2 RX11 (kR kTab kA)) (hret : gRetI p l e (rmL 3 0 0) s m args below meth c cX11_setMilk (mΩ ad) (mP dC dI cI kA ad) Q r S1) (hf : fX11_setMilk_40 M s0 = some (r, S1)) (hP : (mP dC dI cI kA ad) M s H) (hS : va_S (Fr (mΩ ad) s.heap.size) s.heap H locs) (hl : lv_has ls 2 [(0, .ref (ad 25))]) : W p l e (rmL 3 0 0) s m args below meth c H locs 0 0 Q (F0 m 40 ls [.int s0]) := by
  have hx := X.hx
  have hb := X.hb
  have hown := X.hown
  have hts := X.hts
  rw [fX11_setMilk_40] at hf
  cases hf
  exact hret _ _ _ _ dX11_setMilk_40 hP hS
set_option maxRecDepth 10000 in
theorem kX11_setMilk_34 {r : Int32} {S1 : MS} {M : MS} {x1 : Int32} {H : Heap} {locs : List Loc} {ls : Array Slot} (X : gX p s m args c cX11_setMilk 2 RX11 (kR kTab kA)) (hret : gRetI p l e (rmL 3 0 0) s m args below meth c cX11_setMilk (mΩ ad) (mP dC dI cI kA ad) Q r S1) (hf : fX11_setMilk_34 M x1 = some (r, S1)) (hP : (mP dC dI cI kA ad) M s H) (hS : va_S (Fr (mΩ ad) s.heap.size) s.heap H locs) (hl : lv_has ls 2 [(0, .ref (ad 25)), (1, .int x1)]) : W p l e (rmL 3 0 0) s m args below meth c H locs 0 0 Q (F0 m 34 ls []) := by
  have hx := X.hx
  have hb := X.hb
  have hown := X.hown
  have hts := X.hts
  rw [fX11_setMilk_34] at hf
  refine lv_aload_n hx hb dX11_setMilk_34 rfl (lv_at hl 0 rfl) ?_
  refine lv_iconst (v := 4) hx hb dX11_setMilk_35 (by decide) ?_
  refine lv_iload_n hx hb dX11_setMilk_36 rfl (lv_at hl 1 rfl) ?_
  obtain ⟨q, hc, hf⟩ := bd hf
  refine gCallVI X mOK rfl (vX11_sets hc) gRX11_X11_sets hdX11_sets rfl ⟨by decide, by decide⟩ hP hS (mrec hP) hl.1 (Nat.le_of_ble_eq_true rfl) ⟨Nat.le_refl _, Nat.le_refl _⟩ dX11_setMilk_37 (As := [.int 4, .int x1]) (rest := []) rfl (fun H locs hP hS => ?_)
  exact kX11_setMilk_40 X hret hf hP hS (lv_sub hl [0] rfl)
set_option maxRecDepth 10000 in
theorem kX11_setMilk_30 {r : Int32} {S1 : MS} {M : MS} {x1 : Int32} {H : Heap} {locs : List Loc} {ls : Array Slot} (X : gX p s m args c cX11_setMilk 2 RX11 (kR kTab kA)) (hret : gRetI p l e (rmL 3 0 0) s m args below meth c cX11_setMilk (mΩ ad) (mP dC dI cI kA ad) Q r S1) (hf : fX11_setMilk_30 M x1 = some (r, S1)) (hP : (mP dC dI cI kA ad) M s H) (hS : va_S (Fr (mΩ ad) s.heap.size) s.heap H locs) (hl : lv_has ls 2 [(0, .ref (ad 25)), (1, .int x1)]) : W p l e (rmL 3 0 0) s m args below meth c H locs 0 0 Q (F0 m 30 ls []) := by
  have hx := X.hx
  have hb := X.hb
  have hown := X.hown
  have hts := X.hts
  rw [fX11_setMilk_30] at hf
  refine lv_aload_n hx hb dX11_setMilk_30 rfl (lv_at hl 0 rfl) ?_
  obtain ⟨q, hc, hf⟩ := bd hf
  refine gCallVV X mOK rfl (vX11_remembers hc) gRX11_X11_remembers hdX11_remembers rfl ⟨by decide, by decide⟩ hP hS (mrec hP) hl.1 (Nat.le_of_ble_eq_true rfl) ⟨Nat.le_refl _, Nat.le_refl _⟩ dX11_setMilk_31 (As := []) (rest := []) rfl (fun H locs hP hS => ?_)
  exact kX11_setMilk_34 X hret hf hP hS (lv_sub hl [0, 1] rfl)
set_option maxRecDepth 10000 in
theorem kX11_setMilk_28 {r : Int32} {S1 : MS} {M : MS} {H : Heap} {locs : List Loc} {ls : Array Slot} (X : gX p s m args c cX11_setMilk 2 RX11 (kR kTab kA)) (hret : gRetI p l e (rmL 3 0 0) s m args below meth c cX11_setMilk (mΩ ad) (mP dC dI cI kA ad) Q r S1) (hf : fX11_setMilk_28 M = some (r, S1)) (hP : (mP dC dI cI kA ad) M s H) (hS : va_S (Fr (mΩ ad) s.heap.size) s.heap H locs) (hl : lv_has ls 2 [(0, .ref (ad 25))]) : W p l e (rmL 3 0 0) s m args below meth c H locs 0 0 Q (F0 m 28 ls []) := by
  have hx := X.hx
  have hb := X.hb
  have hown := X.hown
  have hts := X.hts
  rw [fX11_setMilk_28] at hf
  refine lv_iconst (v := 0) hx hb dX11_setMilk_28 (by decide) ?_
  cases hf
  exact hret _ _ _ _ dX11_setMilk_29 hP hS
set_option maxRecDepth 10000 in
theorem kX11_setMilk_25 {r : Int32} {S1 : MS} {M : MS} {x1 : Int32} {s0 : Int32} {H : Heap} {locs : List Loc} {ls : Array Slot} (X : gX p s m args c cX11_setMilk 2 RX11 (kR kTab kA)) (hret : gRetI p l e (rmL 3 0 0) s m args below meth c cX11_setMilk (mΩ ad) (mP dC dI cI kA ad) Q r S1) (hf : fX11_setMilk_25 M x1 s0 = some (r, S1)) (hP : (mP dC dI cI kA ad) M s H) (hS : va_S (Fr (mΩ ad) s.heap.size) s.heap H locs) (hl : lv_has ls 2 [(0, .ref (ad 25)), (1, .int x1)]) : W p l e (rmL 3 0 0) s m args below meth c H locs 0 0 Q (F0 m 25 ls [.int s0]) := by
  have hx := X.hx
  have hb := X.hb
  have hown := X.hown
  have hts := X.hts
  rw [fX11_setMilk_25] at hf
  refine lv_if_eq (tgt := 30) hx hb dX11_setMilk_25 (by decide) (fun c1 => ?_) (fun c1 => ?_)
  · exact kX11_setMilk_30 X hret (ifp c1 hf) hP hS (lv_sub hl [0, 1] rfl)
  · exact kX11_setMilk_28 X hret (ifn c1 hf) hP hS (lv_sub hl [0] rfl)
set_option maxRecDepth 10000 in
theorem kX11_setMilk_21 {r : Int32} {S1 : MS} {M : MS} {x1 : Int32} {s0 : Int32} {H : Heap} {locs : List Loc} {ls : Array Slot} (X : gX p s m args c cX11_setMilk 2 RX11 (kR kTab kA)) (hret : gRetI p l e (rmL 3 0 0) s m args below meth c cX11_setMilk (mΩ ad) (mP dC dI cI kA ad) Q r S1) (hf : fX11_setMilk_21 M x1 s0 = some (r, S1)) (hP : (mP dC dI cI kA ad) M s H) (hS : va_S (Fr (mΩ ad) s.heap.size) s.heap H locs) (hl : lv_has ls 2 [(0, .ref (ad 25)), (1, .int x1)]) : W p l e (rmL 3 0 0) s m args below meth c H locs 0 0 Q (F0 m 21 ls [.int s0, .ref (ad 25)]) := by
  have hx := X.hx
  have hb := X.hb
  have hown := X.hown
  have hts := X.hts
  rw [fX11_setMilk_21] at hf
  refine lv_iconst (v := 1) hx hb dX11_setMilk_21 (by decide) ?_
  obtain ⟨q, hc, hf⟩ := bd hf
  refine gCallVI X mOK rfl (vX11_fails hc) gRX11_X11_fails hdX11_fails rfl ⟨by decide, by decide⟩ hP hS (mrec hP) hl.1 (Nat.le_of_ble_eq_true rfl) ⟨Nat.le_refl _, Nat.le_refl _⟩ dX11_setMilk_22 (As := [.int s0, .int 1]) (rest := []) rfl (fun H locs hP hS => ?_)
  exact kX11_setMilk_25 X hret hf hP hS (lv_sub hl [0, 1] rfl)
set_option maxRecDepth 10000 in
theorem kX11_setMilk_20 {r : Int32} {S1 : MS} {M : MS} {x1 : Int32} {H : Heap} {locs : List Loc} {ls : Array Slot} (X : gX p s m args c cX11_setMilk 2 RX11 (kR kTab kA)) (hret : gRetI p l e (rmL 3 0 0) s m args below meth c cX11_setMilk (mΩ ad) (mP dC dI cI kA ad) Q r S1) (hf : fX11_setMilk_20 M x1 = some (r, S1)) (hP : (mP dC dI cI kA ad) M s H) (hS : va_S (Fr (mΩ ad) s.heap.size) s.heap H locs) (hl : lv_has ls 2 [(0, .ref (ad 25)), (1, .int x1)]) : W p l e (rmL 3 0 0) s m args below meth c H locs 0 0 Q (F0 m 20 ls [.ref (ad 25)]) := by
  have hx := X.hx
  have hb := X.hb
  have hown := X.hown
  have hts := X.hts
  rw [fX11_setMilk_20] at hf
  refine lv_iconst (v := 0) hx hb dX11_setMilk_20 (by decide) ?_
  exact kX11_setMilk_21 X hret hf hP hS (lv_sub hl [0, 1] rfl)
set_option maxRecDepth 10000 in
theorem kX11_setMilk_16 {r : Int32} {S1 : MS} {M : MS} {x1 : Int32} {H : Heap} {locs : List Loc} {ls : Array Slot} (X : gX p s m args c cX11_setMilk 2 RX11 (kR kTab kA)) (hret : gRetI p l e (rmL 3 0 0) s m args below meth c cX11_setMilk (mΩ ad) (mP dC dI cI kA ad) Q r S1) (hf : fX11_setMilk_16 M x1 = some (r, S1)) (hP : (mP dC dI cI kA ad) M s H) (hS : va_S (Fr (mΩ ad) s.heap.size) s.heap H locs) (hl : lv_has ls 2 [(0, .ref (ad 25)), (1, .int x1)]) : W p l e (rmL 3 0 0) s m args below meth c H locs 0 0 Q (F0 m 16 ls [.ref (ad 25)]) := by
  have hx := X.hx
  have hb := X.hb
  have hown := X.hown
  have hts := X.hts
  rw [fX11_setMilk_16] at hf
  refine lv_iconst (v := 1) hx hb dX11_setMilk_16 (by decide) ?_
  refine lv_goto (tgt := 21) hx hb dX11_setMilk_17 (by decide) ?_
  exact kX11_setMilk_21 X hret hf hP hS (lv_sub hl [0, 1] rfl)
set_option maxRecDepth 10000 in
theorem kX11_setMilk_13 {r : Int32} {S1 : MS} {M : MS} {x1 : Int32} {s0 : Int32} {H : Heap} {locs : List Loc} {ls : Array Slot} (X : gX p s m args c cX11_setMilk 2 RX11 (kR kTab kA)) (hret : gRetI p l e (rmL 3 0 0) s m args below meth c cX11_setMilk (mΩ ad) (mP dC dI cI kA ad) Q r S1) (hf : fX11_setMilk_13 M x1 s0 = some (r, S1)) (hP : (mP dC dI cI kA ad) M s H) (hS : va_S (Fr (mΩ ad) s.heap.size) s.heap H locs) (hl : lv_has ls 2 [(0, .ref (ad 25)), (1, .int x1)]) : W p l e (rmL 3 0 0) s m args below meth c H locs 0 0 Q (F0 m 13 ls [.int s0, .ref (ad 25)]) := by
  have hx := X.hx
  have hb := X.hb
  have hown := X.hown
  have hts := X.hts
  rw [fX11_setMilk_13] at hf
  refine lv_if_ne (tgt := 20) hx hb dX11_setMilk_13 (by decide) (fun c1 => ?_) (fun c1 => ?_)
  · exact kX11_setMilk_20 X hret (ifn c1 hf) hP hS (lv_sub hl [0, 1] rfl)
  · exact kX11_setMilk_16 X hret (ifp c1 hf) hP hS (lv_sub hl [0, 1] rfl)
set_option maxRecDepth 10000 in
theorem kX11_setMilk_5 {r : Int32} {S1 : MS} {M : MS} {x1 : Int32} {H : Heap} {locs : List Loc} {ls : Array Slot} (X : gX p s m args c cX11_setMilk 2 RX11 (kR kTab kA)) (hret : gRetI p l e (rmL 3 0 0) s m args below meth c cX11_setMilk (mΩ ad) (mP dC dI cI kA ad) Q r S1) (hf : fX11_setMilk_5 M x1 = some (r, S1)) (hP : (mP dC dI cI kA ad) M s H) (hS : va_S (Fr (mΩ ad) s.heap.size) s.heap H locs) (hl : lv_has ls 2 [(0, .ref (ad 25)), (1, .int x1)]) : W p l e (rmL 3 0 0) s m args below meth c H locs 0 0 Q (F0 m 5 ls []) := by
  have hx := X.hx
  have hb := X.hb
  have hown := X.hown
  have hts := X.hts
  rw [fX11_setMilk_5] at hf
  refine lv_aload_n hx hb dX11_setMilk_5 rfl (lv_at hl 0 rfl) ?_
  refine lv_iload_n hx hb dX11_setMilk_6 rfl (lv_at hl 1 rfl) ?_
  refine lv_iconst (v := 0) hx hb dX11_setMilk_7 (by decide) ?_
  refine lv_bipush (v := 9) hx hb dX11_setMilk_8 (by decide) ?_
  obtain ⟨q, hc, hf⟩ := bd hf
  refine gCallSR X rfl (vX11_inRange hc) gRX11_X11_inRange hdX11_inRange rfl ⟨by decide, by decide⟩ (gB_blind mOK) (gB_at mOK X hP) hl.1 (Nat.le_of_ble_eq_true rfl) ⟨Nat.le_refl _, Nat.le_refl _⟩ dX11_setMilk_10 (As := [.int x1, .int 0, .int 9]) (rest := [.ref (ad 25)]) rfl ?_
  exact kX11_setMilk_13 X hret hf hP hS (lv_sub hl [0, 1] rfl)
set_option maxRecDepth 10000 in
theorem kX11_setMilk_0 {r : Int32} {S1 : MS} {M : MS} {a1 : Int32} {H : Heap} {locs : List Loc} {ls : Array Slot} (X : gX p s m args c cX11_setMilk 2 RX11 (kR kTab kA)) (hret : gRetI p l e (rmL 3 0 0) s m args below meth c cX11_setMilk (mΩ ad) (mP dC dI cI kA ad) Q r S1) (hf : fX11_setMilk_0 M a1 = some (r, S1)) (hP : (mP dC dI cI kA ad) M s H) (hS : va_S (Fr (mΩ ad) s.heap.size) s.heap H locs) (hl : lv_has ls 2 [(0, .ref (ad 25)), (1, .int a1)]) : W p l e (rmL 3 0 0) s m args below meth c H locs 0 0 Q (F0 m 0 ls []) := by
  have hx := X.hx
  have hb := X.hb
  have hown := X.hown
  have hts := X.hts
  rw [fX11_setMilk_0] at hf
  refine lv_aload_n hx hb dX11_setMilk_0 rfl (lv_at hl 0 rfl) ?_
  refine lv_iconst (v := 0) hx hb dX11_setMilk_1 (by decide) ?_
  refine mr_put (k := 7) X hP hS (by decide) rfl rfl rfl rfl tw1672 dX11_setMilk_2 (fun H locs hP hS => ?_)
  exact kX11_setMilk_5 X hret hf hP hS (lv_sub hl [0, 1] rfl)
theorem vX11_setMilk {l : Launch} {dC : Nat → ClassId} {dI : Nat → Nat → Nat} {cI : ClassId} {kA : String → Nat → Nat} {ad : Nat → Nat} {M S1 : MS} {r : Int32} {a1 : Int32} (hf : fX11_setMilk M a1 = some (r, S1)) : gMetI l yX11_setMilk cX11_setMilk 2 (some .int) 3 (mΩ ad) (mP dC dI cI kA ad) (kR kTab kA) [.ref (ad 25), .int a1] M r S1 := gEntryI (ty := .int) (by decide) rfl rfl mOK (Nat.le_of_ble_eq_true rfl) (fun p e s m args below meth c Q ls X hP hS hret hl => 
  kX11_setMilk_0 X hret hf hP hS (lv_sub hl [0, 1] rfl))
set_option maxRecDepth 10000 in
theorem kX11_eats_77 {S1 : MS} {M : MS} {H : Heap} {locs : List Loc} {ls : Array Slot} (X : gX p s m args c cX11_eats 5 RX11 (kR kTab kA)) (hret : gRetV p l e (rmL 4 0 0) s m args below meth c cX11_eats (mΩ ad) (mP dC dI cI kA ad) Q S1) (hf : fX11_eats_77 M = some S1) (hP : (mP dC dI cI kA ad) M s H) (hS : va_S (Fr (mΩ ad) s.heap.size) s.heap H locs) (hl : lv_has ls 5 [(0, .ref (ad 25))]) : W p l e (rmL 4 0 0) s m args below meth c H locs 0 0 Q (F0 m 77 ls []) := by
  have hx := X.hx
  have hb := X.hb
  have hown := X.hown
  have hts := X.hts
  rw [fX11_eats_77] at hf
  cases hf
  exact hret _ _ _ _ dX11_eats_77 hP hS
set_option maxRecDepth 10000 in
theorem kX11_eats_123 {S1 : MS} {M : MS} {H : Heap} {locs : List Loc} {ls : Array Slot} (X : gX p s m args c cX11_eats 5 RX11 (kR kTab kA)) (hret : gRetV p l e (rmL 4 0 0) s m args below meth c cX11_eats (mΩ ad) (mP dC dI cI kA ad) Q S1) (hf : fX11_eats_123 M = some S1) (hP : (mP dC dI cI kA ad) M s H) (hS : va_S (Fr (mΩ ad) s.heap.size) s.heap H locs) (hl : lv_has ls 5 [(0, .ref (ad 25))]) : W p l e (rmL 4 0 0) s m args below meth c H locs 0 0 Q (F0 m 123 ls []) := by
  have hx := X.hx
  have hb := X.hb
  have hown := X.hown
  have hts := X.hts
  rw [fX11_eats_123] at hf
  cases hf
  exact hret _ _ _ _ dX11_eats_123 hP hS
set_option maxRecDepth 10000 in
theorem kX11_eats_113 {S1 : MS} {M : MS} {x1 : Int32} {x2 : Int32} {H : Heap} {locs : List Loc} {ls : Array Slot} (X : gX p s m args c cX11_eats 5 RX11 (kR kTab kA)) (hret : gRetV p l e (rmL 4 0 0) s m args below meth c cX11_eats (mΩ ad) (mP dC dI cI kA ad) Q S1) (hf : fX11_eats_113 M x1 x2 = some S1) (hP : (mP dC dI cI kA ad) M s H) (hS : va_S (Fr (mΩ ad) s.heap.size) s.heap H locs) (hl : lv_has ls 5 [(0, .ref (ad 25)), (1, .int x1), (2, .int x2)]) : W p l e (rmL 4 0 0) s m args below meth c H locs 0 0 Q (F0 m 113 ls []) := by
  have hx := X.hx
  have hb := X.hb
  have hown := X.hown
  have hts := X.hts
  rw [fX11_eats_113] at hf
  refine lv_aload_n hx hb dX11_eats_113 rfl (lv_at hl 0 rfl) ?_
  refine lv_iload_n hx hb dX11_eats_114 rfl (lv_at hl 1 rfl) ?_
  refine lv_iload_n hx hb dX11_eats_115 rfl (lv_at hl 2 rfl) ?_
  refine lv_iconst (v := 1) hx hb dX11_eats_116 (by decide) ?_
  refine lv_iadd hx hb dX11_eats_117 ?_
  refine lv_iconst (v := 2) hx hb dX11_eats_118 (by decide) ?_
  refine lv_idiv hx hb dX11_eats_119 (by decide) ?_
  obtain ⟨q, hc, hf⟩ := bd hf
  refine gCallVV X mOK rfl (vX11_starve hc) gRX11_X11_starve hdX11_starve rfl ⟨by decide, by decide⟩ hP hS (mrec hP) hl.1 (Nat.le_of_ble_eq_true rfl) ⟨Nat.le_refl _, Nat.le_refl _⟩ dX11_eats_120 (As := [.int x1, .int ((x2 + 1) / 2)]) (rest := []) rfl (fun H locs hP hS => ?_)
  exact kX11_eats_123 X hret hf hP hS (lv_sub hl [0] rfl)
set_option maxRecDepth 10000 in
theorem kX11_eats_110 {S1 : MS} {M : MS} {H : Heap} {locs : List Loc} {ls : Array Slot} (X : gX p s m args c cX11_eats 5 RX11 (kR kTab kA)) (hret : gRetV p l e (rmL 4 0 0) s m args below meth c cX11_eats (mΩ ad) (mP dC dI cI kA ad) Q S1) (hf : fX11_eats_110 M = some S1) (hP : (mP dC dI cI kA ad) M s H) (hS : va_S (Fr (mΩ ad) s.heap.size) s.heap H locs) (hl : lv_has ls 5 [(0, .ref (ad 25))]) : W p l e (rmL 4 0 0) s m args below meth c H locs 0 0 Q (F0 m 110 ls []) := by
  have hx := X.hx
  have hb := X.hb
  have hown := X.hown
  have hts := X.hts
  rw [fX11_eats_110] at hf
  refine lv_goto (tgt := 123) hx hb dX11_eats_110 (by decide) ?_
  exact kX11_eats_123 X hret hf hP hS (lv_sub hl [0] rfl)
set_option maxRecDepth 10000 in
theorem kX11_eats_103 {S1 : MS} {M : MS} {x1 : Int32} {x4 : Int32} {H : Heap} {locs : List Loc} {ls : Array Slot} (X : gX p s m args c cX11_eats 5 RX11 (kR kTab kA)) (hret : gRetV p l e (rmL 4 0 0) s m args below meth c cX11_eats (mΩ ad) (mP dC dI cI kA ad) Q S1) (hf : fX11_eats_103 M x1 x4 = some S1) (hP : (mP dC dI cI kA ad) M s H) (hS : va_S (Fr (mΩ ad) s.heap.size) s.heap H locs) (hl : lv_has ls 5 [(0, .ref (ad 25)), (1, .int x1), (4, .int x4)]) : W p l e (rmL 4 0 0) s m args below meth c H locs 0 0 Q (F0 m 103 ls []) := by
  have hx := X.hx
  have hb := X.hb
  have hown := X.hown
  have hts := X.hts
  rw [fX11_eats_103] at hf
  refine lv_aload_n hx hb dX11_eats_103 rfl (lv_at hl 0 rfl) ?_
  refine lv_iload_n hx hb dX11_eats_104 rfl (lv_at hl 1 rfl) ?_
  refine lv_iload hx hb dX11_eats_105 (lv_at hl 2 rfl) ?_
  obtain ⟨q, hc, hf⟩ := bd hf
  refine gCallVV X mOK rfl (vX11_moves hc) gRX11_X11_moves hdX11_moves rfl ⟨by decide, by decide⟩ hP hS (mrec hP) hl.1 (Nat.le_of_ble_eq_true rfl) ⟨Nat.le_refl _, Nat.le_refl _⟩ dX11_eats_107 (As := [.int x1, .int x4]) (rest := []) rfl (fun H locs hP hS => ?_)
  exact kX11_eats_110 X hret hf hP hS (lv_sub hl [0] rfl)
set_option maxRecDepth 10000 in
theorem kX11_eats_95 {S1 : MS} {M : MS} {x1 : Int32} {x2 : Int32} {s0 : Int32} {H : Heap} {locs : List Loc} {ls : Array Slot} (X : gX p s m args c cX11_eats 5 RX11 (kR kTab kA)) (hret : gRetV p l e (rmL 4 0 0) s m args below meth c cX11_eats (mΩ ad) (mP dC dI cI kA ad) Q S1) (hf : fX11_eats_95 M x1 x2 s0 = some S1) (hP : (mP dC dI cI kA ad) M s H) (hS : va_S (Fr (mΩ ad) s.heap.size) s.heap H locs) (hl : lv_has ls 5 [(0, .ref (ad 25)), (1, .int x1), (2, .int x2)]) : W p l e (rmL 4 0 0) s m args below meth c H locs 0 0 Q (F0 m 95 ls [.int s0]) := by
  have hx := X.hx
  have hb := X.hb
  have hown := X.hown
  have hts := X.hts
  rw [fX11_eats_95] at hf
  refine lv_istore (lv' := [(4, .int s0), (0, .ref (ad 25)), (1, .int x1), (2, .int x2)]) hx hb dX11_eats_95 hl (by decide) rfl (fun ls hl => ?_)
  refine lv_iload hx hb dX11_eats_97 (lv_at hl 0 rfl) ?_
  refine lv_iconst (v := (-1)) hx hb dX11_eats_99 (by decide) ?_
  refine lv_icmp_eq (tgt := 113) hx hb dX11_eats_100 (by decide) (fun c1 => ?_) (fun c1 => ?_)
  · exact kX11_eats_113 X hret (ifp c1 hf) hP hS (lv_sub hl [1, 2, 3] rfl)
  · exact kX11_eats_103 X hret (ifn c1 hf) hP hS (lv_sub hl [1, 2, 0] rfl)
set_option maxRecDepth 10000 in
theorem kX11_eats_94 {S1 : MS} {M : MS} {x1 : Int32} {x2 : Int32} {H : Heap} {locs : List Loc} {ls : Array Slot} (X : gX p s m args c cX11_eats 5 RX11 (kR kTab kA)) (hret : gRetV p l e (rmL 4 0 0) s m args below meth c cX11_eats (mΩ ad) (mP dC dI cI kA ad) Q S1) (hf : fX11_eats_94 M x1 x2 = some S1) (hP : (mP dC dI cI kA ad) M s H) (hS : va_S (Fr (mΩ ad) s.heap.size) s.heap H locs) (hl : lv_has ls 5 [(0, .ref (ad 25)), (1, .int x1), (2, .int x2)]) : W p l e (rmL 4 0 0) s m args below meth c H locs 0 0 Q (F0 m 94 ls []) := by
  have hx := X.hx
  have hb := X.hb
  have hown := X.hown
  have hts := X.hts
  rw [fX11_eats_94] at hf
  refine lv_iconst (v := (-1)) hx hb dX11_eats_94 (by decide) ?_
  exact kX11_eats_95 X hret hf hP hS (lv_sub hl [0, 1, 2] rfl)
set_option maxRecDepth 10000 in
theorem kX11_eats_91 {S1 : MS} {M : MS} {x1 : Int32} {x2 : Int32} {s0 : Int32} {H : Heap} {locs : List Loc} {ls : Array Slot} (X : gX p s m args c cX11_eats 5 RX11 (kR kTab kA)) (hret : gRetV p l e (rmL 4 0 0) s m args below meth c cX11_eats (mΩ ad) (mP dC dI cI kA ad) Q S1) (hf : fX11_eats_91 M x1 x2 s0 = some S1) (hP : (mP dC dI cI kA ad) M s H) (hS : va_S (Fr (mΩ ad) s.heap.size) s.heap H locs) (hl : lv_has ls 5 [(0, .ref (ad 25)), (1, .int x1), (2, .int x2)]) : W p l e (rmL 4 0 0) s m args below meth c H locs 0 0 Q (F0 m 91 ls [.int s0]) := by
  have hx := X.hx
  have hb := X.hb
  have hown := X.hown
  have hts := X.hts
  rw [fX11_eats_91] at hf
  refine lv_goto (tgt := 95) hx hb dX11_eats_91 (by decide) ?_
  exact kX11_eats_95 X hret hf hP hS (lv_sub hl [0, 1, 2] rfl)
set_option maxRecDepth 10000 in
theorem kX11_eats_86 {S1 : MS} {M : MS} {x1 : Int32} {x2 : Int32} {H : Heap} {locs : List Loc} {ls : Array Slot} (X : gX p s m args c cX11_eats 5 RX11 (kR kTab kA)) (hret : gRetV p l e (rmL 4 0 0) s m args below meth c cX11_eats (mΩ ad) (mP dC dI cI kA ad) Q S1) (hf : fX11_eats_86 M x1 x2 = some S1) (hP : (mP dC dI cI kA ad) M s H) (hS : va_S (Fr (mΩ ad) s.heap.size) s.heap H locs) (hl : lv_has ls 5 [(0, .ref (ad 25)), (1, .int x1), (2, .int x2)]) : W p l e (rmL 4 0 0) s m args below meth c H locs 0 0 Q (F0 m 86 ls []) := by
  have hx := X.hx
  have hb := X.hb
  have hown := X.hown
  have hts := X.hts
  rw [fX11_eats_86] at hf
  refine lv_aload_n hx hb dX11_eats_86 rfl (lv_at hl 0 rfl) ?_
  refine lv_iload_n hx hb dX11_eats_87 rfl (lv_at hl 1 rfl) ?_
  obtain ⟨q, hc, hf⟩ := bd hf
  refine gCallVR X rfl (vX11_nextOpen hc) gRX11_X11_nextOpen hdX11_nextOpen rfl ⟨by decide, by decide⟩ (gB_blind mOK) (gB_at mOK X hP) (mrec hP) hl.1 (Nat.le_of_ble_eq_true rfl) ⟨Nat.le_refl _, Nat.le_refl _⟩ dX11_eats_88 (As := [.int x1]) (rest := []) rfl ?_
  exact kX11_eats_91 X hret hf hP hS (lv_sub hl [0, 1, 2] rfl)
set_option maxRecDepth 10000 in
theorem kX11_eats_83 {S1 : MS} {M : MS} {x1 : Int32} {x2 : Int32} {s0 : Int32} {H : Heap} {locs : List Loc} {ls : Array Slot} (X : gX p s m args c cX11_eats 5 RX11 (kR kTab kA)) (hret : gRetV p l e (rmL 4 0 0) s m args below meth c cX11_eats (mΩ ad) (mP dC dI cI kA ad) Q S1) (hf : fX11_eats_83 M x1 x2 s0 = some S1) (hP : (mP dC dI cI kA ad) M s H) (hS : va_S (Fr (mΩ ad) s.heap.size) s.heap H locs) (hl : lv_has ls 5 [(0, .ref (ad 25)), (1, .int x1), (2, .int x2)]) : W p l e (rmL 4 0 0) s m args below meth c H locs 0 0 Q (F0 m 83 ls [.int s0]) := by
  have hx := X.hx
  have hb := X.hb
  have hown := X.hown
  have hts := X.hts
  rw [fX11_eats_83] at hf
  refine lv_if_eq (tgt := 94) hx hb dX11_eats_83 (by decide) (fun c1 => ?_) (fun c1 => ?_)
  · exact kX11_eats_94 X hret (ifp c1 hf) hP hS (lv_sub hl [0, 1, 2] rfl)
  · exact kX11_eats_86 X hret (ifn c1 hf) hP hS (lv_sub hl [0, 1, 2] rfl)
set_option maxRecDepth 10000 in
theorem kX11_eats_78 {S1 : MS} {M : MS} {x1 : Int32} {x2 : Int32} {H : Heap} {locs : List Loc} {ls : Array Slot} (X : gX p s m args c cX11_eats 5 RX11 (kR kTab kA)) (hret : gRetV p l e (rmL 4 0 0) s m args below meth c cX11_eats (mΩ ad) (mP dC dI cI kA ad) Q S1) (hf : fX11_eats_78 M x1 x2 = some S1) (hP : (mP dC dI cI kA ad) M s H) (hS : va_S (Fr (mΩ ad) s.heap.size) s.heap H locs) (hl : lv_has ls 5 [(0, .ref (ad 25)), (1, .int x1), (2, .int x2)]) : W p l e (rmL 4 0 0) s m args below meth c H locs 0 0 Q (F0 m 78 ls []) := by
  have hx := X.hx
  have hb := X.hb
  have hown := X.hown
  have hts := X.hts
  rw [fX11_eats_78] at hf
  refine lv_aload_n hx hb dX11_eats_78 rfl (lv_at hl 0 rfl) ?_
  refine lv_iload_n hx hb dX11_eats_79 rfl (lv_at hl 1 rfl) ?_
  obtain ⟨q, hc, hf⟩ := bd hf
  refine gCallVR X rfl (vX11_isOpenSack hc) gRX11_X11_isOpenSack hdX11_isOpenSack rfl ⟨by decide, by decide⟩ (gB_blind mOK) (gB_at mOK X hP) (mrec hP) hl.1 (Nat.le_of_ble_eq_true rfl) ⟨Nat.le_refl _, Nat.le_refl _⟩ dX11_eats_80 (As := [.int x1]) (rest := []) rfl ?_
  exact kX11_eats_83 X hret hf hP hS (lv_sub hl [0, 1, 2] rfl)
set_option maxRecDepth 10000 in
theorem kX11_eats_74 {S1 : MS} {M : MS} {x1 : Int32} {x2 : Int32} {s0 : Int32} {H : Heap} {locs : List Loc} {ls : Array Slot} (X : gX p s m args c cX11_eats 5 RX11 (kR kTab kA)) (hret : gRetV p l e (rmL 4 0 0) s m args below meth c cX11_eats (mΩ ad) (mP dC dI cI kA ad) Q S1) (hf : fX11_eats_74 M x1 x2 s0 = some S1) (hP : (mP dC dI cI kA ad) M s H) (hS : va_S (Fr (mΩ ad) s.heap.size) s.heap H locs) (hl : lv_has ls 5 [(0, .ref (ad 25)), (1, .int x1), (2, .int x2)]) : W p l e (rmL 4 0 0) s m args below meth c H locs 0 0 Q (F0 m 74 ls [.int s0]) := by
  have hx := X.hx
  have hb := X.hb
  have hown := X.hown
  have hts := X.hts
  rw [fX11_eats_74] at hf
  refine lv_if_le (tgt := 78) hx hb dX11_eats_74 (by decide) (fun c1 => ?_) (fun c1 => ?_)
  · exact kX11_eats_78 X hret (ifp c1 hf) hP hS (lv_sub hl [0, 1, 2] rfl)
  · exact kX11_eats_77 X hret (ifn c1 hf) hP hS (lv_sub hl [0] rfl)
set_option maxRecDepth 10000 in
theorem kX11_eats_67 {S1 : MS} {M : MS} {x1 : Int32} {x2 : Int32} {H : Heap} {locs : List Loc} {ls : Array Slot} (X : gX p s m args c cX11_eats 5 RX11 (kR kTab kA)) (hret : gRetV p l e (rmL 4 0 0) s m args below meth c cX11_eats (mΩ ad) (mP dC dI cI kA ad) Q S1) (hf : fX11_eats_67 M x1 x2 = some S1) (hP : (mP dC dI cI kA ad) M s H) (hS : va_S (Fr (mΩ ad) s.heap.size) s.heap H locs) (hl : lv_has ls 5 [(0, .ref (ad 25)), (1, .int x1), (2, .int x2)]) : W p l e (rmL 4 0 0) s m args below meth c H locs 0 0 Q (F0 m 67 ls []) := by
  have hx := X.hx
  have hb := X.hb
  have hown := X.hown
  have hts := X.hts
  rw [fX11_eats_67] at hf
  refine lv_aload_n hx hb dX11_eats_67 rfl (lv_at hl 0 rfl) ?_
  refine lv_iload_n hx hb dX11_eats_68 rfl (lv_at hl 1 rfl) ?_
  refine lv_bipush (v := 7) hx hb dX11_eats_69 (by decide) ?_
  obtain ⟨q, hc, hf⟩ := bd hf
  refine gCallVR X rfl (vX11_ofSack hc) gRX11_X11_ofSack hdX11_ofSack rfl ⟨by decide, by decide⟩ (gB_blind mOK) (gB_at mOK X hP) (mrec hP) hl.1 (Nat.le_of_ble_eq_true rfl) ⟨Nat.le_refl _, Nat.le_refl _⟩ dX11_eats_71 (As := [.int x1, .int 7]) (rest := []) rfl ?_
  exact kX11_eats_74 X hret hf hP hS (lv_sub hl [0, 1, 2] rfl)
set_option maxRecDepth 10000 in
theorem kX11_eats_63 {S1 : MS} {M : MS} {x1 : Int32} {x2 : Int32} {H : Heap} {locs : List Loc} {ls : Array Slot} (X : gX p s m args c cX11_eats 5 RX11 (kR kTab kA)) (hret : gRetV p l e (rmL 4 0 0) s m args below meth c cX11_eats (mΩ ad) (mP dC dI cI kA ad) Q S1) (hf : fX11_eats_63 M x1 x2 = some S1) (hP : (mP dC dI cI kA ad) M s H) (hS : va_S (Fr (mΩ ad) s.heap.size) s.heap H locs) (hl : lv_has ls 5 [(0, .ref (ad 25)), (1, .int x1), (2, .int x2)]) : W p l e (rmL 4 0 0) s m args below meth c H locs 0 0 Q (F0 m 63 ls []) := by
  have hx := X.hx
  have hb := X.hb
  have hown := X.hown
  have hts := X.hts
  rw [fX11_eats_63] at hf
  refine lv_iload_n hx hb dX11_eats_63 rfl (lv_at hl 2 rfl) ?_
  refine lv_if_eq (tgt := 77) hx hb dX11_eats_64 (by decide) (fun c1 => ?_) (fun c1 => ?_)
  · exact kX11_eats_77 X hret (ifp c1 hf) hP hS (lv_sub hl [0] rfl)
  · exact kX11_eats_67 X hret (ifn c1 hf) hP hS (lv_sub hl [0, 1, 2] rfl)
set_option maxRecDepth 10000 in
theorem kX11_eats_52 {S1 : MS} {M : MS} {x1 : Int32} {x2 : Int32} {x3 : Int32} {H : Heap} {locs : List Loc} {ls : Array Slot} (X : gX p s m args c cX11_eats 5 RX11 (kR kTab kA)) (hret : gRetV p l e (rmL 4 0 0) s m args below meth c cX11_eats (mΩ ad) (mP dC dI cI kA ad) Q S1) (hf : fX11_eats_52 M x1 x2 x3 = some S1) (hP : (mP dC dI cI kA ad) M s H) (hS : va_S (Fr (mΩ ad) s.heap.size) s.heap H locs) (hl : lv_has ls 5 [(0, .ref (ad 25)), (1, .int x1), (2, .int x2), (3, .int x3)]) : W p l e (rmL 4 0 0) s m args below meth c H locs 0 0 Q (F0 m 52 ls []) := by
  have hx := X.hx
  have hb := X.hb
  have hown := X.hown
  have hts := X.hts
  rw [fX11_eats_52] at hf
  refine lv_aload_n hx hb dX11_eats_52 rfl (lv_at hl 0 rfl) ?_
  refine mr_get (k := 0) X hP (by decide) rfl rfl tw1665 dX11_eats_53 ?_
  refine lv_bipush (v := 9) hx hb dX11_eats_56 (by decide) ?_
  refine lv_dup2_11 hx hb dX11_eats_58 rfl rfl ?_
  obtain ⟨g1, hf⟩ := gd hf
  refine mr_ald (a := 0) X hP rfl g1 dX11_eats_59 ?_
  refine lv_iload_n hx hb dX11_eats_60 rfl (lv_at hl 3 rfl) ?_
  refine lv_iadd hx hb dX11_eats_61 ?_
  obtain ⟨g2, hf⟩ := gd hf
  refine mr_ast (a := 0) X hP hS rfl g2 dX11_eats_62 (fun H locs hP hS => ?_)
  exact kX11_eats_63 X hret hf hP hS (lv_sub hl [0, 1, 2] rfl)
set_option maxRecDepth 10000 in
theorem kX11_eats_47 {S1 : MS} {M : MS} {x1 : Int32} {x2 : Int32} {x3 : Int32} {s0 : Int32} {s1 : Int32} {s2 : Int32} {H : Heap} {locs : List Loc} {ls : Array Slot} (X : gX p s m args c cX11_eats 5 RX11 (kR kTab kA)) (hret : gRetV p l e (rmL 4 0 0) s m args below meth c cX11_eats (mΩ ad) (mP dC dI cI kA ad) Q S1) (hf : fX11_eats_47 M x1 x2 x3 s0 s1 s2 = some S1) (hP : (mP dC dI cI kA ad) M s H) (hS : va_S (Fr (mΩ ad) s.heap.size) s.heap H locs) (hl : lv_has ls 5 [(0, .ref (ad 25)), (1, .int x1), (2, .int x2), (3, .int x3)]) : W p l e (rmL 4 0 0) s m args below meth c H locs 0 0 Q (F0 m 47 ls [.int s0, .int s1, .int s2, .ref (ad 25)]) := by
  have hx := X.hx
  have hb := X.hb
  have hown := X.hown
  have hts := X.hts
  rw [fX11_eats_47] at hf
  refine lv_iload_n hx hb dX11_eats_47 rfl (lv_at hl 3 rfl) ?_
  refine lv_iadd hx hb dX11_eats_48 ?_
  obtain ⟨q, hc, hf⟩ := bd hf
  refine gCallVV X mOK rfl (vX11_putsSack hc) gRX11_X11_putsSack hdX11_putsSack rfl ⟨by decide, by decide⟩ hP hS (mrec hP) hl.1 (Nat.le_of_ble_eq_true rfl) ⟨Nat.le_refl _, Nat.le_refl _⟩ dX11_eats_49 (As := [.int s2, .int s1, .int (s0 + x3)]) (rest := []) rfl (fun H locs hP hS => ?_)
  exact kX11_eats_52 X hret hf hP hS (lv_sub hl [0, 1, 2, 3] rfl)
set_option maxRecDepth 10000 in
theorem kX11_eats_36 {S1 : MS} {M : MS} {x1 : Int32} {x2 : Int32} {x3 : Int32} {H : Heap} {locs : List Loc} {ls : Array Slot} (X : gX p s m args c cX11_eats 5 RX11 (kR kTab kA)) (hret : gRetV p l e (rmL 4 0 0) s m args below meth c cX11_eats (mΩ ad) (mP dC dI cI kA ad) Q S1) (hf : fX11_eats_36 M x1 x2 x3 = some S1) (hP : (mP dC dI cI kA ad) M s H) (hS : va_S (Fr (mΩ ad) s.heap.size) s.heap H locs) (hl : lv_has ls 5 [(0, .ref (ad 25)), (1, .int x1), (2, .int x2), (3, .int x3)]) : W p l e (rmL 4 0 0) s m args below meth c H locs 0 0 Q (F0 m 36 ls []) := by
  have hx := X.hx
  have hb := X.hb
  have hown := X.hown
  have hts := X.hts
  rw [fX11_eats_36] at hf
  refine lv_aload_n hx hb dX11_eats_36 rfl (lv_at hl 0 rfl) ?_
  refine lv_iload_n hx hb dX11_eats_37 rfl (lv_at hl 1 rfl) ?_
  refine lv_bipush (v := 10) hx hb dX11_eats_38 (by decide) ?_
  refine lv_aload_n hx hb dX11_eats_40 rfl (lv_at hl 0 rfl) ?_
  refine lv_iload_n hx hb dX11_eats_41 rfl (lv_at hl 1 rfl) ?_
  refine lv_bipush (v := 10) hx hb dX11_eats_42 (by decide) ?_
  obtain ⟨q, hc, hf⟩ := bd hf
  refine gCallVR X rfl (vX11_ofSack hc) gRX11_X11_ofSack hdX11_ofSack rfl ⟨by decide, by decide⟩ (gB_blind mOK) (gB_at mOK X hP) (mrec hP) hl.1 (Nat.le_of_ble_eq_true rfl) ⟨Nat.le_refl _, Nat.le_refl _⟩ dX11_eats_44 (As := [.int x1, .int 10]) (rest := [.int 10, .int x1, .ref (ad 25)]) rfl ?_
  exact kX11_eats_47 X hret hf hP hS (lv_sub hl [0, 1, 2, 3] rfl)
set_option maxRecDepth 10000 in
theorem kX11_eats_31 {S1 : MS} {M : MS} {x1 : Int32} {x2 : Int32} {x3 : Int32} {s0 : Int32} {s1 : Int32} {s2 : Int32} {H : Heap} {locs : List Loc} {ls : Array Slot} (X : gX p s m args c cX11_eats 5 RX11 (kR kTab kA)) (hret : gRetV p l e (rmL 4 0 0) s m args below meth c cX11_eats (mΩ ad) (mP dC dI cI kA ad) Q S1) (hf : fX11_eats_31 M x1 x2 x3 s0 s1 s2 = some S1) (hP : (mP dC dI cI kA ad) M s H) (hS : va_S (Fr (mΩ ad) s.heap.size) s.heap H locs) (hl : lv_has ls 5 [(0, .ref (ad 25)), (1, .int x1), (2, .int x2), (3, .int x3)]) : W p l e (rmL 4 0 0) s m args below meth c H locs 0 0 Q (F0 m 31 ls [.int s0, .int s1, .int s2, .ref (ad 25)]) := by
  have hx := X.hx
  have hb := X.hb
  have hown := X.hown
  have hts := X.hts
  rw [fX11_eats_31] at hf
  refine lv_iload_n hx hb dX11_eats_31 rfl (lv_at hl 3 rfl) ?_
  refine lv_isub hx hb dX11_eats_32 ?_
  obtain ⟨q, hc, hf⟩ := bd hf
  refine gCallVV X mOK rfl (vX11_putsSack hc) gRX11_X11_putsSack hdX11_putsSack rfl ⟨by decide, by decide⟩ hP hS (mrec hP) hl.1 (Nat.le_of_ble_eq_true rfl) ⟨Nat.le_refl _, Nat.le_refl _⟩ dX11_eats_33 (As := [.int s2, .int s1, .int (s0 - x3)]) (rest := []) rfl (fun H locs hP hS => ?_)
  exact kX11_eats_36 X hret hf hP hS (lv_sub hl [0, 1, 2, 3] rfl)
set_option maxRecDepth 10000 in
theorem kX11_eats_16 {S1 : MS} {M : MS} {x1 : Int32} {x2 : Int32} {s0 : Int32} {s1 : Int32} {H : Heap} {locs : List Loc} {ls : Array Slot} (X : gX p s m args c cX11_eats 5 RX11 (kR kTab kA)) (hret : gRetV p l e (rmL 4 0 0) s m args below meth c cX11_eats (mΩ ad) (mP dC dI cI kA ad) Q S1) (hf : fX11_eats_16 M x1 x2 s0 s1 = some S1) (hP : (mP dC dI cI kA ad) M s H) (hS : va_S (Fr (mΩ ad) s.heap.size) s.heap H locs) (hl : lv_has ls 5 [(0, .ref (ad 25)), (1, .int x1), (2, .int x2)]) : W p l e (rmL 4 0 0) s m args below meth c H locs 0 0 Q (F0 m 16 ls [.int s0, .int s1]) := by
  have hx := X.hx
  have hb := X.hb
  have hown := X.hown
  have hts := X.hts
  rw [fX11_eats_16] at hf
  refine gMin X rfl tw1917 tw592 tw24 tw593 (by decide) hl.1 (Nat.le_of_ble_eq_true rfl) ⟨Nat.zero_le _, Nat.zero_le _⟩ dX11_eats_16 ?_
  refine lv_istore_n (lv' := [(3, .int (if s0 < s1 then s0 else s1)), (0, .ref (ad 25)), (1, .int x1), (2, .int x2)]) hx hb dX11_eats_19 rfl hl (by decide) rfl (fun ls hl => ?_)
  refine lv_aload_n hx hb dX11_eats_20 rfl (lv_at hl 1 rfl) ?_
  refine lv_iload_n hx hb dX11_eats_21 rfl (lv_at hl 2 rfl) ?_
  refine lv_bipush (v := 7) hx hb dX11_eats_22 (by decide) ?_
  refine lv_aload_n hx hb dX11_eats_24 rfl (lv_at hl 1 rfl) ?_
  refine lv_iload_n hx hb dX11_eats_25 rfl (lv_at hl 2 rfl) ?_
  refine lv_bipush (v := 7) hx hb dX11_eats_26 (by decide) ?_
  obtain ⟨q, hc, hf⟩ := bd hf
  refine gCallVR X rfl (vX11_ofSack hc) gRX11_X11_ofSack hdX11_ofSack rfl ⟨by decide, by decide⟩ (gB_blind mOK) (gB_at mOK X hP) (mrec hP) hl.1 (Nat.le_of_ble_eq_true rfl) ⟨Nat.le_refl _, Nat.le_refl _⟩ dX11_eats_28 (As := [.int x1, .int 7]) (rest := [.int 7, .int x1, .ref (ad 25)]) rfl ?_
  exact kX11_eats_31 X hret hf hP hS (lv_sub hl [1, 2, 3, 0] rfl)
set_option maxRecDepth 10000 in
theorem kX11_eats_7 {S1 : MS} {M : MS} {x1 : Int32} {s0 : Int32} {H : Heap} {locs : List Loc} {ls : Array Slot} (X : gX p s m args c cX11_eats 5 RX11 (kR kTab kA)) (hret : gRetV p l e (rmL 4 0 0) s m args below meth c cX11_eats (mΩ ad) (mP dC dI cI kA ad) Q S1) (hf : fX11_eats_7 M x1 s0 = some S1) (hP : (mP dC dI cI kA ad) M s H) (hS : va_S (Fr (mΩ ad) s.heap.size) s.heap H locs) (hl : lv_has ls 5 [(0, .ref (ad 25)), (1, .int x1)]) : W p l e (rmL 4 0 0) s m args below meth c H locs 0 0 Q (F0 m 7 ls [.int s0]) := by
  have hx := X.hx
  have hb := X.hb
  have hown := X.hown
  have hts := X.hts
  rw [fX11_eats_7] at hf
  refine lv_istore_n (lv' := [(2, .int s0), (0, .ref (ad 25)), (1, .int x1)]) hx hb dX11_eats_7 rfl hl (by decide) rfl (fun ls hl => ?_)
  refine lv_iload_n hx hb dX11_eats_8 rfl (lv_at hl 0 rfl) ?_
  refine lv_aload_n hx hb dX11_eats_9 rfl (lv_at hl 1 rfl) ?_
  refine lv_iload_n hx hb dX11_eats_10 rfl (lv_at hl 2 rfl) ?_
  refine lv_bipush (v := 7) hx hb dX11_eats_11 (by decide) ?_
  obtain ⟨q, hc, hf⟩ := bd hf
  refine gCallVR X rfl (vX11_ofSack hc) gRX11_X11_ofSack hdX11_ofSack rfl ⟨by decide, by decide⟩ (gB_blind mOK) (gB_at mOK X hP) (mrec hP) hl.1 (Nat.le_of_ble_eq_true rfl) ⟨Nat.le_refl _, Nat.le_refl _⟩ dX11_eats_13 (As := [.int x1, .int 7]) (rest := [.int s0]) rfl ?_
  exact kX11_eats_16 X hret hf hP hS (lv_sub hl [1, 2, 0] rfl)
set_option maxRecDepth 10000 in
theorem kX11_eats_0 {S1 : MS} {M : MS} {a1 : Int32} {H : Heap} {locs : List Loc} {ls : Array Slot} (X : gX p s m args c cX11_eats 5 RX11 (kR kTab kA)) (hret : gRetV p l e (rmL 4 0 0) s m args below meth c cX11_eats (mΩ ad) (mP dC dI cI kA ad) Q S1) (hf : fX11_eats_0 M a1 = some S1) (hP : (mP dC dI cI kA ad) M s H) (hS : va_S (Fr (mΩ ad) s.heap.size) s.heap H locs) (hl : lv_has ls 5 [(0, .ref (ad 25)), (1, .int a1)]) : W p l e (rmL 4 0 0) s m args below meth c H locs 0 0 Q (F0 m 0 ls []) := by
  have hx := X.hx
  have hb := X.hb
  have hown := X.hown
  have hts := X.hts
  rw [fX11_eats_0] at hf
  refine lv_aload_n hx hb dX11_eats_0 rfl (lv_at hl 0 rfl) ?_
  refine lv_iload_n hx hb dX11_eats_1 rfl (lv_at hl 1 rfl) ?_
  refine lv_bipush (v := 8) hx hb dX11_eats_2 (by decide) ?_
  obtain ⟨q, hc, hf⟩ := bd hf
  refine gCallVR X rfl (vX11_ofSack hc) gRX11_X11_ofSack hdX11_ofSack rfl ⟨by decide, by decide⟩ (gB_blind mOK) (gB_at mOK X hP) (mrec hP) hl.1 (Nat.le_of_ble_eq_true rfl) ⟨Nat.le_refl _, Nat.le_refl _⟩ dX11_eats_4 (As := [.int a1, .int 8]) (rest := []) rfl ?_
  exact kX11_eats_7 X hret hf hP hS (lv_sub hl [0, 1] rfl)
theorem vX11_eats {l : Launch} {dC : Nat → ClassId} {dI : Nat → Nat → Nat} {cI : ClassId} {kA : String → Nat → Nat} {ad : Nat → Nat} {M S1 : MS} {a1 : Int32} (hf : fX11_eats M a1 = some S1) : gMetV l yX11_eats cX11_eats 5 4 (mΩ ad) (mP dC dI cI kA ad) (kR kTab kA) [.ref (ad 25), .int a1] M S1 := gEntryV (by decide) mOK (Nat.le_of_ble_eq_true rfl) (fun p e s m args below meth c Q ls X hP hS hret hl => 
  kX11_eats_0 X hret hf hP hS (lv_sub hl [0, 1] rfl))
