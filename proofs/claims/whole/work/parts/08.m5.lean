variable {l : Launch} {p : Program} {e : Env} {s : State} {m : MethodId} {args : Array Value} {below : List Frame} {meth : Method} {c : Code} {A : Nat → Prop} {Q : State → Prop}
variable {dC : Nat → ClassId} {dI : Nat → Nat → Nat} {cI : ClassId} {kA : String → Nat → Nat} {ad : Nat → Nat}
def fX11_takesRest_52 (M : MS) (s0 : Int32) : Option (Int32 × MS) := some (s0, M)
def fX11_takesRest_44 (M : MS) : Option (Int32 × MS) := (fX11_takes M 0 1 99).bind fun q => fX11_takesRest_52 q.2 q.1
def fX11_takesRest_61 (M : MS) (s0 : Int32) : Option (Int32 × MS) := some (s0, M)
def fX11_takesRest_53 (M : MS) : Option (Int32 × MS) := (fX11_takesKnown M 161 1).bind fun q => fX11_takesRest_61 q.2 q.1
def fX11_takesRest_89 (M : MS) (s0 : Int32) : Option (Int32 × MS) := some (s0, M)
def fX11_takesRest_88 (M : MS) : Option (Int32 × MS) := fX11_takesRest_89 M 0
def fX11_takesRest_84 (M : MS) : Option (Int32 × MS) := fX11_takesRest_89 M 1
def fX11_takesRest_81 (M : MS) (s0 : Int32) : Option (Int32 × MS) := if s0 = 0 then fX11_takesRest_88 M else fX11_takesRest_84 M
def fX11_takesRest_73 (M : MS) : Option (Int32 × MS) := (fX11_takes M 1 1 99).bind fun q => fX11_takesRest_81 q.2 q.1
def fX11_takesRest_70 (M : MS) (s0 : Int32) : Option (Int32 × MS) := if s0 = 0 then fX11_takesRest_88 M else fX11_takesRest_73 M
def fX11_takesRest_62 (M : MS) : Option (Int32 × MS) := (fX11_takesKnown M 161 1).bind fun q => fX11_takesRest_70 q.2 q.1
def fX11_takesRest_118 (M : MS) (s0 : Int32) : Option (Int32 × MS) := some (s0, M)
def fX11_takesRest_117 (M : MS) : Option (Int32 × MS) := fX11_takesRest_118 M 0
def fX11_takesRest_113 (M : MS) : Option (Int32 × MS) := fX11_takesRest_118 M 1
def fX11_takesRest_110 (M : MS) (s0 : Int32) : Option (Int32 × MS) := if s0 = 0 then fX11_takesRest_117 M else fX11_takesRest_113 M
def fX11_takesRest_101 (M : MS) : Option (Int32 × MS) := (fX11_takes M 1 1 999).bind fun q => fX11_takesRest_110 q.2 q.1
def fX11_takesRest_98 (M : MS) (s0 : Int32) : Option (Int32 × MS) := if s0 = 0 then fX11_takesRest_117 M else fX11_takesRest_101 M
def fX11_takesRest_90 (M : MS) : Option (Int32 × MS) := (fX11_takesKnown M 161 1).bind fun q => fX11_takesRest_98 q.2 q.1
def fX11_takesRest_119 (M : MS) : Option (Int32 × MS) := some (1, M)
def fX11_takesRest_129 (M : MS) (s0 : Int32) : Option (Int32 × MS) := some (s0, M)
def fX11_takesRest_121 (M : MS) : Option (Int32 × MS) := (fX11_takes M 0 0 9).bind fun q => fX11_takesRest_129 q.2 q.1
def fX11_takesRest_4 (M : MS) (x1 : Int32) : Option (Int32 × MS) := if x1 = 1 then fX11_takesRest_44 M else if x1 = 2 then fX11_takesRest_53 M else if x1 = 3 then fX11_takesRest_53 M else if x1 = 4 then fX11_takesRest_62 M else if x1 = 5 then fX11_takesRest_90 M else if x1 = 6 then fX11_takesRest_119 M else fX11_takesRest_121 M
def fX11_takesRest_0 (M : MS) (a1 : Int32) : Option (Int32 × MS) := (fX11_advanceToken M ).bind fun q => fX11_takesRest_4 q a1
def fX11_takesRest (M : MS) (a1 : Int32) : Option (Int32 × MS) := bz (fX11_takesRest_0  M a1)
def fX11_hoursUntil_44 (M : MS) (s0 : Int32) : Option (Int32 × MS) := some (s0, M)
def fX11_hoursUntil_39 (M : MS) : Option (Int32 × MS) := (fX11_goesBack M (-1)).bind fun q => fX11_hoursUntil_44 q.2 q.1
def fX11_hoursUntil_33 (K6 : MS → Int32 → Int32 → Int32 → Option (Int32 × MS)) (M : MS) (x1 : Int32) (x2 : Int32) (x3 : Int32) : Option (Int32 × MS) := K6 M x1 x2 (x3 + 1)
def fX11_hoursUntil_29 (K6 : MS → Int32 → Int32 → Int32 → Option (Int32 × MS)) (M : MS) (x1 : Int32) (x2 : Int32) (x3 : Int32) : Option (Int32 × MS) := (fX11_hourPasses M ).bind fun q => fX11_hoursUntil_33 K6 q x1 x2 x3
def fX11_hoursUntil_28 (M : MS) (s0 : Int32) : Option (Int32 × MS) := some (s0, M)
def fX11_hoursUntil_23 (M : MS) (x3 : Int32) : Option (Int32 × MS) := (fX11_goesBack M x3).bind fun q => fX11_hoursUntil_28 q.2 q.1
def fX11_hoursUntil_13 (K6 : MS → Int32 → Int32 → Int32 → Option (Int32 × MS)) (M : MS) (x1 : Int32) (x2 : Int32) (x3 : Int32) : Option (Int32 × MS) := if gIn x1 257 then if (M.2 0 x1.toNatClampNeg) = x2 then fX11_hoursUntil_23 M x3 else fX11_hoursUntil_29 K6 M x1 x2 x3 else none
def fX11_hoursUntil_6 : Nat → MS → Int32 → Int32 → Int32 → Option (Int32 × MS)
  | 0 => fun _ _ _ _ => none
  | k + 1 => fun M x1 x2 x3 => if 200 < x3 then fX11_hoursUntil_39 M else fX11_hoursUntil_13 (fX11_hoursUntil_6 k) M x1 x2 x3
def fX11_hoursUntil_4 (M : MS) (x1 : Int32) (x2 : Int32) : Option (Int32 × MS) := fX11_hoursUntil_6 FU M x1 x2 0
def fX11_hoursUntil_0 (M : MS) (a1 : Int32) (a2 : Int32) : Option (Int32 × MS) := (fX11_goesAside M ).bind fun q => fX11_hoursUntil_4 q a1 a2
def fX11_hoursUntil (M : MS) (a1 : Int32) (a2 : Int32) : Option (Int32 × MS) := fX11_hoursUntil_0  M a1 a2
def fX11_readSetupStatement_88 (M : MS) (s0 : Int32) : Option (Int32 × MS) := some (s0, M)
def fX11_readSetupStatement_83 (M : MS) : Option (Int32 × MS) := (fX11_failsAt M 1).bind fun q => fX11_readSetupStatement_88 q.2 q.1
def fX11_readSetupStatement_80 (M : MS) (s0 : Int32) : Option (Int32 × MS) := fX11_readSetupStatement_88 M s0
def fX11_readSetupStatement_73 (M : MS) : Option (Int32 × MS) := (fX11_readCell M 3 23).bind fun q => fX11_readSetupStatement_80 q.2 q.1
def fX11_readSetupStatement_70 (M : MS) (s0 : Int32) : Option (Int32 × MS) := if s0 = 0 then fX11_readSetupStatement_83 M else fX11_readSetupStatement_73 M
def fX11_readSetupStatement_63 (M : MS) : Option (Int32 × MS) := (fX11_isWord M [104, 111, 117, 114]).bind fun q => fX11_readSetupStatement_70 M q
def fX11_readSetupStatement_62 (M : MS) (s0 : Int32) : Option (Int32 × MS) := some (s0, M)
def fX11_readSetupStatement_55 (M : MS) : Option (Int32 × MS) := (fX11_readCell M 4 9).bind fun q => fX11_readSetupStatement_62 q.2 q.1
def fX11_readSetupStatement_52 (M : MS) (s0 : Int32) : Option (Int32 × MS) := if s0 = 0 then fX11_readSetupStatement_63 M else fX11_readSetupStatement_55 M
def fX11_readSetupStatement_45 (M : MS) : Option (Int32 × MS) := (fX11_isWord M [109, 105, 108, 107]).bind fun q => fX11_readSetupStatement_52 M q
def fX11_readSetupStatement_44 (M : MS) (s0 : Int32) : Option (Int32 × MS) := some (s0, M)
def fX11_readSetupStatement_40 (M : MS) : Option (Int32 × MS) := (fX11_readShift M ).bind fun q => fX11_readSetupStatement_44 q.2 q.1
def fX11_readSetupStatement_37 (M : MS) (s0 : Int32) : Option (Int32 × MS) := if s0 = 0 then fX11_readSetupStatement_45 M else fX11_readSetupStatement_40 M
def fX11_readSetupStatement_30 (M : MS) : Option (Int32 × MS) := (fX11_isWord M [115, 104, 105, 102, 116]).bind fun q => fX11_readSetupStatement_37 M q
def fX11_readSetupStatement_29 (M : MS) (s0 : Int32) : Option (Int32 × MS) := some (s0, M)
def fX11_readSetupStatement_25 (M : MS) : Option (Int32 × MS) := (fX11_readSack M ).bind fun q => fX11_readSetupStatement_29 q.2 q.1
def fX11_readSetupStatement_22 (M : MS) (s0 : Int32) : Option (Int32 × MS) := if s0 = 0 then fX11_readSetupStatement_30 M else fX11_readSetupStatement_25 M
def fX11_readSetupStatement_15 (M : MS) : Option (Int32 × MS) := (fX11_isWord M [115, 97, 99, 107]).bind fun q => fX11_readSetupStatement_22 M q
def fX11_readSetupStatement_14 (M : MS) (s0 : Int32) : Option (Int32 × MS) := some (s0, M)
def fX11_readSetupStatement_10 (M : MS) : Option (Int32 × MS) := (fX11_readCat M ).bind fun q => fX11_readSetupStatement_14 q.2 q.1
def fX11_readSetupStatement_7 (M : MS) (s0 : Int32) : Option (Int32 × MS) := if s0 = 0 then fX11_readSetupStatement_15 M else fX11_readSetupStatement_10 M
def fX11_readSetupStatement_0 (M : MS) : Option (Int32 × MS) := (fX11_isWord M [99, 97, 116]).bind fun q => fX11_readSetupStatement_7 M q
def fX11_readSetupStatement (M : MS) : Option (Int32 × MS) := bz (fX11_readSetupStatement_0  M)
def fX11_readScriptStatement_100 (M : MS) (s0 : Int32) : Option (Int32 × MS) := some (s0, M)
def fX11_readScriptStatement_96 (M : MS) : Option (Int32 × MS) := (fX11_takesSemicolon M ).bind fun q => fX11_readScriptStatement_100 q.2 q.1
def fX11_readScriptStatement_86 (M : MS) : Option (Int32 × MS) := fX11_readScriptStatement_96 (va_up M.1 22 ((M.1 22) + 1), M.2)
def fX11_readScriptStatement_67 (M : MS) : Option (Int32 × MS) := if gIn 1 4 then if gIn ((2 * (M.1 22)) + 1) 62 then fX11_readScriptStatement_86 (M.1, va_up M.2 21 (upd (M.2 21) ((2 * (M.1 22)) + 1).toNatClampNeg (M.2 19 (1 : Int32).toNatClampNeg))) else none else none
def fX11_readScriptStatement_50 (M : MS) : Option (Int32 × MS) := if gIn 0 4 then if gIn (2 * (M.1 22)) 62 then fX11_readScriptStatement_67 (M.1, va_up M.2 21 (upd (M.2 21) (2 * (M.1 22)).toNatClampNeg (M.2 19 (0 : Int32).toNatClampNeg))) else none else none
def fX11_readScriptStatement_40 (M : MS) (x1 : Int32) : Option (Int32 × MS) := if gIn (M.1 22) 31 then fX11_readScriptStatement_50 (M.1, va_up M.2 20 (upd (M.2 20) (M.1 22).toNatClampNeg x1)) else none
def fX11_readScriptStatement_38 (M : MS) : Option (Int32 × MS) := some (0, M)
def fX11_readScriptStatement_35 (M : MS) (x1 : Int32) (s0 : Int32) : Option (Int32 × MS) := if s0 = 0 then fX11_readScriptStatement_38 M else fX11_readScriptStatement_40 M x1
def fX11_readScriptStatement_30 (M : MS) (x1 : Int32) : Option (Int32 × MS) := (fX11_takesRest M x1).bind fun q => fX11_readScriptStatement_35 q.2 x1 q.1
def fX11_readScriptStatement_29 (M : MS) (s0 : Int32) : Option (Int32 × MS) := some (s0, M)
def fX11_readScriptStatement_24 (M : MS) : Option (Int32 × MS) := (fX11_failsAt M 5).bind fun q => fX11_readScriptStatement_29 q.2 q.1
def fX11_readScriptStatement_15 (M : MS) (x1 : Int32) : Option (Int32 × MS) := if (M.1 22) = 30 then fX11_readScriptStatement_24 M else fX11_readScriptStatement_30 M x1
def fX11_readScriptStatement_14 (M : MS) (s0 : Int32) : Option (Int32 × MS) := some (s0, M)
def fX11_readScriptStatement_9 (M : MS) : Option (Int32 × MS) := (fX11_failsAt M 1).bind fun q => fX11_readScriptStatement_14 q.2 q.1
def fX11_readScriptStatement_4 (M : MS) (s0 : Int32) : Option (Int32 × MS) := if s0 = 0 then fX11_readScriptStatement_9 M else fX11_readScriptStatement_15 M s0
def fX11_readScriptStatement_0 (M : MS) : Option (Int32 × MS) := (fX11_scriptHere M ).bind fun q => fX11_readScriptStatement_4 M q
def fX11_readScriptStatement (M : MS) : Option (Int32 × MS) := bz (fX11_readScriptStatement_0  M)
def fX11_does_91 (M : MS) (s0 : Int32) : Option (Int32 × MS) := some (s0, M)
def fX11_does_90 (M : MS) : Option (Int32 × MS) := fX11_does_91 M 0
def fX11_does_86 (M : MS) : Option (Int32 × MS) := fX11_does_91 M 1
def fX11_does_83 (M : MS) (s0 : Int32) : Option (Int32 × MS) := if s0 < 0 then fX11_does_90 M else fX11_does_86 M
def fX11_does_78 (M : MS) (x2 : Int32) : Option (Int32 × MS) := (fX11_passes M x2).bind fun q => fX11_does_83 q.2 q.1
def fX11_does_64 (M : MS) (x2 : Int32) : Option (Int32 × MS) := if gIn 3 257 then if 9999 < ((M.2 0 (3 : Int32).toNatClampNeg) + x2) then fX11_does_90 M else fX11_does_78 M x2 else none
def fX11_does_114 (M : MS) (s0 : Int32) : Option (Int32 × MS) := some (s0, M)
def fX11_does_113 (M : MS) : Option (Int32 × MS) := fX11_does_114 M 0
def fX11_does_109 (M : MS) : Option (Int32 × MS) := fX11_does_114 M 1
def fX11_does_106 (M : MS) (s0 : Int32) : Option (Int32 × MS) := if s0 < 0 then fX11_does_113 M else fX11_does_109 M
def fX11_does_100 (M : MS) (x2 : Int32) : Option (Int32 × MS) := (fX11_setsFlap M x2 1).bind fun q => fX11_does_106 q.2 q.1
def fX11_does_97 (M : MS) (x2 : Int32) (s0 : Int32) : Option (Int32 × MS) := if s0 = 0 then fX11_does_100 M x2 else fX11_does_113 M
def fX11_does_92 (M : MS) (x2 : Int32) : Option (Int32 × MS) := (fX11_isOpenSack M x2).bind fun q => fX11_does_97 M x2 q
def fX11_does_137 (M : MS) (s0 : Int32) : Option (Int32 × MS) := some (s0, M)
def fX11_does_136 (M : MS) : Option (Int32 × MS) := fX11_does_137 M 0
def fX11_does_132 (M : MS) : Option (Int32 × MS) := fX11_does_137 M 1
def fX11_does_129 (M : MS) (s0 : Int32) : Option (Int32 × MS) := if s0 < 0 then fX11_does_136 M else fX11_does_132 M
def fX11_does_123 (M : MS) (x2 : Int32) : Option (Int32 × MS) := (fX11_setsFlap M x2 0).bind fun q => fX11_does_129 q.2 q.1
def fX11_does_120 (M : MS) (x2 : Int32) (s0 : Int32) : Option (Int32 × MS) := if s0 = 0 then fX11_does_136 M else fX11_does_123 M x2
def fX11_does_115 (M : MS) (x2 : Int32) : Option (Int32 × MS) := (fX11_isOpenSack M x2).bind fun q => fX11_does_120 M x2 q
def fX11_does_161 (M : MS) (s0 : Int32) : Option (Int32 × MS) := some (s0, M)
def fX11_does_160 (M : MS) : Option (Int32 × MS) := fX11_does_161 M 0
def fX11_does_156 (M : MS) : Option (Int32 × MS) := fX11_does_161 M 1
def fX11_does_153 (M : MS) (s0 : Int32) : Option (Int32 × MS) := if s0 < 0 then fX11_does_160 M else fX11_does_156 M
def fX11_does_147 (M : MS) (x2 : Int32) (x3 : Int32) : Option (Int32 × MS) := (fX11_addsMice M x2 x3).bind fun q => fX11_does_153 q.2 q.1
def fX11_does_144 (M : MS) (x2 : Int32) (x3 : Int32) (s0 : Int32) : Option (Int32 × MS) := if s0 = 0 then fX11_does_160 M else fX11_does_147 M x2 x3
def fX11_does_138 (M : MS) (x2 : Int32) (x3 : Int32) : Option (Int32 × MS) := (fX11_mayAddMice M x2 x3).bind fun q => fX11_does_144 M x2 x3 q
def fX11_does_185 (M : MS) (s0 : Int32) : Option (Int32 × MS) := some (s0, M)
def fX11_does_184 (M : MS) : Option (Int32 × MS) := fX11_does_185 M 0
def fX11_does_180 (M : MS) : Option (Int32 × MS) := fX11_does_185 M 1
def fX11_does_177 (M : MS) (s0 : Int32) : Option (Int32 × MS) := if s0 < 0 then fX11_does_184 M else fX11_does_180 M
def fX11_does_171 (M : MS) (x2 : Int32) (x3 : Int32) : Option (Int32 × MS) := (fX11_addsGrain M x2 x3).bind fun q => fX11_does_177 q.2 q.1
def fX11_does_168 (M : MS) (x2 : Int32) (x3 : Int32) (s0 : Int32) : Option (Int32 × MS) := if s0 = 0 then fX11_does_184 M else fX11_does_171 M x2 x3
def fX11_does_162 (M : MS) (x2 : Int32) (x3 : Int32) : Option (Int32 × MS) := (fX11_mayAddGrain M x2 x3).bind fun q => fX11_does_168 M x2 x3 q
def fX11_does_210 (M : MS) (s0 : Int32) : Option (Int32 × MS) := some (s0, M)
def fX11_does_209 (M : MS) : Option (Int32 × MS) := fX11_does_210 M 0
def fX11_does_205 (M : MS) : Option (Int32 × MS) := fX11_does_210 M 1
def fX11_does_202 (M : MS) (s0 : Int32) : Option (Int32 × MS) := if s0 < 0 then fX11_does_209 M else fX11_does_205 M
def fX11_does_196 (M : MS) : Option (Int32 × MS) := (fX11_sets M 5 (-1)).bind fun q => fX11_does_202 q.2 q.1
def fX11_does_186 (M : MS) : Option (Int32 × MS) := if gIn 5 257 then if (M.2 0 (5 : Int32).toNatClampNeg) = (-1) then fX11_does_209 M else fX11_does_196 M else none
def fX11_does_225 (M : MS) (s0 : Int32) : Option (Int32 × MS) := some (s0, M)
def fX11_does_224 (M : MS) : Option (Int32 × MS) := fX11_does_225 M 0
def fX11_does_220 (M : MS) : Option (Int32 × MS) := fX11_does_225 M 1
def fX11_does_217 (M : MS) (s0 : Int32) : Option (Int32 × MS) := if s0 < 0 then fX11_does_224 M else fX11_does_220 M
def fX11_does_211 (M : MS) (x2 : Int32) : Option (Int32 × MS) := (fX11_sets M 4 x2).bind fun q => fX11_does_217 q.2 q.1
def fX11_does_0 (M : MS) (a1 : Int32) : Option (Int32 × MS) := if gIn (2 * a1) 62 then if gIn ((2 * a1) + 1) 62 then if gIn a1 31 then if (M.2 20 a1.toNatClampNeg) = 1 then fX11_does_64 M (M.2 21 (2 * a1).toNatClampNeg) else if (M.2 20 a1.toNatClampNeg) = 2 then fX11_does_92 M (M.2 21 (2 * a1).toNatClampNeg) else if (M.2 20 a1.toNatClampNeg) = 3 then fX11_does_115 M (M.2 21 (2 * a1).toNatClampNeg) else if (M.2 20 a1.toNatClampNeg) = 4 then fX11_does_138 M (M.2 21 (2 * a1).toNatClampNeg) (M.2 21 ((2 * a1) + 1).toNatClampNeg) else if (M.2 20 a1.toNatClampNeg) = 5 then fX11_does_162 M (M.2 21 (2 * a1).toNatClampNeg) (M.2 21 ((2 * a1) + 1).toNatClampNeg) else if (M.2 20 a1.toNatClampNeg) = 6 then fX11_does_186 M else fX11_does_211 M (M.2 21 (2 * a1).toNatClampNeg) else none else none else none
def fX11_does (M : MS) (a1 : Int32) : Option (Int32 × MS) := bz (fX11_does_0  M a1)
def fX11_sackAfter_21 (M : MS) (s0 : Int32) : Option (Int32 × MS) := some (s0, M)
def fX11_sackAfter_18 (M : MS) (s0 : Int32) : Option (Int32 × MS) := (fX11_goesBack M s0).bind fun q => fX11_sackAfter_21 q.2 q.1
def fX11_sackAfter_9 (M : MS) (x1 : Int32) (x2 : Int32) (s0 : Int32) : Option (Int32 × MS) := (fX11_ofSack M x1 x2).bind fun q => fX11_sackAfter_18 M q
def fX11_sackAfter_4 (M : MS) (x1 : Int32) (x2 : Int32) (x3 : Int32) : Option (Int32 × MS) := (fX11_passes M x3).bind fun q => fX11_sackAfter_9 q.2 x1 x2 q.1
def fX11_sackAfter_0 (M : MS) (a1 : Int32) (a2 : Int32) (a3 : Int32) : Option (Int32 × MS) := (fX11_goesAside M ).bind fun q => fX11_sackAfter_4 q a1 a2 a3
def fX11_sackAfter (M : MS) (a1 : Int32) (a2 : Int32) (a3 : Int32) : Option (Int32 × MS) := fX11_sackAfter_0  M a1 a2 a3
def fX11_swornAfter_36 (M : MS) (s0 : Int32) : Option (Int32 × MS) := some (s0, M)
def fX11_swornAfter_25 (M : MS) (s0 : Int32) : Option (Int32 × MS) := if gIn 5 257 then (fX11_goesBack M (M.2 0 (5 : Int32).toNatClampNeg)).bind fun q => fX11_swornAfter_36 q.2 q.1 else none
def fX11_swornAfter_20 (M : MS) (x1 : Int32) : Option (Int32 × MS) := (fX11_passes M x1).bind fun q => fX11_swornAfter_25 q.2 q.1
def fX11_swornAfter_16 (M : MS) (x1 : Int32) : Option (Int32 × MS) := (fX11_goesAside M ).bind fun q => fX11_swornAfter_20 q x1
def fX11_swornAfter_14 (M : MS) : Option (Int32 × MS) := some (0, M)
def fX11_swornAfter_11 (M : MS) (x1 : Int32) (s0 : Int32) : Option (Int32 × MS) := if s0 = 0 then fX11_swornAfter_16 M x1 else fX11_swornAfter_14 M
def fX11_swornAfter_5 (M : MS) (x1 : Int32) : Option (Int32 × MS) := (fX11_noHours M x1 1).bind fun q => fX11_swornAfter_11 q.2 x1 q.1
def fX11_swornAfter_0 (M : MS) (a1 : Int32) : Option (Int32 × MS) := fX11_swornAfter_5 (va_up M.1 7 0, M.2) a1
def fX11_swornAfter (M : MS) (a1 : Int32) : Option (Int32 × MS) := fX11_swornAfter_0  M a1
def fX11_hoursUntilUnguarded_11 (M : MS) (s0 : Int32) : Option (Int32 × MS) := some (s0, M)
def fX11_hoursUntilUnguarded_5 (M : MS) : Option (Int32 × MS) := (fX11_hoursUntil M 5 (-1)).bind fun q => fX11_hoursUntilUnguarded_11 q.2 q.1
def fX11_hoursUntilUnguarded_0 (M : MS) : Option (Int32 × MS) := fX11_hoursUntilUnguarded_5 (va_up M.1 7 0, M.2)
def fX11_hoursUntilUnguarded (M : MS) : Option (Int32 × MS) := fX11_hoursUntilUnguarded_0  M
def fX11_hoursUntilEmpty_33 (M : MS) (s0 : Int32) : Option (Int32 × MS) := some (s0, M)
def fX11_hoursUntilEmpty_17 (M : MS) (x1 : Int32) : Option (Int32 × MS) := (fX11_hoursUntil M ((161 + (12 * x1)) + 7) 0).bind fun q => fX11_hoursUntilEmpty_33 q.2 q.1
def fX11_hoursUntilEmpty_13 (M : MS) : Option (Int32 × MS) := fX11_hoursUntilEmpty_33 M 0
def fX11_hoursUntilEmpty_10 (M : MS) (x1 : Int32) (s0 : Int32) : Option (Int32 × MS) := if s0 = 0 then fX11_hoursUntilEmpty_17 M x1 else fX11_hoursUntilEmpty_13 M
def fX11_hoursUntilEmpty_5 (M : MS) (x1 : Int32) : Option (Int32 × MS) := (fX11_noSack M x1).bind fun q => fX11_hoursUntilEmpty_10 q.2 x1 q.1
def fX11_hoursUntilEmpty_0 (M : MS) (a1 : Int32) : Option (Int32 × MS) := fX11_hoursUntilEmpty_5 (va_up M.1 7 0, M.2) a1
def fX11_hoursUntilEmpty (M : MS) (a1 : Int32) : Option (Int32 × MS) := fX11_hoursUntilEmpty_0  M a1
def fX11_caughtWithin_29 (M : MS) (s0 : Int32) : Option (Int32 × MS) := some (s0, M)
def fX11_caughtWithin_26 (M : MS) (s0 : Int32) : Option (Int32 × MS) := (fX11_goesBack M s0).bind fun q => fX11_caughtWithin_29 q.2 q.1
def fX11_caughtWithin_20 (M : MS) (x1 : Int32) : Option (Int32 × MS) := (fX11_passes M x1).bind fun q => fX11_caughtWithin_26 q.2 q.1
def fX11_caughtWithin_16 (M : MS) (x1 : Int32) : Option (Int32 × MS) := (fX11_goesAside M ).bind fun q => fX11_caughtWithin_20 q x1
def fX11_caughtWithin_14 (M : MS) : Option (Int32 × MS) := some (0, M)
def fX11_caughtWithin_11 (M : MS) (x1 : Int32) (s0 : Int32) : Option (Int32 × MS) := if s0 = 0 then fX11_caughtWithin_16 M x1 else fX11_caughtWithin_14 M
def fX11_caughtWithin_5 (M : MS) (x1 : Int32) : Option (Int32 × MS) := (fX11_noHours M x1 1).bind fun q => fX11_caughtWithin_11 q.2 x1 q.1
def fX11_caughtWithin_0 (M : MS) (a1 : Int32) : Option (Int32 × MS) := fX11_caughtWithin_5 (va_up M.1 7 0, M.2) a1
def fX11_caughtWithin (M : MS) (a1 : Int32) : Option (Int32 × MS) := fX11_caughtWithin_0  M a1
def fX11_allGrainAfter_24 (M : MS) (s0 : Int32) : Option (Int32 × MS) := some (s0, M)
def fX11_allGrainAfter_21 (M : MS) (s0 : Int32) : Option (Int32 × MS) := (fX11_goesBack M s0).bind fun q => fX11_allGrainAfter_24 q.2 q.1
def fX11_allGrainAfter_9 (M : MS) (s0 : Int32) : Option (Int32 × MS) := (fX11_sumOf M 161 1 7).bind fun q => fX11_allGrainAfter_21 M q
def fX11_allGrainAfter_4 (M : MS) (x1 : Int32) : Option (Int32 × MS) := (fX11_passes M x1).bind fun q => fX11_allGrainAfter_9 q.2 q.1
def fX11_allGrainAfter_0 (M : MS) (a1 : Int32) : Option (Int32 × MS) := (fX11_goesAside M ).bind fun q => fX11_allGrainAfter_4 q a1
def fX11_allGrainAfter (M : MS) (a1 : Int32) : Option (Int32 × MS) := fX11_allGrainAfter_0  M a1
def fX11_letPass_55 (M : MS) : Option (Int32 × MS) := some (0, M)
def fX11_letPass_66 (M : MS) (s0 : Int32) : Option (Int32 × MS) := some (s0, M)
def fX11_letPass_61 (M : MS) (x1 : Int32) : Option (Int32 × MS) := (fX11_passes M x1).bind fun q => fX11_letPass_66 q.2 q.1
def fX11_letPass_57 (M : MS) (x1 : Int32) : Option (Int32 × MS) := (fX11_remembers M ).bind fun q => fX11_letPass_61 q x1
def fX11_letPass_52 (M : MS) (x1 : Int32) (s0 : Int32) : Option (Int32 × MS) := if s0 = 0 then fX11_letPass_57 M x1 else fX11_letPass_55 M
def fX11_letPass_48 (M : MS) (x1 : Int32) (s0 : Int32) : Option (Int32 × MS) := (fX11_fails M s0 2).bind fun q => fX11_letPass_52 q.2 x1 q.1
def fX11_letPass_47 (M : MS) (x1 : Int32) : Option (Int32 × MS) := fX11_letPass_48 M x1 0
def fX11_letPass_43 (M : MS) (x1 : Int32) : Option (Int32 × MS) := fX11_letPass_48 M x1 1
def fX11_letPass_28 (M : MS) (x1 : Int32) : Option (Int32 × MS) := if gIn 3 257 then if ((M.2 0 (3 : Int32).toNatClampNeg) + x1) ≤ 9999 then fX11_letPass_47 M x1 else fX11_letPass_43 M x1 else none
def fX11_letPass_25 (M : MS) (x1 : Int32) (s0 : Int32) : Option (Int32 × MS) := if s0 = 0 then fX11_letPass_28 M x1 else fX11_letPass_55 M
def fX11_letPass_21 (M : MS) (x1 : Int32) (s0 : Int32) : Option (Int32 × MS) := (fX11_fails M s0 1).bind fun q => fX11_letPass_25 q.2 x1 q.1
def fX11_letPass_20 (M : MS) (x1 : Int32) : Option (Int32 × MS) := fX11_letPass_21 M x1 0
def fX11_letPass_16 (M : MS) (x1 : Int32) : Option (Int32 × MS) := fX11_letPass_21 M x1 1
def fX11_letPass_13 (M : MS) (x1 : Int32) (s0 : Int32) : Option (Int32 × MS) := if s0 = 0 then fX11_letPass_16 M x1 else fX11_letPass_20 M x1
def fX11_letPass_5 (M : MS) (x1 : Int32) : Option (Int32 × MS) := (fX11_inRange M x1 1 99).bind fun q => fX11_letPass_13 M x1 q
def fX11_letPass_0 (M : MS) (a1 : Int32) : Option (Int32 × MS) := fX11_letPass_5 (va_up M.1 7 0, M.2) a1
def fX11_letPass (M : MS) (a1 : Int32) : Option (Int32 × MS) := fX11_letPass_0  M a1
def fX11_readText_61 (M : MS) (s0 : Int32) : Option (Int32 × MS) := some (s0, M)
def fX11_readText_60 (M : MS) : Option (Int32 × MS) := fX11_readText_61 M 0
def fX11_readText_56 (M : MS) : Option (Int32 × MS) := fX11_readText_61 M 1
def fX11_readText_53 (M : MS) (s0 : Int32) : Option (Int32 × MS) := if s0 = 0 then fX11_readText_60 M else fX11_readText_56 M
def fX11_readText_47 (M : MS) : Option (Int32 × MS) := (fX11_failsAt M 6).bind fun q => fX11_readText_53 q.2 q.1
def fX11_readText_38 (M : MS) : Option (Int32 × MS) := if gIn 2 257 then if 0 < (M.2 0 (2 : Int32).toNatClampNeg) then fX11_readText_56 M else fX11_readText_47 M else none
def fX11_readText_29 (M : MS) : Option (Int32 × MS) := if gIn 1 257 then if (M.2 0 (1 : Int32).toNatClampNeg) ≤ 0 then fX11_readText_47 M else fX11_readText_38 M else none
def fX11_readText_20 (M : MS) : Option (Int32 × MS) := if gIn 0 257 then if (M.2 0 (0 : Int32).toNatClampNeg) ≤ 0 then fX11_readText_47 M else fX11_readText_29 M else none
def fX11_readText_18 (M : MS) : Option (Int32 × MS) := some (0, M)
def fX11_readText_15 (K4 : MS → Option (Int32 × MS)) (M : MS) (s0 : Int32) : Option (Int32 × MS) := if s0 = 0 then fX11_readText_18 M else K4 M
def fX11_readText_11 (K4 : MS → Option (Int32 × MS)) (M : MS) : Option (Int32 × MS) := (fX11_readSetupStatement M ).bind fun q => fX11_readText_15 K4 q.2 q.1
def fX11_readText_4 : Nat → MS → Option (Int32 × MS)
  | 0 => fun _ => none
  | k + 1 => fun M => if (M.1 17) = 0 then fX11_readText_20 M else fX11_readText_11 (fX11_readText_4 k) M
def fX11_readText_0 (M : MS) : Option (Int32 × MS) := (fX11_begins M ).bind fun q => fX11_readText_4 FU q
def fX11_readText (M : MS) : Option (Int32 × MS) := bz (fX11_readText_0  M)
def fX11_runScript_68 (M : MS) (x2 : Int32) : Option (Int32 × MS) := some (x2, M)
def fX11_runScript_62 (K46 : MS → Int32 → Option (Int32 × MS)) (M : MS) (x2 : Int32) : Option (Int32 × MS) := K46 M (x2 + 1)
def fX11_runScript_59 (K46 : MS → Int32 → Option (Int32 × MS)) (M : MS) (x2 : Int32) (s0 : Int32) : Option (Int32 × MS) := if s0 = 0 then fX11_runScript_68 M x2 else fX11_runScript_62 K46 M x2
def fX11_runScript_54 (K46 : MS → Int32 → Option (Int32 × MS)) (M : MS) (x2 : Int32) : Option (Int32 × MS) := (fX11_does M x2).bind fun q => fX11_runScript_59 K46 q.2 x2 q.1
def fX11_runScript_46 : Nat → MS → Int32 → Option (Int32 × MS)
  | 0 => fun _ _ => none
  | k + 1 => fun M x2 => if (M.1 22) ≤ x2 then fX11_runScript_68 M x2 else fX11_runScript_54 (fX11_runScript_46 k) M x2
def fX11_runScript_44 (M : MS) : Option (Int32 × MS) := fX11_runScript_46 FU M 0
def fX11_runScript_40 (M : MS) : Option (Int32 × MS) := (fX11_remembers M ).bind fun q => fX11_runScript_44 q
def fX11_runScript_38 (M : MS) : Option (Int32 × MS) := some ((-1), M)
def fX11_runScript_34 (M : MS) (x1 : Int32) : Option (Int32 × MS) := if x1 = 0 then fX11_runScript_38 M else fX11_runScript_40 M
def fX11_runScript_30 (M : MS) (x1 : Int32) : Option (Int32 × MS) := (fX11_endsText M ).bind fun q => fX11_runScript_34 q x1
def fX11_runScript_26 (K11 : MS → Int32 → Option (Int32 × MS)) (M : MS) (s0 : Int32) : Option (Int32 × MS) := K11 M s0
def fX11_runScript_22 (K11 : MS → Int32 → Option (Int32 × MS)) (M : MS) : Option (Int32 × MS) := (fX11_readScriptStatement M ).bind fun q => fX11_runScript_26 K11 q.2 q.1
def fX11_runScript_15 (K11 : MS → Int32 → Option (Int32 × MS)) (M : MS) (x1 : Int32) : Option (Int32 × MS) := if (M.1 17) = 0 then fX11_runScript_30 M x1 else fX11_runScript_22 K11 M
def fX11_runScript_11 : Nat → MS → Int32 → Option (Int32 × MS)
  | 0 => fun _ _ => none
  | k + 1 => fun M x1 => if x1 = 0 then fX11_runScript_30 M x1 else fX11_runScript_15 (fX11_runScript_11 k) M x1
def fX11_runScript_9 (M : MS) : Option (Int32 × MS) := fX11_runScript_11 FU M 1
def fX11_runScript_5 (M : MS) : Option (Int32 × MS) := (fX11_startsText M ).bind fun q => fX11_runScript_9 q
def fX11_runScript_0 (M : MS) : Option (Int32 × MS) := fX11_runScript_5 (va_up M.1 7 0, M.2)
def fX11_runScript (M : MS) : Option (Int32 × MS) := fX11_runScript_0  M
def fX11_miceAfter_34 (M : MS) (s0 : Int32) : Option (Int32 × MS) := some (s0, M)
def fX11_miceAfter_22 (M : MS) : Option (Int32 × MS) := fX11_miceAfter_34 M 0
def fX11_miceAfter_26 (M : MS) (x1 : Int32) (x2 : Int32) : Option (Int32 × MS) := (fX11_sackAfter M x1 8 x2).bind fun q => fX11_miceAfter_34 q.2 q.1
def fX11_miceAfter_19 (M : MS) (x1 : Int32) (x2 : Int32) (s0 : Int32) : Option (Int32 × MS) := if s0 = 0 then fX11_miceAfter_26 M x1 x2 else fX11_miceAfter_22 M
def fX11_miceAfter_13 (M : MS) (x1 : Int32) (x2 : Int32) : Option (Int32 × MS) := (fX11_noHours M x2 2).bind fun q => fX11_miceAfter_19 q.2 x1 x2 q.1
def fX11_miceAfter_10 (M : MS) (x1 : Int32) (x2 : Int32) (s0 : Int32) : Option (Int32 × MS) := if s0 = 0 then fX11_miceAfter_13 M x1 x2 else fX11_miceAfter_22 M
def fX11_miceAfter_5 (M : MS) (x1 : Int32) (x2 : Int32) : Option (Int32 × MS) := (fX11_noSack M x1).bind fun q => fX11_miceAfter_10 q.2 x1 x2 q.1
def fX11_miceAfter_0 (M : MS) (a1 : Int32) (a2 : Int32) : Option (Int32 × MS) := fX11_miceAfter_5 (va_up M.1 7 0, M.2) a1 a2
def fX11_miceAfter (M : MS) (a1 : Int32) (a2 : Int32) : Option (Int32 × MS) := fX11_miceAfter_0  M a1 a2
def fX11_grainAfter_34 (M : MS) (s0 : Int32) : Option (Int32 × MS) := some (s0, M)
def fX11_grainAfter_22 (M : MS) : Option (Int32 × MS) := fX11_grainAfter_34 M 0
def fX11_grainAfter_26 (M : MS) (x1 : Int32) (x2 : Int32) : Option (Int32 × MS) := (fX11_sackAfter M x1 7 x2).bind fun q => fX11_grainAfter_34 q.2 q.1
def fX11_grainAfter_19 (M : MS) (x1 : Int32) (x2 : Int32) (s0 : Int32) : Option (Int32 × MS) := if s0 = 0 then fX11_grainAfter_26 M x1 x2 else fX11_grainAfter_22 M
def fX11_grainAfter_13 (M : MS) (x1 : Int32) (x2 : Int32) : Option (Int32 × MS) := (fX11_noHours M x2 2).bind fun q => fX11_grainAfter_19 q.2 x1 x2 q.1
def fX11_grainAfter_10 (M : MS) (x1 : Int32) (x2 : Int32) (s0 : Int32) : Option (Int32 × MS) := if s0 = 0 then fX11_grainAfter_13 M x1 x2 else fX11_grainAfter_22 M
def fX11_grainAfter_5 (M : MS) (x1 : Int32) (x2 : Int32) : Option (Int32 × MS) := (fX11_noSack M x1).bind fun q => fX11_grainAfter_10 q.2 x1 x2 q.1
def fX11_grainAfter_0 (M : MS) (a1 : Int32) (a2 : Int32) : Option (Int32 × MS) := fX11_grainAfter_5 (va_up M.1 7 0, M.2) a1 a2
def fX11_grainAfter (M : MS) (a1 : Int32) (a2 : Int32) : Option (Int32 × MS) := fX11_grainAfter_0  M a1 a2
def fX11_grainWithChange_33 (M : MS) (x4 : Int32) : Option (Int32 × MS) := some (x4, M)
def fX11_grainWithChange_23 (M : MS) (x1 : Int32) (x3 : Int32) (s0 : Int32) : Option (Int32 × MS) := (fX11_putsSack M x1 9 x3).bind fun q => fX11_grainWithChange_33 q s0
def fX11_grainWithChange_18 (M : MS) (x1 : Int32) (x2 : Int32) (x3 : Int32) : Option (Int32 × MS) := (fX11_allGrainAfter M x2).bind fun q => fX11_grainWithChange_23 q.2 x1 x3 q.1
def fX11_grainWithChange_7 (M : MS) (x1 : Int32) (x2 : Int32) (s0 : Int32) : Option (Int32 × MS) := (fX11_putsSack M x1 9 (1 - s0)).bind fun q => fX11_grainWithChange_18 q x1 x2 s0
def fX11_grainWithChange_0 (M : MS) (a1 : Int32) (a2 : Int32) : Option (Int32 × MS) := (fX11_ofSack M a1 9).bind fun q => fX11_grainWithChange_7 M a1 a2 q
def fX11_grainWithChange (M : MS) (a1 : Int32) (a2 : Int32) : Option (Int32 × MS) := fX11_grainWithChange_0  M a1 a2
def fX11_loadGranary_64 (M : MS) : Option (Int32 × MS) := if gIn 0 257 then some ((M.2 0 (0 : Int32).toNatClampNeg), M) else none
def fX11_loadGranary_59 (M : MS) : Option (Int32 × MS) := fX11_loadGranary_64 (va_up M.1 6 0, M.2)
def fX11_loadGranary_54 (M : MS) : Option (Int32 × MS) := fX11_loadGranary_59 (va_up M.1 5 0, M.2)
def fX11_loadGranary_50 (M : MS) : Option (Int32 × MS) := (fX11_starts M ).bind fun q => fX11_loadGranary_54 q
def fX11_loadGranary_48 (M : MS) : Option (Int32 × MS) := some ((-1), M)
def fX11_loadGranary_35 (M : MS) : Option (Int32 × MS) := (fX11_copies M 1 0 0 0).bind fun q => fX11_loadGranary_48 q
def fX11_loadGranary_31 (M : MS) (x1 : Int32) : Option (Int32 × MS) := if x1 = 0 then fX11_loadGranary_35 M else fX11_loadGranary_50 M
def fX11_loadGranary_26 (M : MS) (s0 : Int32) : Option (Int32 × MS) := (fX11_endsText M ).bind fun q => fX11_loadGranary_31 q s0
def fX11_loadGranary_22 (M : MS) : Option (Int32 × MS) := (fX11_readText M ).bind fun q => fX11_loadGranary_26 q.2 q.1
def fX11_loadGranary_18 (M : MS) : Option (Int32 × MS) := (fX11_startsText M ).bind fun q => fX11_loadGranary_22 q
def fX11_loadGranary_5 (M : MS) : Option (Int32 × MS) := (fX11_copies M 0 0 1 0).bind fun q => fX11_loadGranary_18 q
def fX11_loadGranary_0 (M : MS) : Option (Int32 × MS) := fX11_loadGranary_5 (va_up M.1 7 0, M.2)
def fX11_loadGranary (M : MS) : Option (Int32 × MS) := fX11_loadGranary_0  M
def fX11_bestFlapToChange_69 (M : MS) (x2 : Int32) : Option (Int32 × MS) := some (x2, M)
def fX11_bestFlapToChange_56 (K27 : MS → Int32 → Int32 → Int32 → Int32 → Option (Int32 × MS)) (M : MS) (x1 : Int32) (x2 : Int32) (x3 : Int32) (x4 : Int32) (x5 : Int32) : Option (Int32 × MS) := K27 M x1 x2 (if x3 < x5 then x5 else x3) (x4 + 1)
def fX11_bestFlapToChange_53 (K27 : MS → Int32 → Int32 → Int32 → Int32 → Option (Int32 × MS)) (M : MS) (x1 : Int32) (x3 : Int32) (x4 : Int32) (x5 : Int32) : Option (Int32 × MS) := fX11_bestFlapToChange_56 K27 M x1 x4 x3 x4 x5
def fX11_bestFlapToChange_45 (K27 : MS → Int32 → Int32 → Int32 → Int32 → Option (Int32 × MS)) (M : MS) (x1 : Int32) (x2 : Int32) (x3 : Int32) (x4 : Int32) (s0 : Int32) : Option (Int32 × MS) := if s0 ≤ x3 then fX11_bestFlapToChange_56 K27 M x1 x2 x3 x4 s0 else fX11_bestFlapToChange_53 K27 M x1 x3 x4 s0
def fX11_bestFlapToChange_38 (K27 : MS → Int32 → Int32 → Int32 → Int32 → Option (Int32 × MS)) (M : MS) (x1 : Int32) (x2 : Int32) (x3 : Int32) (x4 : Int32) : Option (Int32 × MS) := (fX11_grainWithChange M x4 x1).bind fun q => fX11_bestFlapToChange_45 K27 q.2 x1 x2 x3 x4 q.1
def fX11_bestFlapToChange_27 : Nat → MS → Int32 → Int32 → Int32 → Int32 → Option (Int32 × MS)
  | 0 => fun _ _ _ _ _ => none
  | k + 1 => fun M x1 x2 x3 x4 => if gIn 1 257 then if (M.2 0 (1 : Int32).toNatClampNeg) ≤ x4 then fX11_bestFlapToChange_69 M x2 else fX11_bestFlapToChange_38 (fX11_bestFlapToChange_27 k) M x1 x2 x3 x4 else none
def fX11_bestFlapToChange_23 (M : MS) (x1 : Int32) (x2 : Int32) (s0 : Int32) : Option (Int32 × MS) := fX11_bestFlapToChange_27 FU M x1 x2 s0 0
def fX11_bestFlapToChange_16 (M : MS) (x1 : Int32) : Option (Int32 × MS) := (fX11_allGrainAfter M x1).bind fun q => fX11_bestFlapToChange_23 q.2 x1 (-1) q.1
def fX11_bestFlapToChange_14 (M : MS) : Option (Int32 × MS) := some (0, M)
def fX11_bestFlapToChange_11 (M : MS) (x1 : Int32) (s0 : Int32) : Option (Int32 × MS) := if s0 = 0 then fX11_bestFlapToChange_16 M x1 else fX11_bestFlapToChange_14 M
def fX11_bestFlapToChange_5 (M : MS) (x1 : Int32) : Option (Int32 × MS) := (fX11_noHours M x1 1).bind fun q => fX11_bestFlapToChange_11 q.2 x1 q.1
def fX11_bestFlapToChange_0 (M : MS) (a1 : Int32) : Option (Int32 × MS) := fX11_bestFlapToChange_5 (va_up M.1 7 0, M.2) a1
def fX11_bestFlapToChange (M : MS) (a1 : Int32) : Option (Int32 × MS) := fX11_bestFlapToChange_0  M a1
set_option maxRecDepth 10000 in
theorem kX11_takesRest_52 {r : Int32} {S1 : MS} {M : MS} {s0 : Int32} {H : Heap} {locs : List Loc} {ls : Array Slot} (X : gX p s m args c cX11_takesRest 2 RX11 (kR kTab kA)) (hret : gRetI p l e (rmL 6 0 0) s m args below meth c cX11_takesRest (mΩ ad) (mP dC dI cI kA ad) Q r S1) (hf : fX11_takesRest_52 M s0 = some (r, S1)) (hP : (mP dC dI cI kA ad) M s H) (hS : va_S (Fr (mΩ ad) s.heap.size) s.heap H locs) (hl : lv_has ls 2 [(0, .ref (ad 25))]) : W p l e (rmL 6 0 0) s m args below meth c H locs 0 0 Q (F0 m 52 ls [.int s0]) := by
  have hx := X.hx
  have hb := X.hb
  have hown := X.hown
  have hts := X.hts
  rw [fX11_takesRest_52] at hf
  cases hf
  exact hret _ _ _ _ dX11_takesRest_52 hP hS
set_option maxRecDepth 10000 in
theorem kX11_takesRest_44 {r : Int32} {S1 : MS} {M : MS} {H : Heap} {locs : List Loc} {ls : Array Slot} (X : gX p s m args c cX11_takesRest 2 RX11 (kR kTab kA)) (hret : gRetI p l e (rmL 6 0 0) s m args below meth c cX11_takesRest (mΩ ad) (mP dC dI cI kA ad) Q r S1) (hf : fX11_takesRest_44 M = some (r, S1)) (hP : (mP dC dI cI kA ad) M s H) (hS : va_S (Fr (mΩ ad) s.heap.size) s.heap H locs) (hl : lv_has ls 2 [(0, .ref (ad 25))]) : W p l e (rmL 6 0 0) s m args below meth c H locs 0 0 Q (F0 m 44 ls []) := by
  have hx := X.hx
  have hb := X.hb
  have hown := X.hown
  have hts := X.hts
  rw [fX11_takesRest_44] at hf
  refine lv_aload_n hx hb dX11_takesRest_44 rfl (lv_at hl 0 rfl) ?_
  refine lv_iconst (v := 0) hx hb dX11_takesRest_45 (by decide) ?_
  refine lv_iconst (v := 1) hx hb dX11_takesRest_46 (by decide) ?_
  refine lv_bipush (v := 99) hx hb dX11_takesRest_47 (by decide) ?_
  obtain ⟨q, hc, hf⟩ := bd hf
  refine gCallVI X mOK rfl (vX11_takes hc) gRX11_X11_takes hdX11_takes rfl ⟨by decide, by decide⟩ hP hS (mrec hP) hl.1 (Nat.le_of_ble_eq_true rfl) ⟨Nat.le_refl _, Nat.le_refl _⟩ dX11_takesRest_49 (As := [.int 0, .int 1, .int 99]) (rest := []) rfl (fun H locs hP hS => ?_)
  exact kX11_takesRest_52 X hret hf hP hS (lv_sub hl [0] rfl)
set_option maxRecDepth 10000 in
theorem kX11_takesRest_61 {r : Int32} {S1 : MS} {M : MS} {s0 : Int32} {H : Heap} {locs : List Loc} {ls : Array Slot} (X : gX p s m args c cX11_takesRest 2 RX11 (kR kTab kA)) (hret : gRetI p l e (rmL 6 0 0) s m args below meth c cX11_takesRest (mΩ ad) (mP dC dI cI kA ad) Q r S1) (hf : fX11_takesRest_61 M s0 = some (r, S1)) (hP : (mP dC dI cI kA ad) M s H) (hS : va_S (Fr (mΩ ad) s.heap.size) s.heap H locs) (hl : lv_has ls 2 [(0, .ref (ad 25))]) : W p l e (rmL 6 0 0) s m args below meth c H locs 0 0 Q (F0 m 61 ls [.int s0]) := by
  have hx := X.hx
  have hb := X.hb
  have hown := X.hown
  have hts := X.hts
  rw [fX11_takesRest_61] at hf
  cases hf
  exact hret _ _ _ _ dX11_takesRest_61 hP hS
set_option maxRecDepth 10000 in
theorem kX11_takesRest_53 {r : Int32} {S1 : MS} {M : MS} {H : Heap} {locs : List Loc} {ls : Array Slot} (X : gX p s m args c cX11_takesRest 2 RX11 (kR kTab kA)) (hret : gRetI p l e (rmL 6 0 0) s m args below meth c cX11_takesRest (mΩ ad) (mP dC dI cI kA ad) Q r S1) (hf : fX11_takesRest_53 M = some (r, S1)) (hP : (mP dC dI cI kA ad) M s H) (hS : va_S (Fr (mΩ ad) s.heap.size) s.heap H locs) (hl : lv_has ls 2 [(0, .ref (ad 25))]) : W p l e (rmL 6 0 0) s m args below meth c H locs 0 0 Q (F0 m 53 ls []) := by
  have hx := X.hx
  have hb := X.hb
  have hown := X.hown
  have hts := X.hts
  rw [fX11_takesRest_53] at hf
  refine lv_aload_n hx hb dX11_takesRest_53 rfl (lv_at hl 0 rfl) ?_
  refine lv_sipush (v := 161) hx hb dX11_takesRest_54 (by decide) ?_
  refine lv_iconst (v := 1) hx hb dX11_takesRest_57 (by decide) ?_
  obtain ⟨q, hc, hf⟩ := bd hf
  refine gCallVI X mOK rfl (vX11_takesKnown hc) gRX11_X11_takesKnown hdX11_takesKnown rfl ⟨by decide, by decide⟩ hP hS (mrec hP) hl.1 (Nat.le_of_ble_eq_true rfl) ⟨Nat.le_refl _, Nat.le_refl _⟩ dX11_takesRest_58 (As := [.int 161, .int 1]) (rest := []) rfl (fun H locs hP hS => ?_)
  exact kX11_takesRest_61 X hret hf hP hS (lv_sub hl [0] rfl)
set_option maxRecDepth 10000 in
theorem kX11_takesRest_89 {r : Int32} {S1 : MS} {M : MS} {s0 : Int32} {H : Heap} {locs : List Loc} {ls : Array Slot} (X : gX p s m args c cX11_takesRest 2 RX11 (kR kTab kA)) (hret : gRetI p l e (rmL 6 0 0) s m args below meth c cX11_takesRest (mΩ ad) (mP dC dI cI kA ad) Q r S1) (hf : fX11_takesRest_89 M s0 = some (r, S1)) (hP : (mP dC dI cI kA ad) M s H) (hS : va_S (Fr (mΩ ad) s.heap.size) s.heap H locs) (hl : lv_has ls 2 [(0, .ref (ad 25))]) : W p l e (rmL 6 0 0) s m args below meth c H locs 0 0 Q (F0 m 89 ls [.int s0]) := by
  have hx := X.hx
  have hb := X.hb
  have hown := X.hown
  have hts := X.hts
  rw [fX11_takesRest_89] at hf
  cases hf
  exact hret _ _ _ _ dX11_takesRest_89 hP hS
set_option maxRecDepth 10000 in
theorem kX11_takesRest_88 {r : Int32} {S1 : MS} {M : MS} {H : Heap} {locs : List Loc} {ls : Array Slot} (X : gX p s m args c cX11_takesRest 2 RX11 (kR kTab kA)) (hret : gRetI p l e (rmL 6 0 0) s m args below meth c cX11_takesRest (mΩ ad) (mP dC dI cI kA ad) Q r S1) (hf : fX11_takesRest_88 M = some (r, S1)) (hP : (mP dC dI cI kA ad) M s H) (hS : va_S (Fr (mΩ ad) s.heap.size) s.heap H locs) (hl : lv_has ls 2 [(0, .ref (ad 25))]) : W p l e (rmL 6 0 0) s m args below meth c H locs 0 0 Q (F0 m 88 ls []) := by
  have hx := X.hx
  have hb := X.hb
  have hown := X.hown
  have hts := X.hts
  rw [fX11_takesRest_88] at hf
  refine lv_iconst (v := 0) hx hb dX11_takesRest_88 (by decide) ?_
  exact kX11_takesRest_89 X hret hf hP hS (lv_sub hl [0] rfl)
set_option maxRecDepth 10000 in
theorem kX11_takesRest_84 {r : Int32} {S1 : MS} {M : MS} {H : Heap} {locs : List Loc} {ls : Array Slot} (X : gX p s m args c cX11_takesRest 2 RX11 (kR kTab kA)) (hret : gRetI p l e (rmL 6 0 0) s m args below meth c cX11_takesRest (mΩ ad) (mP dC dI cI kA ad) Q r S1) (hf : fX11_takesRest_84 M = some (r, S1)) (hP : (mP dC dI cI kA ad) M s H) (hS : va_S (Fr (mΩ ad) s.heap.size) s.heap H locs) (hl : lv_has ls 2 [(0, .ref (ad 25))]) : W p l e (rmL 6 0 0) s m args below meth c H locs 0 0 Q (F0 m 84 ls []) := by
  have hx := X.hx
  have hb := X.hb
  have hown := X.hown
  have hts := X.hts
  rw [fX11_takesRest_84] at hf
  refine lv_iconst (v := 1) hx hb dX11_takesRest_84 (by decide) ?_
  refine lv_goto (tgt := 89) hx hb dX11_takesRest_85 (by decide) ?_
  exact kX11_takesRest_89 X hret hf hP hS (lv_sub hl [0] rfl)
set_option maxRecDepth 10000 in
theorem kX11_takesRest_81 {r : Int32} {S1 : MS} {M : MS} {s0 : Int32} {H : Heap} {locs : List Loc} {ls : Array Slot} (X : gX p s m args c cX11_takesRest 2 RX11 (kR kTab kA)) (hret : gRetI p l e (rmL 6 0 0) s m args below meth c cX11_takesRest (mΩ ad) (mP dC dI cI kA ad) Q r S1) (hf : fX11_takesRest_81 M s0 = some (r, S1)) (hP : (mP dC dI cI kA ad) M s H) (hS : va_S (Fr (mΩ ad) s.heap.size) s.heap H locs) (hl : lv_has ls 2 [(0, .ref (ad 25))]) : W p l e (rmL 6 0 0) s m args below meth c H locs 0 0 Q (F0 m 81 ls [.int s0]) := by
  have hx := X.hx
  have hb := X.hb
  have hown := X.hown
  have hts := X.hts
  rw [fX11_takesRest_81] at hf
  refine lv_if_eq (tgt := 88) hx hb dX11_takesRest_81 (by decide) (fun c1 => ?_) (fun c1 => ?_)
  · exact kX11_takesRest_88 X hret (ifp c1 hf) hP hS (lv_sub hl [0] rfl)
  · exact kX11_takesRest_84 X hret (ifn c1 hf) hP hS (lv_sub hl [0] rfl)
set_option maxRecDepth 10000 in
theorem kX11_takesRest_73 {r : Int32} {S1 : MS} {M : MS} {H : Heap} {locs : List Loc} {ls : Array Slot} (X : gX p s m args c cX11_takesRest 2 RX11 (kR kTab kA)) (hret : gRetI p l e (rmL 6 0 0) s m args below meth c cX11_takesRest (mΩ ad) (mP dC dI cI kA ad) Q r S1) (hf : fX11_takesRest_73 M = some (r, S1)) (hP : (mP dC dI cI kA ad) M s H) (hS : va_S (Fr (mΩ ad) s.heap.size) s.heap H locs) (hl : lv_has ls 2 [(0, .ref (ad 25))]) : W p l e (rmL 6 0 0) s m args below meth c H locs 0 0 Q (F0 m 73 ls []) := by
  have hx := X.hx
  have hb := X.hb
  have hown := X.hown
  have hts := X.hts
  rw [fX11_takesRest_73] at hf
  refine lv_aload_n hx hb dX11_takesRest_73 rfl (lv_at hl 0 rfl) ?_
  refine lv_iconst (v := 1) hx hb dX11_takesRest_74 (by decide) ?_
  refine lv_iconst (v := 1) hx hb dX11_takesRest_75 (by decide) ?_
  refine lv_bipush (v := 99) hx hb dX11_takesRest_76 (by decide) ?_
  obtain ⟨q, hc, hf⟩ := bd hf
  refine gCallVI X mOK rfl (vX11_takes hc) gRX11_X11_takes hdX11_takes rfl ⟨by decide, by decide⟩ hP hS (mrec hP) hl.1 (Nat.le_of_ble_eq_true rfl) ⟨Nat.le_refl _, Nat.le_refl _⟩ dX11_takesRest_78 (As := [.int 1, .int 1, .int 99]) (rest := []) rfl (fun H locs hP hS => ?_)
  exact kX11_takesRest_81 X hret hf hP hS (lv_sub hl [0] rfl)
set_option maxRecDepth 10000 in
theorem kX11_takesRest_70 {r : Int32} {S1 : MS} {M : MS} {s0 : Int32} {H : Heap} {locs : List Loc} {ls : Array Slot} (X : gX p s m args c cX11_takesRest 2 RX11 (kR kTab kA)) (hret : gRetI p l e (rmL 6 0 0) s m args below meth c cX11_takesRest (mΩ ad) (mP dC dI cI kA ad) Q r S1) (hf : fX11_takesRest_70 M s0 = some (r, S1)) (hP : (mP dC dI cI kA ad) M s H) (hS : va_S (Fr (mΩ ad) s.heap.size) s.heap H locs) (hl : lv_has ls 2 [(0, .ref (ad 25))]) : W p l e (rmL 6 0 0) s m args below meth c H locs 0 0 Q (F0 m 70 ls [.int s0]) := by
  have hx := X.hx
  have hb := X.hb
  have hown := X.hown
  have hts := X.hts
  rw [fX11_takesRest_70] at hf
  refine lv_if_eq (tgt := 88) hx hb dX11_takesRest_70 (by decide) (fun c1 => ?_) (fun c1 => ?_)
  · exact kX11_takesRest_88 X hret (ifp c1 hf) hP hS (lv_sub hl [0] rfl)
  · exact kX11_takesRest_73 X hret (ifn c1 hf) hP hS (lv_sub hl [0] rfl)
set_option maxRecDepth 10000 in
theorem kX11_takesRest_62 {r : Int32} {S1 : MS} {M : MS} {H : Heap} {locs : List Loc} {ls : Array Slot} (X : gX p s m args c cX11_takesRest 2 RX11 (kR kTab kA)) (hret : gRetI p l e (rmL 6 0 0) s m args below meth c cX11_takesRest (mΩ ad) (mP dC dI cI kA ad) Q r S1) (hf : fX11_takesRest_62 M = some (r, S1)) (hP : (mP dC dI cI kA ad) M s H) (hS : va_S (Fr (mΩ ad) s.heap.size) s.heap H locs) (hl : lv_has ls 2 [(0, .ref (ad 25))]) : W p l e (rmL 6 0 0) s m args below meth c H locs 0 0 Q (F0 m 62 ls []) := by
  have hx := X.hx
  have hb := X.hb
  have hown := X.hown
  have hts := X.hts
  rw [fX11_takesRest_62] at hf
  refine lv_aload_n hx hb dX11_takesRest_62 rfl (lv_at hl 0 rfl) ?_
  refine lv_sipush (v := 161) hx hb dX11_takesRest_63 (by decide) ?_
  refine lv_iconst (v := 1) hx hb dX11_takesRest_66 (by decide) ?_
  obtain ⟨q, hc, hf⟩ := bd hf
  refine gCallVI X mOK rfl (vX11_takesKnown hc) gRX11_X11_takesKnown hdX11_takesKnown rfl ⟨by decide, by decide⟩ hP hS (mrec hP) hl.1 (Nat.le_of_ble_eq_true rfl) ⟨Nat.le_refl _, Nat.le_refl _⟩ dX11_takesRest_67 (As := [.int 161, .int 1]) (rest := []) rfl (fun H locs hP hS => ?_)
  exact kX11_takesRest_70 X hret hf hP hS (lv_sub hl [0] rfl)
set_option maxRecDepth 10000 in
theorem kX11_takesRest_118 {r : Int32} {S1 : MS} {M : MS} {s0 : Int32} {H : Heap} {locs : List Loc} {ls : Array Slot} (X : gX p s m args c cX11_takesRest 2 RX11 (kR kTab kA)) (hret : gRetI p l e (rmL 6 0 0) s m args below meth c cX11_takesRest (mΩ ad) (mP dC dI cI kA ad) Q r S1) (hf : fX11_takesRest_118 M s0 = some (r, S1)) (hP : (mP dC dI cI kA ad) M s H) (hS : va_S (Fr (mΩ ad) s.heap.size) s.heap H locs) (hl : lv_has ls 2 [(0, .ref (ad 25))]) : W p l e (rmL 6 0 0) s m args below meth c H locs 0 0 Q (F0 m 118 ls [.int s0]) := by
  have hx := X.hx
  have hb := X.hb
  have hown := X.hown
  have hts := X.hts
  rw [fX11_takesRest_118] at hf
  cases hf
  exact hret _ _ _ _ dX11_takesRest_118 hP hS
set_option maxRecDepth 10000 in
theorem kX11_takesRest_117 {r : Int32} {S1 : MS} {M : MS} {H : Heap} {locs : List Loc} {ls : Array Slot} (X : gX p s m args c cX11_takesRest 2 RX11 (kR kTab kA)) (hret : gRetI p l e (rmL 6 0 0) s m args below meth c cX11_takesRest (mΩ ad) (mP dC dI cI kA ad) Q r S1) (hf : fX11_takesRest_117 M = some (r, S1)) (hP : (mP dC dI cI kA ad) M s H) (hS : va_S (Fr (mΩ ad) s.heap.size) s.heap H locs) (hl : lv_has ls 2 [(0, .ref (ad 25))]) : W p l e (rmL 6 0 0) s m args below meth c H locs 0 0 Q (F0 m 117 ls []) := by
  have hx := X.hx
  have hb := X.hb
  have hown := X.hown
  have hts := X.hts
  rw [fX11_takesRest_117] at hf
  refine lv_iconst (v := 0) hx hb dX11_takesRest_117 (by decide) ?_
  exact kX11_takesRest_118 X hret hf hP hS (lv_sub hl [0] rfl)
set_option maxRecDepth 10000 in
theorem kX11_takesRest_113 {r : Int32} {S1 : MS} {M : MS} {H : Heap} {locs : List Loc} {ls : Array Slot} (X : gX p s m args c cX11_takesRest 2 RX11 (kR kTab kA)) (hret : gRetI p l e (rmL 6 0 0) s m args below meth c cX11_takesRest (mΩ ad) (mP dC dI cI kA ad) Q r S1) (hf : fX11_takesRest_113 M = some (r, S1)) (hP : (mP dC dI cI kA ad) M s H) (hS : va_S (Fr (mΩ ad) s.heap.size) s.heap H locs) (hl : lv_has ls 2 [(0, .ref (ad 25))]) : W p l e (rmL 6 0 0) s m args below meth c H locs 0 0 Q (F0 m 113 ls []) := by
  have hx := X.hx
  have hb := X.hb
  have hown := X.hown
  have hts := X.hts
  rw [fX11_takesRest_113] at hf
  refine lv_iconst (v := 1) hx hb dX11_takesRest_113 (by decide) ?_
  refine lv_goto (tgt := 118) hx hb dX11_takesRest_114 (by decide) ?_
  exact kX11_takesRest_118 X hret hf hP hS (lv_sub hl [0] rfl)
set_option maxRecDepth 10000 in
theorem kX11_takesRest_110 {r : Int32} {S1 : MS} {M : MS} {s0 : Int32} {H : Heap} {locs : List Loc} {ls : Array Slot} (X : gX p s m args c cX11_takesRest 2 RX11 (kR kTab kA)) (hret : gRetI p l e (rmL 6 0 0) s m args below meth c cX11_takesRest (mΩ ad) (mP dC dI cI kA ad) Q r S1) (hf : fX11_takesRest_110 M s0 = some (r, S1)) (hP : (mP dC dI cI kA ad) M s H) (hS : va_S (Fr (mΩ ad) s.heap.size) s.heap H locs) (hl : lv_has ls 2 [(0, .ref (ad 25))]) : W p l e (rmL 6 0 0) s m args below meth c H locs 0 0 Q (F0 m 110 ls [.int s0]) := by
  have hx := X.hx
  have hb := X.hb
  have hown := X.hown
  have hts := X.hts
  rw [fX11_takesRest_110] at hf
  refine lv_if_eq (tgt := 117) hx hb dX11_takesRest_110 (by decide) (fun c1 => ?_) (fun c1 => ?_)
  · exact kX11_takesRest_117 X hret (ifp c1 hf) hP hS (lv_sub hl [0] rfl)
  · exact kX11_takesRest_113 X hret (ifn c1 hf) hP hS (lv_sub hl [0] rfl)
set_option maxRecDepth 10000 in
theorem kX11_takesRest_101 {r : Int32} {S1 : MS} {M : MS} {H : Heap} {locs : List Loc} {ls : Array Slot} (X : gX p s m args c cX11_takesRest 2 RX11 (kR kTab kA)) (hret : gRetI p l e (rmL 6 0 0) s m args below meth c cX11_takesRest (mΩ ad) (mP dC dI cI kA ad) Q r S1) (hf : fX11_takesRest_101 M = some (r, S1)) (hP : (mP dC dI cI kA ad) M s H) (hS : va_S (Fr (mΩ ad) s.heap.size) s.heap H locs) (hl : lv_has ls 2 [(0, .ref (ad 25))]) : W p l e (rmL 6 0 0) s m args below meth c H locs 0 0 Q (F0 m 101 ls []) := by
  have hx := X.hx
  have hb := X.hb
  have hown := X.hown
  have hts := X.hts
  rw [fX11_takesRest_101] at hf
  refine lv_aload_n hx hb dX11_takesRest_101 rfl (lv_at hl 0 rfl) ?_
  refine lv_iconst (v := 1) hx hb dX11_takesRest_102 (by decide) ?_
  refine lv_iconst (v := 1) hx hb dX11_takesRest_103 (by decide) ?_
  refine lv_sipush (v := 999) hx hb dX11_takesRest_104 (by decide) ?_
  obtain ⟨q, hc, hf⟩ := bd hf
  refine gCallVI X mOK rfl (vX11_takes hc) gRX11_X11_takes hdX11_takes rfl ⟨by decide, by decide⟩ hP hS (mrec hP) hl.1 (Nat.le_of_ble_eq_true rfl) ⟨Nat.le_refl _, Nat.le_refl _⟩ dX11_takesRest_107 (As := [.int 1, .int 1, .int 999]) (rest := []) rfl (fun H locs hP hS => ?_)
  exact kX11_takesRest_110 X hret hf hP hS (lv_sub hl [0] rfl)
set_option maxRecDepth 10000 in
theorem kX11_takesRest_98 {r : Int32} {S1 : MS} {M : MS} {s0 : Int32} {H : Heap} {locs : List Loc} {ls : Array Slot} (X : gX p s m args c cX11_takesRest 2 RX11 (kR kTab kA)) (hret : gRetI p l e (rmL 6 0 0) s m args below meth c cX11_takesRest (mΩ ad) (mP dC dI cI kA ad) Q r S1) (hf : fX11_takesRest_98 M s0 = some (r, S1)) (hP : (mP dC dI cI kA ad) M s H) (hS : va_S (Fr (mΩ ad) s.heap.size) s.heap H locs) (hl : lv_has ls 2 [(0, .ref (ad 25))]) : W p l e (rmL 6 0 0) s m args below meth c H locs 0 0 Q (F0 m 98 ls [.int s0]) := by
  have hx := X.hx
  have hb := X.hb
  have hown := X.hown
  have hts := X.hts
  rw [fX11_takesRest_98] at hf
  refine lv_if_eq (tgt := 117) hx hb dX11_takesRest_98 (by decide) (fun c1 => ?_) (fun c1 => ?_)
  · exact kX11_takesRest_117 X hret (ifp c1 hf) hP hS (lv_sub hl [0] rfl)
  · exact kX11_takesRest_101 X hret (ifn c1 hf) hP hS (lv_sub hl [0] rfl)
set_option maxRecDepth 10000 in
theorem kX11_takesRest_90 {r : Int32} {S1 : MS} {M : MS} {H : Heap} {locs : List Loc} {ls : Array Slot} (X : gX p s m args c cX11_takesRest 2 RX11 (kR kTab kA)) (hret : gRetI p l e (rmL 6 0 0) s m args below meth c cX11_takesRest (mΩ ad) (mP dC dI cI kA ad) Q r S1) (hf : fX11_takesRest_90 M = some (r, S1)) (hP : (mP dC dI cI kA ad) M s H) (hS : va_S (Fr (mΩ ad) s.heap.size) s.heap H locs) (hl : lv_has ls 2 [(0, .ref (ad 25))]) : W p l e (rmL 6 0 0) s m args below meth c H locs 0 0 Q (F0 m 90 ls []) := by
  have hx := X.hx
  have hb := X.hb
  have hown := X.hown
  have hts := X.hts
  rw [fX11_takesRest_90] at hf
  refine lv_aload_n hx hb dX11_takesRest_90 rfl (lv_at hl 0 rfl) ?_
  refine lv_sipush (v := 161) hx hb dX11_takesRest_91 (by decide) ?_
  refine lv_iconst (v := 1) hx hb dX11_takesRest_94 (by decide) ?_
  obtain ⟨q, hc, hf⟩ := bd hf
  refine gCallVI X mOK rfl (vX11_takesKnown hc) gRX11_X11_takesKnown hdX11_takesKnown rfl ⟨by decide, by decide⟩ hP hS (mrec hP) hl.1 (Nat.le_of_ble_eq_true rfl) ⟨Nat.le_refl _, Nat.le_refl _⟩ dX11_takesRest_95 (As := [.int 161, .int 1]) (rest := []) rfl (fun H locs hP hS => ?_)
  exact kX11_takesRest_98 X hret hf hP hS (lv_sub hl [0] rfl)
set_option maxRecDepth 10000 in
theorem kX11_takesRest_119 {r : Int32} {S1 : MS} {M : MS} {H : Heap} {locs : List Loc} {ls : Array Slot} (X : gX p s m args c cX11_takesRest 2 RX11 (kR kTab kA)) (hret : gRetI p l e (rmL 6 0 0) s m args below meth c cX11_takesRest (mΩ ad) (mP dC dI cI kA ad) Q r S1) (hf : fX11_takesRest_119 M = some (r, S1)) (hP : (mP dC dI cI kA ad) M s H) (hS : va_S (Fr (mΩ ad) s.heap.size) s.heap H locs) (hl : lv_has ls 2 [(0, .ref (ad 25))]) : W p l e (rmL 6 0 0) s m args below meth c H locs 0 0 Q (F0 m 119 ls []) := by
  have hx := X.hx
  have hb := X.hb
  have hown := X.hown
  have hts := X.hts
  rw [fX11_takesRest_119] at hf
  refine lv_iconst (v := 1) hx hb dX11_takesRest_119 (by decide) ?_
  cases hf
  exact hret _ _ _ _ dX11_takesRest_120 hP hS
set_option maxRecDepth 10000 in
theorem kX11_takesRest_129 {r : Int32} {S1 : MS} {M : MS} {s0 : Int32} {H : Heap} {locs : List Loc} {ls : Array Slot} (X : gX p s m args c cX11_takesRest 2 RX11 (kR kTab kA)) (hret : gRetI p l e (rmL 6 0 0) s m args below meth c cX11_takesRest (mΩ ad) (mP dC dI cI kA ad) Q r S1) (hf : fX11_takesRest_129 M s0 = some (r, S1)) (hP : (mP dC dI cI kA ad) M s H) (hS : va_S (Fr (mΩ ad) s.heap.size) s.heap H locs) (hl : lv_has ls 2 [(0, .ref (ad 25))]) : W p l e (rmL 6 0 0) s m args below meth c H locs 0 0 Q (F0 m 129 ls [.int s0]) := by
  have hx := X.hx
  have hb := X.hb
  have hown := X.hown
  have hts := X.hts
  rw [fX11_takesRest_129] at hf
  cases hf
  exact hret _ _ _ _ dX11_takesRest_129 hP hS
set_option maxRecDepth 10000 in
theorem kX11_takesRest_121 {r : Int32} {S1 : MS} {M : MS} {H : Heap} {locs : List Loc} {ls : Array Slot} (X : gX p s m args c cX11_takesRest 2 RX11 (kR kTab kA)) (hret : gRetI p l e (rmL 6 0 0) s m args below meth c cX11_takesRest (mΩ ad) (mP dC dI cI kA ad) Q r S1) (hf : fX11_takesRest_121 M = some (r, S1)) (hP : (mP dC dI cI kA ad) M s H) (hS : va_S (Fr (mΩ ad) s.heap.size) s.heap H locs) (hl : lv_has ls 2 [(0, .ref (ad 25))]) : W p l e (rmL 6 0 0) s m args below meth c H locs 0 0 Q (F0 m 121 ls []) := by
  have hx := X.hx
  have hb := X.hb
  have hown := X.hown
  have hts := X.hts
  rw [fX11_takesRest_121] at hf
  refine lv_aload_n hx hb dX11_takesRest_121 rfl (lv_at hl 0 rfl) ?_
  refine lv_iconst (v := 0) hx hb dX11_takesRest_122 (by decide) ?_
  refine lv_iconst (v := 0) hx hb dX11_takesRest_123 (by decide) ?_
  refine lv_bipush (v := 9) hx hb dX11_takesRest_124 (by decide) ?_
  obtain ⟨q, hc, hf⟩ := bd hf
  refine gCallVI X mOK rfl (vX11_takes hc) gRX11_X11_takes hdX11_takes rfl ⟨by decide, by decide⟩ hP hS (mrec hP) hl.1 (Nat.le_of_ble_eq_true rfl) ⟨Nat.le_refl _, Nat.le_refl _⟩ dX11_takesRest_126 (As := [.int 0, .int 0, .int 9]) (rest := []) rfl (fun H locs hP hS => ?_)
  exact kX11_takesRest_129 X hret hf hP hS (lv_sub hl [0] rfl)
set_option maxRecDepth 10000 in
theorem kX11_takesRest_4 {r : Int32} {S1 : MS} {M : MS} {x1 : Int32} {H : Heap} {locs : List Loc} {ls : Array Slot} (X : gX p s m args c cX11_takesRest 2 RX11 (kR kTab kA)) (hret : gRetI p l e (rmL 6 0 0) s m args below meth c cX11_takesRest (mΩ ad) (mP dC dI cI kA ad) Q r S1) (hf : fX11_takesRest_4 M x1 = some (r, S1)) (hP : (mP dC dI cI kA ad) M s H) (hS : va_S (Fr (mΩ ad) s.heap.size) s.heap H locs) (hl : lv_has ls 2 [(0, .ref (ad 25)), (1, .int x1)]) : W p l e (rmL 6 0 0) s m args below meth c H locs 0 0 Q (F0 m 4 ls []) := by
  have hx := X.hx
  have hb := X.hb
  have hown := X.hown
  have hts := X.hts
  rw [fX11_takesRest_4] at hf
  refine lv_iload_n hx hb dX11_takesRest_4 rfl (lv_at hl 1 rfl) ?_
  by_cases c1 : x1 = 1
  · refine lv_tableIn (off := 39) (tgt := 44) hx hb dX11_takesRest_5 (by rw [c1]; decide) (by rw [c1]; decide) (by rw [c1]; rfl) (by decide) ?_
    exact kX11_takesRest_44 X hret (ifp c1 hf) hP hS (lv_sub hl [0] rfl)
  replace hf := ifn c1 hf
  by_cases c2 : x1 = 2
  · refine lv_tableIn (off := 48) (tgt := 53) hx hb dX11_takesRest_5 (by rw [c2]; decide) (by rw [c2]; decide) (by rw [c2]; rfl) (by decide) ?_
    exact kX11_takesRest_53 X hret (ifp c2 hf) hP hS (lv_sub hl [0] rfl)
  replace hf := ifn c2 hf
  by_cases c3 : x1 = 3
  · refine lv_tableIn (off := 48) (tgt := 53) hx hb dX11_takesRest_5 (by rw [c3]; decide) (by rw [c3]; decide) (by rw [c3]; rfl) (by decide) ?_
    exact kX11_takesRest_53 X hret (ifp c3 hf) hP hS (lv_sub hl [0] rfl)
  replace hf := ifn c3 hf
  by_cases c4 : x1 = 4
  · refine lv_tableIn (off := 57) (tgt := 62) hx hb dX11_takesRest_5 (by rw [c4]; decide) (by rw [c4]; decide) (by rw [c4]; rfl) (by decide) ?_
    exact kX11_takesRest_62 X hret (ifp c4 hf) hP hS (lv_sub hl [0] rfl)
  replace hf := ifn c4 hf
  by_cases c5 : x1 = 5
  · refine lv_tableIn (off := 85) (tgt := 90) hx hb dX11_takesRest_5 (by rw [c5]; decide) (by rw [c5]; decide) (by rw [c5]; rfl) (by decide) ?_
    exact kX11_takesRest_90 X hret (ifp c5 hf) hP hS (lv_sub hl [0] rfl)
  replace hf := ifn c5 hf
  by_cases c6 : x1 = 6
  · refine lv_tableIn (off := 114) (tgt := 119) hx hb dX11_takesRest_5 (by rw [c6]; decide) (by rw [c6]; decide) (by rw [c6]; rfl) (by decide) ?_
    exact kX11_takesRest_119 X hret (ifp c6 hf) hP hS (lv_sub hl [0] rfl)
  replace hf := ifn c6 hf
  refine lv_tableOut (tgt := 121) hx hb dX11_takesRest_5 (sw_out 1 6 (by decide) (by decide) (fun k h1 h2 h3 => by have hk : k = 1 ∨ k = 2 ∨ k = 3 ∨ k = 4 ∨ k = 5 ∨ k = 6 := (by omega); rcases hk with rfl | rfl | rfl | rfl | rfl | rfl <;> first | exact c1 (h3.trans (by decide)) | exact c2 (h3.trans (by decide)) | exact c3 (h3.trans (by decide)) | exact c4 (h3.trans (by decide)) | exact c5 (h3.trans (by decide)) | exact c6 (h3.trans (by decide)))) (by decide) ?_
  exact kX11_takesRest_121 X hret hf hP hS (lv_sub hl [0] rfl)
set_option maxRecDepth 10000 in
theorem kX11_takesRest_0 {r : Int32} {S1 : MS} {M : MS} {a1 : Int32} {H : Heap} {locs : List Loc} {ls : Array Slot} (X : gX p s m args c cX11_takesRest 2 RX11 (kR kTab kA)) (hret : gRetI p l e (rmL 6 0 0) s m args below meth c cX11_takesRest (mΩ ad) (mP dC dI cI kA ad) Q r S1) (hf : fX11_takesRest_0 M a1 = some (r, S1)) (hP : (mP dC dI cI kA ad) M s H) (hS : va_S (Fr (mΩ ad) s.heap.size) s.heap H locs) (hl : lv_has ls 2 [(0, .ref (ad 25)), (1, .int a1)]) : W p l e (rmL 6 0 0) s m args below meth c H locs 0 0 Q (F0 m 0 ls []) := by
  have hx := X.hx
  have hb := X.hb
  have hown := X.hown
  have hts := X.hts
  rw [fX11_takesRest_0] at hf
  refine lv_aload_n hx hb dX11_takesRest_0 rfl (lv_at hl 0 rfl) ?_
  obtain ⟨q, hc, hf⟩ := bd hf
  refine gCallVV X mOK rfl (vX11_advanceToken hc) gRX11_X11_advanceToken hdX11_advanceToken rfl ⟨by decide, by decide⟩ hP hS (mrec hP) hl.1 (Nat.le_of_ble_eq_true rfl) ⟨Nat.le_refl _, Nat.le_refl _⟩ dX11_takesRest_1 (As := []) (rest := []) rfl (fun H locs hP hS => ?_)
  exact kX11_takesRest_4 X hret hf hP hS (lv_sub hl [0, 1] rfl)
theorem vX11_takesRest {l : Launch} {dC : Nat → ClassId} {dI : Nat → Nat → Nat} {cI : ClassId} {kA : String → Nat → Nat} {ad : Nat → Nat} {M S1 : MS} {r : Int32} {a1 : Int32} (hf : fX11_takesRest M a1 = some (r, S1)) : gMetI l yX11_takesRest cX11_takesRest 2 (some .boolean) 6 (mΩ ad) (mP dC dI cI kA ad) (kR kTab kA) [.ref (ad 25), .int a1] M r S1 := gEntryI (ty := .boolean) (by decide) rfl (bz_n hf) mOK (Nat.le_of_ble_eq_true rfl) (fun p e s m args below meth c Q ls X hP hS hret hl => 
  kX11_takesRest_0 X hret (bz_f hf) hP hS (lv_sub hl [0, 1] rfl))
set_option maxRecDepth 10000 in
theorem kX11_hoursUntil_44 {r : Int32} {S1 : MS} {M : MS} {s0 : Int32} {H : Heap} {locs : List Loc} {ls : Array Slot} (X : gX p s m args c cX11_hoursUntil 4 RX11 (kR kTab kA)) (hret : gRetI p l e (rmL 6 0 0) s m args below meth c cX11_hoursUntil (mΩ ad) (mP dC dI cI kA ad) Q r S1) (hf : fX11_hoursUntil_44 M s0 = some (r, S1)) (hP : (mP dC dI cI kA ad) M s H) (hS : va_S (Fr (mΩ ad) s.heap.size) s.heap H locs) (hl : lv_has ls 4 [(0, .ref (ad 25))]) : W p l e (rmL 6 0 0) s m args below meth c H locs 0 0 Q (F0 m 44 ls [.int s0]) := by
  have hx := X.hx
  have hb := X.hb
  have hown := X.hown
  have hts := X.hts
  rw [fX11_hoursUntil_44] at hf
  cases hf
  exact hret _ _ _ _ dX11_hoursUntil_44 hP hS
set_option maxRecDepth 10000 in
theorem kX11_hoursUntil_39 {r : Int32} {S1 : MS} {M : MS} {H : Heap} {locs : List Loc} {ls : Array Slot} (X : gX p s m args c cX11_hoursUntil 4 RX11 (kR kTab kA)) (hret : gRetI p l e (rmL 6 0 0) s m args below meth c cX11_hoursUntil (mΩ ad) (mP dC dI cI kA ad) Q r S1) (hf : fX11_hoursUntil_39 M = some (r, S1)) (hP : (mP dC dI cI kA ad) M s H) (hS : va_S (Fr (mΩ ad) s.heap.size) s.heap H locs) (hl : lv_has ls 4 [(0, .ref (ad 25))]) : W p l e (rmL 6 0 0) s m args below meth c H locs 0 0 Q (F0 m 39 ls []) := by
  have hx := X.hx
  have hb := X.hb
  have hown := X.hown
  have hts := X.hts
  rw [fX11_hoursUntil_39] at hf
  refine lv_aload_n hx hb dX11_hoursUntil_39 rfl (lv_at hl 0 rfl) ?_
  refine lv_iconst (v := (-1)) hx hb dX11_hoursUntil_40 (by decide) ?_
  obtain ⟨q, hc, hf⟩ := bd hf
  refine gCallVI X mOK rfl (vX11_goesBack hc) gRX11_X11_goesBack hdX11_goesBack rfl ⟨by decide, by decide⟩ hP hS (mrec hP) hl.1 (Nat.le_of_ble_eq_true rfl) ⟨Nat.le_refl _, Nat.le_refl _⟩ dX11_hoursUntil_41 (As := [.int (-1)]) (rest := []) rfl (fun H locs hP hS => ?_)
  exact kX11_hoursUntil_44 X hret hf hP hS (lv_sub hl [0] rfl)
set_option maxRecDepth 10000 in
theorem kX11_hoursUntil_33 {r : Int32} {S1 : MS} {K6 : MS → Int32 → Int32 → Int32 → Option (Int32 × MS)} {M : MS} {x1 : Int32} {x2 : Int32} {x3 : Int32} {H : Heap} {locs : List Loc} {ls : Array Slot} (X : gX p s m args c cX11_hoursUntil 4 RX11 (kR kTab kA)) (hret : gRetI p l e (rmL 6 0 0) s m args below meth c cX11_hoursUntil (mΩ ad) (mP dC dI cI kA ad) Q r S1) (hK6 : ∀ (M : MS) (x1 : Int32) (x2 : Int32) (x3 : Int32) (H : Heap) (locs : List Loc) (ls : Array Slot), K6 M x1 x2 x3 = some (r, S1) → (mP dC dI cI kA ad) M s H → va_S (Fr (mΩ ad) s.heap.size) s.heap H locs → lv_has ls 4 [(0, .ref (ad 25)), (1, .int x1), (2, .int x2), (3, .int x3)] → W p l e (rmL 6 0 0) s m args below meth c H locs 0 0 Q (F0 m 6 ls [])) (hf : fX11_hoursUntil_33 K6 M x1 x2 x3 = some (r, S1)) (hP : (mP dC dI cI kA ad) M s H) (hS : va_S (Fr (mΩ ad) s.heap.size) s.heap H locs) (hl : lv_has ls 4 [(0, .ref (ad 25)), (1, .int x1), (2, .int x2), (3, .int x3)]) : W p l e (rmL 6 0 0) s m args below meth c H locs 0 0 Q (F0 m 33 ls []) := by
  have hx := X.hx
  have hb := X.hb
  have hown := X.hown
  have hts := X.hts
  rw [fX11_hoursUntil_33] at hf
  refine lv_iinc (v := (x3 + 1)) (lv' := [(3, .int (x3 + 1)), (0, .ref (ad 25)), (1, .int x1), (2, .int x2)]) hx hb dX11_hoursUntil_33 hl (k := 3) rfl (by rfl) (by decide) rfl (fun ls hl => ?_)
  refine lv_goto (tgt := 6) hx hb dX11_hoursUntil_36 (by decide) ?_
  exact hK6 _ _ _ _ _ _ _ hf hP hS (lv_sub hl [1, 2, 3, 0] rfl)
set_option maxRecDepth 10000 in
theorem kX11_hoursUntil_29 {r : Int32} {S1 : MS} {K6 : MS → Int32 → Int32 → Int32 → Option (Int32 × MS)} {M : MS} {x1 : Int32} {x2 : Int32} {x3 : Int32} {H : Heap} {locs : List Loc} {ls : Array Slot} (X : gX p s m args c cX11_hoursUntil 4 RX11 (kR kTab kA)) (hret : gRetI p l e (rmL 6 0 0) s m args below meth c cX11_hoursUntil (mΩ ad) (mP dC dI cI kA ad) Q r S1) (hK6 : ∀ (M : MS) (x1 : Int32) (x2 : Int32) (x3 : Int32) (H : Heap) (locs : List Loc) (ls : Array Slot), K6 M x1 x2 x3 = some (r, S1) → (mP dC dI cI kA ad) M s H → va_S (Fr (mΩ ad) s.heap.size) s.heap H locs → lv_has ls 4 [(0, .ref (ad 25)), (1, .int x1), (2, .int x2), (3, .int x3)] → W p l e (rmL 6 0 0) s m args below meth c H locs 0 0 Q (F0 m 6 ls [])) (hf : fX11_hoursUntil_29 K6 M x1 x2 x3 = some (r, S1)) (hP : (mP dC dI cI kA ad) M s H) (hS : va_S (Fr (mΩ ad) s.heap.size) s.heap H locs) (hl : lv_has ls 4 [(0, .ref (ad 25)), (1, .int x1), (2, .int x2), (3, .int x3)]) : W p l e (rmL 6 0 0) s m args below meth c H locs 0 0 Q (F0 m 29 ls []) := by
  have hx := X.hx
  have hb := X.hb
  have hown := X.hown
  have hts := X.hts
  rw [fX11_hoursUntil_29] at hf
  refine lv_aload_n hx hb dX11_hoursUntil_29 rfl (lv_at hl 0 rfl) ?_
  obtain ⟨q, hc, hf⟩ := bd hf
  refine gCallVV X mOK rfl (vX11_hourPasses hc) gRX11_X11_hourPasses hdX11_hourPasses rfl ⟨by decide, by decide⟩ hP hS (mrec hP) hl.1 (Nat.le_of_ble_eq_true rfl) ⟨Nat.le_refl _, Nat.le_refl _⟩ dX11_hoursUntil_30 (As := []) (rest := []) rfl (fun H locs hP hS => ?_)
  exact kX11_hoursUntil_33 X hret hK6 hf hP hS (lv_sub hl [0, 1, 2, 3] rfl)
set_option maxRecDepth 10000 in
theorem kX11_hoursUntil_28 {r : Int32} {S1 : MS} {M : MS} {s0 : Int32} {H : Heap} {locs : List Loc} {ls : Array Slot} (X : gX p s m args c cX11_hoursUntil 4 RX11 (kR kTab kA)) (hret : gRetI p l e (rmL 6 0 0) s m args below meth c cX11_hoursUntil (mΩ ad) (mP dC dI cI kA ad) Q r S1) (hf : fX11_hoursUntil_28 M s0 = some (r, S1)) (hP : (mP dC dI cI kA ad) M s H) (hS : va_S (Fr (mΩ ad) s.heap.size) s.heap H locs) (hl : lv_has ls 4 [(0, .ref (ad 25))]) : W p l e (rmL 6 0 0) s m args below meth c H locs 0 0 Q (F0 m 28 ls [.int s0]) := by
  have hx := X.hx
  have hb := X.hb
  have hown := X.hown
  have hts := X.hts
  rw [fX11_hoursUntil_28] at hf
  cases hf
  exact hret _ _ _ _ dX11_hoursUntil_28 hP hS
set_option maxRecDepth 10000 in
theorem kX11_hoursUntil_23 {r : Int32} {S1 : MS} {M : MS} {x3 : Int32} {H : Heap} {locs : List Loc} {ls : Array Slot} (X : gX p s m args c cX11_hoursUntil 4 RX11 (kR kTab kA)) (hret : gRetI p l e (rmL 6 0 0) s m args below meth c cX11_hoursUntil (mΩ ad) (mP dC dI cI kA ad) Q r S1) (hf : fX11_hoursUntil_23 M x3 = some (r, S1)) (hP : (mP dC dI cI kA ad) M s H) (hS : va_S (Fr (mΩ ad) s.heap.size) s.heap H locs) (hl : lv_has ls 4 [(0, .ref (ad 25)), (3, .int x3)]) : W p l e (rmL 6 0 0) s m args below meth c H locs 0 0 Q (F0 m 23 ls []) := by
  have hx := X.hx
  have hb := X.hb
  have hown := X.hown
  have hts := X.hts
  rw [fX11_hoursUntil_23] at hf
  refine lv_aload_n hx hb dX11_hoursUntil_23 rfl (lv_at hl 0 rfl) ?_
  refine lv_iload_n hx hb dX11_hoursUntil_24 rfl (lv_at hl 1 rfl) ?_
  obtain ⟨q, hc, hf⟩ := bd hf
  refine gCallVI X mOK rfl (vX11_goesBack hc) gRX11_X11_goesBack hdX11_goesBack rfl ⟨by decide, by decide⟩ hP hS (mrec hP) hl.1 (Nat.le_of_ble_eq_true rfl) ⟨Nat.le_refl _, Nat.le_refl _⟩ dX11_hoursUntil_25 (As := [.int x3]) (rest := []) rfl (fun H locs hP hS => ?_)
  exact kX11_hoursUntil_28 X hret hf hP hS (lv_sub hl [0] rfl)
set_option maxRecDepth 10000 in
theorem kX11_hoursUntil_13 {r : Int32} {S1 : MS} {K6 : MS → Int32 → Int32 → Int32 → Option (Int32 × MS)} {M : MS} {x1 : Int32} {x2 : Int32} {x3 : Int32} {H : Heap} {locs : List Loc} {ls : Array Slot} (X : gX p s m args c cX11_hoursUntil 4 RX11 (kR kTab kA)) (hret : gRetI p l e (rmL 6 0 0) s m args below meth c cX11_hoursUntil (mΩ ad) (mP dC dI cI kA ad) Q r S1) (hK6 : ∀ (M : MS) (x1 : Int32) (x2 : Int32) (x3 : Int32) (H : Heap) (locs : List Loc) (ls : Array Slot), K6 M x1 x2 x3 = some (r, S1) → (mP dC dI cI kA ad) M s H → va_S (Fr (mΩ ad) s.heap.size) s.heap H locs → lv_has ls 4 [(0, .ref (ad 25)), (1, .int x1), (2, .int x2), (3, .int x3)] → W p l e (rmL 6 0 0) s m args below meth c H locs 0 0 Q (F0 m 6 ls [])) (hf : fX11_hoursUntil_13 K6 M x1 x2 x3 = some (r, S1)) (hP : (mP dC dI cI kA ad) M s H) (hS : va_S (Fr (mΩ ad) s.heap.size) s.heap H locs) (hl : lv_has ls 4 [(0, .ref (ad 25)), (1, .int x1), (2, .int x2), (3, .int x3)]) : W p l e (rmL 6 0 0) s m args below meth c H locs 0 0 Q (F0 m 13 ls []) := by
  have hx := X.hx
  have hb := X.hb
  have hown := X.hown
  have hts := X.hts
  rw [fX11_hoursUntil_13] at hf
  refine lv_aload_n hx hb dX11_hoursUntil_13 rfl (lv_at hl 0 rfl) ?_
  refine mr_get (k := 0) X hP (by decide) rfl rfl tw1665 dX11_hoursUntil_14 ?_
  refine lv_iload_n hx hb dX11_hoursUntil_17 rfl (lv_at hl 1 rfl) ?_
  obtain ⟨g1, hf⟩ := gd hf
  refine mr_ald (a := 0) X hP rfl g1 dX11_hoursUntil_18 ?_
  refine lv_iload_n hx hb dX11_hoursUntil_19 rfl (lv_at hl 2 rfl) ?_
  refine lv_icmp_ne (tgt := 29) hx hb dX11_hoursUntil_20 (by decide) (fun c1 => ?_) (fun c1 => ?_)
  · exact kX11_hoursUntil_29 X hret hK6 (ifn c1 hf) hP hS (lv_sub hl [0, 1, 2, 3] rfl)
  · exact kX11_hoursUntil_23 X hret (ifp c1 hf) hP hS (lv_sub hl [0, 3] rfl)
set_option maxRecDepth 10000 in
theorem kX11_hoursUntil_6 {r : Int32} {S1 : MS} (X : gX p s m args c cX11_hoursUntil 4 RX11 (kR kTab kA)) (hret : gRetI p l e (rmL 6 0 0) s m args below meth c cX11_hoursUntil (mΩ ad) (mP dC dI cI kA ad) Q r S1) : ∀ (n : Nat) (M : MS) (x1 : Int32) (x2 : Int32) (x3 : Int32) (H : Heap) (locs : List Loc) (ls : Array Slot), fX11_hoursUntil_6 n M x1 x2 x3 = some (r, S1) → (mP dC dI cI kA ad) M s H → va_S (Fr (mΩ ad) s.heap.size) s.heap H locs → lv_has ls 4 [(0, .ref (ad 25)), (1, .int x1), (2, .int x2), (3, .int x3)] → W p l e (rmL 6 0 0) s m args below meth c H locs 0 0 Q (F0 m 6 ls []) := by
  intro n
  induction n with
  | zero => intro M x1 x2 x3 H locs ls hf; cases hf
  | succ k ih =>
    intro M x1 x2 x3 H locs ls hf hP hS hl
    have hx := X.hx
    have hb := X.hb
    have hown := X.hown
    have hts := X.hts
    rw [fX11_hoursUntil_6] at hf
    try dsimp only at hf
    refine lv_iload_n hx hb dX11_hoursUntil_6 rfl (lv_at hl 3 rfl) ?_
    refine lv_sipush (v := 200) hx hb dX11_hoursUntil_7 (by decide) ?_
    refine lv_icmp_gt (tgt := 39) hx hb dX11_hoursUntil_10 (by decide) (fun c1 => ?_) (fun c1 => ?_)
    · exact kX11_hoursUntil_39 X hret (ifp c1 hf) hP hS (lv_sub hl [0] rfl)
    · exact kX11_hoursUntil_13 X hret ih (ifn c1 hf) hP hS (lv_sub hl [0, 1, 2, 3] rfl)
set_option maxRecDepth 10000 in
theorem kX11_hoursUntil_4 {r : Int32} {S1 : MS} {M : MS} {x1 : Int32} {x2 : Int32} {H : Heap} {locs : List Loc} {ls : Array Slot} (X : gX p s m args c cX11_hoursUntil 4 RX11 (kR kTab kA)) (hret : gRetI p l e (rmL 6 0 0) s m args below meth c cX11_hoursUntil (mΩ ad) (mP dC dI cI kA ad) Q r S1) (hf : fX11_hoursUntil_4 M x1 x2 = some (r, S1)) (hP : (mP dC dI cI kA ad) M s H) (hS : va_S (Fr (mΩ ad) s.heap.size) s.heap H locs) (hl : lv_has ls 4 [(0, .ref (ad 25)), (1, .int x1), (2, .int x2)]) : W p l e (rmL 6 0 0) s m args below meth c H locs 0 0 Q (F0 m 4 ls []) := by
  have hx := X.hx
  have hb := X.hb
  have hown := X.hown
  have hts := X.hts
  rw [fX11_hoursUntil_4] at hf
  refine lv_iconst (v := 0) hx hb dX11_hoursUntil_4 (by decide) ?_
  refine lv_istore_n (lv' := [(3, .int 0), (0, .ref (ad 25)), (1, .int x1), (2, .int x2)]) hx hb dX11_hoursUntil_5 rfl hl (by decide) rfl (fun ls hl => ?_)
  exact kX11_hoursUntil_6 X hret FU _ _ _ _ _ _ _ hf hP hS (lv_sub hl [1, 2, 3, 0] rfl)
set_option maxRecDepth 10000 in
theorem kX11_hoursUntil_0 {r : Int32} {S1 : MS} {M : MS} {a1 : Int32} {a2 : Int32} {H : Heap} {locs : List Loc} {ls : Array Slot} (X : gX p s m args c cX11_hoursUntil 4 RX11 (kR kTab kA)) (hret : gRetI p l e (rmL 6 0 0) s m args below meth c cX11_hoursUntil (mΩ ad) (mP dC dI cI kA ad) Q r S1) (hf : fX11_hoursUntil_0 M a1 a2 = some (r, S1)) (hP : (mP dC dI cI kA ad) M s H) (hS : va_S (Fr (mΩ ad) s.heap.size) s.heap H locs) (hl : lv_has ls 4 [(0, .ref (ad 25)), (1, .int a1), (2, .int a2)]) : W p l e (rmL 6 0 0) s m args below meth c H locs 0 0 Q (F0 m 0 ls []) := by
  have hx := X.hx
  have hb := X.hb
  have hown := X.hown
  have hts := X.hts
  rw [fX11_hoursUntil_0] at hf
  refine lv_aload_n hx hb dX11_hoursUntil_0 rfl (lv_at hl 0 rfl) ?_
  obtain ⟨q, hc, hf⟩ := bd hf
  refine gCallVV X mOK rfl (vX11_goesAside hc) gRX11_X11_goesAside hdX11_goesAside rfl ⟨by decide, by decide⟩ hP hS (mrec hP) hl.1 (Nat.le_of_ble_eq_true rfl) ⟨Nat.le_refl _, Nat.le_refl _⟩ dX11_hoursUntil_1 (As := []) (rest := []) rfl (fun H locs hP hS => ?_)
  exact kX11_hoursUntil_4 X hret hf hP hS (lv_sub hl [0, 1, 2] rfl)
theorem vX11_hoursUntil {l : Launch} {dC : Nat → ClassId} {dI : Nat → Nat → Nat} {cI : ClassId} {kA : String → Nat → Nat} {ad : Nat → Nat} {M S1 : MS} {r : Int32} {a1 : Int32} {a2 : Int32} (hf : fX11_hoursUntil M a1 a2 = some (r, S1)) : gMetI l yX11_hoursUntil cX11_hoursUntil 4 (some .int) 6 (mΩ ad) (mP dC dI cI kA ad) (kR kTab kA) [.ref (ad 25), .int a1, .int a2] M r S1 := gEntryI (ty := .int) (by decide) rfl rfl mOK (Nat.le_of_ble_eq_true rfl) (fun p e s m args below meth c Q ls X hP hS hret hl => 
  kX11_hoursUntil_0 X hret hf hP hS (lv_sub hl [0, 1, 2] rfl))
set_option maxRecDepth 10000 in
theorem kX11_readSetupStatement_88 {r : Int32} {S1 : MS} {M : MS} {s0 : Int32} {H : Heap} {locs : List Loc} {ls : Array Slot} (X : gX p s m args c cX11_readSetupStatement 1 RX11 (kR kTab kA)) (hret : gRetI p l e (rmL 7 0 0) s m args below meth c cX11_readSetupStatement (mΩ ad) (mP dC dI cI kA ad) Q r S1) (hf : fX11_readSetupStatement_88 M s0 = some (r, S1)) (hP : (mP dC dI cI kA ad) M s H) (hS : va_S (Fr (mΩ ad) s.heap.size) s.heap H locs) (hl : lv_has ls 1 [(0, .ref (ad 25))]) : W p l e (rmL 7 0 0) s m args below meth c H locs 0 0 Q (F0 m 88 ls [.int s0]) := by
  have hx := X.hx
  have hb := X.hb
  have hown := X.hown
  have hts := X.hts
  rw [fX11_readSetupStatement_88] at hf
  cases hf
  exact hret _ _ _ _ dX11_readSetupStatement_88 hP hS
set_option maxRecDepth 10000 in
theorem kX11_readSetupStatement_83 {r : Int32} {S1 : MS} {M : MS} {H : Heap} {locs : List Loc} {ls : Array Slot} (X : gX p s m args c cX11_readSetupStatement 1 RX11 (kR kTab kA)) (hret : gRetI p l e (rmL 7 0 0) s m args below meth c cX11_readSetupStatement (mΩ ad) (mP dC dI cI kA ad) Q r S1) (hf : fX11_readSetupStatement_83 M = some (r, S1)) (hP : (mP dC dI cI kA ad) M s H) (hS : va_S (Fr (mΩ ad) s.heap.size) s.heap H locs) (hl : lv_has ls 1 [(0, .ref (ad 25))]) : W p l e (rmL 7 0 0) s m args below meth c H locs 0 0 Q (F0 m 83 ls []) := by
  have hx := X.hx
  have hb := X.hb
  have hown := X.hown
  have hts := X.hts
  rw [fX11_readSetupStatement_83] at hf
  refine lv_aload_n hx hb dX11_readSetupStatement_83 rfl (lv_at hl 0 rfl) ?_
  refine lv_iconst (v := 1) hx hb dX11_readSetupStatement_84 (by decide) ?_
  obtain ⟨q, hc, hf⟩ := bd hf
  refine gCallVI X mOK rfl (vX11_failsAt hc) gRX11_X11_failsAt hdX11_failsAt rfl ⟨by decide, by decide⟩ hP hS (mrec hP) hl.1 (Nat.le_of_ble_eq_true rfl) ⟨Nat.le_refl _, Nat.le_refl _⟩ dX11_readSetupStatement_85 (As := [.int 1]) (rest := []) rfl (fun H locs hP hS => ?_)
  exact kX11_readSetupStatement_88 X hret hf hP hS (lv_sub hl [0] rfl)
set_option maxRecDepth 10000 in
theorem kX11_readSetupStatement_80 {r : Int32} {S1 : MS} {M : MS} {s0 : Int32} {H : Heap} {locs : List Loc} {ls : Array Slot} (X : gX p s m args c cX11_readSetupStatement 1 RX11 (kR kTab kA)) (hret : gRetI p l e (rmL 7 0 0) s m args below meth c cX11_readSetupStatement (mΩ ad) (mP dC dI cI kA ad) Q r S1) (hf : fX11_readSetupStatement_80 M s0 = some (r, S1)) (hP : (mP dC dI cI kA ad) M s H) (hS : va_S (Fr (mΩ ad) s.heap.size) s.heap H locs) (hl : lv_has ls 1 [(0, .ref (ad 25))]) : W p l e (rmL 7 0 0) s m args below meth c H locs 0 0 Q (F0 m 80 ls [.int s0]) := by
  have hx := X.hx
  have hb := X.hb
  have hown := X.hown
  have hts := X.hts
  rw [fX11_readSetupStatement_80] at hf
  refine lv_goto (tgt := 88) hx hb dX11_readSetupStatement_80 (by decide) ?_
  exact kX11_readSetupStatement_88 X hret hf hP hS (lv_sub hl [0] rfl)
set_option maxRecDepth 10000 in
theorem kX11_readSetupStatement_73 {r : Int32} {S1 : MS} {M : MS} {H : Heap} {locs : List Loc} {ls : Array Slot} (X : gX p s m args c cX11_readSetupStatement 1 RX11 (kR kTab kA)) (hret : gRetI p l e (rmL 7 0 0) s m args below meth c cX11_readSetupStatement (mΩ ad) (mP dC dI cI kA ad) Q r S1) (hf : fX11_readSetupStatement_73 M = some (r, S1)) (hP : (mP dC dI cI kA ad) M s H) (hS : va_S (Fr (mΩ ad) s.heap.size) s.heap H locs) (hl : lv_has ls 1 [(0, .ref (ad 25))]) : W p l e (rmL 7 0 0) s m args below meth c H locs 0 0 Q (F0 m 73 ls []) := by
  have hx := X.hx
  have hb := X.hb
  have hown := X.hown
  have hts := X.hts
  rw [fX11_readSetupStatement_73] at hf
  refine lv_aload_n hx hb dX11_readSetupStatement_73 rfl (lv_at hl 0 rfl) ?_
  refine lv_iconst (v := 3) hx hb dX11_readSetupStatement_74 (by decide) ?_
  refine lv_bipush (v := 23) hx hb dX11_readSetupStatement_75 (by decide) ?_
  obtain ⟨q, hc, hf⟩ := bd hf
  refine gCallVI X mOK rfl (vX11_readCell hc) gRX11_X11_readCell hdX11_readCell rfl ⟨by decide, by decide⟩ hP hS (mrec hP) hl.1 (Nat.le_of_ble_eq_true rfl) ⟨Nat.le_refl _, Nat.le_refl _⟩ dX11_readSetupStatement_77 (As := [.int 3, .int 23]) (rest := []) rfl (fun H locs hP hS => ?_)
  exact kX11_readSetupStatement_80 X hret hf hP hS (lv_sub hl [0] rfl)
set_option maxRecDepth 10000 in
theorem kX11_readSetupStatement_70 {r : Int32} {S1 : MS} {M : MS} {s0 : Int32} {H : Heap} {locs : List Loc} {ls : Array Slot} (X : gX p s m args c cX11_readSetupStatement 1 RX11 (kR kTab kA)) (hret : gRetI p l e (rmL 7 0 0) s m args below meth c cX11_readSetupStatement (mΩ ad) (mP dC dI cI kA ad) Q r S1) (hf : fX11_readSetupStatement_70 M s0 = some (r, S1)) (hP : (mP dC dI cI kA ad) M s H) (hS : va_S (Fr (mΩ ad) s.heap.size) s.heap H locs) (hl : lv_has ls 1 [(0, .ref (ad 25))]) : W p l e (rmL 7 0 0) s m args below meth c H locs 0 0 Q (F0 m 70 ls [.int s0]) := by
  have hx := X.hx
  have hb := X.hb
  have hown := X.hown
  have hts := X.hts
  rw [fX11_readSetupStatement_70] at hf
  refine lv_if_eq (tgt := 83) hx hb dX11_readSetupStatement_70 (by decide) (fun c1 => ?_) (fun c1 => ?_)
  · exact kX11_readSetupStatement_83 X hret (ifp c1 hf) hP hS (lv_sub hl [0] rfl)
  · exact kX11_readSetupStatement_73 X hret (ifn c1 hf) hP hS (lv_sub hl [0] rfl)
set_option maxRecDepth 10000 in
theorem kX11_readSetupStatement_63 {r : Int32} {S1 : MS} {M : MS} {H : Heap} {locs : List Loc} {ls : Array Slot} (X : gX p s m args c cX11_readSetupStatement 1 RX11 (kR kTab kA)) (hret : gRetI p l e (rmL 7 0 0) s m args below meth c cX11_readSetupStatement (mΩ ad) (mP dC dI cI kA ad) Q r S1) (hf : fX11_readSetupStatement_63 M = some (r, S1)) (hP : (mP dC dI cI kA ad) M s H) (hS : va_S (Fr (mΩ ad) s.heap.size) s.heap H locs) (hl : lv_has ls 1 [(0, .ref (ad 25))]) : W p l e (rmL 7 0 0) s m args below meth c H locs 0 0 Q (F0 m 63 ls []) := by
  have hx := X.hx
  have hb := X.hb
  have hown := X.hown
  have hts := X.hts
  rw [fX11_readSetupStatement_63] at hf
  refine lv_aload_n hx hb dX11_readSetupStatement_63 rfl (lv_at hl 0 rfl) ?_
  refine lv_ldcwS hx hb hown (kRat (q := ("GranaryWatchModel", 289, "hour", [104, 111, 117, 114])) X.ks 34 rfl) dX11_readSetupStatement_64 ?_
  obtain ⟨q, hc, hf⟩ := bd hf
  refine gCallVR X rfl (vX11_isWord hc) gRX11_X11_isWord hdX11_isWord rfl ⟨by decide, by decide⟩ (gBS_blind mOK) (gBS_at mOK X hP (mstr (q := ("GranaryWatchModel", 289, "hour", [104, 111, 117, 114])) hP 34 rfl)) (mrec hP) hl.1 (Nat.le_of_ble_eq_true rfl) ⟨Nat.le_refl _, Nat.le_refl _⟩ dX11_readSetupStatement_67 (As := [.ref (kA RX11 289)]) (rest := []) rfl ?_
  exact kX11_readSetupStatement_70 X hret hf hP hS (lv_sub hl [0] rfl)
set_option maxRecDepth 10000 in
theorem kX11_readSetupStatement_62 {r : Int32} {S1 : MS} {M : MS} {s0 : Int32} {H : Heap} {locs : List Loc} {ls : Array Slot} (X : gX p s m args c cX11_readSetupStatement 1 RX11 (kR kTab kA)) (hret : gRetI p l e (rmL 7 0 0) s m args below meth c cX11_readSetupStatement (mΩ ad) (mP dC dI cI kA ad) Q r S1) (hf : fX11_readSetupStatement_62 M s0 = some (r, S1)) (hP : (mP dC dI cI kA ad) M s H) (hS : va_S (Fr (mΩ ad) s.heap.size) s.heap H locs) (hl : lv_has ls 1 [(0, .ref (ad 25))]) : W p l e (rmL 7 0 0) s m args below meth c H locs 0 0 Q (F0 m 62 ls [.int s0]) := by
  have hx := X.hx
  have hb := X.hb
  have hown := X.hown
  have hts := X.hts
  rw [fX11_readSetupStatement_62] at hf
  cases hf
  exact hret _ _ _ _ dX11_readSetupStatement_62 hP hS
set_option maxRecDepth 10000 in
theorem kX11_readSetupStatement_55 {r : Int32} {S1 : MS} {M : MS} {H : Heap} {locs : List Loc} {ls : Array Slot} (X : gX p s m args c cX11_readSetupStatement 1 RX11 (kR kTab kA)) (hret : gRetI p l e (rmL 7 0 0) s m args below meth c cX11_readSetupStatement (mΩ ad) (mP dC dI cI kA ad) Q r S1) (hf : fX11_readSetupStatement_55 M = some (r, S1)) (hP : (mP dC dI cI kA ad) M s H) (hS : va_S (Fr (mΩ ad) s.heap.size) s.heap H locs) (hl : lv_has ls 1 [(0, .ref (ad 25))]) : W p l e (rmL 7 0 0) s m args below meth c H locs 0 0 Q (F0 m 55 ls []) := by
  have hx := X.hx
  have hb := X.hb
  have hown := X.hown
  have hts := X.hts
  rw [fX11_readSetupStatement_55] at hf
  refine lv_aload_n hx hb dX11_readSetupStatement_55 rfl (lv_at hl 0 rfl) ?_
  refine lv_iconst (v := 4) hx hb dX11_readSetupStatement_56 (by decide) ?_
  refine lv_bipush (v := 9) hx hb dX11_readSetupStatement_57 (by decide) ?_
  obtain ⟨q, hc, hf⟩ := bd hf
  refine gCallVI X mOK rfl (vX11_readCell hc) gRX11_X11_readCell hdX11_readCell rfl ⟨by decide, by decide⟩ hP hS (mrec hP) hl.1 (Nat.le_of_ble_eq_true rfl) ⟨Nat.le_refl _, Nat.le_refl _⟩ dX11_readSetupStatement_59 (As := [.int 4, .int 9]) (rest := []) rfl (fun H locs hP hS => ?_)
  exact kX11_readSetupStatement_62 X hret hf hP hS (lv_sub hl [0] rfl)
set_option maxRecDepth 10000 in
theorem kX11_readSetupStatement_52 {r : Int32} {S1 : MS} {M : MS} {s0 : Int32} {H : Heap} {locs : List Loc} {ls : Array Slot} (X : gX p s m args c cX11_readSetupStatement 1 RX11 (kR kTab kA)) (hret : gRetI p l e (rmL 7 0 0) s m args below meth c cX11_readSetupStatement (mΩ ad) (mP dC dI cI kA ad) Q r S1) (hf : fX11_readSetupStatement_52 M s0 = some (r, S1)) (hP : (mP dC dI cI kA ad) M s H) (hS : va_S (Fr (mΩ ad) s.heap.size) s.heap H locs) (hl : lv_has ls 1 [(0, .ref (ad 25))]) : W p l e (rmL 7 0 0) s m args below meth c H locs 0 0 Q (F0 m 52 ls [.int s0]) := by
  have hx := X.hx
  have hb := X.hb
  have hown := X.hown
  have hts := X.hts
  rw [fX11_readSetupStatement_52] at hf
  refine lv_if_eq (tgt := 63) hx hb dX11_readSetupStatement_52 (by decide) (fun c1 => ?_) (fun c1 => ?_)
  · exact kX11_readSetupStatement_63 X hret (ifp c1 hf) hP hS (lv_sub hl [0] rfl)
  · exact kX11_readSetupStatement_55 X hret (ifn c1 hf) hP hS (lv_sub hl [0] rfl)
set_option maxRecDepth 10000 in
theorem kX11_readSetupStatement_45 {r : Int32} {S1 : MS} {M : MS} {H : Heap} {locs : List Loc} {ls : Array Slot} (X : gX p s m args c cX11_readSetupStatement 1 RX11 (kR kTab kA)) (hret : gRetI p l e (rmL 7 0 0) s m args below meth c cX11_readSetupStatement (mΩ ad) (mP dC dI cI kA ad) Q r S1) (hf : fX11_readSetupStatement_45 M = some (r, S1)) (hP : (mP dC dI cI kA ad) M s H) (hS : va_S (Fr (mΩ ad) s.heap.size) s.heap H locs) (hl : lv_has ls 1 [(0, .ref (ad 25))]) : W p l e (rmL 7 0 0) s m args below meth c H locs 0 0 Q (F0 m 45 ls []) := by
  have hx := X.hx
  have hb := X.hb
  have hown := X.hown
  have hts := X.hts
  rw [fX11_readSetupStatement_45] at hf
  refine lv_aload_n hx hb dX11_readSetupStatement_45 rfl (lv_at hl 0 rfl) ?_
  refine lv_ldcwS hx hb hown (kRat (q := ("GranaryWatchModel", 284, "milk", [109, 105, 108, 107])) X.ks 33 rfl) dX11_readSetupStatement_46 ?_
  obtain ⟨q, hc, hf⟩ := bd hf
  refine gCallVR X rfl (vX11_isWord hc) gRX11_X11_isWord hdX11_isWord rfl ⟨by decide, by decide⟩ (gBS_blind mOK) (gBS_at mOK X hP (mstr (q := ("GranaryWatchModel", 284, "milk", [109, 105, 108, 107])) hP 33 rfl)) (mrec hP) hl.1 (Nat.le_of_ble_eq_true rfl) ⟨Nat.le_refl _, Nat.le_refl _⟩ dX11_readSetupStatement_49 (As := [.ref (kA RX11 284)]) (rest := []) rfl ?_
  exact kX11_readSetupStatement_52 X hret hf hP hS (lv_sub hl [0] rfl)
set_option maxRecDepth 10000 in
theorem kX11_readSetupStatement_44 {r : Int32} {S1 : MS} {M : MS} {s0 : Int32} {H : Heap} {locs : List Loc} {ls : Array Slot} (X : gX p s m args c cX11_readSetupStatement 1 RX11 (kR kTab kA)) (hret : gRetI p l e (rmL 7 0 0) s m args below meth c cX11_readSetupStatement (mΩ ad) (mP dC dI cI kA ad) Q r S1) (hf : fX11_readSetupStatement_44 M s0 = some (r, S1)) (hP : (mP dC dI cI kA ad) M s H) (hS : va_S (Fr (mΩ ad) s.heap.size) s.heap H locs) (hl : lv_has ls 1 [(0, .ref (ad 25))]) : W p l e (rmL 7 0 0) s m args below meth c H locs 0 0 Q (F0 m 44 ls [.int s0]) := by
  have hx := X.hx
  have hb := X.hb
  have hown := X.hown
  have hts := X.hts
  rw [fX11_readSetupStatement_44] at hf
  cases hf
  exact hret _ _ _ _ dX11_readSetupStatement_44 hP hS
set_option maxRecDepth 10000 in
theorem kX11_readSetupStatement_40 {r : Int32} {S1 : MS} {M : MS} {H : Heap} {locs : List Loc} {ls : Array Slot} (X : gX p s m args c cX11_readSetupStatement 1 RX11 (kR kTab kA)) (hret : gRetI p l e (rmL 7 0 0) s m args below meth c cX11_readSetupStatement (mΩ ad) (mP dC dI cI kA ad) Q r S1) (hf : fX11_readSetupStatement_40 M = some (r, S1)) (hP : (mP dC dI cI kA ad) M s H) (hS : va_S (Fr (mΩ ad) s.heap.size) s.heap H locs) (hl : lv_has ls 1 [(0, .ref (ad 25))]) : W p l e (rmL 7 0 0) s m args below meth c H locs 0 0 Q (F0 m 40 ls []) := by
  have hx := X.hx
  have hb := X.hb
  have hown := X.hown
  have hts := X.hts
  rw [fX11_readSetupStatement_40] at hf
  refine lv_aload_n hx hb dX11_readSetupStatement_40 rfl (lv_at hl 0 rfl) ?_
  obtain ⟨q, hc, hf⟩ := bd hf
  refine gCallVI X mOK rfl (vX11_readShift hc) gRX11_X11_readShift hdX11_readShift rfl ⟨by decide, by decide⟩ hP hS (mrec hP) hl.1 (Nat.le_of_ble_eq_true rfl) ⟨Nat.le_refl _, Nat.le_refl _⟩ dX11_readSetupStatement_41 (As := []) (rest := []) rfl (fun H locs hP hS => ?_)
  exact kX11_readSetupStatement_44 X hret hf hP hS (lv_sub hl [0] rfl)
set_option maxRecDepth 10000 in
theorem kX11_readSetupStatement_37 {r : Int32} {S1 : MS} {M : MS} {s0 : Int32} {H : Heap} {locs : List Loc} {ls : Array Slot} (X : gX p s m args c cX11_readSetupStatement 1 RX11 (kR kTab kA)) (hret : gRetI p l e (rmL 7 0 0) s m args below meth c cX11_readSetupStatement (mΩ ad) (mP dC dI cI kA ad) Q r S1) (hf : fX11_readSetupStatement_37 M s0 = some (r, S1)) (hP : (mP dC dI cI kA ad) M s H) (hS : va_S (Fr (mΩ ad) s.heap.size) s.heap H locs) (hl : lv_has ls 1 [(0, .ref (ad 25))]) : W p l e (rmL 7 0 0) s m args below meth c H locs 0 0 Q (F0 m 37 ls [.int s0]) := by
  have hx := X.hx
  have hb := X.hb
  have hown := X.hown
  have hts := X.hts
  rw [fX11_readSetupStatement_37] at hf
  refine lv_if_eq (tgt := 45) hx hb dX11_readSetupStatement_37 (by decide) (fun c1 => ?_) (fun c1 => ?_)
  · exact kX11_readSetupStatement_45 X hret (ifp c1 hf) hP hS (lv_sub hl [0] rfl)
  · exact kX11_readSetupStatement_40 X hret (ifn c1 hf) hP hS (lv_sub hl [0] rfl)
set_option maxRecDepth 10000 in
theorem kX11_readSetupStatement_30 {r : Int32} {S1 : MS} {M : MS} {H : Heap} {locs : List Loc} {ls : Array Slot} (X : gX p s m args c cX11_readSetupStatement 1 RX11 (kR kTab kA)) (hret : gRetI p l e (rmL 7 0 0) s m args below meth c cX11_readSetupStatement (mΩ ad) (mP dC dI cI kA ad) Q r S1) (hf : fX11_readSetupStatement_30 M = some (r, S1)) (hP : (mP dC dI cI kA ad) M s H) (hS : va_S (Fr (mΩ ad) s.heap.size) s.heap H locs) (hl : lv_has ls 1 [(0, .ref (ad 25))]) : W p l e (rmL 7 0 0) s m args below meth c H locs 0 0 Q (F0 m 30 ls []) := by
  have hx := X.hx
  have hb := X.hb
  have hown := X.hown
  have hts := X.hts
  rw [fX11_readSetupStatement_30] at hf
  refine lv_aload_n hx hb dX11_readSetupStatement_30 rfl (lv_at hl 0 rfl) ?_
  refine lv_ldcwS hx hb hown (kRat (q := ("GranaryWatchModel", 279, "shift", [115, 104, 105, 102, 116])) X.ks 32 rfl) dX11_readSetupStatement_31 ?_
  obtain ⟨q, hc, hf⟩ := bd hf
  refine gCallVR X rfl (vX11_isWord hc) gRX11_X11_isWord hdX11_isWord rfl ⟨by decide, by decide⟩ (gBS_blind mOK) (gBS_at mOK X hP (mstr (q := ("GranaryWatchModel", 279, "shift", [115, 104, 105, 102, 116])) hP 32 rfl)) (mrec hP) hl.1 (Nat.le_of_ble_eq_true rfl) ⟨Nat.le_refl _, Nat.le_refl _⟩ dX11_readSetupStatement_34 (As := [.ref (kA RX11 279)]) (rest := []) rfl ?_
  exact kX11_readSetupStatement_37 X hret hf hP hS (lv_sub hl [0] rfl)
set_option maxRecDepth 10000 in
theorem kX11_readSetupStatement_29 {r : Int32} {S1 : MS} {M : MS} {s0 : Int32} {H : Heap} {locs : List Loc} {ls : Array Slot} (X : gX p s m args c cX11_readSetupStatement 1 RX11 (kR kTab kA)) (hret : gRetI p l e (rmL 7 0 0) s m args below meth c cX11_readSetupStatement (mΩ ad) (mP dC dI cI kA ad) Q r S1) (hf : fX11_readSetupStatement_29 M s0 = some (r, S1)) (hP : (mP dC dI cI kA ad) M s H) (hS : va_S (Fr (mΩ ad) s.heap.size) s.heap H locs) (hl : lv_has ls 1 [(0, .ref (ad 25))]) : W p l e (rmL 7 0 0) s m args below meth c H locs 0 0 Q (F0 m 29 ls [.int s0]) := by
  have hx := X.hx
  have hb := X.hb
  have hown := X.hown
  have hts := X.hts
  rw [fX11_readSetupStatement_29] at hf
  cases hf
  exact hret _ _ _ _ dX11_readSetupStatement_29 hP hS
set_option maxRecDepth 10000 in
theorem kX11_readSetupStatement_25 {r : Int32} {S1 : MS} {M : MS} {H : Heap} {locs : List Loc} {ls : Array Slot} (X : gX p s m args c cX11_readSetupStatement 1 RX11 (kR kTab kA)) (hret : gRetI p l e (rmL 7 0 0) s m args below meth c cX11_readSetupStatement (mΩ ad) (mP dC dI cI kA ad) Q r S1) (hf : fX11_readSetupStatement_25 M = some (r, S1)) (hP : (mP dC dI cI kA ad) M s H) (hS : va_S (Fr (mΩ ad) s.heap.size) s.heap H locs) (hl : lv_has ls 1 [(0, .ref (ad 25))]) : W p l e (rmL 7 0 0) s m args below meth c H locs 0 0 Q (F0 m 25 ls []) := by
  have hx := X.hx
  have hb := X.hb
  have hown := X.hown
  have hts := X.hts
  rw [fX11_readSetupStatement_25] at hf
  refine lv_aload_n hx hb dX11_readSetupStatement_25 rfl (lv_at hl 0 rfl) ?_
  obtain ⟨q, hc, hf⟩ := bd hf
  refine gCallVI X mOK rfl (vX11_readSack hc) gRX11_X11_readSack hdX11_readSack rfl ⟨by decide, by decide⟩ hP hS (mrec hP) hl.1 (Nat.le_of_ble_eq_true rfl) ⟨Nat.le_refl _, Nat.le_refl _⟩ dX11_readSetupStatement_26 (As := []) (rest := []) rfl (fun H locs hP hS => ?_)
  exact kX11_readSetupStatement_29 X hret hf hP hS (lv_sub hl [0] rfl)
set_option maxRecDepth 10000 in
theorem kX11_readSetupStatement_22 {r : Int32} {S1 : MS} {M : MS} {s0 : Int32} {H : Heap} {locs : List Loc} {ls : Array Slot} (X : gX p s m args c cX11_readSetupStatement 1 RX11 (kR kTab kA)) (hret : gRetI p l e (rmL 7 0 0) s m args below meth c cX11_readSetupStatement (mΩ ad) (mP dC dI cI kA ad) Q r S1) (hf : fX11_readSetupStatement_22 M s0 = some (r, S1)) (hP : (mP dC dI cI kA ad) M s H) (hS : va_S (Fr (mΩ ad) s.heap.size) s.heap H locs) (hl : lv_has ls 1 [(0, .ref (ad 25))]) : W p l e (rmL 7 0 0) s m args below meth c H locs 0 0 Q (F0 m 22 ls [.int s0]) := by
  have hx := X.hx
  have hb := X.hb
  have hown := X.hown
  have hts := X.hts
  rw [fX11_readSetupStatement_22] at hf
  refine lv_if_eq (tgt := 30) hx hb dX11_readSetupStatement_22 (by decide) (fun c1 => ?_) (fun c1 => ?_)
  · exact kX11_readSetupStatement_30 X hret (ifp c1 hf) hP hS (lv_sub hl [0] rfl)
  · exact kX11_readSetupStatement_25 X hret (ifn c1 hf) hP hS (lv_sub hl [0] rfl)
set_option maxRecDepth 10000 in
theorem kX11_readSetupStatement_15 {r : Int32} {S1 : MS} {M : MS} {H : Heap} {locs : List Loc} {ls : Array Slot} (X : gX p s m args c cX11_readSetupStatement 1 RX11 (kR kTab kA)) (hret : gRetI p l e (rmL 7 0 0) s m args below meth c cX11_readSetupStatement (mΩ ad) (mP dC dI cI kA ad) Q r S1) (hf : fX11_readSetupStatement_15 M = some (r, S1)) (hP : (mP dC dI cI kA ad) M s H) (hS : va_S (Fr (mΩ ad) s.heap.size) s.heap H locs) (hl : lv_has ls 1 [(0, .ref (ad 25))]) : W p l e (rmL 7 0 0) s m args below meth c H locs 0 0 Q (F0 m 15 ls []) := by
  have hx := X.hx
  have hb := X.hb
  have hown := X.hown
  have hts := X.hts
  rw [fX11_readSetupStatement_15] at hf
  refine lv_aload_n hx hb dX11_readSetupStatement_15 rfl (lv_at hl 0 rfl) ?_
  refine lv_ldcwS hx hb hown (kRat (q := ("GranaryWatchModel", 274, "sack", [115, 97, 99, 107])) X.ks 31 rfl) dX11_readSetupStatement_16 ?_
  obtain ⟨q, hc, hf⟩ := bd hf
  refine gCallVR X rfl (vX11_isWord hc) gRX11_X11_isWord hdX11_isWord rfl ⟨by decide, by decide⟩ (gBS_blind mOK) (gBS_at mOK X hP (mstr (q := ("GranaryWatchModel", 274, "sack", [115, 97, 99, 107])) hP 31 rfl)) (mrec hP) hl.1 (Nat.le_of_ble_eq_true rfl) ⟨Nat.le_refl _, Nat.le_refl _⟩ dX11_readSetupStatement_19 (As := [.ref (kA RX11 274)]) (rest := []) rfl ?_
  exact kX11_readSetupStatement_22 X hret hf hP hS (lv_sub hl [0] rfl)
set_option maxRecDepth 10000 in
theorem kX11_readSetupStatement_14 {r : Int32} {S1 : MS} {M : MS} {s0 : Int32} {H : Heap} {locs : List Loc} {ls : Array Slot} (X : gX p s m args c cX11_readSetupStatement 1 RX11 (kR kTab kA)) (hret : gRetI p l e (rmL 7 0 0) s m args below meth c cX11_readSetupStatement (mΩ ad) (mP dC dI cI kA ad) Q r S1) (hf : fX11_readSetupStatement_14 M s0 = some (r, S1)) (hP : (mP dC dI cI kA ad) M s H) (hS : va_S (Fr (mΩ ad) s.heap.size) s.heap H locs) (hl : lv_has ls 1 [(0, .ref (ad 25))]) : W p l e (rmL 7 0 0) s m args below meth c H locs 0 0 Q (F0 m 14 ls [.int s0]) := by
  have hx := X.hx
  have hb := X.hb
  have hown := X.hown
  have hts := X.hts
  rw [fX11_readSetupStatement_14] at hf
  cases hf
  exact hret _ _ _ _ dX11_readSetupStatement_14 hP hS
set_option maxRecDepth 10000 in
theorem kX11_readSetupStatement_10 {r : Int32} {S1 : MS} {M : MS} {H : Heap} {locs : List Loc} {ls : Array Slot} (X : gX p s m args c cX11_readSetupStatement 1 RX11 (kR kTab kA)) (hret : gRetI p l e (rmL 7 0 0) s m args below meth c cX11_readSetupStatement (mΩ ad) (mP dC dI cI kA ad) Q r S1) (hf : fX11_readSetupStatement_10 M = some (r, S1)) (hP : (mP dC dI cI kA ad) M s H) (hS : va_S (Fr (mΩ ad) s.heap.size) s.heap H locs) (hl : lv_has ls 1 [(0, .ref (ad 25))]) : W p l e (rmL 7 0 0) s m args below meth c H locs 0 0 Q (F0 m 10 ls []) := by
  have hx := X.hx
  have hb := X.hb
  have hown := X.hown
  have hts := X.hts
  rw [fX11_readSetupStatement_10] at hf
  refine lv_aload_n hx hb dX11_readSetupStatement_10 rfl (lv_at hl 0 rfl) ?_
  obtain ⟨q, hc, hf⟩ := bd hf
  refine gCallVI X mOK rfl (vX11_readCat hc) gRX11_X11_readCat hdX11_readCat rfl ⟨by decide, by decide⟩ hP hS (mrec hP) hl.1 (Nat.le_of_ble_eq_true rfl) ⟨Nat.le_refl _, Nat.le_refl _⟩ dX11_readSetupStatement_11 (As := []) (rest := []) rfl (fun H locs hP hS => ?_)
  exact kX11_readSetupStatement_14 X hret hf hP hS (lv_sub hl [0] rfl)
set_option maxRecDepth 10000 in
theorem kX11_readSetupStatement_7 {r : Int32} {S1 : MS} {M : MS} {s0 : Int32} {H : Heap} {locs : List Loc} {ls : Array Slot} (X : gX p s m args c cX11_readSetupStatement 1 RX11 (kR kTab kA)) (hret : gRetI p l e (rmL 7 0 0) s m args below meth c cX11_readSetupStatement (mΩ ad) (mP dC dI cI kA ad) Q r S1) (hf : fX11_readSetupStatement_7 M s0 = some (r, S1)) (hP : (mP dC dI cI kA ad) M s H) (hS : va_S (Fr (mΩ ad) s.heap.size) s.heap H locs) (hl : lv_has ls 1 [(0, .ref (ad 25))]) : W p l e (rmL 7 0 0) s m args below meth c H locs 0 0 Q (F0 m 7 ls [.int s0]) := by
  have hx := X.hx
  have hb := X.hb
  have hown := X.hown
  have hts := X.hts
  rw [fX11_readSetupStatement_7] at hf
  refine lv_if_eq (tgt := 15) hx hb dX11_readSetupStatement_7 (by decide) (fun c1 => ?_) (fun c1 => ?_)
  · exact kX11_readSetupStatement_15 X hret (ifp c1 hf) hP hS (lv_sub hl [0] rfl)
  · exact kX11_readSetupStatement_10 X hret (ifn c1 hf) hP hS (lv_sub hl [0] rfl)
set_option maxRecDepth 10000 in
theorem kX11_readSetupStatement_0 {r : Int32} {S1 : MS} {M : MS} {H : Heap} {locs : List Loc} {ls : Array Slot} (X : gX p s m args c cX11_readSetupStatement 1 RX11 (kR kTab kA)) (hret : gRetI p l e (rmL 7 0 0) s m args below meth c cX11_readSetupStatement (mΩ ad) (mP dC dI cI kA ad) Q r S1) (hf : fX11_readSetupStatement_0 M = some (r, S1)) (hP : (mP dC dI cI kA ad) M s H) (hS : va_S (Fr (mΩ ad) s.heap.size) s.heap H locs) (hl : lv_has ls 1 [(0, .ref (ad 25))]) : W p l e (rmL 7 0 0) s m args below meth c H locs 0 0 Q (F0 m 0 ls []) := by
  have hx := X.hx
  have hb := X.hb
  have hown := X.hown
  have hts := X.hts
  rw [fX11_readSetupStatement_0] at hf
  refine lv_aload_n hx hb dX11_readSetupStatement_0 rfl (lv_at hl 0 rfl) ?_
  refine lv_ldcwS hx hb hown (kRat (q := ("GranaryWatchModel", 269, "cat", [99, 97, 116])) X.ks 30 rfl) dX11_readSetupStatement_1 ?_
  obtain ⟨q, hc, hf⟩ := bd hf
  refine gCallVR X rfl (vX11_isWord hc) gRX11_X11_isWord hdX11_isWord rfl ⟨by decide, by decide⟩ (gBS_blind mOK) (gBS_at mOK X hP (mstr (q := ("GranaryWatchModel", 269, "cat", [99, 97, 116])) hP 30 rfl)) (mrec hP) hl.1 (Nat.le_of_ble_eq_true rfl) ⟨Nat.le_refl _, Nat.le_refl _⟩ dX11_readSetupStatement_4 (As := [.ref (kA RX11 269)]) (rest := []) rfl ?_
  exact kX11_readSetupStatement_7 X hret hf hP hS (lv_sub hl [0] rfl)
theorem vX11_readSetupStatement {l : Launch} {dC : Nat → ClassId} {dI : Nat → Nat → Nat} {cI : ClassId} {kA : String → Nat → Nat} {ad : Nat → Nat} {M S1 : MS} {r : Int32} (hf : fX11_readSetupStatement M  = some (r, S1)) : gMetI l yX11_readSetupStatement cX11_readSetupStatement 1 (some .boolean) 7 (mΩ ad) (mP dC dI cI kA ad) (kR kTab kA) [.ref (ad 25)] M r S1 := gEntryI (ty := .boolean) (by decide) rfl (bz_n hf) mOK (Nat.le_of_ble_eq_true rfl) (fun p e s m args below meth c Q ls X hP hS hret hl => 
  kX11_readSetupStatement_0 X hret (bz_f hf) hP hS (lv_sub hl [0] rfl))
set_option maxRecDepth 10000 in
theorem kX11_readScriptStatement_100 {r : Int32} {S1 : MS} {M : MS} {s0 : Int32} {H : Heap} {locs : List Loc} {ls : Array Slot} (X : gX p s m args c cX11_readScriptStatement 2 RX11 (kR kTab kA)) (hret : gRetI p l e (rmL 7 0 0) s m args below meth c cX11_readScriptStatement (mΩ ad) (mP dC dI cI kA ad) Q r S1) (hf : fX11_readScriptStatement_100 M s0 = some (r, S1)) (hP : (mP dC dI cI kA ad) M s H) (hS : va_S (Fr (mΩ ad) s.heap.size) s.heap H locs) (hl : lv_has ls 2 [(0, .ref (ad 25))]) : W p l e (rmL 7 0 0) s m args below meth c H locs 0 0 Q (F0 m 100 ls [.int s0]) := by
  have hx := X.hx
  have hb := X.hb
  have hown := X.hown
  have hts := X.hts
  rw [fX11_readScriptStatement_100] at hf
  cases hf
  exact hret _ _ _ _ dX11_readScriptStatement_100 hP hS
set_option maxRecDepth 10000 in
theorem kX11_readScriptStatement_96 {r : Int32} {S1 : MS} {M : MS} {H : Heap} {locs : List Loc} {ls : Array Slot} (X : gX p s m args c cX11_readScriptStatement 2 RX11 (kR kTab kA)) (hret : gRetI p l e (rmL 7 0 0) s m args below meth c cX11_readScriptStatement (mΩ ad) (mP dC dI cI kA ad) Q r S1) (hf : fX11_readScriptStatement_96 M = some (r, S1)) (hP : (mP dC dI cI kA ad) M s H) (hS : va_S (Fr (mΩ ad) s.heap.size) s.heap H locs) (hl : lv_has ls 2 [(0, .ref (ad 25))]) : W p l e (rmL 7 0 0) s m args below meth c H locs 0 0 Q (F0 m 96 ls []) := by
  have hx := X.hx
  have hb := X.hb
  have hown := X.hown
  have hts := X.hts
  rw [fX11_readScriptStatement_96] at hf
  refine lv_aload_n hx hb dX11_readScriptStatement_96 rfl (lv_at hl 0 rfl) ?_
  obtain ⟨q, hc, hf⟩ := bd hf
  refine gCallVI X mOK rfl (vX11_takesSemicolon hc) gRX11_X11_takesSemicolon hdX11_takesSemicolon rfl ⟨by decide, by decide⟩ hP hS (mrec hP) hl.1 (Nat.le_of_ble_eq_true rfl) ⟨Nat.le_refl _, Nat.le_refl _⟩ dX11_readScriptStatement_97 (As := []) (rest := []) rfl (fun H locs hP hS => ?_)
  exact kX11_readScriptStatement_100 X hret hf hP hS (lv_sub hl [0] rfl)
set_option maxRecDepth 10000 in
theorem kX11_readScriptStatement_86 {r : Int32} {S1 : MS} {M : MS} {H : Heap} {locs : List Loc} {ls : Array Slot} (X : gX p s m args c cX11_readScriptStatement 2 RX11 (kR kTab kA)) (hret : gRetI p l e (rmL 7 0 0) s m args below meth c cX11_readScriptStatement (mΩ ad) (mP dC dI cI kA ad) Q r S1) (hf : fX11_readScriptStatement_86 M = some (r, S1)) (hP : (mP dC dI cI kA ad) M s H) (hS : va_S (Fr (mΩ ad) s.heap.size) s.heap H locs) (hl : lv_has ls 2 [(0, .ref (ad 25))]) : W p l e (rmL 7 0 0) s m args below meth c H locs 0 0 Q (F0 m 86 ls []) := by
  have hx := X.hx
  have hb := X.hb
  have hown := X.hown
  have hts := X.hts
  rw [fX11_readScriptStatement_86] at hf
  refine lv_aload_n hx hb dX11_readScriptStatement_86 rfl (lv_at hl 0 rfl) ?_
  refine lv_dup hx hb dX11_readScriptStatement_87 rfl ?_
  refine mr_get (k := 22) X hP (by decide) rfl rfl tw1687 dX11_readScriptStatement_88 ?_
  refine lv_iconst (v := 1) hx hb dX11_readScriptStatement_91 (by decide) ?_
  refine lv_iadd hx hb dX11_readScriptStatement_92 ?_
  refine mr_put (k := 22) X hP hS (by decide) rfl rfl rfl rfl tw1687 dX11_readScriptStatement_93 (fun H locs hP hS => ?_)
  exact kX11_readScriptStatement_96 X hret hf hP hS (lv_sub hl [0] rfl)
set_option maxRecDepth 10000 in
theorem kX11_readScriptStatement_67 {r : Int32} {S1 : MS} {M : MS} {H : Heap} {locs : List Loc} {ls : Array Slot} (X : gX p s m args c cX11_readScriptStatement 2 RX11 (kR kTab kA)) (hret : gRetI p l e (rmL 7 0 0) s m args below meth c cX11_readScriptStatement (mΩ ad) (mP dC dI cI kA ad) Q r S1) (hf : fX11_readScriptStatement_67 M = some (r, S1)) (hP : (mP dC dI cI kA ad) M s H) (hS : va_S (Fr (mΩ ad) s.heap.size) s.heap H locs) (hl : lv_has ls 2 [(0, .ref (ad 25))]) : W p l e (rmL 7 0 0) s m args below meth c H locs 0 0 Q (F0 m 67 ls []) := by
  have hx := X.hx
  have hb := X.hb
  have hown := X.hown
  have hts := X.hts
  rw [fX11_readScriptStatement_67] at hf
  refine lv_aload_n hx hb dX11_readScriptStatement_67 rfl (lv_at hl 0 rfl) ?_
  refine mr_get (k := 21) X hP (by decide) rfl rfl tw1686 dX11_readScriptStatement_68 ?_
  refine lv_iconst (v := 2) hx hb dX11_readScriptStatement_71 (by decide) ?_
  refine lv_aload_n hx hb dX11_readScriptStatement_72 rfl (lv_at hl 0 rfl) ?_
  refine mr_get (k := 22) X hP (by decide) rfl rfl tw1687 dX11_readScriptStatement_73 ?_
  refine lv_imul hx hb dX11_readScriptStatement_76 ?_
  refine lv_iconst (v := 1) hx hb dX11_readScriptStatement_77 (by decide) ?_
  refine lv_iadd hx hb dX11_readScriptStatement_78 ?_
  refine lv_aload_n hx hb dX11_readScriptStatement_79 rfl (lv_at hl 0 rfl) ?_
  refine mr_get (k := 19) X hP (by decide) rfl rfl tw1684 dX11_readScriptStatement_80 ?_
  refine lv_iconst (v := 1) hx hb dX11_readScriptStatement_83 (by decide) ?_
  obtain ⟨g1, hf⟩ := gd hf
  refine mr_ald (a := 19) X hP rfl g1 dX11_readScriptStatement_84 ?_
  obtain ⟨g2, hf⟩ := gd hf
  refine mr_ast (a := 21) X hP hS rfl g2 dX11_readScriptStatement_85 (fun H locs hP hS => ?_)
  exact kX11_readScriptStatement_86 X hret hf hP hS (lv_sub hl [0] rfl)
set_option maxRecDepth 10000 in
theorem kX11_readScriptStatement_50 {r : Int32} {S1 : MS} {M : MS} {H : Heap} {locs : List Loc} {ls : Array Slot} (X : gX p s m args c cX11_readScriptStatement 2 RX11 (kR kTab kA)) (hret : gRetI p l e (rmL 7 0 0) s m args below meth c cX11_readScriptStatement (mΩ ad) (mP dC dI cI kA ad) Q r S1) (hf : fX11_readScriptStatement_50 M = some (r, S1)) (hP : (mP dC dI cI kA ad) M s H) (hS : va_S (Fr (mΩ ad) s.heap.size) s.heap H locs) (hl : lv_has ls 2 [(0, .ref (ad 25))]) : W p l e (rmL 7 0 0) s m args below meth c H locs 0 0 Q (F0 m 50 ls []) := by
  have hx := X.hx
  have hb := X.hb
  have hown := X.hown
  have hts := X.hts
  rw [fX11_readScriptStatement_50] at hf
  refine lv_aload_n hx hb dX11_readScriptStatement_50 rfl (lv_at hl 0 rfl) ?_
  refine mr_get (k := 21) X hP (by decide) rfl rfl tw1686 dX11_readScriptStatement_51 ?_
  refine lv_iconst (v := 2) hx hb dX11_readScriptStatement_54 (by decide) ?_
  refine lv_aload_n hx hb dX11_readScriptStatement_55 rfl (lv_at hl 0 rfl) ?_
  refine mr_get (k := 22) X hP (by decide) rfl rfl tw1687 dX11_readScriptStatement_56 ?_
  refine lv_imul hx hb dX11_readScriptStatement_59 ?_
  refine lv_aload_n hx hb dX11_readScriptStatement_60 rfl (lv_at hl 0 rfl) ?_
  refine mr_get (k := 19) X hP (by decide) rfl rfl tw1684 dX11_readScriptStatement_61 ?_
  refine lv_iconst (v := 0) hx hb dX11_readScriptStatement_64 (by decide) ?_
  obtain ⟨g1, hf⟩ := gd hf
  refine mr_ald (a := 19) X hP rfl g1 dX11_readScriptStatement_65 ?_
  obtain ⟨g2, hf⟩ := gd hf
  refine mr_ast (a := 21) X hP hS rfl g2 dX11_readScriptStatement_66 (fun H locs hP hS => ?_)
  exact kX11_readScriptStatement_67 X hret hf hP hS (lv_sub hl [0] rfl)
set_option maxRecDepth 10000 in
theorem kX11_readScriptStatement_40 {r : Int32} {S1 : MS} {M : MS} {x1 : Int32} {H : Heap} {locs : List Loc} {ls : Array Slot} (X : gX p s m args c cX11_readScriptStatement 2 RX11 (kR kTab kA)) (hret : gRetI p l e (rmL 7 0 0) s m args below meth c cX11_readScriptStatement (mΩ ad) (mP dC dI cI kA ad) Q r S1) (hf : fX11_readScriptStatement_40 M x1 = some (r, S1)) (hP : (mP dC dI cI kA ad) M s H) (hS : va_S (Fr (mΩ ad) s.heap.size) s.heap H locs) (hl : lv_has ls 2 [(0, .ref (ad 25)), (1, .int x1)]) : W p l e (rmL 7 0 0) s m args below meth c H locs 0 0 Q (F0 m 40 ls []) := by
  have hx := X.hx
  have hb := X.hb
  have hown := X.hown
  have hts := X.hts
  rw [fX11_readScriptStatement_40] at hf
  refine lv_aload_n hx hb dX11_readScriptStatement_40 rfl (lv_at hl 0 rfl) ?_
  refine mr_get (k := 20) X hP (by decide) rfl rfl tw1685 dX11_readScriptStatement_41 ?_
  refine lv_aload_n hx hb dX11_readScriptStatement_44 rfl (lv_at hl 0 rfl) ?_
  refine mr_get (k := 22) X hP (by decide) rfl rfl tw1687 dX11_readScriptStatement_45 ?_
  refine lv_iload_n hx hb dX11_readScriptStatement_48 rfl (lv_at hl 1 rfl) ?_
  obtain ⟨g1, hf⟩ := gd hf
  refine mr_ast (a := 20) X hP hS rfl g1 dX11_readScriptStatement_49 (fun H locs hP hS => ?_)
  exact kX11_readScriptStatement_50 X hret hf hP hS (lv_sub hl [0] rfl)
set_option maxRecDepth 10000 in
theorem kX11_readScriptStatement_38 {r : Int32} {S1 : MS} {M : MS} {H : Heap} {locs : List Loc} {ls : Array Slot} (X : gX p s m args c cX11_readScriptStatement 2 RX11 (kR kTab kA)) (hret : gRetI p l e (rmL 7 0 0) s m args below meth c cX11_readScriptStatement (mΩ ad) (mP dC dI cI kA ad) Q r S1) (hf : fX11_readScriptStatement_38 M = some (r, S1)) (hP : (mP dC dI cI kA ad) M s H) (hS : va_S (Fr (mΩ ad) s.heap.size) s.heap H locs) (hl : lv_has ls 2 [(0, .ref (ad 25))]) : W p l e (rmL 7 0 0) s m args below meth c H locs 0 0 Q (F0 m 38 ls []) := by
  have hx := X.hx
  have hb := X.hb
  have hown := X.hown
  have hts := X.hts
  rw [fX11_readScriptStatement_38] at hf
  refine lv_iconst (v := 0) hx hb dX11_readScriptStatement_38 (by decide) ?_
  cases hf
  exact hret _ _ _ _ dX11_readScriptStatement_39 hP hS
set_option maxRecDepth 10000 in
theorem kX11_readScriptStatement_35 {r : Int32} {S1 : MS} {M : MS} {x1 : Int32} {s0 : Int32} {H : Heap} {locs : List Loc} {ls : Array Slot} (X : gX p s m args c cX11_readScriptStatement 2 RX11 (kR kTab kA)) (hret : gRetI p l e (rmL 7 0 0) s m args below meth c cX11_readScriptStatement (mΩ ad) (mP dC dI cI kA ad) Q r S1) (hf : fX11_readScriptStatement_35 M x1 s0 = some (r, S1)) (hP : (mP dC dI cI kA ad) M s H) (hS : va_S (Fr (mΩ ad) s.heap.size) s.heap H locs) (hl : lv_has ls 2 [(0, .ref (ad 25)), (1, .int x1)]) : W p l e (rmL 7 0 0) s m args below meth c H locs 0 0 Q (F0 m 35 ls [.int s0]) := by
  have hx := X.hx
  have hb := X.hb
  have hown := X.hown
  have hts := X.hts
  rw [fX11_readScriptStatement_35] at hf
  refine lv_if_ne (tgt := 40) hx hb dX11_readScriptStatement_35 (by decide) (fun c1 => ?_) (fun c1 => ?_)
  · exact kX11_readScriptStatement_40 X hret (ifn c1 hf) hP hS (lv_sub hl [0, 1] rfl)
  · exact kX11_readScriptStatement_38 X hret (ifp c1 hf) hP hS (lv_sub hl [0] rfl)
set_option maxRecDepth 10000 in
theorem kX11_readScriptStatement_30 {r : Int32} {S1 : MS} {M : MS} {x1 : Int32} {H : Heap} {locs : List Loc} {ls : Array Slot} (X : gX p s m args c cX11_readScriptStatement 2 RX11 (kR kTab kA)) (hret : gRetI p l e (rmL 7 0 0) s m args below meth c cX11_readScriptStatement (mΩ ad) (mP dC dI cI kA ad) Q r S1) (hf : fX11_readScriptStatement_30 M x1 = some (r, S1)) (hP : (mP dC dI cI kA ad) M s H) (hS : va_S (Fr (mΩ ad) s.heap.size) s.heap H locs) (hl : lv_has ls 2 [(0, .ref (ad 25)), (1, .int x1)]) : W p l e (rmL 7 0 0) s m args below meth c H locs 0 0 Q (F0 m 30 ls []) := by
  have hx := X.hx
  have hb := X.hb
  have hown := X.hown
  have hts := X.hts
  rw [fX11_readScriptStatement_30] at hf
  refine lv_aload_n hx hb dX11_readScriptStatement_30 rfl (lv_at hl 0 rfl) ?_
  refine lv_iload_n hx hb dX11_readScriptStatement_31 rfl (lv_at hl 1 rfl) ?_
  obtain ⟨q, hc, hf⟩ := bd hf
  refine gCallVI X mOK rfl (vX11_takesRest hc) gRX11_X11_takesRest hdX11_takesRest rfl ⟨by decide, by decide⟩ hP hS (mrec hP) hl.1 (Nat.le_of_ble_eq_true rfl) ⟨Nat.le_refl _, Nat.le_refl _⟩ dX11_readScriptStatement_32 (As := [.int x1]) (rest := []) rfl (fun H locs hP hS => ?_)
  exact kX11_readScriptStatement_35 X hret hf hP hS (lv_sub hl [0, 1] rfl)
set_option maxRecDepth 10000 in
theorem kX11_readScriptStatement_29 {r : Int32} {S1 : MS} {M : MS} {s0 : Int32} {H : Heap} {locs : List Loc} {ls : Array Slot} (X : gX p s m args c cX11_readScriptStatement 2 RX11 (kR kTab kA)) (hret : gRetI p l e (rmL 7 0 0) s m args below meth c cX11_readScriptStatement (mΩ ad) (mP dC dI cI kA ad) Q r S1) (hf : fX11_readScriptStatement_29 M s0 = some (r, S1)) (hP : (mP dC dI cI kA ad) M s H) (hS : va_S (Fr (mΩ ad) s.heap.size) s.heap H locs) (hl : lv_has ls 2 [(0, .ref (ad 25))]) : W p l e (rmL 7 0 0) s m args below meth c H locs 0 0 Q (F0 m 29 ls [.int s0]) := by
  have hx := X.hx
  have hb := X.hb
  have hown := X.hown
  have hts := X.hts
  rw [fX11_readScriptStatement_29] at hf
  cases hf
  exact hret _ _ _ _ dX11_readScriptStatement_29 hP hS
set_option maxRecDepth 10000 in
theorem kX11_readScriptStatement_24 {r : Int32} {S1 : MS} {M : MS} {H : Heap} {locs : List Loc} {ls : Array Slot} (X : gX p s m args c cX11_readScriptStatement 2 RX11 (kR kTab kA)) (hret : gRetI p l e (rmL 7 0 0) s m args below meth c cX11_readScriptStatement (mΩ ad) (mP dC dI cI kA ad) Q r S1) (hf : fX11_readScriptStatement_24 M = some (r, S1)) (hP : (mP dC dI cI kA ad) M s H) (hS : va_S (Fr (mΩ ad) s.heap.size) s.heap H locs) (hl : lv_has ls 2 [(0, .ref (ad 25))]) : W p l e (rmL 7 0 0) s m args below meth c H locs 0 0 Q (F0 m 24 ls []) := by
  have hx := X.hx
  have hb := X.hb
  have hown := X.hown
  have hts := X.hts
  rw [fX11_readScriptStatement_24] at hf
  refine lv_aload_n hx hb dX11_readScriptStatement_24 rfl (lv_at hl 0 rfl) ?_
  refine lv_iconst (v := 5) hx hb dX11_readScriptStatement_25 (by decide) ?_
  obtain ⟨q, hc, hf⟩ := bd hf
  refine gCallVI X mOK rfl (vX11_failsAt hc) gRX11_X11_failsAt hdX11_failsAt rfl ⟨by decide, by decide⟩ hP hS (mrec hP) hl.1 (Nat.le_of_ble_eq_true rfl) ⟨Nat.le_refl _, Nat.le_refl _⟩ dX11_readScriptStatement_26 (As := [.int 5]) (rest := []) rfl (fun H locs hP hS => ?_)
  exact kX11_readScriptStatement_29 X hret hf hP hS (lv_sub hl [0] rfl)
set_option maxRecDepth 10000 in
theorem kX11_readScriptStatement_15 {r : Int32} {S1 : MS} {M : MS} {x1 : Int32} {H : Heap} {locs : List Loc} {ls : Array Slot} (X : gX p s m args c cX11_readScriptStatement 2 RX11 (kR kTab kA)) (hret : gRetI p l e (rmL 7 0 0) s m args below meth c cX11_readScriptStatement (mΩ ad) (mP dC dI cI kA ad) Q r S1) (hf : fX11_readScriptStatement_15 M x1 = some (r, S1)) (hP : (mP dC dI cI kA ad) M s H) (hS : va_S (Fr (mΩ ad) s.heap.size) s.heap H locs) (hl : lv_has ls 2 [(0, .ref (ad 25)), (1, .int x1)]) : W p l e (rmL 7 0 0) s m args below meth c H locs 0 0 Q (F0 m 15 ls []) := by
  have hx := X.hx
  have hb := X.hb
  have hown := X.hown
  have hts := X.hts
  rw [fX11_readScriptStatement_15] at hf
  refine lv_aload_n hx hb dX11_readScriptStatement_15 rfl (lv_at hl 0 rfl) ?_
  refine mr_get (k := 22) X hP (by decide) rfl rfl tw1687 dX11_readScriptStatement_16 ?_
  refine lv_bipush (v := 30) hx hb dX11_readScriptStatement_19 (by decide) ?_
  refine lv_icmp_ne (tgt := 30) hx hb dX11_readScriptStatement_21 (by decide) (fun c1 => ?_) (fun c1 => ?_)
  · exact kX11_readScriptStatement_30 X hret (ifn c1 hf) hP hS (lv_sub hl [0, 1] rfl)
  · exact kX11_readScriptStatement_24 X hret (ifp c1 hf) hP hS (lv_sub hl [0] rfl)
set_option maxRecDepth 10000 in
theorem kX11_readScriptStatement_14 {r : Int32} {S1 : MS} {M : MS} {s0 : Int32} {H : Heap} {locs : List Loc} {ls : Array Slot} (X : gX p s m args c cX11_readScriptStatement 2 RX11 (kR kTab kA)) (hret : gRetI p l e (rmL 7 0 0) s m args below meth c cX11_readScriptStatement (mΩ ad) (mP dC dI cI kA ad) Q r S1) (hf : fX11_readScriptStatement_14 M s0 = some (r, S1)) (hP : (mP dC dI cI kA ad) M s H) (hS : va_S (Fr (mΩ ad) s.heap.size) s.heap H locs) (hl : lv_has ls 2 [(0, .ref (ad 25))]) : W p l e (rmL 7 0 0) s m args below meth c H locs 0 0 Q (F0 m 14 ls [.int s0]) := by
  have hx := X.hx
  have hb := X.hb
  have hown := X.hown
  have hts := X.hts
  rw [fX11_readScriptStatement_14] at hf
  cases hf
  exact hret _ _ _ _ dX11_readScriptStatement_14 hP hS
set_option maxRecDepth 10000 in
theorem kX11_readScriptStatement_9 {r : Int32} {S1 : MS} {M : MS} {H : Heap} {locs : List Loc} {ls : Array Slot} (X : gX p s m args c cX11_readScriptStatement 2 RX11 (kR kTab kA)) (hret : gRetI p l e (rmL 7 0 0) s m args below meth c cX11_readScriptStatement (mΩ ad) (mP dC dI cI kA ad) Q r S1) (hf : fX11_readScriptStatement_9 M = some (r, S1)) (hP : (mP dC dI cI kA ad) M s H) (hS : va_S (Fr (mΩ ad) s.heap.size) s.heap H locs) (hl : lv_has ls 2 [(0, .ref (ad 25))]) : W p l e (rmL 7 0 0) s m args below meth c H locs 0 0 Q (F0 m 9 ls []) := by
  have hx := X.hx
  have hb := X.hb
  have hown := X.hown
  have hts := X.hts
  rw [fX11_readScriptStatement_9] at hf
  refine lv_aload_n hx hb dX11_readScriptStatement_9 rfl (lv_at hl 0 rfl) ?_
  refine lv_iconst (v := 1) hx hb dX11_readScriptStatement_10 (by decide) ?_
  obtain ⟨q, hc, hf⟩ := bd hf
  refine gCallVI X mOK rfl (vX11_failsAt hc) gRX11_X11_failsAt hdX11_failsAt rfl ⟨by decide, by decide⟩ hP hS (mrec hP) hl.1 (Nat.le_of_ble_eq_true rfl) ⟨Nat.le_refl _, Nat.le_refl _⟩ dX11_readScriptStatement_11 (As := [.int 1]) (rest := []) rfl (fun H locs hP hS => ?_)
  exact kX11_readScriptStatement_14 X hret hf hP hS (lv_sub hl [0] rfl)
set_option maxRecDepth 10000 in
theorem kX11_readScriptStatement_4 {r : Int32} {S1 : MS} {M : MS} {s0 : Int32} {H : Heap} {locs : List Loc} {ls : Array Slot} (X : gX p s m args c cX11_readScriptStatement 2 RX11 (kR kTab kA)) (hret : gRetI p l e (rmL 7 0 0) s m args below meth c cX11_readScriptStatement (mΩ ad) (mP dC dI cI kA ad) Q r S1) (hf : fX11_readScriptStatement_4 M s0 = some (r, S1)) (hP : (mP dC dI cI kA ad) M s H) (hS : va_S (Fr (mΩ ad) s.heap.size) s.heap H locs) (hl : lv_has ls 2 [(0, .ref (ad 25))]) : W p l e (rmL 7 0 0) s m args below meth c H locs 0 0 Q (F0 m 4 ls [.int s0]) := by
  have hx := X.hx
  have hb := X.hb
  have hown := X.hown
  have hts := X.hts
  rw [fX11_readScriptStatement_4] at hf
  refine lv_istore_n (lv' := [(1, .int s0), (0, .ref (ad 25))]) hx hb dX11_readScriptStatement_4 rfl hl (by decide) rfl (fun ls hl => ?_)
  refine lv_iload_n hx hb dX11_readScriptStatement_5 rfl (lv_at hl 0 rfl) ?_
  refine lv_if_ne (tgt := 15) hx hb dX11_readScriptStatement_6 (by decide) (fun c1 => ?_) (fun c1 => ?_)
  · exact kX11_readScriptStatement_15 X hret (ifn c1 hf) hP hS (lv_sub hl [1, 0] rfl)
  · exact kX11_readScriptStatement_9 X hret (ifp c1 hf) hP hS (lv_sub hl [1] rfl)
set_option maxRecDepth 10000 in
theorem kX11_readScriptStatement_0 {r : Int32} {S1 : MS} {M : MS} {H : Heap} {locs : List Loc} {ls : Array Slot} (X : gX p s m args c cX11_readScriptStatement 2 RX11 (kR kTab kA)) (hret : gRetI p l e (rmL 7 0 0) s m args below meth c cX11_readScriptStatement (mΩ ad) (mP dC dI cI kA ad) Q r S1) (hf : fX11_readScriptStatement_0 M = some (r, S1)) (hP : (mP dC dI cI kA ad) M s H) (hS : va_S (Fr (mΩ ad) s.heap.size) s.heap H locs) (hl : lv_has ls 2 [(0, .ref (ad 25))]) : W p l e (rmL 7 0 0) s m args below meth c H locs 0 0 Q (F0 m 0 ls []) := by
  have hx := X.hx
  have hb := X.hb
  have hown := X.hown
  have hts := X.hts
  rw [fX11_readScriptStatement_0] at hf
  refine lv_aload_n hx hb dX11_readScriptStatement_0 rfl (lv_at hl 0 rfl) ?_
  obtain ⟨q, hc, hf⟩ := bd hf
  refine gCallVR X rfl (vX11_scriptHere hc) gRX11_X11_scriptHere hdX11_scriptHere rfl ⟨by decide, by decide⟩ (gB_blind mOK) (gB_at mOK X hP) (mrec hP) hl.1 (Nat.le_of_ble_eq_true rfl) ⟨Nat.le_refl _, Nat.le_refl _⟩ dX11_readScriptStatement_1 (As := []) (rest := []) rfl ?_
  exact kX11_readScriptStatement_4 X hret hf hP hS (lv_sub hl [0] rfl)
theorem vX11_readScriptStatement {l : Launch} {dC : Nat → ClassId} {dI : Nat → Nat → Nat} {cI : ClassId} {kA : String → Nat → Nat} {ad : Nat → Nat} {M S1 : MS} {r : Int32} (hf : fX11_readScriptStatement M  = some (r, S1)) : gMetI l yX11_readScriptStatement cX11_readScriptStatement 2 (some .boolean) 7 (mΩ ad) (mP dC dI cI kA ad) (kR kTab kA) [.ref (ad 25)] M r S1 := gEntryI (ty := .boolean) (by decide) rfl (bz_n hf) mOK (Nat.le_of_ble_eq_true rfl) (fun p e s m args below meth c Q ls X hP hS hret hl => 
  kX11_readScriptStatement_0 X hret (bz_f hf) hP hS (lv_sub hl [0] rfl))
set_option maxRecDepth 10000 in
theorem kX11_does_91 {r : Int32} {S1 : MS} {M : MS} {s0 : Int32} {H : Heap} {locs : List Loc} {ls : Array Slot} (X : gX p s m args c cX11_does 4 RX11 (kR kTab kA)) (hret : gRetI p l e (rmL 7 0 0) s m args below meth c cX11_does (mΩ ad) (mP dC dI cI kA ad) Q r S1) (hf : fX11_does_91 M s0 = some (r, S1)) (hP : (mP dC dI cI kA ad) M s H) (hS : va_S (Fr (mΩ ad) s.heap.size) s.heap H locs) (hl : lv_has ls 4 [(0, .ref (ad 25))]) : W p l e (rmL 7 0 0) s m args below meth c H locs 0 0 Q (F0 m 91 ls [.int s0]) := by
  have hx := X.hx
  have hb := X.hb
  have hown := X.hown
  have hts := X.hts
  rw [fX11_does_91] at hf
  cases hf
  exact hret _ _ _ _ dX11_does_91 hP hS
set_option maxRecDepth 10000 in
theorem kX11_does_90 {r : Int32} {S1 : MS} {M : MS} {H : Heap} {locs : List Loc} {ls : Array Slot} (X : gX p s m args c cX11_does 4 RX11 (kR kTab kA)) (hret : gRetI p l e (rmL 7 0 0) s m args below meth c cX11_does (mΩ ad) (mP dC dI cI kA ad) Q r S1) (hf : fX11_does_90 M = some (r, S1)) (hP : (mP dC dI cI kA ad) M s H) (hS : va_S (Fr (mΩ ad) s.heap.size) s.heap H locs) (hl : lv_has ls 4 [(0, .ref (ad 25))]) : W p l e (rmL 7 0 0) s m args below meth c H locs 0 0 Q (F0 m 90 ls []) := by
  have hx := X.hx
  have hb := X.hb
  have hown := X.hown
  have hts := X.hts
  rw [fX11_does_90] at hf
  refine lv_iconst (v := 0) hx hb dX11_does_90 (by decide) ?_
  exact kX11_does_91 X hret hf hP hS (lv_sub hl [0] rfl)
set_option maxRecDepth 10000 in
theorem kX11_does_86 {r : Int32} {S1 : MS} {M : MS} {H : Heap} {locs : List Loc} {ls : Array Slot} (X : gX p s m args c cX11_does 4 RX11 (kR kTab kA)) (hret : gRetI p l e (rmL 7 0 0) s m args below meth c cX11_does (mΩ ad) (mP dC dI cI kA ad) Q r S1) (hf : fX11_does_86 M = some (r, S1)) (hP : (mP dC dI cI kA ad) M s H) (hS : va_S (Fr (mΩ ad) s.heap.size) s.heap H locs) (hl : lv_has ls 4 [(0, .ref (ad 25))]) : W p l e (rmL 7 0 0) s m args below meth c H locs 0 0 Q (F0 m 86 ls []) := by
  have hx := X.hx
  have hb := X.hb
  have hown := X.hown
  have hts := X.hts
  rw [fX11_does_86] at hf
  refine lv_iconst (v := 1) hx hb dX11_does_86 (by decide) ?_
  refine lv_goto (tgt := 91) hx hb dX11_does_87 (by decide) ?_
  exact kX11_does_91 X hret hf hP hS (lv_sub hl [0] rfl)
set_option maxRecDepth 10000 in
theorem kX11_does_83 {r : Int32} {S1 : MS} {M : MS} {s0 : Int32} {H : Heap} {locs : List Loc} {ls : Array Slot} (X : gX p s m args c cX11_does 4 RX11 (kR kTab kA)) (hret : gRetI p l e (rmL 7 0 0) s m args below meth c cX11_does (mΩ ad) (mP dC dI cI kA ad) Q r S1) (hf : fX11_does_83 M s0 = some (r, S1)) (hP : (mP dC dI cI kA ad) M s H) (hS : va_S (Fr (mΩ ad) s.heap.size) s.heap H locs) (hl : lv_has ls 4 [(0, .ref (ad 25))]) : W p l e (rmL 7 0 0) s m args below meth c H locs 0 0 Q (F0 m 83 ls [.int s0]) := by
  have hx := X.hx
  have hb := X.hb
  have hown := X.hown
  have hts := X.hts
  rw [fX11_does_83] at hf
  refine lv_if_lt (tgt := 90) hx hb dX11_does_83 (by decide) (fun c1 => ?_) (fun c1 => ?_)
  · exact kX11_does_90 X hret (ifp c1 hf) hP hS (lv_sub hl [0] rfl)
  · exact kX11_does_86 X hret (ifn c1 hf) hP hS (lv_sub hl [0] rfl)
set_option maxRecDepth 10000 in
theorem kX11_does_78 {r : Int32} {S1 : MS} {M : MS} {x2 : Int32} {H : Heap} {locs : List Loc} {ls : Array Slot} (X : gX p s m args c cX11_does 4 RX11 (kR kTab kA)) (hret : gRetI p l e (rmL 7 0 0) s m args below meth c cX11_does (mΩ ad) (mP dC dI cI kA ad) Q r S1) (hf : fX11_does_78 M x2 = some (r, S1)) (hP : (mP dC dI cI kA ad) M s H) (hS : va_S (Fr (mΩ ad) s.heap.size) s.heap H locs) (hl : lv_has ls 4 [(0, .ref (ad 25)), (2, .int x2)]) : W p l e (rmL 7 0 0) s m args below meth c H locs 0 0 Q (F0 m 78 ls []) := by
  have hx := X.hx
  have hb := X.hb
  have hown := X.hown
  have hts := X.hts
  rw [fX11_does_78] at hf
  refine lv_aload_n hx hb dX11_does_78 rfl (lv_at hl 0 rfl) ?_
  refine lv_iload_n hx hb dX11_does_79 rfl (lv_at hl 1 rfl) ?_
  obtain ⟨q, hc, hf⟩ := bd hf
  refine gCallVI X mOK rfl (vX11_passes hc) gRX11_X11_passes hdX11_passes rfl ⟨by decide, by decide⟩ hP hS (mrec hP) hl.1 (Nat.le_of_ble_eq_true rfl) ⟨Nat.le_refl _, Nat.le_refl _⟩ dX11_does_80 (As := [.int x2]) (rest := []) rfl (fun H locs hP hS => ?_)
  exact kX11_does_83 X hret hf hP hS (lv_sub hl [0] rfl)
set_option maxRecDepth 10000 in
theorem kX11_does_64 {r : Int32} {S1 : MS} {M : MS} {x2 : Int32} {H : Heap} {locs : List Loc} {ls : Array Slot} (X : gX p s m args c cX11_does 4 RX11 (kR kTab kA)) (hret : gRetI p l e (rmL 7 0 0) s m args below meth c cX11_does (mΩ ad) (mP dC dI cI kA ad) Q r S1) (hf : fX11_does_64 M x2 = some (r, S1)) (hP : (mP dC dI cI kA ad) M s H) (hS : va_S (Fr (mΩ ad) s.heap.size) s.heap H locs) (hl : lv_has ls 4 [(0, .ref (ad 25)), (2, .int x2)]) : W p l e (rmL 7 0 0) s m args below meth c H locs 0 0 Q (F0 m 64 ls []) := by
  have hx := X.hx
  have hb := X.hb
  have hown := X.hown
  have hts := X.hts
  rw [fX11_does_64] at hf
  refine lv_aload_n hx hb dX11_does_64 rfl (lv_at hl 0 rfl) ?_
  refine mr_get (k := 0) X hP (by decide) rfl rfl tw1665 dX11_does_65 ?_
  refine lv_iconst (v := 3) hx hb dX11_does_68 (by decide) ?_
  obtain ⟨g1, hf⟩ := gd hf
  refine mr_ald (a := 0) X hP rfl g1 dX11_does_69 ?_
  refine lv_iload_n hx hb dX11_does_70 rfl (lv_at hl 1 rfl) ?_
  refine lv_iadd hx hb dX11_does_71 ?_
  refine lv_sipush (v := 9999) hx hb dX11_does_72 (by decide) ?_
  refine lv_icmp_gt (tgt := 90) hx hb dX11_does_75 (by decide) (fun c1 => ?_) (fun c1 => ?_)
  · exact kX11_does_90 X hret (ifp c1 hf) hP hS (lv_sub hl [0] rfl)
  · exact kX11_does_78 X hret (ifn c1 hf) hP hS (lv_sub hl [0, 1] rfl)
set_option maxRecDepth 10000 in
theorem kX11_does_114 {r : Int32} {S1 : MS} {M : MS} {s0 : Int32} {H : Heap} {locs : List Loc} {ls : Array Slot} (X : gX p s m args c cX11_does 4 RX11 (kR kTab kA)) (hret : gRetI p l e (rmL 7 0 0) s m args below meth c cX11_does (mΩ ad) (mP dC dI cI kA ad) Q r S1) (hf : fX11_does_114 M s0 = some (r, S1)) (hP : (mP dC dI cI kA ad) M s H) (hS : va_S (Fr (mΩ ad) s.heap.size) s.heap H locs) (hl : lv_has ls 4 [(0, .ref (ad 25))]) : W p l e (rmL 7 0 0) s m args below meth c H locs 0 0 Q (F0 m 114 ls [.int s0]) := by
  have hx := X.hx
  have hb := X.hb
  have hown := X.hown
  have hts := X.hts
  rw [fX11_does_114] at hf
  cases hf
  exact hret _ _ _ _ dX11_does_114 hP hS
set_option maxRecDepth 10000 in
theorem kX11_does_113 {r : Int32} {S1 : MS} {M : MS} {H : Heap} {locs : List Loc} {ls : Array Slot} (X : gX p s m args c cX11_does 4 RX11 (kR kTab kA)) (hret : gRetI p l e (rmL 7 0 0) s m args below meth c cX11_does (mΩ ad) (mP dC dI cI kA ad) Q r S1) (hf : fX11_does_113 M = some (r, S1)) (hP : (mP dC dI cI kA ad) M s H) (hS : va_S (Fr (mΩ ad) s.heap.size) s.heap H locs) (hl : lv_has ls 4 [(0, .ref (ad 25))]) : W p l e (rmL 7 0 0) s m args below meth c H locs 0 0 Q (F0 m 113 ls []) := by
  have hx := X.hx
  have hb := X.hb
  have hown := X.hown
  have hts := X.hts
  rw [fX11_does_113] at hf
  refine lv_iconst (v := 0) hx hb dX11_does_113 (by decide) ?_
  exact kX11_does_114 X hret hf hP hS (lv_sub hl [0] rfl)
set_option maxRecDepth 10000 in
theorem kX11_does_109 {r : Int32} {S1 : MS} {M : MS} {H : Heap} {locs : List Loc} {ls : Array Slot} (X : gX p s m args c cX11_does 4 RX11 (kR kTab kA)) (hret : gRetI p l e (rmL 7 0 0) s m args below meth c cX11_does (mΩ ad) (mP dC dI cI kA ad) Q r S1) (hf : fX11_does_109 M = some (r, S1)) (hP : (mP dC dI cI kA ad) M s H) (hS : va_S (Fr (mΩ ad) s.heap.size) s.heap H locs) (hl : lv_has ls 4 [(0, .ref (ad 25))]) : W p l e (rmL 7 0 0) s m args below meth c H locs 0 0 Q (F0 m 109 ls []) := by
  have hx := X.hx
  have hb := X.hb
  have hown := X.hown
  have hts := X.hts
  rw [fX11_does_109] at hf
  refine lv_iconst (v := 1) hx hb dX11_does_109 (by decide) ?_
  refine lv_goto (tgt := 114) hx hb dX11_does_110 (by decide) ?_
  exact kX11_does_114 X hret hf hP hS (lv_sub hl [0] rfl)
set_option maxRecDepth 10000 in
theorem kX11_does_106 {r : Int32} {S1 : MS} {M : MS} {s0 : Int32} {H : Heap} {locs : List Loc} {ls : Array Slot} (X : gX p s m args c cX11_does 4 RX11 (kR kTab kA)) (hret : gRetI p l e (rmL 7 0 0) s m args below meth c cX11_does (mΩ ad) (mP dC dI cI kA ad) Q r S1) (hf : fX11_does_106 M s0 = some (r, S1)) (hP : (mP dC dI cI kA ad) M s H) (hS : va_S (Fr (mΩ ad) s.heap.size) s.heap H locs) (hl : lv_has ls 4 [(0, .ref (ad 25))]) : W p l e (rmL 7 0 0) s m args below meth c H locs 0 0 Q (F0 m 106 ls [.int s0]) := by
  have hx := X.hx
  have hb := X.hb
  have hown := X.hown
  have hts := X.hts
  rw [fX11_does_106] at hf
  refine lv_if_lt (tgt := 113) hx hb dX11_does_106 (by decide) (fun c1 => ?_) (fun c1 => ?_)
  · exact kX11_does_113 X hret (ifp c1 hf) hP hS (lv_sub hl [0] rfl)
  · exact kX11_does_109 X hret (ifn c1 hf) hP hS (lv_sub hl [0] rfl)
set_option maxRecDepth 10000 in
theorem kX11_does_100 {r : Int32} {S1 : MS} {M : MS} {x2 : Int32} {H : Heap} {locs : List Loc} {ls : Array Slot} (X : gX p s m args c cX11_does 4 RX11 (kR kTab kA)) (hret : gRetI p l e (rmL 7 0 0) s m args below meth c cX11_does (mΩ ad) (mP dC dI cI kA ad) Q r S1) (hf : fX11_does_100 M x2 = some (r, S1)) (hP : (mP dC dI cI kA ad) M s H) (hS : va_S (Fr (mΩ ad) s.heap.size) s.heap H locs) (hl : lv_has ls 4 [(0, .ref (ad 25)), (2, .int x2)]) : W p l e (rmL 7 0 0) s m args below meth c H locs 0 0 Q (F0 m 100 ls []) := by
  have hx := X.hx
  have hb := X.hb
  have hown := X.hown
  have hts := X.hts
  rw [fX11_does_100] at hf
  refine lv_aload_n hx hb dX11_does_100 rfl (lv_at hl 0 rfl) ?_
  refine lv_iload_n hx hb dX11_does_101 rfl (lv_at hl 1 rfl) ?_
  refine lv_iconst (v := 1) hx hb dX11_does_102 (by decide) ?_
  obtain ⟨q, hc, hf⟩ := bd hf
  refine gCallVI X mOK rfl (vX11_setsFlap hc) gRX11_X11_setsFlap hdX11_setsFlap rfl ⟨by decide, by decide⟩ hP hS (mrec hP) hl.1 (Nat.le_of_ble_eq_true rfl) ⟨Nat.le_refl _, Nat.le_refl _⟩ dX11_does_103 (As := [.int x2, .int 1]) (rest := []) rfl (fun H locs hP hS => ?_)
  exact kX11_does_106 X hret hf hP hS (lv_sub hl [0] rfl)
set_option maxRecDepth 10000 in
theorem kX11_does_97 {r : Int32} {S1 : MS} {M : MS} {x2 : Int32} {s0 : Int32} {H : Heap} {locs : List Loc} {ls : Array Slot} (X : gX p s m args c cX11_does 4 RX11 (kR kTab kA)) (hret : gRetI p l e (rmL 7 0 0) s m args below meth c cX11_does (mΩ ad) (mP dC dI cI kA ad) Q r S1) (hf : fX11_does_97 M x2 s0 = some (r, S1)) (hP : (mP dC dI cI kA ad) M s H) (hS : va_S (Fr (mΩ ad) s.heap.size) s.heap H locs) (hl : lv_has ls 4 [(0, .ref (ad 25)), (2, .int x2)]) : W p l e (rmL 7 0 0) s m args below meth c H locs 0 0 Q (F0 m 97 ls [.int s0]) := by
  have hx := X.hx
  have hb := X.hb
  have hown := X.hown
  have hts := X.hts
  rw [fX11_does_97] at hf
  refine lv_if_ne (tgt := 113) hx hb dX11_does_97 (by decide) (fun c1 => ?_) (fun c1 => ?_)
  · exact kX11_does_113 X hret (ifn c1 hf) hP hS (lv_sub hl [0] rfl)
  · exact kX11_does_100 X hret (ifp c1 hf) hP hS (lv_sub hl [0, 1] rfl)
set_option maxRecDepth 10000 in
theorem kX11_does_92 {r : Int32} {S1 : MS} {M : MS} {x2 : Int32} {H : Heap} {locs : List Loc} {ls : Array Slot} (X : gX p s m args c cX11_does 4 RX11 (kR kTab kA)) (hret : gRetI p l e (rmL 7 0 0) s m args below meth c cX11_does (mΩ ad) (mP dC dI cI kA ad) Q r S1) (hf : fX11_does_92 M x2 = some (r, S1)) (hP : (mP dC dI cI kA ad) M s H) (hS : va_S (Fr (mΩ ad) s.heap.size) s.heap H locs) (hl : lv_has ls 4 [(0, .ref (ad 25)), (2, .int x2)]) : W p l e (rmL 7 0 0) s m args below meth c H locs 0 0 Q (F0 m 92 ls []) := by
  have hx := X.hx
  have hb := X.hb
  have hown := X.hown
  have hts := X.hts
  rw [fX11_does_92] at hf
  refine lv_aload_n hx hb dX11_does_92 rfl (lv_at hl 0 rfl) ?_
  refine lv_iload_n hx hb dX11_does_93 rfl (lv_at hl 1 rfl) ?_
  obtain ⟨q, hc, hf⟩ := bd hf
  refine gCallVR X rfl (vX11_isOpenSack hc) gRX11_X11_isOpenSack hdX11_isOpenSack rfl ⟨by decide, by decide⟩ (gB_blind mOK) (gB_at mOK X hP) (mrec hP) hl.1 (Nat.le_of_ble_eq_true rfl) ⟨Nat.le_refl _, Nat.le_refl _⟩ dX11_does_94 (As := [.int x2]) (rest := []) rfl ?_
  exact kX11_does_97 X hret hf hP hS (lv_sub hl [0, 1] rfl)
set_option maxRecDepth 10000 in
theorem kX11_does_137 {r : Int32} {S1 : MS} {M : MS} {s0 : Int32} {H : Heap} {locs : List Loc} {ls : Array Slot} (X : gX p s m args c cX11_does 4 RX11 (kR kTab kA)) (hret : gRetI p l e (rmL 7 0 0) s m args below meth c cX11_does (mΩ ad) (mP dC dI cI kA ad) Q r S1) (hf : fX11_does_137 M s0 = some (r, S1)) (hP : (mP dC dI cI kA ad) M s H) (hS : va_S (Fr (mΩ ad) s.heap.size) s.heap H locs) (hl : lv_has ls 4 [(0, .ref (ad 25))]) : W p l e (rmL 7 0 0) s m args below meth c H locs 0 0 Q (F0 m 137 ls [.int s0]) := by
  have hx := X.hx
  have hb := X.hb
  have hown := X.hown
  have hts := X.hts
  rw [fX11_does_137] at hf
  cases hf
  exact hret _ _ _ _ dX11_does_137 hP hS
set_option maxRecDepth 10000 in
theorem kX11_does_136 {r : Int32} {S1 : MS} {M : MS} {H : Heap} {locs : List Loc} {ls : Array Slot} (X : gX p s m args c cX11_does 4 RX11 (kR kTab kA)) (hret : gRetI p l e (rmL 7 0 0) s m args below meth c cX11_does (mΩ ad) (mP dC dI cI kA ad) Q r S1) (hf : fX11_does_136 M = some (r, S1)) (hP : (mP dC dI cI kA ad) M s H) (hS : va_S (Fr (mΩ ad) s.heap.size) s.heap H locs) (hl : lv_has ls 4 [(0, .ref (ad 25))]) : W p l e (rmL 7 0 0) s m args below meth c H locs 0 0 Q (F0 m 136 ls []) := by
  have hx := X.hx
  have hb := X.hb
  have hown := X.hown
  have hts := X.hts
  rw [fX11_does_136] at hf
  refine lv_iconst (v := 0) hx hb dX11_does_136 (by decide) ?_
  exact kX11_does_137 X hret hf hP hS (lv_sub hl [0] rfl)
set_option maxRecDepth 10000 in
theorem kX11_does_132 {r : Int32} {S1 : MS} {M : MS} {H : Heap} {locs : List Loc} {ls : Array Slot} (X : gX p s m args c cX11_does 4 RX11 (kR kTab kA)) (hret : gRetI p l e (rmL 7 0 0) s m args below meth c cX11_does (mΩ ad) (mP dC dI cI kA ad) Q r S1) (hf : fX11_does_132 M = some (r, S1)) (hP : (mP dC dI cI kA ad) M s H) (hS : va_S (Fr (mΩ ad) s.heap.size) s.heap H locs) (hl : lv_has ls 4 [(0, .ref (ad 25))]) : W p l e (rmL 7 0 0) s m args below meth c H locs 0 0 Q (F0 m 132 ls []) := by
  have hx := X.hx
  have hb := X.hb
  have hown := X.hown
  have hts := X.hts
  rw [fX11_does_132] at hf
  refine lv_iconst (v := 1) hx hb dX11_does_132 (by decide) ?_
  refine lv_goto (tgt := 137) hx hb dX11_does_133 (by decide) ?_
  exact kX11_does_137 X hret hf hP hS (lv_sub hl [0] rfl)
set_option maxRecDepth 10000 in
theorem kX11_does_129 {r : Int32} {S1 : MS} {M : MS} {s0 : Int32} {H : Heap} {locs : List Loc} {ls : Array Slot} (X : gX p s m args c cX11_does 4 RX11 (kR kTab kA)) (hret : gRetI p l e (rmL 7 0 0) s m args below meth c cX11_does (mΩ ad) (mP dC dI cI kA ad) Q r S1) (hf : fX11_does_129 M s0 = some (r, S1)) (hP : (mP dC dI cI kA ad) M s H) (hS : va_S (Fr (mΩ ad) s.heap.size) s.heap H locs) (hl : lv_has ls 4 [(0, .ref (ad 25))]) : W p l e (rmL 7 0 0) s m args below meth c H locs 0 0 Q (F0 m 129 ls [.int s0]) := by
  have hx := X.hx
  have hb := X.hb
  have hown := X.hown
  have hts := X.hts
  rw [fX11_does_129] at hf
  refine lv_if_lt (tgt := 136) hx hb dX11_does_129 (by decide) (fun c1 => ?_) (fun c1 => ?_)
  · exact kX11_does_136 X hret (ifp c1 hf) hP hS (lv_sub hl [0] rfl)
  · exact kX11_does_132 X hret (ifn c1 hf) hP hS (lv_sub hl [0] rfl)
set_option maxRecDepth 10000 in
theorem kX11_does_123 {r : Int32} {S1 : MS} {M : MS} {x2 : Int32} {H : Heap} {locs : List Loc} {ls : Array Slot} (X : gX p s m args c cX11_does 4 RX11 (kR kTab kA)) (hret : gRetI p l e (rmL 7 0 0) s m args below meth c cX11_does (mΩ ad) (mP dC dI cI kA ad) Q r S1) (hf : fX11_does_123 M x2 = some (r, S1)) (hP : (mP dC dI cI kA ad) M s H) (hS : va_S (Fr (mΩ ad) s.heap.size) s.heap H locs) (hl : lv_has ls 4 [(0, .ref (ad 25)), (2, .int x2)]) : W p l e (rmL 7 0 0) s m args below meth c H locs 0 0 Q (F0 m 123 ls []) := by
  have hx := X.hx
  have hb := X.hb
  have hown := X.hown
  have hts := X.hts
  rw [fX11_does_123] at hf
  refine lv_aload_n hx hb dX11_does_123 rfl (lv_at hl 0 rfl) ?_
  refine lv_iload_n hx hb dX11_does_124 rfl (lv_at hl 1 rfl) ?_
  refine lv_iconst (v := 0) hx hb dX11_does_125 (by decide) ?_
  obtain ⟨q, hc, hf⟩ := bd hf
  refine gCallVI X mOK rfl (vX11_setsFlap hc) gRX11_X11_setsFlap hdX11_setsFlap rfl ⟨by decide, by decide⟩ hP hS (mrec hP) hl.1 (Nat.le_of_ble_eq_true rfl) ⟨Nat.le_refl _, Nat.le_refl _⟩ dX11_does_126 (As := [.int x2, .int 0]) (rest := []) rfl (fun H locs hP hS => ?_)
  exact kX11_does_129 X hret hf hP hS (lv_sub hl [0] rfl)
set_option maxRecDepth 10000 in
theorem kX11_does_120 {r : Int32} {S1 : MS} {M : MS} {x2 : Int32} {s0 : Int32} {H : Heap} {locs : List Loc} {ls : Array Slot} (X : gX p s m args c cX11_does 4 RX11 (kR kTab kA)) (hret : gRetI p l e (rmL 7 0 0) s m args below meth c cX11_does (mΩ ad) (mP dC dI cI kA ad) Q r S1) (hf : fX11_does_120 M x2 s0 = some (r, S1)) (hP : (mP dC dI cI kA ad) M s H) (hS : va_S (Fr (mΩ ad) s.heap.size) s.heap H locs) (hl : lv_has ls 4 [(0, .ref (ad 25)), (2, .int x2)]) : W p l e (rmL 7 0 0) s m args below meth c H locs 0 0 Q (F0 m 120 ls [.int s0]) := by
  have hx := X.hx
  have hb := X.hb
  have hown := X.hown
  have hts := X.hts
  rw [fX11_does_120] at hf
  refine lv_if_eq (tgt := 136) hx hb dX11_does_120 (by decide) (fun c1 => ?_) (fun c1 => ?_)
  · exact kX11_does_136 X hret (ifp c1 hf) hP hS (lv_sub hl [0] rfl)
  · exact kX11_does_123 X hret (ifn c1 hf) hP hS (lv_sub hl [0, 1] rfl)
set_option maxRecDepth 10000 in
theorem kX11_does_115 {r : Int32} {S1 : MS} {M : MS} {x2 : Int32} {H : Heap} {locs : List Loc} {ls : Array Slot} (X : gX p s m args c cX11_does 4 RX11 (kR kTab kA)) (hret : gRetI p l e (rmL 7 0 0) s m args below meth c cX11_does (mΩ ad) (mP dC dI cI kA ad) Q r S1) (hf : fX11_does_115 M x2 = some (r, S1)) (hP : (mP dC dI cI kA ad) M s H) (hS : va_S (Fr (mΩ ad) s.heap.size) s.heap H locs) (hl : lv_has ls 4 [(0, .ref (ad 25)), (2, .int x2)]) : W p l e (rmL 7 0 0) s m args below meth c H locs 0 0 Q (F0 m 115 ls []) := by
  have hx := X.hx
  have hb := X.hb
  have hown := X.hown
  have hts := X.hts
  rw [fX11_does_115] at hf
  refine lv_aload_n hx hb dX11_does_115 rfl (lv_at hl 0 rfl) ?_
  refine lv_iload_n hx hb dX11_does_116 rfl (lv_at hl 1 rfl) ?_
  obtain ⟨q, hc, hf⟩ := bd hf
  refine gCallVR X rfl (vX11_isOpenSack hc) gRX11_X11_isOpenSack hdX11_isOpenSack rfl ⟨by decide, by decide⟩ (gB_blind mOK) (gB_at mOK X hP) (mrec hP) hl.1 (Nat.le_of_ble_eq_true rfl) ⟨Nat.le_refl _, Nat.le_refl _⟩ dX11_does_117 (As := [.int x2]) (rest := []) rfl ?_
  exact kX11_does_120 X hret hf hP hS (lv_sub hl [0, 1] rfl)
set_option maxRecDepth 10000 in
theorem kX11_does_161 {r : Int32} {S1 : MS} {M : MS} {s0 : Int32} {H : Heap} {locs : List Loc} {ls : Array Slot} (X : gX p s m args c cX11_does 4 RX11 (kR kTab kA)) (hret : gRetI p l e (rmL 7 0 0) s m args below meth c cX11_does (mΩ ad) (mP dC dI cI kA ad) Q r S1) (hf : fX11_does_161 M s0 = some (r, S1)) (hP : (mP dC dI cI kA ad) M s H) (hS : va_S (Fr (mΩ ad) s.heap.size) s.heap H locs) (hl : lv_has ls 4 [(0, .ref (ad 25))]) : W p l e (rmL 7 0 0) s m args below meth c H locs 0 0 Q (F0 m 161 ls [.int s0]) := by
  have hx := X.hx
  have hb := X.hb
  have hown := X.hown
  have hts := X.hts
  rw [fX11_does_161] at hf
  cases hf
  exact hret _ _ _ _ dX11_does_161 hP hS
set_option maxRecDepth 10000 in
theorem kX11_does_160 {r : Int32} {S1 : MS} {M : MS} {H : Heap} {locs : List Loc} {ls : Array Slot} (X : gX p s m args c cX11_does 4 RX11 (kR kTab kA)) (hret : gRetI p l e (rmL 7 0 0) s m args below meth c cX11_does (mΩ ad) (mP dC dI cI kA ad) Q r S1) (hf : fX11_does_160 M = some (r, S1)) (hP : (mP dC dI cI kA ad) M s H) (hS : va_S (Fr (mΩ ad) s.heap.size) s.heap H locs) (hl : lv_has ls 4 [(0, .ref (ad 25))]) : W p l e (rmL 7 0 0) s m args below meth c H locs 0 0 Q (F0 m 160 ls []) := by
  have hx := X.hx
  have hb := X.hb
  have hown := X.hown
  have hts := X.hts
  rw [fX11_does_160] at hf
  refine lv_iconst (v := 0) hx hb dX11_does_160 (by decide) ?_
  exact kX11_does_161 X hret hf hP hS (lv_sub hl [0] rfl)
set_option maxRecDepth 10000 in
theorem kX11_does_156 {r : Int32} {S1 : MS} {M : MS} {H : Heap} {locs : List Loc} {ls : Array Slot} (X : gX p s m args c cX11_does 4 RX11 (kR kTab kA)) (hret : gRetI p l e (rmL 7 0 0) s m args below meth c cX11_does (mΩ ad) (mP dC dI cI kA ad) Q r S1) (hf : fX11_does_156 M = some (r, S1)) (hP : (mP dC dI cI kA ad) M s H) (hS : va_S (Fr (mΩ ad) s.heap.size) s.heap H locs) (hl : lv_has ls 4 [(0, .ref (ad 25))]) : W p l e (rmL 7 0 0) s m args below meth c H locs 0 0 Q (F0 m 156 ls []) := by
  have hx := X.hx
  have hb := X.hb
  have hown := X.hown
  have hts := X.hts
  rw [fX11_does_156] at hf
  refine lv_iconst (v := 1) hx hb dX11_does_156 (by decide) ?_
  refine lv_goto (tgt := 161) hx hb dX11_does_157 (by decide) ?_
  exact kX11_does_161 X hret hf hP hS (lv_sub hl [0] rfl)
set_option maxRecDepth 10000 in
theorem kX11_does_153 {r : Int32} {S1 : MS} {M : MS} {s0 : Int32} {H : Heap} {locs : List Loc} {ls : Array Slot} (X : gX p s m args c cX11_does 4 RX11 (kR kTab kA)) (hret : gRetI p l e (rmL 7 0 0) s m args below meth c cX11_does (mΩ ad) (mP dC dI cI kA ad) Q r S1) (hf : fX11_does_153 M s0 = some (r, S1)) (hP : (mP dC dI cI kA ad) M s H) (hS : va_S (Fr (mΩ ad) s.heap.size) s.heap H locs) (hl : lv_has ls 4 [(0, .ref (ad 25))]) : W p l e (rmL 7 0 0) s m args below meth c H locs 0 0 Q (F0 m 153 ls [.int s0]) := by
  have hx := X.hx
  have hb := X.hb
  have hown := X.hown
  have hts := X.hts
  rw [fX11_does_153] at hf
  refine lv_if_lt (tgt := 160) hx hb dX11_does_153 (by decide) (fun c1 => ?_) (fun c1 => ?_)
  · exact kX11_does_160 X hret (ifp c1 hf) hP hS (lv_sub hl [0] rfl)
  · exact kX11_does_156 X hret (ifn c1 hf) hP hS (lv_sub hl [0] rfl)
set_option maxRecDepth 10000 in
theorem kX11_does_147 {r : Int32} {S1 : MS} {M : MS} {x2 : Int32} {x3 : Int32} {H : Heap} {locs : List Loc} {ls : Array Slot} (X : gX p s m args c cX11_does 4 RX11 (kR kTab kA)) (hret : gRetI p l e (rmL 7 0 0) s m args below meth c cX11_does (mΩ ad) (mP dC dI cI kA ad) Q r S1) (hf : fX11_does_147 M x2 x3 = some (r, S1)) (hP : (mP dC dI cI kA ad) M s H) (hS : va_S (Fr (mΩ ad) s.heap.size) s.heap H locs) (hl : lv_has ls 4 [(0, .ref (ad 25)), (2, .int x2), (3, .int x3)]) : W p l e (rmL 7 0 0) s m args below meth c H locs 0 0 Q (F0 m 147 ls []) := by
  have hx := X.hx
  have hb := X.hb
  have hown := X.hown
  have hts := X.hts
  rw [fX11_does_147] at hf
  refine lv_aload_n hx hb dX11_does_147 rfl (lv_at hl 0 rfl) ?_
  refine lv_iload_n hx hb dX11_does_148 rfl (lv_at hl 1 rfl) ?_
  refine lv_iload_n hx hb dX11_does_149 rfl (lv_at hl 2 rfl) ?_
  obtain ⟨q, hc, hf⟩ := bd hf
  refine gCallVI X mOK rfl (vX11_addsMice hc) gRX11_X11_addsMice hdX11_addsMice rfl ⟨by decide, by decide⟩ hP hS (mrec hP) hl.1 (Nat.le_of_ble_eq_true rfl) ⟨Nat.le_refl _, Nat.le_refl _⟩ dX11_does_150 (As := [.int x2, .int x3]) (rest := []) rfl (fun H locs hP hS => ?_)
  exact kX11_does_153 X hret hf hP hS (lv_sub hl [0] rfl)
set_option maxRecDepth 10000 in
theorem kX11_does_144 {r : Int32} {S1 : MS} {M : MS} {x2 : Int32} {x3 : Int32} {s0 : Int32} {H : Heap} {locs : List Loc} {ls : Array Slot} (X : gX p s m args c cX11_does 4 RX11 (kR kTab kA)) (hret : gRetI p l e (rmL 7 0 0) s m args below meth c cX11_does (mΩ ad) (mP dC dI cI kA ad) Q r S1) (hf : fX11_does_144 M x2 x3 s0 = some (r, S1)) (hP : (mP dC dI cI kA ad) M s H) (hS : va_S (Fr (mΩ ad) s.heap.size) s.heap H locs) (hl : lv_has ls 4 [(0, .ref (ad 25)), (2, .int x2), (3, .int x3)]) : W p l e (rmL 7 0 0) s m args below meth c H locs 0 0 Q (F0 m 144 ls [.int s0]) := by
  have hx := X.hx
  have hb := X.hb
  have hown := X.hown
  have hts := X.hts
  rw [fX11_does_144] at hf
  refine lv_if_eq (tgt := 160) hx hb dX11_does_144 (by decide) (fun c1 => ?_) (fun c1 => ?_)
  · exact kX11_does_160 X hret (ifp c1 hf) hP hS (lv_sub hl [0] rfl)
  · exact kX11_does_147 X hret (ifn c1 hf) hP hS (lv_sub hl [0, 1, 2] rfl)
set_option maxRecDepth 10000 in
theorem kX11_does_138 {r : Int32} {S1 : MS} {M : MS} {x2 : Int32} {x3 : Int32} {H : Heap} {locs : List Loc} {ls : Array Slot} (X : gX p s m args c cX11_does 4 RX11 (kR kTab kA)) (hret : gRetI p l e (rmL 7 0 0) s m args below meth c cX11_does (mΩ ad) (mP dC dI cI kA ad) Q r S1) (hf : fX11_does_138 M x2 x3 = some (r, S1)) (hP : (mP dC dI cI kA ad) M s H) (hS : va_S (Fr (mΩ ad) s.heap.size) s.heap H locs) (hl : lv_has ls 4 [(0, .ref (ad 25)), (2, .int x2), (3, .int x3)]) : W p l e (rmL 7 0 0) s m args below meth c H locs 0 0 Q (F0 m 138 ls []) := by
  have hx := X.hx
  have hb := X.hb
  have hown := X.hown
  have hts := X.hts
  rw [fX11_does_138] at hf
  refine lv_aload_n hx hb dX11_does_138 rfl (lv_at hl 0 rfl) ?_
  refine lv_iload_n hx hb dX11_does_139 rfl (lv_at hl 1 rfl) ?_
  refine lv_iload_n hx hb dX11_does_140 rfl (lv_at hl 2 rfl) ?_
  obtain ⟨q, hc, hf⟩ := bd hf
  refine gCallVR X rfl (vX11_mayAddMice hc) gRX11_X11_mayAddMice hdX11_mayAddMice rfl ⟨by decide, by decide⟩ (gB_blind mOK) (gB_at mOK X hP) (mrec hP) hl.1 (Nat.le_of_ble_eq_true rfl) ⟨Nat.le_refl _, Nat.le_refl _⟩ dX11_does_141 (As := [.int x2, .int x3]) (rest := []) rfl ?_
  exact kX11_does_144 X hret hf hP hS (lv_sub hl [0, 1, 2] rfl)
set_option maxRecDepth 10000 in
theorem kX11_does_185 {r : Int32} {S1 : MS} {M : MS} {s0 : Int32} {H : Heap} {locs : List Loc} {ls : Array Slot} (X : gX p s m args c cX11_does 4 RX11 (kR kTab kA)) (hret : gRetI p l e (rmL 7 0 0) s m args below meth c cX11_does (mΩ ad) (mP dC dI cI kA ad) Q r S1) (hf : fX11_does_185 M s0 = some (r, S1)) (hP : (mP dC dI cI kA ad) M s H) (hS : va_S (Fr (mΩ ad) s.heap.size) s.heap H locs) (hl : lv_has ls 4 [(0, .ref (ad 25))]) : W p l e (rmL 7 0 0) s m args below meth c H locs 0 0 Q (F0 m 185 ls [.int s0]) := by
  have hx := X.hx
  have hb := X.hb
  have hown := X.hown
  have hts := X.hts
  rw [fX11_does_185] at hf
  cases hf
  exact hret _ _ _ _ dX11_does_185 hP hS
set_option maxRecDepth 10000 in
theorem kX11_does_184 {r : Int32} {S1 : MS} {M : MS} {H : Heap} {locs : List Loc} {ls : Array Slot} (X : gX p s m args c cX11_does 4 RX11 (kR kTab kA)) (hret : gRetI p l e (rmL 7 0 0) s m args below meth c cX11_does (mΩ ad) (mP dC dI cI kA ad) Q r S1) (hf : fX11_does_184 M = some (r, S1)) (hP : (mP dC dI cI kA ad) M s H) (hS : va_S (Fr (mΩ ad) s.heap.size) s.heap H locs) (hl : lv_has ls 4 [(0, .ref (ad 25))]) : W p l e (rmL 7 0 0) s m args below meth c H locs 0 0 Q (F0 m 184 ls []) := by
  have hx := X.hx
  have hb := X.hb
  have hown := X.hown
  have hts := X.hts
  rw [fX11_does_184] at hf
  refine lv_iconst (v := 0) hx hb dX11_does_184 (by decide) ?_
  exact kX11_does_185 X hret hf hP hS (lv_sub hl [0] rfl)
set_option maxRecDepth 10000 in
theorem kX11_does_180 {r : Int32} {S1 : MS} {M : MS} {H : Heap} {locs : List Loc} {ls : Array Slot} (X : gX p s m args c cX11_does 4 RX11 (kR kTab kA)) (hret : gRetI p l e (rmL 7 0 0) s m args below meth c cX11_does (mΩ ad) (mP dC dI cI kA ad) Q r S1) (hf : fX11_does_180 M = some (r, S1)) (hP : (mP dC dI cI kA ad) M s H) (hS : va_S (Fr (mΩ ad) s.heap.size) s.heap H locs) (hl : lv_has ls 4 [(0, .ref (ad 25))]) : W p l e (rmL 7 0 0) s m args below meth c H locs 0 0 Q (F0 m 180 ls []) := by
  have hx := X.hx
  have hb := X.hb
  have hown := X.hown
  have hts := X.hts
  rw [fX11_does_180] at hf
  refine lv_iconst (v := 1) hx hb dX11_does_180 (by decide) ?_
  refine lv_goto (tgt := 185) hx hb dX11_does_181 (by decide) ?_
  exact kX11_does_185 X hret hf hP hS (lv_sub hl [0] rfl)
set_option maxRecDepth 10000 in
theorem kX11_does_177 {r : Int32} {S1 : MS} {M : MS} {s0 : Int32} {H : Heap} {locs : List Loc} {ls : Array Slot} (X : gX p s m args c cX11_does 4 RX11 (kR kTab kA)) (hret : gRetI p l e (rmL 7 0 0) s m args below meth c cX11_does (mΩ ad) (mP dC dI cI kA ad) Q r S1) (hf : fX11_does_177 M s0 = some (r, S1)) (hP : (mP dC dI cI kA ad) M s H) (hS : va_S (Fr (mΩ ad) s.heap.size) s.heap H locs) (hl : lv_has ls 4 [(0, .ref (ad 25))]) : W p l e (rmL 7 0 0) s m args below meth c H locs 0 0 Q (F0 m 177 ls [.int s0]) := by
  have hx := X.hx
  have hb := X.hb
  have hown := X.hown
  have hts := X.hts
  rw [fX11_does_177] at hf
  refine lv_if_lt (tgt := 184) hx hb dX11_does_177 (by decide) (fun c1 => ?_) (fun c1 => ?_)
  · exact kX11_does_184 X hret (ifp c1 hf) hP hS (lv_sub hl [0] rfl)
  · exact kX11_does_180 X hret (ifn c1 hf) hP hS (lv_sub hl [0] rfl)
set_option maxRecDepth 10000 in
theorem kX11_does_171 {r : Int32} {S1 : MS} {M : MS} {x2 : Int32} {x3 : Int32} {H : Heap} {locs : List Loc} {ls : Array Slot} (X : gX p s m args c cX11_does 4 RX11 (kR kTab kA)) (hret : gRetI p l e (rmL 7 0 0) s m args below meth c cX11_does (mΩ ad) (mP dC dI cI kA ad) Q r S1) (hf : fX11_does_171 M x2 x3 = some (r, S1)) (hP : (mP dC dI cI kA ad) M s H) (hS : va_S (Fr (mΩ ad) s.heap.size) s.heap H locs) (hl : lv_has ls 4 [(0, .ref (ad 25)), (2, .int x2), (3, .int x3)]) : W p l e (rmL 7 0 0) s m args below meth c H locs 0 0 Q (F0 m 171 ls []) := by
  have hx := X.hx
  have hb := X.hb
  have hown := X.hown
  have hts := X.hts
  rw [fX11_does_171] at hf
  refine lv_aload_n hx hb dX11_does_171 rfl (lv_at hl 0 rfl) ?_
  refine lv_iload_n hx hb dX11_does_172 rfl (lv_at hl 1 rfl) ?_
  refine lv_iload_n hx hb dX11_does_173 rfl (lv_at hl 2 rfl) ?_
  obtain ⟨q, hc, hf⟩ := bd hf
  refine gCallVI X mOK rfl (vX11_addsGrain hc) gRX11_X11_addsGrain hdX11_addsGrain rfl ⟨by decide, by decide⟩ hP hS (mrec hP) hl.1 (Nat.le_of_ble_eq_true rfl) ⟨Nat.le_refl _, Nat.le_refl _⟩ dX11_does_174 (As := [.int x2, .int x3]) (rest := []) rfl (fun H locs hP hS => ?_)
  exact kX11_does_177 X hret hf hP hS (lv_sub hl [0] rfl)
set_option maxRecDepth 10000 in
theorem kX11_does_168 {r : Int32} {S1 : MS} {M : MS} {x2 : Int32} {x3 : Int32} {s0 : Int32} {H : Heap} {locs : List Loc} {ls : Array Slot} (X : gX p s m args c cX11_does 4 RX11 (kR kTab kA)) (hret : gRetI p l e (rmL 7 0 0) s m args below meth c cX11_does (mΩ ad) (mP dC dI cI kA ad) Q r S1) (hf : fX11_does_168 M x2 x3 s0 = some (r, S1)) (hP : (mP dC dI cI kA ad) M s H) (hS : va_S (Fr (mΩ ad) s.heap.size) s.heap H locs) (hl : lv_has ls 4 [(0, .ref (ad 25)), (2, .int x2), (3, .int x3)]) : W p l e (rmL 7 0 0) s m args below meth c H locs 0 0 Q (F0 m 168 ls [.int s0]) := by
  have hx := X.hx
  have hb := X.hb
  have hown := X.hown
  have hts := X.hts
  rw [fX11_does_168] at hf
  refine lv_if_eq (tgt := 184) hx hb dX11_does_168 (by decide) (fun c1 => ?_) (fun c1 => ?_)
  · exact kX11_does_184 X hret (ifp c1 hf) hP hS (lv_sub hl [0] rfl)
  · exact kX11_does_171 X hret (ifn c1 hf) hP hS (lv_sub hl [0, 1, 2] rfl)
set_option maxRecDepth 10000 in
theorem kX11_does_162 {r : Int32} {S1 : MS} {M : MS} {x2 : Int32} {x3 : Int32} {H : Heap} {locs : List Loc} {ls : Array Slot} (X : gX p s m args c cX11_does 4 RX11 (kR kTab kA)) (hret : gRetI p l e (rmL 7 0 0) s m args below meth c cX11_does (mΩ ad) (mP dC dI cI kA ad) Q r S1) (hf : fX11_does_162 M x2 x3 = some (r, S1)) (hP : (mP dC dI cI kA ad) M s H) (hS : va_S (Fr (mΩ ad) s.heap.size) s.heap H locs) (hl : lv_has ls 4 [(0, .ref (ad 25)), (2, .int x2), (3, .int x3)]) : W p l e (rmL 7 0 0) s m args below meth c H locs 0 0 Q (F0 m 162 ls []) := by
  have hx := X.hx
  have hb := X.hb
  have hown := X.hown
  have hts := X.hts
  rw [fX11_does_162] at hf
  refine lv_aload_n hx hb dX11_does_162 rfl (lv_at hl 0 rfl) ?_
  refine lv_iload_n hx hb dX11_does_163 rfl (lv_at hl 1 rfl) ?_
  refine lv_iload_n hx hb dX11_does_164 rfl (lv_at hl 2 rfl) ?_
  obtain ⟨q, hc, hf⟩ := bd hf
  refine gCallVR X rfl (vX11_mayAddGrain hc) gRX11_X11_mayAddGrain hdX11_mayAddGrain rfl ⟨by decide, by decide⟩ (gB_blind mOK) (gB_at mOK X hP) (mrec hP) hl.1 (Nat.le_of_ble_eq_true rfl) ⟨Nat.le_refl _, Nat.le_refl _⟩ dX11_does_165 (As := [.int x2, .int x3]) (rest := []) rfl ?_
  exact kX11_does_168 X hret hf hP hS (lv_sub hl [0, 1, 2] rfl)
set_option maxRecDepth 10000 in
theorem kX11_does_210 {r : Int32} {S1 : MS} {M : MS} {s0 : Int32} {H : Heap} {locs : List Loc} {ls : Array Slot} (X : gX p s m args c cX11_does 4 RX11 (kR kTab kA)) (hret : gRetI p l e (rmL 7 0 0) s m args below meth c cX11_does (mΩ ad) (mP dC dI cI kA ad) Q r S1) (hf : fX11_does_210 M s0 = some (r, S1)) (hP : (mP dC dI cI kA ad) M s H) (hS : va_S (Fr (mΩ ad) s.heap.size) s.heap H locs) (hl : lv_has ls 4 [(0, .ref (ad 25))]) : W p l e (rmL 7 0 0) s m args below meth c H locs 0 0 Q (F0 m 210 ls [.int s0]) := by
  have hx := X.hx
  have hb := X.hb
  have hown := X.hown
  have hts := X.hts
  rw [fX11_does_210] at hf
  cases hf
  exact hret _ _ _ _ dX11_does_210 hP hS
set_option maxRecDepth 10000 in
theorem kX11_does_209 {r : Int32} {S1 : MS} {M : MS} {H : Heap} {locs : List Loc} {ls : Array Slot} (X : gX p s m args c cX11_does 4 RX11 (kR kTab kA)) (hret : gRetI p l e (rmL 7 0 0) s m args below meth c cX11_does (mΩ ad) (mP dC dI cI kA ad) Q r S1) (hf : fX11_does_209 M = some (r, S1)) (hP : (mP dC dI cI kA ad) M s H) (hS : va_S (Fr (mΩ ad) s.heap.size) s.heap H locs) (hl : lv_has ls 4 [(0, .ref (ad 25))]) : W p l e (rmL 7 0 0) s m args below meth c H locs 0 0 Q (F0 m 209 ls []) := by
  have hx := X.hx
  have hb := X.hb
  have hown := X.hown
  have hts := X.hts
  rw [fX11_does_209] at hf
  refine lv_iconst (v := 0) hx hb dX11_does_209 (by decide) ?_
  exact kX11_does_210 X hret hf hP hS (lv_sub hl [0] rfl)
set_option maxRecDepth 10000 in
theorem kX11_does_205 {r : Int32} {S1 : MS} {M : MS} {H : Heap} {locs : List Loc} {ls : Array Slot} (X : gX p s m args c cX11_does 4 RX11 (kR kTab kA)) (hret : gRetI p l e (rmL 7 0 0) s m args below meth c cX11_does (mΩ ad) (mP dC dI cI kA ad) Q r S1) (hf : fX11_does_205 M = some (r, S1)) (hP : (mP dC dI cI kA ad) M s H) (hS : va_S (Fr (mΩ ad) s.heap.size) s.heap H locs) (hl : lv_has ls 4 [(0, .ref (ad 25))]) : W p l e (rmL 7 0 0) s m args below meth c H locs 0 0 Q (F0 m 205 ls []) := by
  have hx := X.hx
  have hb := X.hb
  have hown := X.hown
  have hts := X.hts
  rw [fX11_does_205] at hf
  refine lv_iconst (v := 1) hx hb dX11_does_205 (by decide) ?_
  refine lv_goto (tgt := 210) hx hb dX11_does_206 (by decide) ?_
  exact kX11_does_210 X hret hf hP hS (lv_sub hl [0] rfl)
set_option maxRecDepth 10000 in
theorem kX11_does_202 {r : Int32} {S1 : MS} {M : MS} {s0 : Int32} {H : Heap} {locs : List Loc} {ls : Array Slot} (X : gX p s m args c cX11_does 4 RX11 (kR kTab kA)) (hret : gRetI p l e (rmL 7 0 0) s m args below meth c cX11_does (mΩ ad) (mP dC dI cI kA ad) Q r S1) (hf : fX11_does_202 M s0 = some (r, S1)) (hP : (mP dC dI cI kA ad) M s H) (hS : va_S (Fr (mΩ ad) s.heap.size) s.heap H locs) (hl : lv_has ls 4 [(0, .ref (ad 25))]) : W p l e (rmL 7 0 0) s m args below meth c H locs 0 0 Q (F0 m 202 ls [.int s0]) := by
  have hx := X.hx
  have hb := X.hb
  have hown := X.hown
  have hts := X.hts
  rw [fX11_does_202] at hf
  refine lv_if_lt (tgt := 209) hx hb dX11_does_202 (by decide) (fun c1 => ?_) (fun c1 => ?_)
  · exact kX11_does_209 X hret (ifp c1 hf) hP hS (lv_sub hl [0] rfl)
  · exact kX11_does_205 X hret (ifn c1 hf) hP hS (lv_sub hl [0] rfl)
set_option maxRecDepth 10000 in
theorem kX11_does_196 {r : Int32} {S1 : MS} {M : MS} {H : Heap} {locs : List Loc} {ls : Array Slot} (X : gX p s m args c cX11_does 4 RX11 (kR kTab kA)) (hret : gRetI p l e (rmL 7 0 0) s m args below meth c cX11_does (mΩ ad) (mP dC dI cI kA ad) Q r S1) (hf : fX11_does_196 M = some (r, S1)) (hP : (mP dC dI cI kA ad) M s H) (hS : va_S (Fr (mΩ ad) s.heap.size) s.heap H locs) (hl : lv_has ls 4 [(0, .ref (ad 25))]) : W p l e (rmL 7 0 0) s m args below meth c H locs 0 0 Q (F0 m 196 ls []) := by
  have hx := X.hx
  have hb := X.hb
  have hown := X.hown
  have hts := X.hts
  rw [fX11_does_196] at hf
  refine lv_aload_n hx hb dX11_does_196 rfl (lv_at hl 0 rfl) ?_
  refine lv_iconst (v := 5) hx hb dX11_does_197 (by decide) ?_
  refine lv_iconst (v := (-1)) hx hb dX11_does_198 (by decide) ?_
  obtain ⟨q, hc, hf⟩ := bd hf
  refine gCallVI X mOK rfl (vX11_sets hc) gRX11_X11_sets hdX11_sets rfl ⟨by decide, by decide⟩ hP hS (mrec hP) hl.1 (Nat.le_of_ble_eq_true rfl) ⟨Nat.le_refl _, Nat.le_refl _⟩ dX11_does_199 (As := [.int 5, .int (-1)]) (rest := []) rfl (fun H locs hP hS => ?_)
  exact kX11_does_202 X hret hf hP hS (lv_sub hl [0] rfl)
set_option maxRecDepth 10000 in
theorem kX11_does_186 {r : Int32} {S1 : MS} {M : MS} {H : Heap} {locs : List Loc} {ls : Array Slot} (X : gX p s m args c cX11_does 4 RX11 (kR kTab kA)) (hret : gRetI p l e (rmL 7 0 0) s m args below meth c cX11_does (mΩ ad) (mP dC dI cI kA ad) Q r S1) (hf : fX11_does_186 M = some (r, S1)) (hP : (mP dC dI cI kA ad) M s H) (hS : va_S (Fr (mΩ ad) s.heap.size) s.heap H locs) (hl : lv_has ls 4 [(0, .ref (ad 25))]) : W p l e (rmL 7 0 0) s m args below meth c H locs 0 0 Q (F0 m 186 ls []) := by
  have hx := X.hx
  have hb := X.hb
  have hown := X.hown
  have hts := X.hts
  rw [fX11_does_186] at hf
  refine lv_aload_n hx hb dX11_does_186 rfl (lv_at hl 0 rfl) ?_
  refine mr_get (k := 0) X hP (by decide) rfl rfl tw1665 dX11_does_187 ?_
  refine lv_iconst (v := 5) hx hb dX11_does_190 (by decide) ?_
  obtain ⟨g1, hf⟩ := gd hf
  refine mr_ald (a := 0) X hP rfl g1 dX11_does_191 ?_
  refine lv_iconst (v := (-1)) hx hb dX11_does_192 (by decide) ?_
  refine lv_icmp_eq (tgt := 209) hx hb dX11_does_193 (by decide) (fun c1 => ?_) (fun c1 => ?_)
  · exact kX11_does_209 X hret (ifp c1 hf) hP hS (lv_sub hl [0] rfl)
  · exact kX11_does_196 X hret (ifn c1 hf) hP hS (lv_sub hl [0] rfl)
set_option maxRecDepth 10000 in
theorem kX11_does_225 {r : Int32} {S1 : MS} {M : MS} {s0 : Int32} {H : Heap} {locs : List Loc} {ls : Array Slot} (X : gX p s m args c cX11_does 4 RX11 (kR kTab kA)) (hret : gRetI p l e (rmL 7 0 0) s m args below meth c cX11_does (mΩ ad) (mP dC dI cI kA ad) Q r S1) (hf : fX11_does_225 M s0 = some (r, S1)) (hP : (mP dC dI cI kA ad) M s H) (hS : va_S (Fr (mΩ ad) s.heap.size) s.heap H locs) (hl : lv_has ls 4 [(0, .ref (ad 25))]) : W p l e (rmL 7 0 0) s m args below meth c H locs 0 0 Q (F0 m 225 ls [.int s0]) := by
  have hx := X.hx
  have hb := X.hb
  have hown := X.hown
  have hts := X.hts
  rw [fX11_does_225] at hf
  cases hf
  exact hret _ _ _ _ dX11_does_225 hP hS
set_option maxRecDepth 10000 in
theorem kX11_does_224 {r : Int32} {S1 : MS} {M : MS} {H : Heap} {locs : List Loc} {ls : Array Slot} (X : gX p s m args c cX11_does 4 RX11 (kR kTab kA)) (hret : gRetI p l e (rmL 7 0 0) s m args below meth c cX11_does (mΩ ad) (mP dC dI cI kA ad) Q r S1) (hf : fX11_does_224 M = some (r, S1)) (hP : (mP dC dI cI kA ad) M s H) (hS : va_S (Fr (mΩ ad) s.heap.size) s.heap H locs) (hl : lv_has ls 4 [(0, .ref (ad 25))]) : W p l e (rmL 7 0 0) s m args below meth c H locs 0 0 Q (F0 m 224 ls []) := by
  have hx := X.hx
  have hb := X.hb
  have hown := X.hown
  have hts := X.hts
  rw [fX11_does_224] at hf
  refine lv_iconst (v := 0) hx hb dX11_does_224 (by decide) ?_
  exact kX11_does_225 X hret hf hP hS (lv_sub hl [0] rfl)
set_option maxRecDepth 10000 in
theorem kX11_does_220 {r : Int32} {S1 : MS} {M : MS} {H : Heap} {locs : List Loc} {ls : Array Slot} (X : gX p s m args c cX11_does 4 RX11 (kR kTab kA)) (hret : gRetI p l e (rmL 7 0 0) s m args below meth c cX11_does (mΩ ad) (mP dC dI cI kA ad) Q r S1) (hf : fX11_does_220 M = some (r, S1)) (hP : (mP dC dI cI kA ad) M s H) (hS : va_S (Fr (mΩ ad) s.heap.size) s.heap H locs) (hl : lv_has ls 4 [(0, .ref (ad 25))]) : W p l e (rmL 7 0 0) s m args below meth c H locs 0 0 Q (F0 m 220 ls []) := by
  have hx := X.hx
  have hb := X.hb
  have hown := X.hown
  have hts := X.hts
  rw [fX11_does_220] at hf
  refine lv_iconst (v := 1) hx hb dX11_does_220 (by decide) ?_
  refine lv_goto (tgt := 225) hx hb dX11_does_221 (by decide) ?_
  exact kX11_does_225 X hret hf hP hS (lv_sub hl [0] rfl)
set_option maxRecDepth 10000 in
theorem kX11_does_217 {r : Int32} {S1 : MS} {M : MS} {s0 : Int32} {H : Heap} {locs : List Loc} {ls : Array Slot} (X : gX p s m args c cX11_does 4 RX11 (kR kTab kA)) (hret : gRetI p l e (rmL 7 0 0) s m args below meth c cX11_does (mΩ ad) (mP dC dI cI kA ad) Q r S1) (hf : fX11_does_217 M s0 = some (r, S1)) (hP : (mP dC dI cI kA ad) M s H) (hS : va_S (Fr (mΩ ad) s.heap.size) s.heap H locs) (hl : lv_has ls 4 [(0, .ref (ad 25))]) : W p l e (rmL 7 0 0) s m args below meth c H locs 0 0 Q (F0 m 217 ls [.int s0]) := by
  have hx := X.hx
  have hb := X.hb
  have hown := X.hown
  have hts := X.hts
  rw [fX11_does_217] at hf
  refine lv_if_lt (tgt := 224) hx hb dX11_does_217 (by decide) (fun c1 => ?_) (fun c1 => ?_)
  · exact kX11_does_224 X hret (ifp c1 hf) hP hS (lv_sub hl [0] rfl)
  · exact kX11_does_220 X hret (ifn c1 hf) hP hS (lv_sub hl [0] rfl)
set_option maxRecDepth 10000 in
theorem kX11_does_211 {r : Int32} {S1 : MS} {M : MS} {x2 : Int32} {H : Heap} {locs : List Loc} {ls : Array Slot} (X : gX p s m args c cX11_does 4 RX11 (kR kTab kA)) (hret : gRetI p l e (rmL 7 0 0) s m args below meth c cX11_does (mΩ ad) (mP dC dI cI kA ad) Q r S1) (hf : fX11_does_211 M x2 = some (r, S1)) (hP : (mP dC dI cI kA ad) M s H) (hS : va_S (Fr (mΩ ad) s.heap.size) s.heap H locs) (hl : lv_has ls 4 [(0, .ref (ad 25)), (2, .int x2)]) : W p l e (rmL 7 0 0) s m args below meth c H locs 0 0 Q (F0 m 211 ls []) := by
  have hx := X.hx
  have hb := X.hb
  have hown := X.hown
  have hts := X.hts
  rw [fX11_does_211] at hf
  refine lv_aload_n hx hb dX11_does_211 rfl (lv_at hl 0 rfl) ?_
  refine lv_iconst (v := 4) hx hb dX11_does_212 (by decide) ?_
  refine lv_iload_n hx hb dX11_does_213 rfl (lv_at hl 1 rfl) ?_
  obtain ⟨q, hc, hf⟩ := bd hf
  refine gCallVI X mOK rfl (vX11_sets hc) gRX11_X11_sets hdX11_sets rfl ⟨by decide, by decide⟩ hP hS (mrec hP) hl.1 (Nat.le_of_ble_eq_true rfl) ⟨Nat.le_refl _, Nat.le_refl _⟩ dX11_does_214 (As := [.int 4, .int x2]) (rest := []) rfl (fun H locs hP hS => ?_)
  exact kX11_does_217 X hret hf hP hS (lv_sub hl [0] rfl)
set_option maxRecDepth 10000 in
theorem kX11_does_0 {r : Int32} {S1 : MS} {M : MS} {a1 : Int32} {H : Heap} {locs : List Loc} {ls : Array Slot} (X : gX p s m args c cX11_does 4 RX11 (kR kTab kA)) (hret : gRetI p l e (rmL 7 0 0) s m args below meth c cX11_does (mΩ ad) (mP dC dI cI kA ad) Q r S1) (hf : fX11_does_0 M a1 = some (r, S1)) (hP : (mP dC dI cI kA ad) M s H) (hS : va_S (Fr (mΩ ad) s.heap.size) s.heap H locs) (hl : lv_has ls 4 [(0, .ref (ad 25)), (1, .int a1)]) : W p l e (rmL 7 0 0) s m args below meth c H locs 0 0 Q (F0 m 0 ls []) := by
  have hx := X.hx
  have hb := X.hb
  have hown := X.hown
  have hts := X.hts
  rw [fX11_does_0] at hf
  refine lv_aload_n hx hb dX11_does_0 rfl (lv_at hl 0 rfl) ?_
  refine mr_get (k := 21) X hP (by decide) rfl rfl tw1686 dX11_does_1 ?_
  refine lv_iconst (v := 2) hx hb dX11_does_4 (by decide) ?_
  refine lv_iload_n hx hb dX11_does_5 rfl (lv_at hl 1 rfl) ?_
  refine lv_imul hx hb dX11_does_6 ?_
  obtain ⟨g1, hf⟩ := gd hf
  refine mr_ald (a := 21) X hP rfl g1 dX11_does_7 ?_
  refine lv_istore_n (lv' := [(2, .int (M.2 21 (2 * a1).toNatClampNeg)), (0, .ref (ad 25)), (1, .int a1)]) hx hb dX11_does_8 rfl hl (by decide) rfl (fun ls hl => ?_)
  refine lv_aload_n hx hb dX11_does_9 rfl (lv_at hl 1 rfl) ?_
  refine mr_get (k := 21) X hP (by decide) rfl rfl tw1686 dX11_does_10 ?_
  refine lv_iconst (v := 2) hx hb dX11_does_13 (by decide) ?_
  refine lv_iload_n hx hb dX11_does_14 rfl (lv_at hl 2 rfl) ?_
  refine lv_imul hx hb dX11_does_15 ?_
  refine lv_iconst (v := 1) hx hb dX11_does_16 (by decide) ?_
  refine lv_iadd hx hb dX11_does_17 ?_
  obtain ⟨g2, hf⟩ := gd hf
  refine mr_ald (a := 21) X hP rfl g2 dX11_does_18 ?_
  refine lv_istore_n (lv' := [(3, .int (M.2 21 ((2 * a1) + 1).toNatClampNeg)), (2, .int (M.2 21 (2 * a1).toNatClampNeg)), (0, .ref (ad 25)), (1, .int a1)]) hx hb dX11_does_19 rfl hl (by decide) rfl (fun ls hl => ?_)
  refine lv_aload_n hx hb dX11_does_20 rfl (lv_at hl 2 rfl) ?_
  refine mr_get (k := 20) X hP (by decide) rfl rfl tw1685 dX11_does_21 ?_
  refine lv_iload_n hx hb dX11_does_24 rfl (lv_at hl 3 rfl) ?_
  obtain ⟨g3, hf⟩ := gd hf
  refine mr_ald (a := 20) X hP rfl g3 dX11_does_25 ?_
  by_cases c1 : (M.2 20 a1.toNatClampNeg) = 1
  · refine lv_tableIn (off := 38) (tgt := 64) hx hb dX11_does_26 (by rw [c1]; decide) (by rw [c1]; decide) (by rw [c1]; rfl) (by decide) ?_
    exact kX11_does_64 X hret (ifp c1 hf) hP hS (lv_sub hl [2, 1] rfl)
  replace hf := ifn c1 hf
  by_cases c2 : (M.2 20 a1.toNatClampNeg) = 2
  · refine lv_tableIn (off := 66) (tgt := 92) hx hb dX11_does_26 (by rw [c2]; decide) (by rw [c2]; decide) (by rw [c2]; rfl) (by decide) ?_
    exact kX11_does_92 X hret (ifp c2 hf) hP hS (lv_sub hl [2, 1] rfl)
  replace hf := ifn c2 hf
  by_cases c3 : (M.2 20 a1.toNatClampNeg) = 3
  · refine lv_tableIn (off := 89) (tgt := 115) hx hb dX11_does_26 (by rw [c3]; decide) (by rw [c3]; decide) (by rw [c3]; rfl) (by decide) ?_
    exact kX11_does_115 X hret (ifp c3 hf) hP hS (lv_sub hl [2, 1] rfl)
  replace hf := ifn c3 hf
  by_cases c4 : (M.2 20 a1.toNatClampNeg) = 4
  · refine lv_tableIn (off := 112) (tgt := 138) hx hb dX11_does_26 (by rw [c4]; decide) (by rw [c4]; decide) (by rw [c4]; rfl) (by decide) ?_
    exact kX11_does_138 X hret (ifp c4 hf) hP hS (lv_sub hl [2, 1, 0] rfl)
  replace hf := ifn c4 hf
  by_cases c5 : (M.2 20 a1.toNatClampNeg) = 5
  · refine lv_tableIn (off := 136) (tgt := 162) hx hb dX11_does_26 (by rw [c5]; decide) (by rw [c5]; decide) (by rw [c5]; rfl) (by decide) ?_
    exact kX11_does_162 X hret (ifp c5 hf) hP hS (lv_sub hl [2, 1, 0] rfl)
  replace hf := ifn c5 hf
  by_cases c6 : (M.2 20 a1.toNatClampNeg) = 6
  · refine lv_tableIn (off := 160) (tgt := 186) hx hb dX11_does_26 (by rw [c6]; decide) (by rw [c6]; decide) (by rw [c6]; rfl) (by decide) ?_
    exact kX11_does_186 X hret (ifp c6 hf) hP hS (lv_sub hl [2] rfl)
  replace hf := ifn c6 hf
  refine lv_tableOut (tgt := 211) hx hb dX11_does_26 (sw_out 1 6 (by decide) (by decide) (fun k h1 h2 h3 => by have hk : k = 1 ∨ k = 2 ∨ k = 3 ∨ k = 4 ∨ k = 5 ∨ k = 6 := (by omega); rcases hk with rfl | rfl | rfl | rfl | rfl | rfl <;> first | exact c1 (h3.trans (by decide)) | exact c2 (h3.trans (by decide)) | exact c3 (h3.trans (by decide)) | exact c4 (h3.trans (by decide)) | exact c5 (h3.trans (by decide)) | exact c6 (h3.trans (by decide)))) (by decide) ?_
  exact kX11_does_211 X hret hf hP hS (lv_sub hl [2, 1] rfl)
theorem vX11_does {l : Launch} {dC : Nat → ClassId} {dI : Nat → Nat → Nat} {cI : ClassId} {kA : String → Nat → Nat} {ad : Nat → Nat} {M S1 : MS} {r : Int32} {a1 : Int32} (hf : fX11_does M a1 = some (r, S1)) : gMetI l yX11_does cX11_does 4 (some .boolean) 7 (mΩ ad) (mP dC dI cI kA ad) (kR kTab kA) [.ref (ad 25), .int a1] M r S1 := gEntryI (ty := .boolean) (by decide) rfl (bz_n hf) mOK (Nat.le_of_ble_eq_true rfl) (fun p e s m args below meth c Q ls X hP hS hret hl => 
  kX11_does_0 X hret (bz_f hf) hP hS (lv_sub hl [0, 1] rfl))
set_option maxRecDepth 10000 in
theorem kX11_sackAfter_21 {r : Int32} {S1 : MS} {M : MS} {s0 : Int32} {H : Heap} {locs : List Loc} {ls : Array Slot} (X : gX p s m args c cX11_sackAfter 5 RX11 (kR kTab kA)) (hret : gRetI p l e (rmL 7 0 0) s m args below meth c cX11_sackAfter (mΩ ad) (mP dC dI cI kA ad) Q r S1) (hf : fX11_sackAfter_21 M s0 = some (r, S1)) (hP : (mP dC dI cI kA ad) M s H) (hS : va_S (Fr (mΩ ad) s.heap.size) s.heap H locs) (hl : lv_has ls 5 [(0, .ref (ad 25))]) : W p l e (rmL 7 0 0) s m args below meth c H locs 0 0 Q (F0 m 21 ls [.int s0]) := by
  have hx := X.hx
  have hb := X.hb
  have hown := X.hown
  have hts := X.hts
  rw [fX11_sackAfter_21] at hf
  cases hf
  exact hret _ _ _ _ dX11_sackAfter_21 hP hS
set_option maxRecDepth 10000 in
theorem kX11_sackAfter_18 {r : Int32} {S1 : MS} {M : MS} {s0 : Int32} {H : Heap} {locs : List Loc} {ls : Array Slot} (X : gX p s m args c cX11_sackAfter 5 RX11 (kR kTab kA)) (hret : gRetI p l e (rmL 7 0 0) s m args below meth c cX11_sackAfter (mΩ ad) (mP dC dI cI kA ad) Q r S1) (hf : fX11_sackAfter_18 M s0 = some (r, S1)) (hP : (mP dC dI cI kA ad) M s H) (hS : va_S (Fr (mΩ ad) s.heap.size) s.heap H locs) (hl : lv_has ls 5 [(0, .ref (ad 25))]) : W p l e (rmL 7 0 0) s m args below meth c H locs 0 0 Q (F0 m 18 ls [.int s0, .ref (ad 25)]) := by
  have hx := X.hx
  have hb := X.hb
  have hown := X.hown
  have hts := X.hts
  rw [fX11_sackAfter_18] at hf
  obtain ⟨q, hc, hf⟩ := bd hf
  refine gCallVI X mOK rfl (vX11_goesBack hc) gRX11_X11_goesBack hdX11_goesBack rfl ⟨by decide, by decide⟩ hP hS (mrec hP) hl.1 (Nat.le_of_ble_eq_true rfl) ⟨Nat.le_refl _, Nat.le_refl _⟩ dX11_sackAfter_18 (As := [.int s0]) (rest := []) rfl (fun H locs hP hS => ?_)
  exact kX11_sackAfter_21 X hret hf hP hS (lv_sub hl [0] rfl)
set_option maxRecDepth 10000 in
theorem kX11_sackAfter_9 {r : Int32} {S1 : MS} {M : MS} {x1 : Int32} {x2 : Int32} {s0 : Int32} {H : Heap} {locs : List Loc} {ls : Array Slot} (X : gX p s m args c cX11_sackAfter 5 RX11 (kR kTab kA)) (hret : gRetI p l e (rmL 7 0 0) s m args below meth c cX11_sackAfter (mΩ ad) (mP dC dI cI kA ad) Q r S1) (hf : fX11_sackAfter_9 M x1 x2 s0 = some (r, S1)) (hP : (mP dC dI cI kA ad) M s H) (hS : va_S (Fr (mΩ ad) s.heap.size) s.heap H locs) (hl : lv_has ls 5 [(0, .ref (ad 25)), (1, .int x1), (2, .int x2)]) : W p l e (rmL 7 0 0) s m args below meth c H locs 0 0 Q (F0 m 9 ls [.int s0]) := by
  have hx := X.hx
  have hb := X.hb
  have hown := X.hown
  have hts := X.hts
  rw [fX11_sackAfter_9] at hf
  refine lv_istore (lv' := [(4, .int s0), (0, .ref (ad 25)), (1, .int x1), (2, .int x2)]) hx hb dX11_sackAfter_9 hl (by decide) rfl (fun ls hl => ?_)
  refine lv_aload_n hx hb dX11_sackAfter_11 rfl (lv_at hl 1 rfl) ?_
  refine lv_aload_n hx hb dX11_sackAfter_12 rfl (lv_at hl 1 rfl) ?_
  refine lv_iload_n hx hb dX11_sackAfter_13 rfl (lv_at hl 2 rfl) ?_
  refine lv_iload_n hx hb dX11_sackAfter_14 rfl (lv_at hl 3 rfl) ?_
  obtain ⟨q, hc, hf⟩ := bd hf
  refine gCallVR X rfl (vX11_ofSack hc) gRX11_X11_ofSack hdX11_ofSack rfl ⟨by decide, by decide⟩ (gB_blind mOK) (gB_at mOK X hP) (mrec hP) hl.1 (Nat.le_of_ble_eq_true rfl) ⟨Nat.le_refl _, Nat.le_refl _⟩ dX11_sackAfter_15 (As := [.int x1, .int x2]) (rest := [.ref (ad 25)]) rfl ?_
  exact kX11_sackAfter_18 X hret hf hP hS (lv_sub hl [1] rfl)
set_option maxRecDepth 10000 in
theorem kX11_sackAfter_4 {r : Int32} {S1 : MS} {M : MS} {x1 : Int32} {x2 : Int32} {x3 : Int32} {H : Heap} {locs : List Loc} {ls : Array Slot} (X : gX p s m args c cX11_sackAfter 5 RX11 (kR kTab kA)) (hret : gRetI p l e (rmL 7 0 0) s m args below meth c cX11_sackAfter (mΩ ad) (mP dC dI cI kA ad) Q r S1) (hf : fX11_sackAfter_4 M x1 x2 x3 = some (r, S1)) (hP : (mP dC dI cI kA ad) M s H) (hS : va_S (Fr (mΩ ad) s.heap.size) s.heap H locs) (hl : lv_has ls 5 [(0, .ref (ad 25)), (1, .int x1), (2, .int x2), (3, .int x3)]) : W p l e (rmL 7 0 0) s m args below meth c H locs 0 0 Q (F0 m 4 ls []) := by
  have hx := X.hx
  have hb := X.hb
  have hown := X.hown
  have hts := X.hts
  rw [fX11_sackAfter_4] at hf
  refine lv_aload_n hx hb dX11_sackAfter_4 rfl (lv_at hl 0 rfl) ?_
  refine lv_iload_n hx hb dX11_sackAfter_5 rfl (lv_at hl 3 rfl) ?_
  obtain ⟨q, hc, hf⟩ := bd hf
  refine gCallVI X mOK rfl (vX11_passes hc) gRX11_X11_passes hdX11_passes rfl ⟨by decide, by decide⟩ hP hS (mrec hP) hl.1 (Nat.le_of_ble_eq_true rfl) ⟨Nat.le_refl _, Nat.le_refl _⟩ dX11_sackAfter_6 (As := [.int x3]) (rest := []) rfl (fun H locs hP hS => ?_)
  exact kX11_sackAfter_9 X hret hf hP hS (lv_sub hl [0, 1, 2] rfl)
set_option maxRecDepth 10000 in
theorem kX11_sackAfter_0 {r : Int32} {S1 : MS} {M : MS} {a1 : Int32} {a2 : Int32} {a3 : Int32} {H : Heap} {locs : List Loc} {ls : Array Slot} (X : gX p s m args c cX11_sackAfter 5 RX11 (kR kTab kA)) (hret : gRetI p l e (rmL 7 0 0) s m args below meth c cX11_sackAfter (mΩ ad) (mP dC dI cI kA ad) Q r S1) (hf : fX11_sackAfter_0 M a1 a2 a3 = some (r, S1)) (hP : (mP dC dI cI kA ad) M s H) (hS : va_S (Fr (mΩ ad) s.heap.size) s.heap H locs) (hl : lv_has ls 5 [(0, .ref (ad 25)), (1, .int a1), (2, .int a2), (3, .int a3)]) : W p l e (rmL 7 0 0) s m args below meth c H locs 0 0 Q (F0 m 0 ls []) := by
  have hx := X.hx
  have hb := X.hb
  have hown := X.hown
  have hts := X.hts
  rw [fX11_sackAfter_0] at hf
  refine lv_aload_n hx hb dX11_sackAfter_0 rfl (lv_at hl 0 rfl) ?_
  obtain ⟨q, hc, hf⟩ := bd hf
  refine gCallVV X mOK rfl (vX11_goesAside hc) gRX11_X11_goesAside hdX11_goesAside rfl ⟨by decide, by decide⟩ hP hS (mrec hP) hl.1 (Nat.le_of_ble_eq_true rfl) ⟨Nat.le_refl _, Nat.le_refl _⟩ dX11_sackAfter_1 (As := []) (rest := []) rfl (fun H locs hP hS => ?_)
  exact kX11_sackAfter_4 X hret hf hP hS (lv_sub hl [0, 1, 2, 3] rfl)
theorem vX11_sackAfter {l : Launch} {dC : Nat → ClassId} {dI : Nat → Nat → Nat} {cI : ClassId} {kA : String → Nat → Nat} {ad : Nat → Nat} {M S1 : MS} {r : Int32} {a1 : Int32} {a2 : Int32} {a3 : Int32} (hf : fX11_sackAfter M a1 a2 a3 = some (r, S1)) : gMetI l yX11_sackAfter cX11_sackAfter 5 (some .int) 7 (mΩ ad) (mP dC dI cI kA ad) (kR kTab kA) [.ref (ad 25), .int a1, .int a2, .int a3] M r S1 := gEntryI (ty := .int) (by decide) rfl rfl mOK (Nat.le_of_ble_eq_true rfl) (fun p e s m args below meth c Q ls X hP hS hret hl => 
  kX11_sackAfter_0 X hret hf hP hS (lv_sub hl [0, 1, 2, 3] rfl))
set_option maxRecDepth 10000 in
theorem kX11_swornAfter_36 {r : Int32} {S1 : MS} {M : MS} {s0 : Int32} {H : Heap} {locs : List Loc} {ls : Array Slot} (X : gX p s m args c cX11_swornAfter 3 RX11 (kR kTab kA)) (hret : gRetI p l e (rmL 7 0 0) s m args below meth c cX11_swornAfter (mΩ ad) (mP dC dI cI kA ad) Q r S1) (hf : fX11_swornAfter_36 M s0 = some (r, S1)) (hP : (mP dC dI cI kA ad) M s H) (hS : va_S (Fr (mΩ ad) s.heap.size) s.heap H locs) (hl : lv_has ls 3 [(0, .ref (ad 25))]) : W p l e (rmL 7 0 0) s m args below meth c H locs 0 0 Q (F0 m 36 ls [.int s0]) := by
  have hx := X.hx
  have hb := X.hb
  have hown := X.hown
  have hts := X.hts
  rw [fX11_swornAfter_36] at hf
  cases hf
  exact hret _ _ _ _ dX11_swornAfter_36 hP hS
set_option maxRecDepth 10000 in
theorem kX11_swornAfter_25 {r : Int32} {S1 : MS} {M : MS} {s0 : Int32} {H : Heap} {locs : List Loc} {ls : Array Slot} (X : gX p s m args c cX11_swornAfter 3 RX11 (kR kTab kA)) (hret : gRetI p l e (rmL 7 0 0) s m args below meth c cX11_swornAfter (mΩ ad) (mP dC dI cI kA ad) Q r S1) (hf : fX11_swornAfter_25 M s0 = some (r, S1)) (hP : (mP dC dI cI kA ad) M s H) (hS : va_S (Fr (mΩ ad) s.heap.size) s.heap H locs) (hl : lv_has ls 3 [(0, .ref (ad 25))]) : W p l e (rmL 7 0 0) s m args below meth c H locs 0 0 Q (F0 m 25 ls [.int s0]) := by
  have hx := X.hx
  have hb := X.hb
  have hown := X.hown
  have hts := X.hts
  rw [fX11_swornAfter_25] at hf
  refine lv_istore_n (lv' := [(2, .int s0), (0, .ref (ad 25))]) hx hb dX11_swornAfter_25 rfl hl (by decide) rfl (fun ls hl => ?_)
  refine lv_aload_n hx hb dX11_swornAfter_26 rfl (lv_at hl 1 rfl) ?_
  refine lv_aload_n hx hb dX11_swornAfter_27 rfl (lv_at hl 1 rfl) ?_
  refine mr_get (k := 0) X hP (by decide) rfl rfl tw1665 dX11_swornAfter_28 ?_
  refine lv_iconst (v := 5) hx hb dX11_swornAfter_31 (by decide) ?_
  obtain ⟨g1, hf⟩ := gd hf
  refine mr_ald (a := 0) X hP rfl g1 dX11_swornAfter_32 ?_
  obtain ⟨q, hc, hf⟩ := bd hf
  refine gCallVI X mOK rfl (vX11_goesBack hc) gRX11_X11_goesBack hdX11_goesBack rfl ⟨by decide, by decide⟩ hP hS (mrec hP) hl.1 (Nat.le_of_ble_eq_true rfl) ⟨Nat.le_refl _, Nat.le_refl _⟩ dX11_swornAfter_33 (As := [.int (M.2 0 (5 : Int32).toNatClampNeg)]) (rest := []) rfl (fun H locs hP hS => ?_)
  exact kX11_swornAfter_36 X hret hf hP hS (lv_sub hl [1] rfl)
set_option maxRecDepth 10000 in
theorem kX11_swornAfter_20 {r : Int32} {S1 : MS} {M : MS} {x1 : Int32} {H : Heap} {locs : List Loc} {ls : Array Slot} (X : gX p s m args c cX11_swornAfter 3 RX11 (kR kTab kA)) (hret : gRetI p l e (rmL 7 0 0) s m args below meth c cX11_swornAfter (mΩ ad) (mP dC dI cI kA ad) Q r S1) (hf : fX11_swornAfter_20 M x1 = some (r, S1)) (hP : (mP dC dI cI kA ad) M s H) (hS : va_S (Fr (mΩ ad) s.heap.size) s.heap H locs) (hl : lv_has ls 3 [(0, .ref (ad 25)), (1, .int x1)]) : W p l e (rmL 7 0 0) s m args below meth c H locs 0 0 Q (F0 m 20 ls []) := by
  have hx := X.hx
  have hb := X.hb
  have hown := X.hown
  have hts := X.hts
  rw [fX11_swornAfter_20] at hf
  refine lv_aload_n hx hb dX11_swornAfter_20 rfl (lv_at hl 0 rfl) ?_
  refine lv_iload_n hx hb dX11_swornAfter_21 rfl (lv_at hl 1 rfl) ?_
  obtain ⟨q, hc, hf⟩ := bd hf
  refine gCallVI X mOK rfl (vX11_passes hc) gRX11_X11_passes hdX11_passes rfl ⟨by decide, by decide⟩ hP hS (mrec hP) hl.1 (Nat.le_of_ble_eq_true rfl) ⟨Nat.le_refl _, Nat.le_refl _⟩ dX11_swornAfter_22 (As := [.int x1]) (rest := []) rfl (fun H locs hP hS => ?_)
  exact kX11_swornAfter_25 X hret hf hP hS (lv_sub hl [0] rfl)
set_option maxRecDepth 10000 in
theorem kX11_swornAfter_16 {r : Int32} {S1 : MS} {M : MS} {x1 : Int32} {H : Heap} {locs : List Loc} {ls : Array Slot} (X : gX p s m args c cX11_swornAfter 3 RX11 (kR kTab kA)) (hret : gRetI p l e (rmL 7 0 0) s m args below meth c cX11_swornAfter (mΩ ad) (mP dC dI cI kA ad) Q r S1) (hf : fX11_swornAfter_16 M x1 = some (r, S1)) (hP : (mP dC dI cI kA ad) M s H) (hS : va_S (Fr (mΩ ad) s.heap.size) s.heap H locs) (hl : lv_has ls 3 [(0, .ref (ad 25)), (1, .int x1)]) : W p l e (rmL 7 0 0) s m args below meth c H locs 0 0 Q (F0 m 16 ls []) := by
  have hx := X.hx
  have hb := X.hb
  have hown := X.hown
  have hts := X.hts
  rw [fX11_swornAfter_16] at hf
  refine lv_aload_n hx hb dX11_swornAfter_16 rfl (lv_at hl 0 rfl) ?_
  obtain ⟨q, hc, hf⟩ := bd hf
  refine gCallVV X mOK rfl (vX11_goesAside hc) gRX11_X11_goesAside hdX11_goesAside rfl ⟨by decide, by decide⟩ hP hS (mrec hP) hl.1 (Nat.le_of_ble_eq_true rfl) ⟨Nat.le_refl _, Nat.le_refl _⟩ dX11_swornAfter_17 (As := []) (rest := []) rfl (fun H locs hP hS => ?_)
  exact kX11_swornAfter_20 X hret hf hP hS (lv_sub hl [0, 1] rfl)
set_option maxRecDepth 10000 in
theorem kX11_swornAfter_14 {r : Int32} {S1 : MS} {M : MS} {H : Heap} {locs : List Loc} {ls : Array Slot} (X : gX p s m args c cX11_swornAfter 3 RX11 (kR kTab kA)) (hret : gRetI p l e (rmL 7 0 0) s m args below meth c cX11_swornAfter (mΩ ad) (mP dC dI cI kA ad) Q r S1) (hf : fX11_swornAfter_14 M = some (r, S1)) (hP : (mP dC dI cI kA ad) M s H) (hS : va_S (Fr (mΩ ad) s.heap.size) s.heap H locs) (hl : lv_has ls 3 [(0, .ref (ad 25))]) : W p l e (rmL 7 0 0) s m args below meth c H locs 0 0 Q (F0 m 14 ls []) := by
  have hx := X.hx
  have hb := X.hb
  have hown := X.hown
  have hts := X.hts
  rw [fX11_swornAfter_14] at hf
  refine lv_iconst (v := 0) hx hb dX11_swornAfter_14 (by decide) ?_
  cases hf
  exact hret _ _ _ _ dX11_swornAfter_15 hP hS
set_option maxRecDepth 10000 in
theorem kX11_swornAfter_11 {r : Int32} {S1 : MS} {M : MS} {x1 : Int32} {s0 : Int32} {H : Heap} {locs : List Loc} {ls : Array Slot} (X : gX p s m args c cX11_swornAfter 3 RX11 (kR kTab kA)) (hret : gRetI p l e (rmL 7 0 0) s m args below meth c cX11_swornAfter (mΩ ad) (mP dC dI cI kA ad) Q r S1) (hf : fX11_swornAfter_11 M x1 s0 = some (r, S1)) (hP : (mP dC dI cI kA ad) M s H) (hS : va_S (Fr (mΩ ad) s.heap.size) s.heap H locs) (hl : lv_has ls 3 [(0, .ref (ad 25)), (1, .int x1)]) : W p l e (rmL 7 0 0) s m args below meth c H locs 0 0 Q (F0 m 11 ls [.int s0]) := by
  have hx := X.hx
  have hb := X.hb
  have hown := X.hown
  have hts := X.hts
  rw [fX11_swornAfter_11] at hf
  refine lv_if_eq (tgt := 16) hx hb dX11_swornAfter_11 (by decide) (fun c1 => ?_) (fun c1 => ?_)
  · exact kX11_swornAfter_16 X hret (ifp c1 hf) hP hS (lv_sub hl [0, 1] rfl)
  · exact kX11_swornAfter_14 X hret (ifn c1 hf) hP hS (lv_sub hl [0] rfl)
set_option maxRecDepth 10000 in
theorem kX11_swornAfter_5 {r : Int32} {S1 : MS} {M : MS} {x1 : Int32} {H : Heap} {locs : List Loc} {ls : Array Slot} (X : gX p s m args c cX11_swornAfter 3 RX11 (kR kTab kA)) (hret : gRetI p l e (rmL 7 0 0) s m args below meth c cX11_swornAfter (mΩ ad) (mP dC dI cI kA ad) Q r S1) (hf : fX11_swornAfter_5 M x1 = some (r, S1)) (hP : (mP dC dI cI kA ad) M s H) (hS : va_S (Fr (mΩ ad) s.heap.size) s.heap H locs) (hl : lv_has ls 3 [(0, .ref (ad 25)), (1, .int x1)]) : W p l e (rmL 7 0 0) s m args below meth c H locs 0 0 Q (F0 m 5 ls []) := by
  have hx := X.hx
  have hb := X.hb
  have hown := X.hown
  have hts := X.hts
  rw [fX11_swornAfter_5] at hf
  refine lv_aload_n hx hb dX11_swornAfter_5 rfl (lv_at hl 0 rfl) ?_
  refine lv_iload_n hx hb dX11_swornAfter_6 rfl (lv_at hl 1 rfl) ?_
  refine lv_iconst (v := 1) hx hb dX11_swornAfter_7 (by decide) ?_
  obtain ⟨q, hc, hf⟩ := bd hf
  refine gCallVI X mOK rfl (vX11_noHours hc) gRX11_X11_noHours hdX11_noHours rfl ⟨by decide, by decide⟩ hP hS (mrec hP) hl.1 (Nat.le_of_ble_eq_true rfl) ⟨Nat.le_refl _, Nat.le_refl _⟩ dX11_swornAfter_8 (As := [.int x1, .int 1]) (rest := []) rfl (fun H locs hP hS => ?_)
  exact kX11_swornAfter_11 X hret hf hP hS (lv_sub hl [0, 1] rfl)
set_option maxRecDepth 10000 in
theorem kX11_swornAfter_0 {r : Int32} {S1 : MS} {M : MS} {a1 : Int32} {H : Heap} {locs : List Loc} {ls : Array Slot} (X : gX p s m args c cX11_swornAfter 3 RX11 (kR kTab kA)) (hret : gRetI p l e (rmL 7 0 0) s m args below meth c cX11_swornAfter (mΩ ad) (mP dC dI cI kA ad) Q r S1) (hf : fX11_swornAfter_0 M a1 = some (r, S1)) (hP : (mP dC dI cI kA ad) M s H) (hS : va_S (Fr (mΩ ad) s.heap.size) s.heap H locs) (hl : lv_has ls 3 [(0, .ref (ad 25)), (1, .int a1)]) : W p l e (rmL 7 0 0) s m args below meth c H locs 0 0 Q (F0 m 0 ls []) := by
  have hx := X.hx
  have hb := X.hb
  have hown := X.hown
  have hts := X.hts
  rw [fX11_swornAfter_0] at hf
  refine lv_aload_n hx hb dX11_swornAfter_0 rfl (lv_at hl 0 rfl) ?_
  refine lv_iconst (v := 0) hx hb dX11_swornAfter_1 (by decide) ?_
  refine mr_put (k := 7) X hP hS (by decide) rfl rfl rfl rfl tw1672 dX11_swornAfter_2 (fun H locs hP hS => ?_)
  exact kX11_swornAfter_5 X hret hf hP hS (lv_sub hl [0, 1] rfl)
theorem vX11_swornAfter {l : Launch} {dC : Nat → ClassId} {dI : Nat → Nat → Nat} {cI : ClassId} {kA : String → Nat → Nat} {ad : Nat → Nat} {M S1 : MS} {r : Int32} {a1 : Int32} (hf : fX11_swornAfter M a1 = some (r, S1)) : gMetI l yX11_swornAfter cX11_swornAfter 3 (some .int) 7 (mΩ ad) (mP dC dI cI kA ad) (kR kTab kA) [.ref (ad 25), .int a1] M r S1 := gEntryI (ty := .int) (by decide) rfl rfl mOK (Nat.le_of_ble_eq_true rfl) (fun p e s m args below meth c Q ls X hP hS hret hl => 
  kX11_swornAfter_0 X hret hf hP hS (lv_sub hl [0, 1] rfl))
set_option maxRecDepth 10000 in
theorem kX11_hoursUntilUnguarded_11 {r : Int32} {S1 : MS} {M : MS} {s0 : Int32} {H : Heap} {locs : List Loc} {ls : Array Slot} (X : gX p s m args c cX11_hoursUntilUnguarded 1 RX11 (kR kTab kA)) (hret : gRetI p l e (rmL 7 0 0) s m args below meth c cX11_hoursUntilUnguarded (mΩ ad) (mP dC dI cI kA ad) Q r S1) (hf : fX11_hoursUntilUnguarded_11 M s0 = some (r, S1)) (hP : (mP dC dI cI kA ad) M s H) (hS : va_S (Fr (mΩ ad) s.heap.size) s.heap H locs) (hl : lv_has ls 1 [(0, .ref (ad 25))]) : W p l e (rmL 7 0 0) s m args below meth c H locs 0 0 Q (F0 m 11 ls [.int s0]) := by
  have hx := X.hx
  have hb := X.hb
  have hown := X.hown
  have hts := X.hts
  rw [fX11_hoursUntilUnguarded_11] at hf
  cases hf
  exact hret _ _ _ _ dX11_hoursUntilUnguarded_11 hP hS
set_option maxRecDepth 10000 in
theorem kX11_hoursUntilUnguarded_5 {r : Int32} {S1 : MS} {M : MS} {H : Heap} {locs : List Loc} {ls : Array Slot} (X : gX p s m args c cX11_hoursUntilUnguarded 1 RX11 (kR kTab kA)) (hret : gRetI p l e (rmL 7 0 0) s m args below meth c cX11_hoursUntilUnguarded (mΩ ad) (mP dC dI cI kA ad) Q r S1) (hf : fX11_hoursUntilUnguarded_5 M = some (r, S1)) (hP : (mP dC dI cI kA ad) M s H) (hS : va_S (Fr (mΩ ad) s.heap.size) s.heap H locs) (hl : lv_has ls 1 [(0, .ref (ad 25))]) : W p l e (rmL 7 0 0) s m args below meth c H locs 0 0 Q (F0 m 5 ls []) := by
  have hx := X.hx
  have hb := X.hb
  have hown := X.hown
  have hts := X.hts
  rw [fX11_hoursUntilUnguarded_5] at hf
  refine lv_aload_n hx hb dX11_hoursUntilUnguarded_5 rfl (lv_at hl 0 rfl) ?_
  refine lv_iconst (v := 5) hx hb dX11_hoursUntilUnguarded_6 (by decide) ?_
  refine lv_iconst (v := (-1)) hx hb dX11_hoursUntilUnguarded_7 (by decide) ?_
  obtain ⟨q, hc, hf⟩ := bd hf
  refine gCallVI X mOK rfl (vX11_hoursUntil hc) gRX11_X11_hoursUntil hdX11_hoursUntil rfl ⟨by decide, by decide⟩ hP hS (mrec hP) hl.1 (Nat.le_of_ble_eq_true rfl) ⟨Nat.le_refl _, Nat.le_refl _⟩ dX11_hoursUntilUnguarded_8 (As := [.int 5, .int (-1)]) (rest := []) rfl (fun H locs hP hS => ?_)
  exact kX11_hoursUntilUnguarded_11 X hret hf hP hS (lv_sub hl [0] rfl)
set_option maxRecDepth 10000 in
theorem kX11_hoursUntilUnguarded_0 {r : Int32} {S1 : MS} {M : MS} {H : Heap} {locs : List Loc} {ls : Array Slot} (X : gX p s m args c cX11_hoursUntilUnguarded 1 RX11 (kR kTab kA)) (hret : gRetI p l e (rmL 7 0 0) s m args below meth c cX11_hoursUntilUnguarded (mΩ ad) (mP dC dI cI kA ad) Q r S1) (hf : fX11_hoursUntilUnguarded_0 M = some (r, S1)) (hP : (mP dC dI cI kA ad) M s H) (hS : va_S (Fr (mΩ ad) s.heap.size) s.heap H locs) (hl : lv_has ls 1 [(0, .ref (ad 25))]) : W p l e (rmL 7 0 0) s m args below meth c H locs 0 0 Q (F0 m 0 ls []) := by
  have hx := X.hx
  have hb := X.hb
  have hown := X.hown
  have hts := X.hts
  rw [fX11_hoursUntilUnguarded_0] at hf
  refine lv_aload_n hx hb dX11_hoursUntilUnguarded_0 rfl (lv_at hl 0 rfl) ?_
  refine lv_iconst (v := 0) hx hb dX11_hoursUntilUnguarded_1 (by decide) ?_
  refine mr_put (k := 7) X hP hS (by decide) rfl rfl rfl rfl tw1672 dX11_hoursUntilUnguarded_2 (fun H locs hP hS => ?_)
  exact kX11_hoursUntilUnguarded_5 X hret hf hP hS (lv_sub hl [0] rfl)
theorem vX11_hoursUntilUnguarded {l : Launch} {dC : Nat → ClassId} {dI : Nat → Nat → Nat} {cI : ClassId} {kA : String → Nat → Nat} {ad : Nat → Nat} {M S1 : MS} {r : Int32} (hf : fX11_hoursUntilUnguarded M  = some (r, S1)) : gMetI l yX11_hoursUntilUnguarded cX11_hoursUntilUnguarded 1 (some .int) 7 (mΩ ad) (mP dC dI cI kA ad) (kR kTab kA) [.ref (ad 25)] M r S1 := gEntryI (ty := .int) (by decide) rfl rfl mOK (Nat.le_of_ble_eq_true rfl) (fun p e s m args below meth c Q ls X hP hS hret hl => 
  kX11_hoursUntilUnguarded_0 X hret hf hP hS (lv_sub hl [0] rfl))
set_option maxRecDepth 10000 in
theorem kX11_hoursUntilEmpty_33 {r : Int32} {S1 : MS} {M : MS} {s0 : Int32} {H : Heap} {locs : List Loc} {ls : Array Slot} (X : gX p s m args c cX11_hoursUntilEmpty 2 RX11 (kR kTab kA)) (hret : gRetI p l e (rmL 7 0 0) s m args below meth c cX11_hoursUntilEmpty (mΩ ad) (mP dC dI cI kA ad) Q r S1) (hf : fX11_hoursUntilEmpty_33 M s0 = some (r, S1)) (hP : (mP dC dI cI kA ad) M s H) (hS : va_S (Fr (mΩ ad) s.heap.size) s.heap H locs) (hl : lv_has ls 2 [(0, .ref (ad 25))]) : W p l e (rmL 7 0 0) s m args below meth c H locs 0 0 Q (F0 m 33 ls [.int s0]) := by
  have hx := X.hx
  have hb := X.hb
  have hown := X.hown
  have hts := X.hts
  rw [fX11_hoursUntilEmpty_33] at hf
  cases hf
  exact hret _ _ _ _ dX11_hoursUntilEmpty_33 hP hS
set_option maxRecDepth 10000 in
theorem kX11_hoursUntilEmpty_17 {r : Int32} {S1 : MS} {M : MS} {x1 : Int32} {H : Heap} {locs : List Loc} {ls : Array Slot} (X : gX p s m args c cX11_hoursUntilEmpty 2 RX11 (kR kTab kA)) (hret : gRetI p l e (rmL 7 0 0) s m args below meth c cX11_hoursUntilEmpty (mΩ ad) (mP dC dI cI kA ad) Q r S1) (hf : fX11_hoursUntilEmpty_17 M x1 = some (r, S1)) (hP : (mP dC dI cI kA ad) M s H) (hS : va_S (Fr (mΩ ad) s.heap.size) s.heap H locs) (hl : lv_has ls 2 [(0, .ref (ad 25)), (1, .int x1)]) : W p l e (rmL 7 0 0) s m args below meth c H locs 0 0 Q (F0 m 17 ls []) := by
  have hx := X.hx
  have hb := X.hb
  have hown := X.hown
  have hts := X.hts
  rw [fX11_hoursUntilEmpty_17] at hf
  refine lv_aload_n hx hb dX11_hoursUntilEmpty_17 rfl (lv_at hl 0 rfl) ?_
  refine lv_sipush (v := 161) hx hb dX11_hoursUntilEmpty_18 (by decide) ?_
  refine lv_bipush (v := 12) hx hb dX11_hoursUntilEmpty_21 (by decide) ?_
  refine lv_iload_n hx hb dX11_hoursUntilEmpty_23 rfl (lv_at hl 1 rfl) ?_
  refine lv_imul hx hb dX11_hoursUntilEmpty_24 ?_
  refine lv_iadd hx hb dX11_hoursUntilEmpty_25 ?_
  refine lv_bipush (v := 7) hx hb dX11_hoursUntilEmpty_26 (by decide) ?_
  refine lv_iadd hx hb dX11_hoursUntilEmpty_28 ?_
  refine lv_iconst (v := 0) hx hb dX11_hoursUntilEmpty_29 (by decide) ?_
  obtain ⟨q, hc, hf⟩ := bd hf
  refine gCallVI X mOK rfl (vX11_hoursUntil hc) gRX11_X11_hoursUntil hdX11_hoursUntil rfl ⟨by decide, by decide⟩ hP hS (mrec hP) hl.1 (Nat.le_of_ble_eq_true rfl) ⟨Nat.le_refl _, Nat.le_refl _⟩ dX11_hoursUntilEmpty_30 (As := [.int ((161 + (12 * x1)) + 7), .int 0]) (rest := []) rfl (fun H locs hP hS => ?_)
  exact kX11_hoursUntilEmpty_33 X hret hf hP hS (lv_sub hl [0] rfl)
set_option maxRecDepth 10000 in
theorem kX11_hoursUntilEmpty_13 {r : Int32} {S1 : MS} {M : MS} {H : Heap} {locs : List Loc} {ls : Array Slot} (X : gX p s m args c cX11_hoursUntilEmpty 2 RX11 (kR kTab kA)) (hret : gRetI p l e (rmL 7 0 0) s m args below meth c cX11_hoursUntilEmpty (mΩ ad) (mP dC dI cI kA ad) Q r S1) (hf : fX11_hoursUntilEmpty_13 M = some (r, S1)) (hP : (mP dC dI cI kA ad) M s H) (hS : va_S (Fr (mΩ ad) s.heap.size) s.heap H locs) (hl : lv_has ls 2 [(0, .ref (ad 25))]) : W p l e (rmL 7 0 0) s m args below meth c H locs 0 0 Q (F0 m 13 ls []) := by
  have hx := X.hx
  have hb := X.hb
  have hown := X.hown
  have hts := X.hts
  rw [fX11_hoursUntilEmpty_13] at hf
  refine lv_iconst (v := 0) hx hb dX11_hoursUntilEmpty_13 (by decide) ?_
  refine lv_goto (tgt := 33) hx hb dX11_hoursUntilEmpty_14 (by decide) ?_
  exact kX11_hoursUntilEmpty_33 X hret hf hP hS (lv_sub hl [0] rfl)
set_option maxRecDepth 10000 in
theorem kX11_hoursUntilEmpty_10 {r : Int32} {S1 : MS} {M : MS} {x1 : Int32} {s0 : Int32} {H : Heap} {locs : List Loc} {ls : Array Slot} (X : gX p s m args c cX11_hoursUntilEmpty 2 RX11 (kR kTab kA)) (hret : gRetI p l e (rmL 7 0 0) s m args below meth c cX11_hoursUntilEmpty (mΩ ad) (mP dC dI cI kA ad) Q r S1) (hf : fX11_hoursUntilEmpty_10 M x1 s0 = some (r, S1)) (hP : (mP dC dI cI kA ad) M s H) (hS : va_S (Fr (mΩ ad) s.heap.size) s.heap H locs) (hl : lv_has ls 2 [(0, .ref (ad 25)), (1, .int x1)]) : W p l e (rmL 7 0 0) s m args below meth c H locs 0 0 Q (F0 m 10 ls [.int s0]) := by
  have hx := X.hx
  have hb := X.hb
  have hown := X.hown
  have hts := X.hts
  rw [fX11_hoursUntilEmpty_10] at hf
  refine lv_if_eq (tgt := 17) hx hb dX11_hoursUntilEmpty_10 (by decide) (fun c1 => ?_) (fun c1 => ?_)
  · exact kX11_hoursUntilEmpty_17 X hret (ifp c1 hf) hP hS (lv_sub hl [0, 1] rfl)
  · exact kX11_hoursUntilEmpty_13 X hret (ifn c1 hf) hP hS (lv_sub hl [0] rfl)
set_option maxRecDepth 10000 in
theorem kX11_hoursUntilEmpty_5 {r : Int32} {S1 : MS} {M : MS} {x1 : Int32} {H : Heap} {locs : List Loc} {ls : Array Slot} (X : gX p s m args c cX11_hoursUntilEmpty 2 RX11 (kR kTab kA)) (hret : gRetI p l e (rmL 7 0 0) s m args below meth c cX11_hoursUntilEmpty (mΩ ad) (mP dC dI cI kA ad) Q r S1) (hf : fX11_hoursUntilEmpty_5 M x1 = some (r, S1)) (hP : (mP dC dI cI kA ad) M s H) (hS : va_S (Fr (mΩ ad) s.heap.size) s.heap H locs) (hl : lv_has ls 2 [(0, .ref (ad 25)), (1, .int x1)]) : W p l e (rmL 7 0 0) s m args below meth c H locs 0 0 Q (F0 m 5 ls []) := by
  have hx := X.hx
  have hb := X.hb
  have hown := X.hown
  have hts := X.hts
  rw [fX11_hoursUntilEmpty_5] at hf
  refine lv_aload_n hx hb dX11_hoursUntilEmpty_5 rfl (lv_at hl 0 rfl) ?_
  refine lv_iload_n hx hb dX11_hoursUntilEmpty_6 rfl (lv_at hl 1 rfl) ?_
  obtain ⟨q, hc, hf⟩ := bd hf
  refine gCallVI X mOK rfl (vX11_noSack hc) gRX11_X11_noSack hdX11_noSack rfl ⟨by decide, by decide⟩ hP hS (mrec hP) hl.1 (Nat.le_of_ble_eq_true rfl) ⟨Nat.le_refl _, Nat.le_refl _⟩ dX11_hoursUntilEmpty_7 (As := [.int x1]) (rest := []) rfl (fun H locs hP hS => ?_)
  exact kX11_hoursUntilEmpty_10 X hret hf hP hS (lv_sub hl [0, 1] rfl)
set_option maxRecDepth 10000 in
theorem kX11_hoursUntilEmpty_0 {r : Int32} {S1 : MS} {M : MS} {a1 : Int32} {H : Heap} {locs : List Loc} {ls : Array Slot} (X : gX p s m args c cX11_hoursUntilEmpty 2 RX11 (kR kTab kA)) (hret : gRetI p l e (rmL 7 0 0) s m args below meth c cX11_hoursUntilEmpty (mΩ ad) (mP dC dI cI kA ad) Q r S1) (hf : fX11_hoursUntilEmpty_0 M a1 = some (r, S1)) (hP : (mP dC dI cI kA ad) M s H) (hS : va_S (Fr (mΩ ad) s.heap.size) s.heap H locs) (hl : lv_has ls 2 [(0, .ref (ad 25)), (1, .int a1)]) : W p l e (rmL 7 0 0) s m args below meth c H locs 0 0 Q (F0 m 0 ls []) := by
  have hx := X.hx
  have hb := X.hb
  have hown := X.hown
  have hts := X.hts
  rw [fX11_hoursUntilEmpty_0] at hf
  refine lv_aload_n hx hb dX11_hoursUntilEmpty_0 rfl (lv_at hl 0 rfl) ?_
  refine lv_iconst (v := 0) hx hb dX11_hoursUntilEmpty_1 (by decide) ?_
  refine mr_put (k := 7) X hP hS (by decide) rfl rfl rfl rfl tw1672 dX11_hoursUntilEmpty_2 (fun H locs hP hS => ?_)
  exact kX11_hoursUntilEmpty_5 X hret hf hP hS (lv_sub hl [0, 1] rfl)
theorem vX11_hoursUntilEmpty {l : Launch} {dC : Nat → ClassId} {dI : Nat → Nat → Nat} {cI : ClassId} {kA : String → Nat → Nat} {ad : Nat → Nat} {M S1 : MS} {r : Int32} {a1 : Int32} (hf : fX11_hoursUntilEmpty M a1 = some (r, S1)) : gMetI l yX11_hoursUntilEmpty cX11_hoursUntilEmpty 2 (some .int) 7 (mΩ ad) (mP dC dI cI kA ad) (kR kTab kA) [.ref (ad 25), .int a1] M r S1 := gEntryI (ty := .int) (by decide) rfl rfl mOK (Nat.le_of_ble_eq_true rfl) (fun p e s m args below meth c Q ls X hP hS hret hl => 
  kX11_hoursUntilEmpty_0 X hret hf hP hS (lv_sub hl [0, 1] rfl))
set_option maxRecDepth 10000 in
theorem kX11_caughtWithin_29 {r : Int32} {S1 : MS} {M : MS} {s0 : Int32} {H : Heap} {locs : List Loc} {ls : Array Slot} (X : gX p s m args c cX11_caughtWithin 2 RX11 (kR kTab kA)) (hret : gRetI p l e (rmL 7 0 0) s m args below meth c cX11_caughtWithin (mΩ ad) (mP dC dI cI kA ad) Q r S1) (hf : fX11_caughtWithin_29 M s0 = some (r, S1)) (hP : (mP dC dI cI kA ad) M s H) (hS : va_S (Fr (mΩ ad) s.heap.size) s.heap H locs) (hl : lv_has ls 2 [(0, .ref (ad 25))]) : W p l e (rmL 7 0 0) s m args below meth c H locs 0 0 Q (F0 m 29 ls [.int s0]) := by
  have hx := X.hx
  have hb := X.hb
  have hown := X.hown
  have hts := X.hts
  rw [fX11_caughtWithin_29] at hf
  cases hf
  exact hret _ _ _ _ dX11_caughtWithin_29 hP hS
set_option maxRecDepth 10000 in
theorem kX11_caughtWithin_26 {r : Int32} {S1 : MS} {M : MS} {s0 : Int32} {H : Heap} {locs : List Loc} {ls : Array Slot} (X : gX p s m args c cX11_caughtWithin 2 RX11 (kR kTab kA)) (hret : gRetI p l e (rmL 7 0 0) s m args below meth c cX11_caughtWithin (mΩ ad) (mP dC dI cI kA ad) Q r S1) (hf : fX11_caughtWithin_26 M s0 = some (r, S1)) (hP : (mP dC dI cI kA ad) M s H) (hS : va_S (Fr (mΩ ad) s.heap.size) s.heap H locs) (hl : lv_has ls 2 [(0, .ref (ad 25))]) : W p l e (rmL 7 0 0) s m args below meth c H locs 0 0 Q (F0 m 26 ls [.int s0, .ref (ad 25)]) := by
  have hx := X.hx
  have hb := X.hb
  have hown := X.hown
  have hts := X.hts
  rw [fX11_caughtWithin_26] at hf
  obtain ⟨q, hc, hf⟩ := bd hf
  refine gCallVI X mOK rfl (vX11_goesBack hc) gRX11_X11_goesBack hdX11_goesBack rfl ⟨by decide, by decide⟩ hP hS (mrec hP) hl.1 (Nat.le_of_ble_eq_true rfl) ⟨Nat.le_refl _, Nat.le_refl _⟩ dX11_caughtWithin_26 (As := [.int s0]) (rest := []) rfl (fun H locs hP hS => ?_)
  exact kX11_caughtWithin_29 X hret hf hP hS (lv_sub hl [0] rfl)
set_option maxRecDepth 10000 in
theorem kX11_caughtWithin_20 {r : Int32} {S1 : MS} {M : MS} {x1 : Int32} {H : Heap} {locs : List Loc} {ls : Array Slot} (X : gX p s m args c cX11_caughtWithin 2 RX11 (kR kTab kA)) (hret : gRetI p l e (rmL 7 0 0) s m args below meth c cX11_caughtWithin (mΩ ad) (mP dC dI cI kA ad) Q r S1) (hf : fX11_caughtWithin_20 M x1 = some (r, S1)) (hP : (mP dC dI cI kA ad) M s H) (hS : va_S (Fr (mΩ ad) s.heap.size) s.heap H locs) (hl : lv_has ls 2 [(0, .ref (ad 25)), (1, .int x1)]) : W p l e (rmL 7 0 0) s m args below meth c H locs 0 0 Q (F0 m 20 ls []) := by
  have hx := X.hx
  have hb := X.hb
  have hown := X.hown
  have hts := X.hts
  rw [fX11_caughtWithin_20] at hf
  refine lv_aload_n hx hb dX11_caughtWithin_20 rfl (lv_at hl 0 rfl) ?_
  refine lv_aload_n hx hb dX11_caughtWithin_21 rfl (lv_at hl 0 rfl) ?_
  refine lv_iload_n hx hb dX11_caughtWithin_22 rfl (lv_at hl 1 rfl) ?_
  obtain ⟨q, hc, hf⟩ := bd hf
  refine gCallVI X mOK rfl (vX11_passes hc) gRX11_X11_passes hdX11_passes rfl ⟨by decide, by decide⟩ hP hS (mrec hP) hl.1 (Nat.le_of_ble_eq_true rfl) ⟨Nat.le_refl _, Nat.le_refl _⟩ dX11_caughtWithin_23 (As := [.int x1]) (rest := [.ref (ad 25)]) rfl (fun H locs hP hS => ?_)
  exact kX11_caughtWithin_26 X hret hf hP hS (lv_sub hl [0] rfl)
set_option maxRecDepth 10000 in
theorem kX11_caughtWithin_16 {r : Int32} {S1 : MS} {M : MS} {x1 : Int32} {H : Heap} {locs : List Loc} {ls : Array Slot} (X : gX p s m args c cX11_caughtWithin 2 RX11 (kR kTab kA)) (hret : gRetI p l e (rmL 7 0 0) s m args below meth c cX11_caughtWithin (mΩ ad) (mP dC dI cI kA ad) Q r S1) (hf : fX11_caughtWithin_16 M x1 = some (r, S1)) (hP : (mP dC dI cI kA ad) M s H) (hS : va_S (Fr (mΩ ad) s.heap.size) s.heap H locs) (hl : lv_has ls 2 [(0, .ref (ad 25)), (1, .int x1)]) : W p l e (rmL 7 0 0) s m args below meth c H locs 0 0 Q (F0 m 16 ls []) := by
  have hx := X.hx
  have hb := X.hb
  have hown := X.hown
  have hts := X.hts
  rw [fX11_caughtWithin_16] at hf
  refine lv_aload_n hx hb dX11_caughtWithin_16 rfl (lv_at hl 0 rfl) ?_
  obtain ⟨q, hc, hf⟩ := bd hf
  refine gCallVV X mOK rfl (vX11_goesAside hc) gRX11_X11_goesAside hdX11_goesAside rfl ⟨by decide, by decide⟩ hP hS (mrec hP) hl.1 (Nat.le_of_ble_eq_true rfl) ⟨Nat.le_refl _, Nat.le_refl _⟩ dX11_caughtWithin_17 (As := []) (rest := []) rfl (fun H locs hP hS => ?_)
  exact kX11_caughtWithin_20 X hret hf hP hS (lv_sub hl [0, 1] rfl)
set_option maxRecDepth 10000 in
theorem kX11_caughtWithin_14 {r : Int32} {S1 : MS} {M : MS} {H : Heap} {locs : List Loc} {ls : Array Slot} (X : gX p s m args c cX11_caughtWithin 2 RX11 (kR kTab kA)) (hret : gRetI p l e (rmL 7 0 0) s m args below meth c cX11_caughtWithin (mΩ ad) (mP dC dI cI kA ad) Q r S1) (hf : fX11_caughtWithin_14 M = some (r, S1)) (hP : (mP dC dI cI kA ad) M s H) (hS : va_S (Fr (mΩ ad) s.heap.size) s.heap H locs) (hl : lv_has ls 2 [(0, .ref (ad 25))]) : W p l e (rmL 7 0 0) s m args below meth c H locs 0 0 Q (F0 m 14 ls []) := by
  have hx := X.hx
  have hb := X.hb
  have hown := X.hown
  have hts := X.hts
  rw [fX11_caughtWithin_14] at hf
  refine lv_iconst (v := 0) hx hb dX11_caughtWithin_14 (by decide) ?_
  cases hf
  exact hret _ _ _ _ dX11_caughtWithin_15 hP hS
set_option maxRecDepth 10000 in
theorem kX11_caughtWithin_11 {r : Int32} {S1 : MS} {M : MS} {x1 : Int32} {s0 : Int32} {H : Heap} {locs : List Loc} {ls : Array Slot} (X : gX p s m args c cX11_caughtWithin 2 RX11 (kR kTab kA)) (hret : gRetI p l e (rmL 7 0 0) s m args below meth c cX11_caughtWithin (mΩ ad) (mP dC dI cI kA ad) Q r S1) (hf : fX11_caughtWithin_11 M x1 s0 = some (r, S1)) (hP : (mP dC dI cI kA ad) M s H) (hS : va_S (Fr (mΩ ad) s.heap.size) s.heap H locs) (hl : lv_has ls 2 [(0, .ref (ad 25)), (1, .int x1)]) : W p l e (rmL 7 0 0) s m args below meth c H locs 0 0 Q (F0 m 11 ls [.int s0]) := by
  have hx := X.hx
  have hb := X.hb
  have hown := X.hown
  have hts := X.hts
  rw [fX11_caughtWithin_11] at hf
  refine lv_if_eq (tgt := 16) hx hb dX11_caughtWithin_11 (by decide) (fun c1 => ?_) (fun c1 => ?_)
  · exact kX11_caughtWithin_16 X hret (ifp c1 hf) hP hS (lv_sub hl [0, 1] rfl)
  · exact kX11_caughtWithin_14 X hret (ifn c1 hf) hP hS (lv_sub hl [0] rfl)
set_option maxRecDepth 10000 in
theorem kX11_caughtWithin_5 {r : Int32} {S1 : MS} {M : MS} {x1 : Int32} {H : Heap} {locs : List Loc} {ls : Array Slot} (X : gX p s m args c cX11_caughtWithin 2 RX11 (kR kTab kA)) (hret : gRetI p l e (rmL 7 0 0) s m args below meth c cX11_caughtWithin (mΩ ad) (mP dC dI cI kA ad) Q r S1) (hf : fX11_caughtWithin_5 M x1 = some (r, S1)) (hP : (mP dC dI cI kA ad) M s H) (hS : va_S (Fr (mΩ ad) s.heap.size) s.heap H locs) (hl : lv_has ls 2 [(0, .ref (ad 25)), (1, .int x1)]) : W p l e (rmL 7 0 0) s m args below meth c H locs 0 0 Q (F0 m 5 ls []) := by
  have hx := X.hx
  have hb := X.hb
  have hown := X.hown
  have hts := X.hts
  rw [fX11_caughtWithin_5] at hf
  refine lv_aload_n hx hb dX11_caughtWithin_5 rfl (lv_at hl 0 rfl) ?_
  refine lv_iload_n hx hb dX11_caughtWithin_6 rfl (lv_at hl 1 rfl) ?_
  refine lv_iconst (v := 1) hx hb dX11_caughtWithin_7 (by decide) ?_
  obtain ⟨q, hc, hf⟩ := bd hf
  refine gCallVI X mOK rfl (vX11_noHours hc) gRX11_X11_noHours hdX11_noHours rfl ⟨by decide, by decide⟩ hP hS (mrec hP) hl.1 (Nat.le_of_ble_eq_true rfl) ⟨Nat.le_refl _, Nat.le_refl _⟩ dX11_caughtWithin_8 (As := [.int x1, .int 1]) (rest := []) rfl (fun H locs hP hS => ?_)
  exact kX11_caughtWithin_11 X hret hf hP hS (lv_sub hl [0, 1] rfl)
set_option maxRecDepth 10000 in
theorem kX11_caughtWithin_0 {r : Int32} {S1 : MS} {M : MS} {a1 : Int32} {H : Heap} {locs : List Loc} {ls : Array Slot} (X : gX p s m args c cX11_caughtWithin 2 RX11 (kR kTab kA)) (hret : gRetI p l e (rmL 7 0 0) s m args below meth c cX11_caughtWithin (mΩ ad) (mP dC dI cI kA ad) Q r S1) (hf : fX11_caughtWithin_0 M a1 = some (r, S1)) (hP : (mP dC dI cI kA ad) M s H) (hS : va_S (Fr (mΩ ad) s.heap.size) s.heap H locs) (hl : lv_has ls 2 [(0, .ref (ad 25)), (1, .int a1)]) : W p l e (rmL 7 0 0) s m args below meth c H locs 0 0 Q (F0 m 0 ls []) := by
  have hx := X.hx
  have hb := X.hb
  have hown := X.hown
  have hts := X.hts
  rw [fX11_caughtWithin_0] at hf
  refine lv_aload_n hx hb dX11_caughtWithin_0 rfl (lv_at hl 0 rfl) ?_
  refine lv_iconst (v := 0) hx hb dX11_caughtWithin_1 (by decide) ?_
  refine mr_put (k := 7) X hP hS (by decide) rfl rfl rfl rfl tw1672 dX11_caughtWithin_2 (fun H locs hP hS => ?_)
  exact kX11_caughtWithin_5 X hret hf hP hS (lv_sub hl [0, 1] rfl)
theorem vX11_caughtWithin {l : Launch} {dC : Nat → ClassId} {dI : Nat → Nat → Nat} {cI : ClassId} {kA : String → Nat → Nat} {ad : Nat → Nat} {M S1 : MS} {r : Int32} {a1 : Int32} (hf : fX11_caughtWithin M a1 = some (r, S1)) : gMetI l yX11_caughtWithin cX11_caughtWithin 2 (some .int) 7 (mΩ ad) (mP dC dI cI kA ad) (kR kTab kA) [.ref (ad 25), .int a1] M r S1 := gEntryI (ty := .int) (by decide) rfl rfl mOK (Nat.le_of_ble_eq_true rfl) (fun p e s m args below meth c Q ls X hP hS hret hl => 
  kX11_caughtWithin_0 X hret hf hP hS (lv_sub hl [0, 1] rfl))
set_option maxRecDepth 10000 in
theorem kX11_allGrainAfter_24 {r : Int32} {S1 : MS} {M : MS} {s0 : Int32} {H : Heap} {locs : List Loc} {ls : Array Slot} (X : gX p s m args c cX11_allGrainAfter 3 RX11 (kR kTab kA)) (hret : gRetI p l e (rmL 7 0 0) s m args below meth c cX11_allGrainAfter (mΩ ad) (mP dC dI cI kA ad) Q r S1) (hf : fX11_allGrainAfter_24 M s0 = some (r, S1)) (hP : (mP dC dI cI kA ad) M s H) (hS : va_S (Fr (mΩ ad) s.heap.size) s.heap H locs) (hl : lv_has ls 3 [(0, .ref (ad 25))]) : W p l e (rmL 7 0 0) s m args below meth c H locs 0 0 Q (F0 m 24 ls [.int s0]) := by
  have hx := X.hx
  have hb := X.hb
  have hown := X.hown
  have hts := X.hts
  rw [fX11_allGrainAfter_24] at hf
  cases hf
  exact hret _ _ _ _ dX11_allGrainAfter_24 hP hS
set_option maxRecDepth 10000 in
theorem kX11_allGrainAfter_21 {r : Int32} {S1 : MS} {M : MS} {s0 : Int32} {H : Heap} {locs : List Loc} {ls : Array Slot} (X : gX p s m args c cX11_allGrainAfter 3 RX11 (kR kTab kA)) (hret : gRetI p l e (rmL 7 0 0) s m args below meth c cX11_allGrainAfter (mΩ ad) (mP dC dI cI kA ad) Q r S1) (hf : fX11_allGrainAfter_21 M s0 = some (r, S1)) (hP : (mP dC dI cI kA ad) M s H) (hS : va_S (Fr (mΩ ad) s.heap.size) s.heap H locs) (hl : lv_has ls 3 [(0, .ref (ad 25))]) : W p l e (rmL 7 0 0) s m args below meth c H locs 0 0 Q (F0 m 21 ls [.int s0, .ref (ad 25)]) := by
  have hx := X.hx
  have hb := X.hb
  have hown := X.hown
  have hts := X.hts
  rw [fX11_allGrainAfter_21] at hf
  obtain ⟨q, hc, hf⟩ := bd hf
  refine gCallVI X mOK rfl (vX11_goesBack hc) gRX11_X11_goesBack hdX11_goesBack rfl ⟨by decide, by decide⟩ hP hS (mrec hP) hl.1 (Nat.le_of_ble_eq_true rfl) ⟨Nat.le_refl _, Nat.le_refl _⟩ dX11_allGrainAfter_21 (As := [.int s0]) (rest := []) rfl (fun H locs hP hS => ?_)
  exact kX11_allGrainAfter_24 X hret hf hP hS (lv_sub hl [0] rfl)
set_option maxRecDepth 10000 in
theorem kX11_allGrainAfter_9 {r : Int32} {S1 : MS} {M : MS} {s0 : Int32} {H : Heap} {locs : List Loc} {ls : Array Slot} (X : gX p s m args c cX11_allGrainAfter 3 RX11 (kR kTab kA)) (hret : gRetI p l e (rmL 7 0 0) s m args below meth c cX11_allGrainAfter (mΩ ad) (mP dC dI cI kA ad) Q r S1) (hf : fX11_allGrainAfter_9 M s0 = some (r, S1)) (hP : (mP dC dI cI kA ad) M s H) (hS : va_S (Fr (mΩ ad) s.heap.size) s.heap H locs) (hl : lv_has ls 3 [(0, .ref (ad 25))]) : W p l e (rmL 7 0 0) s m args below meth c H locs 0 0 Q (F0 m 9 ls [.int s0]) := by
  have hx := X.hx
  have hb := X.hb
  have hown := X.hown
  have hts := X.hts
  rw [fX11_allGrainAfter_9] at hf
  refine lv_istore_n (lv' := [(2, .int s0), (0, .ref (ad 25))]) hx hb dX11_allGrainAfter_9 rfl hl (by decide) rfl (fun ls hl => ?_)
  refine lv_aload_n hx hb dX11_allGrainAfter_10 rfl (lv_at hl 1 rfl) ?_
  refine lv_aload_n hx hb dX11_allGrainAfter_11 rfl (lv_at hl 1 rfl) ?_
  refine lv_sipush (v := 161) hx hb dX11_allGrainAfter_12 (by decide) ?_
  refine lv_iconst (v := 1) hx hb dX11_allGrainAfter_15 (by decide) ?_
  refine lv_bipush (v := 7) hx hb dX11_allGrainAfter_16 (by decide) ?_
  obtain ⟨q, hc, hf⟩ := bd hf
  refine gCallVR X rfl (vX11_sumOf hc) gRX11_X11_sumOf hdX11_sumOf rfl ⟨by decide, by decide⟩ (gB_blind mOK) (gB_at mOK X hP) (mrec hP) hl.1 (Nat.le_of_ble_eq_true rfl) ⟨Nat.le_refl _, Nat.le_refl _⟩ dX11_allGrainAfter_18 (As := [.int 161, .int 1, .int 7]) (rest := [.ref (ad 25)]) rfl ?_
  exact kX11_allGrainAfter_21 X hret hf hP hS (lv_sub hl [1] rfl)
set_option maxRecDepth 10000 in
theorem kX11_allGrainAfter_4 {r : Int32} {S1 : MS} {M : MS} {x1 : Int32} {H : Heap} {locs : List Loc} {ls : Array Slot} (X : gX p s m args c cX11_allGrainAfter 3 RX11 (kR kTab kA)) (hret : gRetI p l e (rmL 7 0 0) s m args below meth c cX11_allGrainAfter (mΩ ad) (mP dC dI cI kA ad) Q r S1) (hf : fX11_allGrainAfter_4 M x1 = some (r, S1)) (hP : (mP dC dI cI kA ad) M s H) (hS : va_S (Fr (mΩ ad) s.heap.size) s.heap H locs) (hl : lv_has ls 3 [(0, .ref (ad 25)), (1, .int x1)]) : W p l e (rmL 7 0 0) s m args below meth c H locs 0 0 Q (F0 m 4 ls []) := by
  have hx := X.hx
  have hb := X.hb
  have hown := X.hown
  have hts := X.hts
  rw [fX11_allGrainAfter_4] at hf
  refine lv_aload_n hx hb dX11_allGrainAfter_4 rfl (lv_at hl 0 rfl) ?_
  refine lv_iload_n hx hb dX11_allGrainAfter_5 rfl (lv_at hl 1 rfl) ?_
  obtain ⟨q, hc, hf⟩ := bd hf
  refine gCallVI X mOK rfl (vX11_passes hc) gRX11_X11_passes hdX11_passes rfl ⟨by decide, by decide⟩ hP hS (mrec hP) hl.1 (Nat.le_of_ble_eq_true rfl) ⟨Nat.le_refl _, Nat.le_refl _⟩ dX11_allGrainAfter_6 (As := [.int x1]) (rest := []) rfl (fun H locs hP hS => ?_)
  exact kX11_allGrainAfter_9 X hret hf hP hS (lv_sub hl [0] rfl)
set_option maxRecDepth 10000 in
theorem kX11_allGrainAfter_0 {r : Int32} {S1 : MS} {M : MS} {a1 : Int32} {H : Heap} {locs : List Loc} {ls : Array Slot} (X : gX p s m args c cX11_allGrainAfter 3 RX11 (kR kTab kA)) (hret : gRetI p l e (rmL 7 0 0) s m args below meth c cX11_allGrainAfter (mΩ ad) (mP dC dI cI kA ad) Q r S1) (hf : fX11_allGrainAfter_0 M a1 = some (r, S1)) (hP : (mP dC dI cI kA ad) M s H) (hS : va_S (Fr (mΩ ad) s.heap.size) s.heap H locs) (hl : lv_has ls 3 [(0, .ref (ad 25)), (1, .int a1)]) : W p l e (rmL 7 0 0) s m args below meth c H locs 0 0 Q (F0 m 0 ls []) := by
  have hx := X.hx
  have hb := X.hb
  have hown := X.hown
  have hts := X.hts
  rw [fX11_allGrainAfter_0] at hf
  refine lv_aload_n hx hb dX11_allGrainAfter_0 rfl (lv_at hl 0 rfl) ?_
  obtain ⟨q, hc, hf⟩ := bd hf
  refine gCallVV X mOK rfl (vX11_goesAside hc) gRX11_X11_goesAside hdX11_goesAside rfl ⟨by decide, by decide⟩ hP hS (mrec hP) hl.1 (Nat.le_of_ble_eq_true rfl) ⟨Nat.le_refl _, Nat.le_refl _⟩ dX11_allGrainAfter_1 (As := []) (rest := []) rfl (fun H locs hP hS => ?_)
  exact kX11_allGrainAfter_4 X hret hf hP hS (lv_sub hl [0, 1] rfl)
theorem vX11_allGrainAfter {l : Launch} {dC : Nat → ClassId} {dI : Nat → Nat → Nat} {cI : ClassId} {kA : String → Nat → Nat} {ad : Nat → Nat} {M S1 : MS} {r : Int32} {a1 : Int32} (hf : fX11_allGrainAfter M a1 = some (r, S1)) : gMetI l yX11_allGrainAfter cX11_allGrainAfter 3 (some .int) 7 (mΩ ad) (mP dC dI cI kA ad) (kR kTab kA) [.ref (ad 25), .int a1] M r S1 := gEntryI (ty := .int) (by decide) rfl rfl mOK (Nat.le_of_ble_eq_true rfl) (fun p e s m args below meth c Q ls X hP hS hret hl => 
  kX11_allGrainAfter_0 X hret hf hP hS (lv_sub hl [0, 1] rfl))
set_option maxRecDepth 10000 in
theorem kX11_letPass_55 {r : Int32} {S1 : MS} {M : MS} {H : Heap} {locs : List Loc} {ls : Array Slot} (X : gX p s m args c cX11_letPass 2 RX11 (kR kTab kA)) (hret : gRetI p l e (rmL 7 0 0) s m args below meth c cX11_letPass (mΩ ad) (mP dC dI cI kA ad) Q r S1) (hf : fX11_letPass_55 M = some (r, S1)) (hP : (mP dC dI cI kA ad) M s H) (hS : va_S (Fr (mΩ ad) s.heap.size) s.heap H locs) (hl : lv_has ls 2 [(0, .ref (ad 25))]) : W p l e (rmL 7 0 0) s m args below meth c H locs 0 0 Q (F0 m 55 ls []) := by
  have hx := X.hx
  have hb := X.hb
  have hown := X.hown
  have hts := X.hts
  rw [fX11_letPass_55] at hf
  refine lv_iconst (v := 0) hx hb dX11_letPass_55 (by decide) ?_
  cases hf
  exact hret _ _ _ _ dX11_letPass_56 hP hS
set_option maxRecDepth 10000 in
theorem kX11_letPass_66 {r : Int32} {S1 : MS} {M : MS} {s0 : Int32} {H : Heap} {locs : List Loc} {ls : Array Slot} (X : gX p s m args c cX11_letPass 2 RX11 (kR kTab kA)) (hret : gRetI p l e (rmL 7 0 0) s m args below meth c cX11_letPass (mΩ ad) (mP dC dI cI kA ad) Q r S1) (hf : fX11_letPass_66 M s0 = some (r, S1)) (hP : (mP dC dI cI kA ad) M s H) (hS : va_S (Fr (mΩ ad) s.heap.size) s.heap H locs) (hl : lv_has ls 2 [(0, .ref (ad 25))]) : W p l e (rmL 7 0 0) s m args below meth c H locs 0 0 Q (F0 m 66 ls [.int s0]) := by
  have hx := X.hx
  have hb := X.hb
  have hown := X.hown
  have hts := X.hts
  rw [fX11_letPass_66] at hf
  cases hf
  exact hret _ _ _ _ dX11_letPass_66 hP hS
set_option maxRecDepth 10000 in
theorem kX11_letPass_61 {r : Int32} {S1 : MS} {M : MS} {x1 : Int32} {H : Heap} {locs : List Loc} {ls : Array Slot} (X : gX p s m args c cX11_letPass 2 RX11 (kR kTab kA)) (hret : gRetI p l e (rmL 7 0 0) s m args below meth c cX11_letPass (mΩ ad) (mP dC dI cI kA ad) Q r S1) (hf : fX11_letPass_61 M x1 = some (r, S1)) (hP : (mP dC dI cI kA ad) M s H) (hS : va_S (Fr (mΩ ad) s.heap.size) s.heap H locs) (hl : lv_has ls 2 [(0, .ref (ad 25)), (1, .int x1)]) : W p l e (rmL 7 0 0) s m args below meth c H locs 0 0 Q (F0 m 61 ls []) := by
  have hx := X.hx
  have hb := X.hb
  have hown := X.hown
  have hts := X.hts
  rw [fX11_letPass_61] at hf
  refine lv_aload_n hx hb dX11_letPass_61 rfl (lv_at hl 0 rfl) ?_
  refine lv_iload_n hx hb dX11_letPass_62 rfl (lv_at hl 1 rfl) ?_
  obtain ⟨q, hc, hf⟩ := bd hf
  refine gCallVI X mOK rfl (vX11_passes hc) gRX11_X11_passes hdX11_passes rfl ⟨by decide, by decide⟩ hP hS (mrec hP) hl.1 (Nat.le_of_ble_eq_true rfl) ⟨Nat.le_refl _, Nat.le_refl _⟩ dX11_letPass_63 (As := [.int x1]) (rest := []) rfl (fun H locs hP hS => ?_)
  exact kX11_letPass_66 X hret hf hP hS (lv_sub hl [0] rfl)
set_option maxRecDepth 10000 in
theorem kX11_letPass_57 {r : Int32} {S1 : MS} {M : MS} {x1 : Int32} {H : Heap} {locs : List Loc} {ls : Array Slot} (X : gX p s m args c cX11_letPass 2 RX11 (kR kTab kA)) (hret : gRetI p l e (rmL 7 0 0) s m args below meth c cX11_letPass (mΩ ad) (mP dC dI cI kA ad) Q r S1) (hf : fX11_letPass_57 M x1 = some (r, S1)) (hP : (mP dC dI cI kA ad) M s H) (hS : va_S (Fr (mΩ ad) s.heap.size) s.heap H locs) (hl : lv_has ls 2 [(0, .ref (ad 25)), (1, .int x1)]) : W p l e (rmL 7 0 0) s m args below meth c H locs 0 0 Q (F0 m 57 ls []) := by
  have hx := X.hx
  have hb := X.hb
  have hown := X.hown
  have hts := X.hts
  rw [fX11_letPass_57] at hf
  refine lv_aload_n hx hb dX11_letPass_57 rfl (lv_at hl 0 rfl) ?_
  obtain ⟨q, hc, hf⟩ := bd hf
  refine gCallVV X mOK rfl (vX11_remembers hc) gRX11_X11_remembers hdX11_remembers rfl ⟨by decide, by decide⟩ hP hS (mrec hP) hl.1 (Nat.le_of_ble_eq_true rfl) ⟨Nat.le_refl _, Nat.le_refl _⟩ dX11_letPass_58 (As := []) (rest := []) rfl (fun H locs hP hS => ?_)
  exact kX11_letPass_61 X hret hf hP hS (lv_sub hl [0, 1] rfl)
set_option maxRecDepth 10000 in
theorem kX11_letPass_52 {r : Int32} {S1 : MS} {M : MS} {x1 : Int32} {s0 : Int32} {H : Heap} {locs : List Loc} {ls : Array Slot} (X : gX p s m args c cX11_letPass 2 RX11 (kR kTab kA)) (hret : gRetI p l e (rmL 7 0 0) s m args below meth c cX11_letPass (mΩ ad) (mP dC dI cI kA ad) Q r S1) (hf : fX11_letPass_52 M x1 s0 = some (r, S1)) (hP : (mP dC dI cI kA ad) M s H) (hS : va_S (Fr (mΩ ad) s.heap.size) s.heap H locs) (hl : lv_has ls 2 [(0, .ref (ad 25)), (1, .int x1)]) : W p l e (rmL 7 0 0) s m args below meth c H locs 0 0 Q (F0 m 52 ls [.int s0]) := by
  have hx := X.hx
  have hb := X.hb
  have hown := X.hown
  have hts := X.hts
  rw [fX11_letPass_52] at hf
  refine lv_if_eq (tgt := 57) hx hb dX11_letPass_52 (by decide) (fun c1 => ?_) (fun c1 => ?_)
  · exact kX11_letPass_57 X hret (ifp c1 hf) hP hS (lv_sub hl [0, 1] rfl)
  · exact kX11_letPass_55 X hret (ifn c1 hf) hP hS (lv_sub hl [0] rfl)
set_option maxRecDepth 10000 in
theorem kX11_letPass_48 {r : Int32} {S1 : MS} {M : MS} {x1 : Int32} {s0 : Int32} {H : Heap} {locs : List Loc} {ls : Array Slot} (X : gX p s m args c cX11_letPass 2 RX11 (kR kTab kA)) (hret : gRetI p l e (rmL 7 0 0) s m args below meth c cX11_letPass (mΩ ad) (mP dC dI cI kA ad) Q r S1) (hf : fX11_letPass_48 M x1 s0 = some (r, S1)) (hP : (mP dC dI cI kA ad) M s H) (hS : va_S (Fr (mΩ ad) s.heap.size) s.heap H locs) (hl : lv_has ls 2 [(0, .ref (ad 25)), (1, .int x1)]) : W p l e (rmL 7 0 0) s m args below meth c H locs 0 0 Q (F0 m 48 ls [.int s0, .ref (ad 25)]) := by
  have hx := X.hx
  have hb := X.hb
  have hown := X.hown
  have hts := X.hts
  rw [fX11_letPass_48] at hf
  refine lv_iconst (v := 2) hx hb dX11_letPass_48 (by decide) ?_
  obtain ⟨q, hc, hf⟩ := bd hf
  refine gCallVI X mOK rfl (vX11_fails hc) gRX11_X11_fails hdX11_fails rfl ⟨by decide, by decide⟩ hP hS (mrec hP) hl.1 (Nat.le_of_ble_eq_true rfl) ⟨Nat.le_refl _, Nat.le_refl _⟩ dX11_letPass_49 (As := [.int s0, .int 2]) (rest := []) rfl (fun H locs hP hS => ?_)
  exact kX11_letPass_52 X hret hf hP hS (lv_sub hl [0, 1] rfl)
set_option maxRecDepth 10000 in
theorem kX11_letPass_47 {r : Int32} {S1 : MS} {M : MS} {x1 : Int32} {H : Heap} {locs : List Loc} {ls : Array Slot} (X : gX p s m args c cX11_letPass 2 RX11 (kR kTab kA)) (hret : gRetI p l e (rmL 7 0 0) s m args below meth c cX11_letPass (mΩ ad) (mP dC dI cI kA ad) Q r S1) (hf : fX11_letPass_47 M x1 = some (r, S1)) (hP : (mP dC dI cI kA ad) M s H) (hS : va_S (Fr (mΩ ad) s.heap.size) s.heap H locs) (hl : lv_has ls 2 [(0, .ref (ad 25)), (1, .int x1)]) : W p l e (rmL 7 0 0) s m args below meth c H locs 0 0 Q (F0 m 47 ls [.ref (ad 25)]) := by
  have hx := X.hx
  have hb := X.hb
  have hown := X.hown
  have hts := X.hts
  rw [fX11_letPass_47] at hf
  refine lv_iconst (v := 0) hx hb dX11_letPass_47 (by decide) ?_
  exact kX11_letPass_48 X hret hf hP hS (lv_sub hl [0, 1] rfl)
set_option maxRecDepth 10000 in
theorem kX11_letPass_43 {r : Int32} {S1 : MS} {M : MS} {x1 : Int32} {H : Heap} {locs : List Loc} {ls : Array Slot} (X : gX p s m args c cX11_letPass 2 RX11 (kR kTab kA)) (hret : gRetI p l e (rmL 7 0 0) s m args below meth c cX11_letPass (mΩ ad) (mP dC dI cI kA ad) Q r S1) (hf : fX11_letPass_43 M x1 = some (r, S1)) (hP : (mP dC dI cI kA ad) M s H) (hS : va_S (Fr (mΩ ad) s.heap.size) s.heap H locs) (hl : lv_has ls 2 [(0, .ref (ad 25)), (1, .int x1)]) : W p l e (rmL 7 0 0) s m args below meth c H locs 0 0 Q (F0 m 43 ls [.ref (ad 25)]) := by
  have hx := X.hx
  have hb := X.hb
  have hown := X.hown
  have hts := X.hts
  rw [fX11_letPass_43] at hf
  refine lv_iconst (v := 1) hx hb dX11_letPass_43 (by decide) ?_
  refine lv_goto (tgt := 48) hx hb dX11_letPass_44 (by decide) ?_
  exact kX11_letPass_48 X hret hf hP hS (lv_sub hl [0, 1] rfl)
set_option maxRecDepth 10000 in
theorem kX11_letPass_28 {r : Int32} {S1 : MS} {M : MS} {x1 : Int32} {H : Heap} {locs : List Loc} {ls : Array Slot} (X : gX p s m args c cX11_letPass 2 RX11 (kR kTab kA)) (hret : gRetI p l e (rmL 7 0 0) s m args below meth c cX11_letPass (mΩ ad) (mP dC dI cI kA ad) Q r S1) (hf : fX11_letPass_28 M x1 = some (r, S1)) (hP : (mP dC dI cI kA ad) M s H) (hS : va_S (Fr (mΩ ad) s.heap.size) s.heap H locs) (hl : lv_has ls 2 [(0, .ref (ad 25)), (1, .int x1)]) : W p l e (rmL 7 0 0) s m args below meth c H locs 0 0 Q (F0 m 28 ls []) := by
  have hx := X.hx
  have hb := X.hb
  have hown := X.hown
  have hts := X.hts
  rw [fX11_letPass_28] at hf
  refine lv_aload_n hx hb dX11_letPass_28 rfl (lv_at hl 0 rfl) ?_
  refine lv_aload_n hx hb dX11_letPass_29 rfl (lv_at hl 0 rfl) ?_
  refine mr_get (k := 0) X hP (by decide) rfl rfl tw1665 dX11_letPass_30 ?_
  refine lv_iconst (v := 3) hx hb dX11_letPass_33 (by decide) ?_
  obtain ⟨g1, hf⟩ := gd hf
  refine mr_ald (a := 0) X hP rfl g1 dX11_letPass_34 ?_
  refine lv_iload_n hx hb dX11_letPass_35 rfl (lv_at hl 1 rfl) ?_
  refine lv_iadd hx hb dX11_letPass_36 ?_
  refine lv_sipush (v := 9999) hx hb dX11_letPass_37 (by decide) ?_
  refine lv_icmp_le (tgt := 47) hx hb dX11_letPass_40 (by decide) (fun c1 => ?_) (fun c1 => ?_)
  · exact kX11_letPass_47 X hret (ifp c1 hf) hP hS (lv_sub hl [0, 1] rfl)
  · exact kX11_letPass_43 X hret (ifn c1 hf) hP hS (lv_sub hl [0, 1] rfl)
set_option maxRecDepth 10000 in
theorem kX11_letPass_25 {r : Int32} {S1 : MS} {M : MS} {x1 : Int32} {s0 : Int32} {H : Heap} {locs : List Loc} {ls : Array Slot} (X : gX p s m args c cX11_letPass 2 RX11 (kR kTab kA)) (hret : gRetI p l e (rmL 7 0 0) s m args below meth c cX11_letPass (mΩ ad) (mP dC dI cI kA ad) Q r S1) (hf : fX11_letPass_25 M x1 s0 = some (r, S1)) (hP : (mP dC dI cI kA ad) M s H) (hS : va_S (Fr (mΩ ad) s.heap.size) s.heap H locs) (hl : lv_has ls 2 [(0, .ref (ad 25)), (1, .int x1)]) : W p l e (rmL 7 0 0) s m args below meth c H locs 0 0 Q (F0 m 25 ls [.int s0]) := by
  have hx := X.hx
  have hb := X.hb
  have hown := X.hown
  have hts := X.hts
  rw [fX11_letPass_25] at hf
  refine lv_if_ne (tgt := 55) hx hb dX11_letPass_25 (by decide) (fun c1 => ?_) (fun c1 => ?_)
  · exact kX11_letPass_55 X hret (ifn c1 hf) hP hS (lv_sub hl [0] rfl)
  · exact kX11_letPass_28 X hret (ifp c1 hf) hP hS (lv_sub hl [0, 1] rfl)
set_option maxRecDepth 10000 in
theorem kX11_letPass_21 {r : Int32} {S1 : MS} {M : MS} {x1 : Int32} {s0 : Int32} {H : Heap} {locs : List Loc} {ls : Array Slot} (X : gX p s m args c cX11_letPass 2 RX11 (kR kTab kA)) (hret : gRetI p l e (rmL 7 0 0) s m args below meth c cX11_letPass (mΩ ad) (mP dC dI cI kA ad) Q r S1) (hf : fX11_letPass_21 M x1 s0 = some (r, S1)) (hP : (mP dC dI cI kA ad) M s H) (hS : va_S (Fr (mΩ ad) s.heap.size) s.heap H locs) (hl : lv_has ls 2 [(0, .ref (ad 25)), (1, .int x1)]) : W p l e (rmL 7 0 0) s m args below meth c H locs 0 0 Q (F0 m 21 ls [.int s0, .ref (ad 25)]) := by
  have hx := X.hx
  have hb := X.hb
  have hown := X.hown
  have hts := X.hts
  rw [fX11_letPass_21] at hf
  refine lv_iconst (v := 1) hx hb dX11_letPass_21 (by decide) ?_
  obtain ⟨q, hc, hf⟩ := bd hf
  refine gCallVI X mOK rfl (vX11_fails hc) gRX11_X11_fails hdX11_fails rfl ⟨by decide, by decide⟩ hP hS (mrec hP) hl.1 (Nat.le_of_ble_eq_true rfl) ⟨Nat.le_refl _, Nat.le_refl _⟩ dX11_letPass_22 (As := [.int s0, .int 1]) (rest := []) rfl (fun H locs hP hS => ?_)
  exact kX11_letPass_25 X hret hf hP hS (lv_sub hl [0, 1] rfl)
set_option maxRecDepth 10000 in
theorem kX11_letPass_20 {r : Int32} {S1 : MS} {M : MS} {x1 : Int32} {H : Heap} {locs : List Loc} {ls : Array Slot} (X : gX p s m args c cX11_letPass 2 RX11 (kR kTab kA)) (hret : gRetI p l e (rmL 7 0 0) s m args below meth c cX11_letPass (mΩ ad) (mP dC dI cI kA ad) Q r S1) (hf : fX11_letPass_20 M x1 = some (r, S1)) (hP : (mP dC dI cI kA ad) M s H) (hS : va_S (Fr (mΩ ad) s.heap.size) s.heap H locs) (hl : lv_has ls 2 [(0, .ref (ad 25)), (1, .int x1)]) : W p l e (rmL 7 0 0) s m args below meth c H locs 0 0 Q (F0 m 20 ls [.ref (ad 25)]) := by
  have hx := X.hx
  have hb := X.hb
  have hown := X.hown
  have hts := X.hts
  rw [fX11_letPass_20] at hf
  refine lv_iconst (v := 0) hx hb dX11_letPass_20 (by decide) ?_
  exact kX11_letPass_21 X hret hf hP hS (lv_sub hl [0, 1] rfl)
set_option maxRecDepth 10000 in
theorem kX11_letPass_16 {r : Int32} {S1 : MS} {M : MS} {x1 : Int32} {H : Heap} {locs : List Loc} {ls : Array Slot} (X : gX p s m args c cX11_letPass 2 RX11 (kR kTab kA)) (hret : gRetI p l e (rmL 7 0 0) s m args below meth c cX11_letPass (mΩ ad) (mP dC dI cI kA ad) Q r S1) (hf : fX11_letPass_16 M x1 = some (r, S1)) (hP : (mP dC dI cI kA ad) M s H) (hS : va_S (Fr (mΩ ad) s.heap.size) s.heap H locs) (hl : lv_has ls 2 [(0, .ref (ad 25)), (1, .int x1)]) : W p l e (rmL 7 0 0) s m args below meth c H locs 0 0 Q (F0 m 16 ls [.ref (ad 25)]) := by
  have hx := X.hx
  have hb := X.hb
  have hown := X.hown
  have hts := X.hts
  rw [fX11_letPass_16] at hf
  refine lv_iconst (v := 1) hx hb dX11_letPass_16 (by decide) ?_
  refine lv_goto (tgt := 21) hx hb dX11_letPass_17 (by decide) ?_
  exact kX11_letPass_21 X hret hf hP hS (lv_sub hl [0, 1] rfl)
set_option maxRecDepth 10000 in
theorem kX11_letPass_13 {r : Int32} {S1 : MS} {M : MS} {x1 : Int32} {s0 : Int32} {H : Heap} {locs : List Loc} {ls : Array Slot} (X : gX p s m args c cX11_letPass 2 RX11 (kR kTab kA)) (hret : gRetI p l e (rmL 7 0 0) s m args below meth c cX11_letPass (mΩ ad) (mP dC dI cI kA ad) Q r S1) (hf : fX11_letPass_13 M x1 s0 = some (r, S1)) (hP : (mP dC dI cI kA ad) M s H) (hS : va_S (Fr (mΩ ad) s.heap.size) s.heap H locs) (hl : lv_has ls 2 [(0, .ref (ad 25)), (1, .int x1)]) : W p l e (rmL 7 0 0) s m args below meth c H locs 0 0 Q (F0 m 13 ls [.int s0, .ref (ad 25)]) := by
  have hx := X.hx
  have hb := X.hb
  have hown := X.hown
  have hts := X.hts
  rw [fX11_letPass_13] at hf
  refine lv_if_ne (tgt := 20) hx hb dX11_letPass_13 (by decide) (fun c1 => ?_) (fun c1 => ?_)
  · exact kX11_letPass_20 X hret (ifn c1 hf) hP hS (lv_sub hl [0, 1] rfl)
  · exact kX11_letPass_16 X hret (ifp c1 hf) hP hS (lv_sub hl [0, 1] rfl)
set_option maxRecDepth 10000 in
theorem kX11_letPass_5 {r : Int32} {S1 : MS} {M : MS} {x1 : Int32} {H : Heap} {locs : List Loc} {ls : Array Slot} (X : gX p s m args c cX11_letPass 2 RX11 (kR kTab kA)) (hret : gRetI p l e (rmL 7 0 0) s m args below meth c cX11_letPass (mΩ ad) (mP dC dI cI kA ad) Q r S1) (hf : fX11_letPass_5 M x1 = some (r, S1)) (hP : (mP dC dI cI kA ad) M s H) (hS : va_S (Fr (mΩ ad) s.heap.size) s.heap H locs) (hl : lv_has ls 2 [(0, .ref (ad 25)), (1, .int x1)]) : W p l e (rmL 7 0 0) s m args below meth c H locs 0 0 Q (F0 m 5 ls []) := by
  have hx := X.hx
  have hb := X.hb
  have hown := X.hown
  have hts := X.hts
  rw [fX11_letPass_5] at hf
  refine lv_aload_n hx hb dX11_letPass_5 rfl (lv_at hl 0 rfl) ?_
  refine lv_iload_n hx hb dX11_letPass_6 rfl (lv_at hl 1 rfl) ?_
  refine lv_iconst (v := 1) hx hb dX11_letPass_7 (by decide) ?_
  refine lv_bipush (v := 99) hx hb dX11_letPass_8 (by decide) ?_
  obtain ⟨q, hc, hf⟩ := bd hf
  refine gCallSR X rfl (vX11_inRange hc) gRX11_X11_inRange hdX11_inRange rfl ⟨by decide, by decide⟩ (gB_blind mOK) (gB_at mOK X hP) hl.1 (Nat.le_of_ble_eq_true rfl) ⟨Nat.le_refl _, Nat.le_refl _⟩ dX11_letPass_10 (As := [.int x1, .int 1, .int 99]) (rest := [.ref (ad 25)]) rfl ?_
  exact kX11_letPass_13 X hret hf hP hS (lv_sub hl [0, 1] rfl)
set_option maxRecDepth 10000 in
theorem kX11_letPass_0 {r : Int32} {S1 : MS} {M : MS} {a1 : Int32} {H : Heap} {locs : List Loc} {ls : Array Slot} (X : gX p s m args c cX11_letPass 2 RX11 (kR kTab kA)) (hret : gRetI p l e (rmL 7 0 0) s m args below meth c cX11_letPass (mΩ ad) (mP dC dI cI kA ad) Q r S1) (hf : fX11_letPass_0 M a1 = some (r, S1)) (hP : (mP dC dI cI kA ad) M s H) (hS : va_S (Fr (mΩ ad) s.heap.size) s.heap H locs) (hl : lv_has ls 2 [(0, .ref (ad 25)), (1, .int a1)]) : W p l e (rmL 7 0 0) s m args below meth c H locs 0 0 Q (F0 m 0 ls []) := by
  have hx := X.hx
  have hb := X.hb
  have hown := X.hown
  have hts := X.hts
  rw [fX11_letPass_0] at hf
  refine lv_aload_n hx hb dX11_letPass_0 rfl (lv_at hl 0 rfl) ?_
  refine lv_iconst (v := 0) hx hb dX11_letPass_1 (by decide) ?_
  refine mr_put (k := 7) X hP hS (by decide) rfl rfl rfl rfl tw1672 dX11_letPass_2 (fun H locs hP hS => ?_)
  exact kX11_letPass_5 X hret hf hP hS (lv_sub hl [0, 1] rfl)
theorem vX11_letPass {l : Launch} {dC : Nat → ClassId} {dI : Nat → Nat → Nat} {cI : ClassId} {kA : String → Nat → Nat} {ad : Nat → Nat} {M S1 : MS} {r : Int32} {a1 : Int32} (hf : fX11_letPass M a1 = some (r, S1)) : gMetI l yX11_letPass cX11_letPass 2 (some .int) 7 (mΩ ad) (mP dC dI cI kA ad) (kR kTab kA) [.ref (ad 25), .int a1] M r S1 := gEntryI (ty := .int) (by decide) rfl rfl mOK (Nat.le_of_ble_eq_true rfl) (fun p e s m args below meth c Q ls X hP hS hret hl => 
  kX11_letPass_0 X hret hf hP hS (lv_sub hl [0, 1] rfl))
set_option maxRecDepth 10000 in
theorem kX11_readText_61 {r : Int32} {S1 : MS} {M : MS} {s0 : Int32} {H : Heap} {locs : List Loc} {ls : Array Slot} (X : gX p s m args c cX11_readText 1 RX11 (kR kTab kA)) (hret : gRetI p l e (rmL 8 0 0) s m args below meth c cX11_readText (mΩ ad) (mP dC dI cI kA ad) Q r S1) (hf : fX11_readText_61 M s0 = some (r, S1)) (hP : (mP dC dI cI kA ad) M s H) (hS : va_S (Fr (mΩ ad) s.heap.size) s.heap H locs) (hl : lv_has ls 1 [(0, .ref (ad 25))]) : W p l e (rmL 8 0 0) s m args below meth c H locs 0 0 Q (F0 m 61 ls [.int s0]) := by
  have hx := X.hx
  have hb := X.hb
  have hown := X.hown
  have hts := X.hts
  rw [fX11_readText_61] at hf
  cases hf
  exact hret _ _ _ _ dX11_readText_61 hP hS
set_option maxRecDepth 10000 in
theorem kX11_readText_60 {r : Int32} {S1 : MS} {M : MS} {H : Heap} {locs : List Loc} {ls : Array Slot} (X : gX p s m args c cX11_readText 1 RX11 (kR kTab kA)) (hret : gRetI p l e (rmL 8 0 0) s m args below meth c cX11_readText (mΩ ad) (mP dC dI cI kA ad) Q r S1) (hf : fX11_readText_60 M = some (r, S1)) (hP : (mP dC dI cI kA ad) M s H) (hS : va_S (Fr (mΩ ad) s.heap.size) s.heap H locs) (hl : lv_has ls 1 [(0, .ref (ad 25))]) : W p l e (rmL 8 0 0) s m args below meth c H locs 0 0 Q (F0 m 60 ls []) := by
  have hx := X.hx
  have hb := X.hb
  have hown := X.hown
  have hts := X.hts
  rw [fX11_readText_60] at hf
  refine lv_iconst (v := 0) hx hb dX11_readText_60 (by decide) ?_
  exact kX11_readText_61 X hret hf hP hS (lv_sub hl [0] rfl)
set_option maxRecDepth 10000 in
theorem kX11_readText_56 {r : Int32} {S1 : MS} {M : MS} {H : Heap} {locs : List Loc} {ls : Array Slot} (X : gX p s m args c cX11_readText 1 RX11 (kR kTab kA)) (hret : gRetI p l e (rmL 8 0 0) s m args below meth c cX11_readText (mΩ ad) (mP dC dI cI kA ad) Q r S1) (hf : fX11_readText_56 M = some (r, S1)) (hP : (mP dC dI cI kA ad) M s H) (hS : va_S (Fr (mΩ ad) s.heap.size) s.heap H locs) (hl : lv_has ls 1 [(0, .ref (ad 25))]) : W p l e (rmL 8 0 0) s m args below meth c H locs 0 0 Q (F0 m 56 ls []) := by
  have hx := X.hx
  have hb := X.hb
  have hown := X.hown
  have hts := X.hts
  rw [fX11_readText_56] at hf
  refine lv_iconst (v := 1) hx hb dX11_readText_56 (by decide) ?_
  refine lv_goto (tgt := 61) hx hb dX11_readText_57 (by decide) ?_
  exact kX11_readText_61 X hret hf hP hS (lv_sub hl [0] rfl)
set_option maxRecDepth 10000 in
theorem kX11_readText_53 {r : Int32} {S1 : MS} {M : MS} {s0 : Int32} {H : Heap} {locs : List Loc} {ls : Array Slot} (X : gX p s m args c cX11_readText 1 RX11 (kR kTab kA)) (hret : gRetI p l e (rmL 8 0 0) s m args below meth c cX11_readText (mΩ ad) (mP dC dI cI kA ad) Q r S1) (hf : fX11_readText_53 M s0 = some (r, S1)) (hP : (mP dC dI cI kA ad) M s H) (hS : va_S (Fr (mΩ ad) s.heap.size) s.heap H locs) (hl : lv_has ls 1 [(0, .ref (ad 25))]) : W p l e (rmL 8 0 0) s m args below meth c H locs 0 0 Q (F0 m 53 ls [.int s0]) := by
  have hx := X.hx
  have hb := X.hb
  have hown := X.hown
  have hts := X.hts
  rw [fX11_readText_53] at hf
  refine lv_if_eq (tgt := 60) hx hb dX11_readText_53 (by decide) (fun c1 => ?_) (fun c1 => ?_)
  · exact kX11_readText_60 X hret (ifp c1 hf) hP hS (lv_sub hl [0] rfl)
  · exact kX11_readText_56 X hret (ifn c1 hf) hP hS (lv_sub hl [0] rfl)
set_option maxRecDepth 10000 in
theorem kX11_readText_47 {r : Int32} {S1 : MS} {M : MS} {H : Heap} {locs : List Loc} {ls : Array Slot} (X : gX p s m args c cX11_readText 1 RX11 (kR kTab kA)) (hret : gRetI p l e (rmL 8 0 0) s m args below meth c cX11_readText (mΩ ad) (mP dC dI cI kA ad) Q r S1) (hf : fX11_readText_47 M = some (r, S1)) (hP : (mP dC dI cI kA ad) M s H) (hS : va_S (Fr (mΩ ad) s.heap.size) s.heap H locs) (hl : lv_has ls 1 [(0, .ref (ad 25))]) : W p l e (rmL 8 0 0) s m args below meth c H locs 0 0 Q (F0 m 47 ls []) := by
  have hx := X.hx
  have hb := X.hb
  have hown := X.hown
  have hts := X.hts
  rw [fX11_readText_47] at hf
  refine lv_aload_n hx hb dX11_readText_47 rfl (lv_at hl 0 rfl) ?_
  refine lv_bipush (v := 6) hx hb dX11_readText_48 (by decide) ?_
  obtain ⟨q, hc, hf⟩ := bd hf
  refine gCallVI X mOK rfl (vX11_failsAt hc) gRX11_X11_failsAt hdX11_failsAt rfl ⟨by decide, by decide⟩ hP hS (mrec hP) hl.1 (Nat.le_of_ble_eq_true rfl) ⟨Nat.le_refl _, Nat.le_refl _⟩ dX11_readText_50 (As := [.int 6]) (rest := []) rfl (fun H locs hP hS => ?_)
  exact kX11_readText_53 X hret hf hP hS (lv_sub hl [0] rfl)
set_option maxRecDepth 10000 in
theorem kX11_readText_38 {r : Int32} {S1 : MS} {M : MS} {H : Heap} {locs : List Loc} {ls : Array Slot} (X : gX p s m args c cX11_readText 1 RX11 (kR kTab kA)) (hret : gRetI p l e (rmL 8 0 0) s m args below meth c cX11_readText (mΩ ad) (mP dC dI cI kA ad) Q r S1) (hf : fX11_readText_38 M = some (r, S1)) (hP : (mP dC dI cI kA ad) M s H) (hS : va_S (Fr (mΩ ad) s.heap.size) s.heap H locs) (hl : lv_has ls 1 [(0, .ref (ad 25))]) : W p l e (rmL 8 0 0) s m args below meth c H locs 0 0 Q (F0 m 38 ls []) := by
  have hx := X.hx
  have hb := X.hb
  have hown := X.hown
  have hts := X.hts
  rw [fX11_readText_38] at hf
  refine lv_aload_n hx hb dX11_readText_38 rfl (lv_at hl 0 rfl) ?_
  refine mr_get (k := 0) X hP (by decide) rfl rfl tw1665 dX11_readText_39 ?_
  refine lv_iconst (v := 2) hx hb dX11_readText_42 (by decide) ?_
  obtain ⟨g1, hf⟩ := gd hf
  refine mr_ald (a := 0) X hP rfl g1 dX11_readText_43 ?_
  refine lv_if_gt (tgt := 56) hx hb dX11_readText_44 (by decide) (fun c1 => ?_) (fun c1 => ?_)
  · exact kX11_readText_56 X hret (ifp c1 hf) hP hS (lv_sub hl [0] rfl)
  · exact kX11_readText_47 X hret (ifn c1 hf) hP hS (lv_sub hl [0] rfl)
set_option maxRecDepth 10000 in
theorem kX11_readText_29 {r : Int32} {S1 : MS} {M : MS} {H : Heap} {locs : List Loc} {ls : Array Slot} (X : gX p s m args c cX11_readText 1 RX11 (kR kTab kA)) (hret : gRetI p l e (rmL 8 0 0) s m args below meth c cX11_readText (mΩ ad) (mP dC dI cI kA ad) Q r S1) (hf : fX11_readText_29 M = some (r, S1)) (hP : (mP dC dI cI kA ad) M s H) (hS : va_S (Fr (mΩ ad) s.heap.size) s.heap H locs) (hl : lv_has ls 1 [(0, .ref (ad 25))]) : W p l e (rmL 8 0 0) s m args below meth c H locs 0 0 Q (F0 m 29 ls []) := by
  have hx := X.hx
  have hb := X.hb
  have hown := X.hown
  have hts := X.hts
  rw [fX11_readText_29] at hf
  refine lv_aload_n hx hb dX11_readText_29 rfl (lv_at hl 0 rfl) ?_
  refine mr_get (k := 0) X hP (by decide) rfl rfl tw1665 dX11_readText_30 ?_
  refine lv_iconst (v := 1) hx hb dX11_readText_33 (by decide) ?_
  obtain ⟨g1, hf⟩ := gd hf
  refine mr_ald (a := 0) X hP rfl g1 dX11_readText_34 ?_
  refine lv_if_le (tgt := 47) hx hb dX11_readText_35 (by decide) (fun c1 => ?_) (fun c1 => ?_)
  · exact kX11_readText_47 X hret (ifp c1 hf) hP hS (lv_sub hl [0] rfl)
  · exact kX11_readText_38 X hret (ifn c1 hf) hP hS (lv_sub hl [0] rfl)
set_option maxRecDepth 10000 in
theorem kX11_readText_20 {r : Int32} {S1 : MS} {M : MS} {H : Heap} {locs : List Loc} {ls : Array Slot} (X : gX p s m args c cX11_readText 1 RX11 (kR kTab kA)) (hret : gRetI p l e (rmL 8 0 0) s m args below meth c cX11_readText (mΩ ad) (mP dC dI cI kA ad) Q r S1) (hf : fX11_readText_20 M = some (r, S1)) (hP : (mP dC dI cI kA ad) M s H) (hS : va_S (Fr (mΩ ad) s.heap.size) s.heap H locs) (hl : lv_has ls 1 [(0, .ref (ad 25))]) : W p l e (rmL 8 0 0) s m args below meth c H locs 0 0 Q (F0 m 20 ls []) := by
  have hx := X.hx
  have hb := X.hb
  have hown := X.hown
  have hts := X.hts
  rw [fX11_readText_20] at hf
  refine lv_aload_n hx hb dX11_readText_20 rfl (lv_at hl 0 rfl) ?_
  refine mr_get (k := 0) X hP (by decide) rfl rfl tw1665 dX11_readText_21 ?_
  refine lv_iconst (v := 0) hx hb dX11_readText_24 (by decide) ?_
  obtain ⟨g1, hf⟩ := gd hf
  refine mr_ald (a := 0) X hP rfl g1 dX11_readText_25 ?_
  refine lv_if_le (tgt := 47) hx hb dX11_readText_26 (by decide) (fun c1 => ?_) (fun c1 => ?_)
  · exact kX11_readText_47 X hret (ifp c1 hf) hP hS (lv_sub hl [0] rfl)
  · exact kX11_readText_29 X hret (ifn c1 hf) hP hS (lv_sub hl [0] rfl)
set_option maxRecDepth 10000 in
theorem kX11_readText_18 {r : Int32} {S1 : MS} {M : MS} {H : Heap} {locs : List Loc} {ls : Array Slot} (X : gX p s m args c cX11_readText 1 RX11 (kR kTab kA)) (hret : gRetI p l e (rmL 8 0 0) s m args below meth c cX11_readText (mΩ ad) (mP dC dI cI kA ad) Q r S1) (hf : fX11_readText_18 M = some (r, S1)) (hP : (mP dC dI cI kA ad) M s H) (hS : va_S (Fr (mΩ ad) s.heap.size) s.heap H locs) (hl : lv_has ls 1 [(0, .ref (ad 25))]) : W p l e (rmL 8 0 0) s m args below meth c H locs 0 0 Q (F0 m 18 ls []) := by
  have hx := X.hx
  have hb := X.hb
  have hown := X.hown
  have hts := X.hts
  rw [fX11_readText_18] at hf
  refine lv_iconst (v := 0) hx hb dX11_readText_18 (by decide) ?_
  cases hf
  exact hret _ _ _ _ dX11_readText_19 hP hS
set_option maxRecDepth 10000 in
theorem kX11_readText_15 {r : Int32} {S1 : MS} {K4 : MS → Option (Int32 × MS)} {M : MS} {s0 : Int32} {H : Heap} {locs : List Loc} {ls : Array Slot} (X : gX p s m args c cX11_readText 1 RX11 (kR kTab kA)) (hret : gRetI p l e (rmL 8 0 0) s m args below meth c cX11_readText (mΩ ad) (mP dC dI cI kA ad) Q r S1) (hK4 : ∀ (M : MS) (H : Heap) (locs : List Loc) (ls : Array Slot), K4 M = some (r, S1) → (mP dC dI cI kA ad) M s H → va_S (Fr (mΩ ad) s.heap.size) s.heap H locs → lv_has ls 1 [(0, .ref (ad 25))] → W p l e (rmL 8 0 0) s m args below meth c H locs 0 0 Q (F0 m 4 ls [])) (hf : fX11_readText_15 K4 M s0 = some (r, S1)) (hP : (mP dC dI cI kA ad) M s H) (hS : va_S (Fr (mΩ ad) s.heap.size) s.heap H locs) (hl : lv_has ls 1 [(0, .ref (ad 25))]) : W p l e (rmL 8 0 0) s m args below meth c H locs 0 0 Q (F0 m 15 ls [.int s0]) := by
  have hx := X.hx
  have hb := X.hb
  have hown := X.hown
  have hts := X.hts
  rw [fX11_readText_15] at hf
  refine lv_if_ne (tgt := 4) hx hb dX11_readText_15 (by decide) (fun c1 => ?_) (fun c1 => ?_)
  · exact hK4 _ _ _ _ (ifn c1 hf) hP hS (lv_sub hl [0] rfl)
  · exact kX11_readText_18 X hret (ifp c1 hf) hP hS (lv_sub hl [0] rfl)
set_option maxRecDepth 10000 in
theorem kX11_readText_11 {r : Int32} {S1 : MS} {K4 : MS → Option (Int32 × MS)} {M : MS} {H : Heap} {locs : List Loc} {ls : Array Slot} (X : gX p s m args c cX11_readText 1 RX11 (kR kTab kA)) (hret : gRetI p l e (rmL 8 0 0) s m args below meth c cX11_readText (mΩ ad) (mP dC dI cI kA ad) Q r S1) (hK4 : ∀ (M : MS) (H : Heap) (locs : List Loc) (ls : Array Slot), K4 M = some (r, S1) → (mP dC dI cI kA ad) M s H → va_S (Fr (mΩ ad) s.heap.size) s.heap H locs → lv_has ls 1 [(0, .ref (ad 25))] → W p l e (rmL 8 0 0) s m args below meth c H locs 0 0 Q (F0 m 4 ls [])) (hf : fX11_readText_11 K4 M = some (r, S1)) (hP : (mP dC dI cI kA ad) M s H) (hS : va_S (Fr (mΩ ad) s.heap.size) s.heap H locs) (hl : lv_has ls 1 [(0, .ref (ad 25))]) : W p l e (rmL 8 0 0) s m args below meth c H locs 0 0 Q (F0 m 11 ls []) := by
  have hx := X.hx
  have hb := X.hb
  have hown := X.hown
  have hts := X.hts
  rw [fX11_readText_11] at hf
  refine lv_aload_n hx hb dX11_readText_11 rfl (lv_at hl 0 rfl) ?_
  obtain ⟨q, hc, hf⟩ := bd hf
  refine gCallVI X mOK rfl (vX11_readSetupStatement hc) gRX11_X11_readSetupStatement hdX11_readSetupStatement rfl ⟨by decide, by decide⟩ hP hS (mrec hP) hl.1 (Nat.le_of_ble_eq_true rfl) ⟨Nat.le_refl _, Nat.le_refl _⟩ dX11_readText_12 (As := []) (rest := []) rfl (fun H locs hP hS => ?_)
  exact kX11_readText_15 X hret hK4 hf hP hS (lv_sub hl [0] rfl)
set_option maxRecDepth 10000 in
theorem kX11_readText_4 {r : Int32} {S1 : MS} (X : gX p s m args c cX11_readText 1 RX11 (kR kTab kA)) (hret : gRetI p l e (rmL 8 0 0) s m args below meth c cX11_readText (mΩ ad) (mP dC dI cI kA ad) Q r S1) : ∀ (n : Nat) (M : MS) (H : Heap) (locs : List Loc) (ls : Array Slot), fX11_readText_4 n M = some (r, S1) → (mP dC dI cI kA ad) M s H → va_S (Fr (mΩ ad) s.heap.size) s.heap H locs → lv_has ls 1 [(0, .ref (ad 25))] → W p l e (rmL 8 0 0) s m args below meth c H locs 0 0 Q (F0 m 4 ls []) := by
  intro n
  induction n with
  | zero => intro M H locs ls hf; cases hf
  | succ k ih =>
    intro M H locs ls hf hP hS hl
    have hx := X.hx
    have hb := X.hb
    have hown := X.hown
    have hts := X.hts
    rw [fX11_readText_4] at hf
    try dsimp only at hf
    refine lv_aload_n hx hb dX11_readText_4 rfl (lv_at hl 0 rfl) ?_
    refine mr_get (k := 17) X hP (by decide) rfl rfl tw1682 dX11_readText_5 ?_
    refine lv_if_eq (tgt := 20) hx hb dX11_readText_8 (by decide) (fun c1 => ?_) (fun c1 => ?_)
    · exact kX11_readText_20 X hret (ifp c1 hf) hP hS (lv_sub hl [0] rfl)
    · exact kX11_readText_11 X hret ih (ifn c1 hf) hP hS (lv_sub hl [0] rfl)
set_option maxRecDepth 10000 in
theorem kX11_readText_0 {r : Int32} {S1 : MS} {M : MS} {H : Heap} {locs : List Loc} {ls : Array Slot} (X : gX p s m args c cX11_readText 1 RX11 (kR kTab kA)) (hret : gRetI p l e (rmL 8 0 0) s m args below meth c cX11_readText (mΩ ad) (mP dC dI cI kA ad) Q r S1) (hf : fX11_readText_0 M = some (r, S1)) (hP : (mP dC dI cI kA ad) M s H) (hS : va_S (Fr (mΩ ad) s.heap.size) s.heap H locs) (hl : lv_has ls 1 [(0, .ref (ad 25))]) : W p l e (rmL 8 0 0) s m args below meth c H locs 0 0 Q (F0 m 0 ls []) := by
  have hx := X.hx
  have hb := X.hb
  have hown := X.hown
  have hts := X.hts
  rw [fX11_readText_0] at hf
  refine lv_aload_n hx hb dX11_readText_0 rfl (lv_at hl 0 rfl) ?_
  obtain ⟨q, hc, hf⟩ := bd hf
  refine gCallVV X mOK rfl (vX11_begins hc) gRX11_X11_begins hdX11_begins rfl ⟨by decide, by decide⟩ hP hS (mrec hP) hl.1 (Nat.le_of_ble_eq_true rfl) ⟨Nat.le_refl _, Nat.le_refl _⟩ dX11_readText_1 (As := []) (rest := []) rfl (fun H locs hP hS => ?_)
  exact kX11_readText_4 X hret FU _ _ _ _ hf hP hS (lv_sub hl [0] rfl)
theorem vX11_readText {l : Launch} {dC : Nat → ClassId} {dI : Nat → Nat → Nat} {cI : ClassId} {kA : String → Nat → Nat} {ad : Nat → Nat} {M S1 : MS} {r : Int32} (hf : fX11_readText M  = some (r, S1)) : gMetI l yX11_readText cX11_readText 1 (some .boolean) 8 (mΩ ad) (mP dC dI cI kA ad) (kR kTab kA) [.ref (ad 25)] M r S1 := gEntryI (ty := .boolean) (by decide) rfl (bz_n hf) mOK (Nat.le_of_ble_eq_true rfl) (fun p e s m args below meth c Q ls X hP hS hret hl => 
  kX11_readText_0 X hret (bz_f hf) hP hS (lv_sub hl [0] rfl))
set_option maxRecDepth 10000 in
theorem kX11_runScript_68 {r : Int32} {S1 : MS} {M : MS} {x2 : Int32} {H : Heap} {locs : List Loc} {ls : Array Slot} (X : gX p s m args c cX11_runScript 3 RX11 (kR kTab kA)) (hret : gRetI p l e (rmL 8 0 0) s m args below meth c cX11_runScript (mΩ ad) (mP dC dI cI kA ad) Q r S1) (hf : fX11_runScript_68 M x2 = some (r, S1)) (hP : (mP dC dI cI kA ad) M s H) (hS : va_S (Fr (mΩ ad) s.heap.size) s.heap H locs) (hl : lv_has ls 3 [(0, .ref (ad 25)), (2, .int x2)]) : W p l e (rmL 8 0 0) s m args below meth c H locs 0 0 Q (F0 m 68 ls []) := by
  have hx := X.hx
  have hb := X.hb
  have hown := X.hown
  have hts := X.hts
  rw [fX11_runScript_68] at hf
  refine lv_iload_n hx hb dX11_runScript_68 rfl (lv_at hl 1 rfl) ?_
  cases hf
  exact hret _ _ _ _ dX11_runScript_69 hP hS
set_option maxRecDepth 10000 in
theorem kX11_runScript_62 {r : Int32} {S1 : MS} {K46 : MS → Int32 → Option (Int32 × MS)} {M : MS} {x2 : Int32} {H : Heap} {locs : List Loc} {ls : Array Slot} (X : gX p s m args c cX11_runScript 3 RX11 (kR kTab kA)) (hret : gRetI p l e (rmL 8 0 0) s m args below meth c cX11_runScript (mΩ ad) (mP dC dI cI kA ad) Q r S1) (hK46 : ∀ (M : MS) (x2 : Int32) (H : Heap) (locs : List Loc) (ls : Array Slot), K46 M x2 = some (r, S1) → (mP dC dI cI kA ad) M s H → va_S (Fr (mΩ ad) s.heap.size) s.heap H locs → lv_has ls 3 [(0, .ref (ad 25)), (2, .int x2)] → W p l e (rmL 8 0 0) s m args below meth c H locs 0 0 Q (F0 m 46 ls [])) (hf : fX11_runScript_62 K46 M x2 = some (r, S1)) (hP : (mP dC dI cI kA ad) M s H) (hS : va_S (Fr (mΩ ad) s.heap.size) s.heap H locs) (hl : lv_has ls 3 [(0, .ref (ad 25)), (2, .int x2)]) : W p l e (rmL 8 0 0) s m args below meth c H locs 0 0 Q (F0 m 62 ls []) := by
  have hx := X.hx
  have hb := X.hb
  have hown := X.hown
  have hts := X.hts
  rw [fX11_runScript_62] at hf
  refine lv_iinc (v := (x2 + 1)) (lv' := [(2, .int (x2 + 1)), (0, .ref (ad 25))]) hx hb dX11_runScript_62 hl (k := 1) rfl (by rfl) (by decide) rfl (fun ls hl => ?_)
  refine lv_goto (tgt := 46) hx hb dX11_runScript_65 (by decide) ?_
  exact hK46 _ _ _ _ _ hf hP hS (lv_sub hl [1, 0] rfl)
set_option maxRecDepth 10000 in
theorem kX11_runScript_59 {r : Int32} {S1 : MS} {K46 : MS → Int32 → Option (Int32 × MS)} {M : MS} {x2 : Int32} {s0 : Int32} {H : Heap} {locs : List Loc} {ls : Array Slot} (X : gX p s m args c cX11_runScript 3 RX11 (kR kTab kA)) (hret : gRetI p l e (rmL 8 0 0) s m args below meth c cX11_runScript (mΩ ad) (mP dC dI cI kA ad) Q r S1) (hK46 : ∀ (M : MS) (x2 : Int32) (H : Heap) (locs : List Loc) (ls : Array Slot), K46 M x2 = some (r, S1) → (mP dC dI cI kA ad) M s H → va_S (Fr (mΩ ad) s.heap.size) s.heap H locs → lv_has ls 3 [(0, .ref (ad 25)), (2, .int x2)] → W p l e (rmL 8 0 0) s m args below meth c H locs 0 0 Q (F0 m 46 ls [])) (hf : fX11_runScript_59 K46 M x2 s0 = some (r, S1)) (hP : (mP dC dI cI kA ad) M s H) (hS : va_S (Fr (mΩ ad) s.heap.size) s.heap H locs) (hl : lv_has ls 3 [(0, .ref (ad 25)), (2, .int x2)]) : W p l e (rmL 8 0 0) s m args below meth c H locs 0 0 Q (F0 m 59 ls [.int s0]) := by
  have hx := X.hx
  have hb := X.hb
  have hown := X.hown
  have hts := X.hts
  rw [fX11_runScript_59] at hf
  refine lv_if_eq (tgt := 68) hx hb dX11_runScript_59 (by decide) (fun c1 => ?_) (fun c1 => ?_)
  · exact kX11_runScript_68 X hret (ifp c1 hf) hP hS (lv_sub hl [0, 1] rfl)
  · exact kX11_runScript_62 X hret hK46 (ifn c1 hf) hP hS (lv_sub hl [0, 1] rfl)
set_option maxRecDepth 10000 in
theorem kX11_runScript_54 {r : Int32} {S1 : MS} {K46 : MS → Int32 → Option (Int32 × MS)} {M : MS} {x2 : Int32} {H : Heap} {locs : List Loc} {ls : Array Slot} (X : gX p s m args c cX11_runScript 3 RX11 (kR kTab kA)) (hret : gRetI p l e (rmL 8 0 0) s m args below meth c cX11_runScript (mΩ ad) (mP dC dI cI kA ad) Q r S1) (hK46 : ∀ (M : MS) (x2 : Int32) (H : Heap) (locs : List Loc) (ls : Array Slot), K46 M x2 = some (r, S1) → (mP dC dI cI kA ad) M s H → va_S (Fr (mΩ ad) s.heap.size) s.heap H locs → lv_has ls 3 [(0, .ref (ad 25)), (2, .int x2)] → W p l e (rmL 8 0 0) s m args below meth c H locs 0 0 Q (F0 m 46 ls [])) (hf : fX11_runScript_54 K46 M x2 = some (r, S1)) (hP : (mP dC dI cI kA ad) M s H) (hS : va_S (Fr (mΩ ad) s.heap.size) s.heap H locs) (hl : lv_has ls 3 [(0, .ref (ad 25)), (2, .int x2)]) : W p l e (rmL 8 0 0) s m args below meth c H locs 0 0 Q (F0 m 54 ls []) := by
  have hx := X.hx
  have hb := X.hb
  have hown := X.hown
  have hts := X.hts
  rw [fX11_runScript_54] at hf
  refine lv_aload_n hx hb dX11_runScript_54 rfl (lv_at hl 0 rfl) ?_
  refine lv_iload_n hx hb dX11_runScript_55 rfl (lv_at hl 1 rfl) ?_
  obtain ⟨q, hc, hf⟩ := bd hf
  refine gCallVI X mOK rfl (vX11_does hc) gRX11_X11_does hdX11_does rfl ⟨by decide, by decide⟩ hP hS (mrec hP) hl.1 (Nat.le_of_ble_eq_true rfl) ⟨Nat.le_refl _, Nat.le_refl _⟩ dX11_runScript_56 (As := [.int x2]) (rest := []) rfl (fun H locs hP hS => ?_)
  exact kX11_runScript_59 X hret hK46 hf hP hS (lv_sub hl [0, 1] rfl)
set_option maxRecDepth 10000 in
theorem kX11_runScript_46 {r : Int32} {S1 : MS} (X : gX p s m args c cX11_runScript 3 RX11 (kR kTab kA)) (hret : gRetI p l e (rmL 8 0 0) s m args below meth c cX11_runScript (mΩ ad) (mP dC dI cI kA ad) Q r S1) : ∀ (n : Nat) (M : MS) (x2 : Int32) (H : Heap) (locs : List Loc) (ls : Array Slot), fX11_runScript_46 n M x2 = some (r, S1) → (mP dC dI cI kA ad) M s H → va_S (Fr (mΩ ad) s.heap.size) s.heap H locs → lv_has ls 3 [(0, .ref (ad 25)), (2, .int x2)] → W p l e (rmL 8 0 0) s m args below meth c H locs 0 0 Q (F0 m 46 ls []) := by
  intro n
  induction n with
  | zero => intro M x2 H locs ls hf; cases hf
  | succ k ih =>
    intro M x2 H locs ls hf hP hS hl
    have hx := X.hx
    have hb := X.hb
    have hown := X.hown
    have hts := X.hts
    rw [fX11_runScript_46] at hf
    try dsimp only at hf
    refine lv_iload_n hx hb dX11_runScript_46 rfl (lv_at hl 1 rfl) ?_
    refine lv_aload_n hx hb dX11_runScript_47 rfl (lv_at hl 0 rfl) ?_
    refine mr_get (k := 22) X hP (by decide) rfl rfl tw1687 dX11_runScript_48 ?_
    refine lv_icmp_ge (tgt := 68) hx hb dX11_runScript_51 (by decide) (fun c1 => ?_) (fun c1 => ?_)
    · exact kX11_runScript_68 X hret (ifp c1 hf) hP hS (lv_sub hl [0, 1] rfl)
    · exact kX11_runScript_54 X hret ih (ifn c1 hf) hP hS (lv_sub hl [0, 1] rfl)
set_option maxRecDepth 10000 in
theorem kX11_runScript_44 {r : Int32} {S1 : MS} {M : MS} {H : Heap} {locs : List Loc} {ls : Array Slot} (X : gX p s m args c cX11_runScript 3 RX11 (kR kTab kA)) (hret : gRetI p l e (rmL 8 0 0) s m args below meth c cX11_runScript (mΩ ad) (mP dC dI cI kA ad) Q r S1) (hf : fX11_runScript_44 M = some (r, S1)) (hP : (mP dC dI cI kA ad) M s H) (hS : va_S (Fr (mΩ ad) s.heap.size) s.heap H locs) (hl : lv_has ls 3 [(0, .ref (ad 25))]) : W p l e (rmL 8 0 0) s m args below meth c H locs 0 0 Q (F0 m 44 ls []) := by
  have hx := X.hx
  have hb := X.hb
  have hown := X.hown
  have hts := X.hts
  rw [fX11_runScript_44] at hf
  refine lv_iconst (v := 0) hx hb dX11_runScript_44 (by decide) ?_
  refine lv_istore_n (lv' := [(2, .int 0), (0, .ref (ad 25))]) hx hb dX11_runScript_45 rfl hl (by decide) rfl (fun ls hl => ?_)
  exact kX11_runScript_46 X hret FU _ _ _ _ _ hf hP hS (lv_sub hl [1, 0] rfl)
set_option maxRecDepth 10000 in
theorem kX11_runScript_40 {r : Int32} {S1 : MS} {M : MS} {H : Heap} {locs : List Loc} {ls : Array Slot} (X : gX p s m args c cX11_runScript 3 RX11 (kR kTab kA)) (hret : gRetI p l e (rmL 8 0 0) s m args below meth c cX11_runScript (mΩ ad) (mP dC dI cI kA ad) Q r S1) (hf : fX11_runScript_40 M = some (r, S1)) (hP : (mP dC dI cI kA ad) M s H) (hS : va_S (Fr (mΩ ad) s.heap.size) s.heap H locs) (hl : lv_has ls 3 [(0, .ref (ad 25))]) : W p l e (rmL 8 0 0) s m args below meth c H locs 0 0 Q (F0 m 40 ls []) := by
  have hx := X.hx
  have hb := X.hb
  have hown := X.hown
  have hts := X.hts
  rw [fX11_runScript_40] at hf
  refine lv_aload_n hx hb dX11_runScript_40 rfl (lv_at hl 0 rfl) ?_
  obtain ⟨q, hc, hf⟩ := bd hf
  refine gCallVV X mOK rfl (vX11_remembers hc) gRX11_X11_remembers hdX11_remembers rfl ⟨by decide, by decide⟩ hP hS (mrec hP) hl.1 (Nat.le_of_ble_eq_true rfl) ⟨Nat.le_refl _, Nat.le_refl _⟩ dX11_runScript_41 (As := []) (rest := []) rfl (fun H locs hP hS => ?_)
  exact kX11_runScript_44 X hret hf hP hS (lv_sub hl [0] rfl)
set_option maxRecDepth 10000 in
theorem kX11_runScript_38 {r : Int32} {S1 : MS} {M : MS} {H : Heap} {locs : List Loc} {ls : Array Slot} (X : gX p s m args c cX11_runScript 3 RX11 (kR kTab kA)) (hret : gRetI p l e (rmL 8 0 0) s m args below meth c cX11_runScript (mΩ ad) (mP dC dI cI kA ad) Q r S1) (hf : fX11_runScript_38 M = some (r, S1)) (hP : (mP dC dI cI kA ad) M s H) (hS : va_S (Fr (mΩ ad) s.heap.size) s.heap H locs) (hl : lv_has ls 3 [(0, .ref (ad 25))]) : W p l e (rmL 8 0 0) s m args below meth c H locs 0 0 Q (F0 m 38 ls []) := by
  have hx := X.hx
  have hb := X.hb
  have hown := X.hown
  have hts := X.hts
  rw [fX11_runScript_38] at hf
  refine lv_iconst (v := (-1)) hx hb dX11_runScript_38 (by decide) ?_
  cases hf
  exact hret _ _ _ _ dX11_runScript_39 hP hS
set_option maxRecDepth 10000 in
theorem kX11_runScript_34 {r : Int32} {S1 : MS} {M : MS} {x1 : Int32} {H : Heap} {locs : List Loc} {ls : Array Slot} (X : gX p s m args c cX11_runScript 3 RX11 (kR kTab kA)) (hret : gRetI p l e (rmL 8 0 0) s m args below meth c cX11_runScript (mΩ ad) (mP dC dI cI kA ad) Q r S1) (hf : fX11_runScript_34 M x1 = some (r, S1)) (hP : (mP dC dI cI kA ad) M s H) (hS : va_S (Fr (mΩ ad) s.heap.size) s.heap H locs) (hl : lv_has ls 3 [(0, .ref (ad 25)), (1, .int x1)]) : W p l e (rmL 8 0 0) s m args below meth c H locs 0 0 Q (F0 m 34 ls []) := by
  have hx := X.hx
  have hb := X.hb
  have hown := X.hown
  have hts := X.hts
  rw [fX11_runScript_34] at hf
  refine lv_iload_n hx hb dX11_runScript_34 rfl (lv_at hl 1 rfl) ?_
  refine lv_if_ne (tgt := 40) hx hb dX11_runScript_35 (by decide) (fun c1 => ?_) (fun c1 => ?_)
  · exact kX11_runScript_40 X hret (ifn c1 hf) hP hS (lv_sub hl [0] rfl)
  · exact kX11_runScript_38 X hret (ifp c1 hf) hP hS (lv_sub hl [0] rfl)
set_option maxRecDepth 10000 in
theorem kX11_runScript_30 {r : Int32} {S1 : MS} {M : MS} {x1 : Int32} {H : Heap} {locs : List Loc} {ls : Array Slot} (X : gX p s m args c cX11_runScript 3 RX11 (kR kTab kA)) (hret : gRetI p l e (rmL 8 0 0) s m args below meth c cX11_runScript (mΩ ad) (mP dC dI cI kA ad) Q r S1) (hf : fX11_runScript_30 M x1 = some (r, S1)) (hP : (mP dC dI cI kA ad) M s H) (hS : va_S (Fr (mΩ ad) s.heap.size) s.heap H locs) (hl : lv_has ls 3 [(0, .ref (ad 25)), (1, .int x1)]) : W p l e (rmL 8 0 0) s m args below meth c H locs 0 0 Q (F0 m 30 ls []) := by
  have hx := X.hx
  have hb := X.hb
  have hown := X.hown
  have hts := X.hts
  rw [fX11_runScript_30] at hf
  refine lv_aload_n hx hb dX11_runScript_30 rfl (lv_at hl 0 rfl) ?_
  obtain ⟨q, hc, hf⟩ := bd hf
  refine gCallVV X mOK rfl (vX11_endsText hc) gRX11_X11_endsText hdX11_endsText rfl ⟨by decide, by decide⟩ hP hS (mrec hP) hl.1 (Nat.le_of_ble_eq_true rfl) ⟨Nat.le_refl _, Nat.le_refl _⟩ dX11_runScript_31 (As := []) (rest := []) rfl (fun H locs hP hS => ?_)
  exact kX11_runScript_34 X hret hf hP hS (lv_sub hl [0, 1] rfl)
set_option maxRecDepth 10000 in
theorem kX11_runScript_26 {r : Int32} {S1 : MS} {K11 : MS → Int32 → Option (Int32 × MS)} {M : MS} {s0 : Int32} {H : Heap} {locs : List Loc} {ls : Array Slot} (X : gX p s m args c cX11_runScript 3 RX11 (kR kTab kA)) (hret : gRetI p l e (rmL 8 0 0) s m args below meth c cX11_runScript (mΩ ad) (mP dC dI cI kA ad) Q r S1) (hK11 : ∀ (M : MS) (x1 : Int32) (H : Heap) (locs : List Loc) (ls : Array Slot), K11 M x1 = some (r, S1) → (mP dC dI cI kA ad) M s H → va_S (Fr (mΩ ad) s.heap.size) s.heap H locs → lv_has ls 3 [(0, .ref (ad 25)), (1, .int x1)] → W p l e (rmL 8 0 0) s m args below meth c H locs 0 0 Q (F0 m 11 ls [])) (hf : fX11_runScript_26 K11 M s0 = some (r, S1)) (hP : (mP dC dI cI kA ad) M s H) (hS : va_S (Fr (mΩ ad) s.heap.size) s.heap H locs) (hl : lv_has ls 3 [(0, .ref (ad 25))]) : W p l e (rmL 8 0 0) s m args below meth c H locs 0 0 Q (F0 m 26 ls [.int s0]) := by
  have hx := X.hx
  have hb := X.hb
  have hown := X.hown
  have hts := X.hts
  rw [fX11_runScript_26] at hf
  refine lv_istore_n (lv' := [(1, .int s0), (0, .ref (ad 25))]) hx hb dX11_runScript_26 rfl hl (by decide) rfl (fun ls hl => ?_)
  refine lv_goto (tgt := 11) hx hb dX11_runScript_27 (by decide) ?_
  exact hK11 _ _ _ _ _ hf hP hS (lv_sub hl [1, 0] rfl)
set_option maxRecDepth 10000 in
theorem kX11_runScript_22 {r : Int32} {S1 : MS} {K11 : MS → Int32 → Option (Int32 × MS)} {M : MS} {H : Heap} {locs : List Loc} {ls : Array Slot} (X : gX p s m args c cX11_runScript 3 RX11 (kR kTab kA)) (hret : gRetI p l e (rmL 8 0 0) s m args below meth c cX11_runScript (mΩ ad) (mP dC dI cI kA ad) Q r S1) (hK11 : ∀ (M : MS) (x1 : Int32) (H : Heap) (locs : List Loc) (ls : Array Slot), K11 M x1 = some (r, S1) → (mP dC dI cI kA ad) M s H → va_S (Fr (mΩ ad) s.heap.size) s.heap H locs → lv_has ls 3 [(0, .ref (ad 25)), (1, .int x1)] → W p l e (rmL 8 0 0) s m args below meth c H locs 0 0 Q (F0 m 11 ls [])) (hf : fX11_runScript_22 K11 M = some (r, S1)) (hP : (mP dC dI cI kA ad) M s H) (hS : va_S (Fr (mΩ ad) s.heap.size) s.heap H locs) (hl : lv_has ls 3 [(0, .ref (ad 25))]) : W p l e (rmL 8 0 0) s m args below meth c H locs 0 0 Q (F0 m 22 ls []) := by
  have hx := X.hx
  have hb := X.hb
  have hown := X.hown
  have hts := X.hts
  rw [fX11_runScript_22] at hf
  refine lv_aload_n hx hb dX11_runScript_22 rfl (lv_at hl 0 rfl) ?_
  obtain ⟨q, hc, hf⟩ := bd hf
  refine gCallVI X mOK rfl (vX11_readScriptStatement hc) gRX11_X11_readScriptStatement hdX11_readScriptStatement rfl ⟨by decide, by decide⟩ hP hS (mrec hP) hl.1 (Nat.le_of_ble_eq_true rfl) ⟨Nat.le_refl _, Nat.le_refl _⟩ dX11_runScript_23 (As := []) (rest := []) rfl (fun H locs hP hS => ?_)
  exact kX11_runScript_26 X hret hK11 hf hP hS (lv_sub hl [0] rfl)
set_option maxRecDepth 10000 in
theorem kX11_runScript_15 {r : Int32} {S1 : MS} {K11 : MS → Int32 → Option (Int32 × MS)} {M : MS} {x1 : Int32} {H : Heap} {locs : List Loc} {ls : Array Slot} (X : gX p s m args c cX11_runScript 3 RX11 (kR kTab kA)) (hret : gRetI p l e (rmL 8 0 0) s m args below meth c cX11_runScript (mΩ ad) (mP dC dI cI kA ad) Q r S1) (hK11 : ∀ (M : MS) (x1 : Int32) (H : Heap) (locs : List Loc) (ls : Array Slot), K11 M x1 = some (r, S1) → (mP dC dI cI kA ad) M s H → va_S (Fr (mΩ ad) s.heap.size) s.heap H locs → lv_has ls 3 [(0, .ref (ad 25)), (1, .int x1)] → W p l e (rmL 8 0 0) s m args below meth c H locs 0 0 Q (F0 m 11 ls [])) (hf : fX11_runScript_15 K11 M x1 = some (r, S1)) (hP : (mP dC dI cI kA ad) M s H) (hS : va_S (Fr (mΩ ad) s.heap.size) s.heap H locs) (hl : lv_has ls 3 [(0, .ref (ad 25)), (1, .int x1)]) : W p l e (rmL 8 0 0) s m args below meth c H locs 0 0 Q (F0 m 15 ls []) := by
  have hx := X.hx
  have hb := X.hb
  have hown := X.hown
  have hts := X.hts
  rw [fX11_runScript_15] at hf
  refine lv_aload_n hx hb dX11_runScript_15 rfl (lv_at hl 0 rfl) ?_
  refine mr_get (k := 17) X hP (by decide) rfl rfl tw1682 dX11_runScript_16 ?_
  refine lv_if_eq (tgt := 30) hx hb dX11_runScript_19 (by decide) (fun c1 => ?_) (fun c1 => ?_)
  · exact kX11_runScript_30 X hret (ifp c1 hf) hP hS (lv_sub hl [0, 1] rfl)
  · exact kX11_runScript_22 X hret hK11 (ifn c1 hf) hP hS (lv_sub hl [0] rfl)
set_option maxRecDepth 10000 in
theorem kX11_runScript_11 {r : Int32} {S1 : MS} (X : gX p s m args c cX11_runScript 3 RX11 (kR kTab kA)) (hret : gRetI p l e (rmL 8 0 0) s m args below meth c cX11_runScript (mΩ ad) (mP dC dI cI kA ad) Q r S1) : ∀ (n : Nat) (M : MS) (x1 : Int32) (H : Heap) (locs : List Loc) (ls : Array Slot), fX11_runScript_11 n M x1 = some (r, S1) → (mP dC dI cI kA ad) M s H → va_S (Fr (mΩ ad) s.heap.size) s.heap H locs → lv_has ls 3 [(0, .ref (ad 25)), (1, .int x1)] → W p l e (rmL 8 0 0) s m args below meth c H locs 0 0 Q (F0 m 11 ls []) := by
  intro n
  induction n with
  | zero => intro M x1 H locs ls hf; cases hf
  | succ k ih =>
    intro M x1 H locs ls hf hP hS hl
    have hx := X.hx
    have hb := X.hb
    have hown := X.hown
    have hts := X.hts
    rw [fX11_runScript_11] at hf
    try dsimp only at hf
    refine lv_iload_n hx hb dX11_runScript_11 rfl (lv_at hl 1 rfl) ?_
    refine lv_if_eq (tgt := 30) hx hb dX11_runScript_12 (by decide) (fun c1 => ?_) (fun c1 => ?_)
    · exact kX11_runScript_30 X hret (ifp c1 hf) hP hS (lv_sub hl [0, 1] rfl)
    · exact kX11_runScript_15 X hret ih (ifn c1 hf) hP hS (lv_sub hl [0, 1] rfl)
set_option maxRecDepth 10000 in
theorem kX11_runScript_9 {r : Int32} {S1 : MS} {M : MS} {H : Heap} {locs : List Loc} {ls : Array Slot} (X : gX p s m args c cX11_runScript 3 RX11 (kR kTab kA)) (hret : gRetI p l e (rmL 8 0 0) s m args below meth c cX11_runScript (mΩ ad) (mP dC dI cI kA ad) Q r S1) (hf : fX11_runScript_9 M = some (r, S1)) (hP : (mP dC dI cI kA ad) M s H) (hS : va_S (Fr (mΩ ad) s.heap.size) s.heap H locs) (hl : lv_has ls 3 [(0, .ref (ad 25))]) : W p l e (rmL 8 0 0) s m args below meth c H locs 0 0 Q (F0 m 9 ls []) := by
  have hx := X.hx
  have hb := X.hb
  have hown := X.hown
  have hts := X.hts
  rw [fX11_runScript_9] at hf
  refine lv_iconst (v := 1) hx hb dX11_runScript_9 (by decide) ?_
  refine lv_istore_n (lv' := [(1, .int 1), (0, .ref (ad 25))]) hx hb dX11_runScript_10 rfl hl (by decide) rfl (fun ls hl => ?_)
  exact kX11_runScript_11 X hret FU _ _ _ _ _ hf hP hS (lv_sub hl [1, 0] rfl)
set_option maxRecDepth 10000 in
theorem kX11_runScript_5 {r : Int32} {S1 : MS} {M : MS} {H : Heap} {locs : List Loc} {ls : Array Slot} (X : gX p s m args c cX11_runScript 3 RX11 (kR kTab kA)) (hret : gRetI p l e (rmL 8 0 0) s m args below meth c cX11_runScript (mΩ ad) (mP dC dI cI kA ad) Q r S1) (hf : fX11_runScript_5 M = some (r, S1)) (hP : (mP dC dI cI kA ad) M s H) (hS : va_S (Fr (mΩ ad) s.heap.size) s.heap H locs) (hl : lv_has ls 3 [(0, .ref (ad 25))]) : W p l e (rmL 8 0 0) s m args below meth c H locs 0 0 Q (F0 m 5 ls []) := by
  have hx := X.hx
  have hb := X.hb
  have hown := X.hown
  have hts := X.hts
  rw [fX11_runScript_5] at hf
  refine lv_aload_n hx hb dX11_runScript_5 rfl (lv_at hl 0 rfl) ?_
  obtain ⟨q, hc, hf⟩ := bd hf
  refine gCallVV X mOK rfl (vX11_startsText hc) gRX11_X11_startsText hdX11_startsText rfl ⟨by decide, by decide⟩ hP hS (mrec hP) hl.1 (Nat.le_of_ble_eq_true rfl) ⟨Nat.le_refl _, Nat.le_refl _⟩ dX11_runScript_6 (As := []) (rest := []) rfl (fun H locs hP hS => ?_)
  exact kX11_runScript_9 X hret hf hP hS (lv_sub hl [0] rfl)
set_option maxRecDepth 10000 in
theorem kX11_runScript_0 {r : Int32} {S1 : MS} {M : MS} {H : Heap} {locs : List Loc} {ls : Array Slot} (X : gX p s m args c cX11_runScript 3 RX11 (kR kTab kA)) (hret : gRetI p l e (rmL 8 0 0) s m args below meth c cX11_runScript (mΩ ad) (mP dC dI cI kA ad) Q r S1) (hf : fX11_runScript_0 M = some (r, S1)) (hP : (mP dC dI cI kA ad) M s H) (hS : va_S (Fr (mΩ ad) s.heap.size) s.heap H locs) (hl : lv_has ls 3 [(0, .ref (ad 25))]) : W p l e (rmL 8 0 0) s m args below meth c H locs 0 0 Q (F0 m 0 ls []) := by
  have hx := X.hx
  have hb := X.hb
  have hown := X.hown
  have hts := X.hts
  rw [fX11_runScript_0] at hf
  refine lv_aload_n hx hb dX11_runScript_0 rfl (lv_at hl 0 rfl) ?_
  refine lv_iconst (v := 0) hx hb dX11_runScript_1 (by decide) ?_
  refine mr_put (k := 7) X hP hS (by decide) rfl rfl rfl rfl tw1672 dX11_runScript_2 (fun H locs hP hS => ?_)
  exact kX11_runScript_5 X hret hf hP hS (lv_sub hl [0] rfl)
theorem vX11_runScript {l : Launch} {dC : Nat → ClassId} {dI : Nat → Nat → Nat} {cI : ClassId} {kA : String → Nat → Nat} {ad : Nat → Nat} {M S1 : MS} {r : Int32} (hf : fX11_runScript M  = some (r, S1)) : gMetI l yX11_runScript cX11_runScript 3 (some .int) 8 (mΩ ad) (mP dC dI cI kA ad) (kR kTab kA) [.ref (ad 25)] M r S1 := gEntryI (ty := .int) (by decide) rfl rfl mOK (Nat.le_of_ble_eq_true rfl) (fun p e s m args below meth c Q ls X hP hS hret hl => 
  kX11_runScript_0 X hret hf hP hS (lv_sub hl [0] rfl))
set_option maxRecDepth 10000 in
theorem kX11_miceAfter_34 {r : Int32} {S1 : MS} {M : MS} {s0 : Int32} {H : Heap} {locs : List Loc} {ls : Array Slot} (X : gX p s m args c cX11_miceAfter 3 RX11 (kR kTab kA)) (hret : gRetI p l e (rmL 8 0 0) s m args below meth c cX11_miceAfter (mΩ ad) (mP dC dI cI kA ad) Q r S1) (hf : fX11_miceAfter_34 M s0 = some (r, S1)) (hP : (mP dC dI cI kA ad) M s H) (hS : va_S (Fr (mΩ ad) s.heap.size) s.heap H locs) (hl : lv_has ls 3 [(0, .ref (ad 25))]) : W p l e (rmL 8 0 0) s m args below meth c H locs 0 0 Q (F0 m 34 ls [.int s0]) := by
  have hx := X.hx
  have hb := X.hb
  have hown := X.hown
  have hts := X.hts
  rw [fX11_miceAfter_34] at hf
  cases hf
  exact hret _ _ _ _ dX11_miceAfter_34 hP hS
set_option maxRecDepth 10000 in
theorem kX11_miceAfter_22 {r : Int32} {S1 : MS} {M : MS} {H : Heap} {locs : List Loc} {ls : Array Slot} (X : gX p s m args c cX11_miceAfter 3 RX11 (kR kTab kA)) (hret : gRetI p l e (rmL 8 0 0) s m args below meth c cX11_miceAfter (mΩ ad) (mP dC dI cI kA ad) Q r S1) (hf : fX11_miceAfter_22 M = some (r, S1)) (hP : (mP dC dI cI kA ad) M s H) (hS : va_S (Fr (mΩ ad) s.heap.size) s.heap H locs) (hl : lv_has ls 3 [(0, .ref (ad 25))]) : W p l e (rmL 8 0 0) s m args below meth c H locs 0 0 Q (F0 m 22 ls []) := by
  have hx := X.hx
  have hb := X.hb
  have hown := X.hown
  have hts := X.hts
  rw [fX11_miceAfter_22] at hf
  refine lv_iconst (v := 0) hx hb dX11_miceAfter_22 (by decide) ?_
  refine lv_goto (tgt := 34) hx hb dX11_miceAfter_23 (by decide) ?_
  exact kX11_miceAfter_34 X hret hf hP hS (lv_sub hl [0] rfl)
set_option maxRecDepth 10000 in
theorem kX11_miceAfter_26 {r : Int32} {S1 : MS} {M : MS} {x1 : Int32} {x2 : Int32} {H : Heap} {locs : List Loc} {ls : Array Slot} (X : gX p s m args c cX11_miceAfter 3 RX11 (kR kTab kA)) (hret : gRetI p l e (rmL 8 0 0) s m args below meth c cX11_miceAfter (mΩ ad) (mP dC dI cI kA ad) Q r S1) (hf : fX11_miceAfter_26 M x1 x2 = some (r, S1)) (hP : (mP dC dI cI kA ad) M s H) (hS : va_S (Fr (mΩ ad) s.heap.size) s.heap H locs) (hl : lv_has ls 3 [(0, .ref (ad 25)), (1, .int x1), (2, .int x2)]) : W p l e (rmL 8 0 0) s m args below meth c H locs 0 0 Q (F0 m 26 ls []) := by
  have hx := X.hx
  have hb := X.hb
  have hown := X.hown
  have hts := X.hts
  rw [fX11_miceAfter_26] at hf
  refine lv_aload_n hx hb dX11_miceAfter_26 rfl (lv_at hl 0 rfl) ?_
  refine lv_iload_n hx hb dX11_miceAfter_27 rfl (lv_at hl 1 rfl) ?_
  refine lv_bipush (v := 8) hx hb dX11_miceAfter_28 (by decide) ?_
  refine lv_iload_n hx hb dX11_miceAfter_30 rfl (lv_at hl 2 rfl) ?_
  obtain ⟨q, hc, hf⟩ := bd hf
  refine gCallVI X mOK rfl (vX11_sackAfter hc) gRX11_X11_sackAfter hdX11_sackAfter rfl ⟨by decide, by decide⟩ hP hS (mrec hP) hl.1 (Nat.le_of_ble_eq_true rfl) ⟨Nat.le_refl _, Nat.le_refl _⟩ dX11_miceAfter_31 (As := [.int x1, .int 8, .int x2]) (rest := []) rfl (fun H locs hP hS => ?_)
  exact kX11_miceAfter_34 X hret hf hP hS (lv_sub hl [0] rfl)
set_option maxRecDepth 10000 in
theorem kX11_miceAfter_19 {r : Int32} {S1 : MS} {M : MS} {x1 : Int32} {x2 : Int32} {s0 : Int32} {H : Heap} {locs : List Loc} {ls : Array Slot} (X : gX p s m args c cX11_miceAfter 3 RX11 (kR kTab kA)) (hret : gRetI p l e (rmL 8 0 0) s m args below meth c cX11_miceAfter (mΩ ad) (mP dC dI cI kA ad) Q r S1) (hf : fX11_miceAfter_19 M x1 x2 s0 = some (r, S1)) (hP : (mP dC dI cI kA ad) M s H) (hS : va_S (Fr (mΩ ad) s.heap.size) s.heap H locs) (hl : lv_has ls 3 [(0, .ref (ad 25)), (1, .int x1), (2, .int x2)]) : W p l e (rmL 8 0 0) s m args below meth c H locs 0 0 Q (F0 m 19 ls [.int s0]) := by
  have hx := X.hx
  have hb := X.hb
  have hown := X.hown
  have hts := X.hts
  rw [fX11_miceAfter_19] at hf
  refine lv_if_eq (tgt := 26) hx hb dX11_miceAfter_19 (by decide) (fun c1 => ?_) (fun c1 => ?_)
  · exact kX11_miceAfter_26 X hret (ifp c1 hf) hP hS (lv_sub hl [0, 1, 2] rfl)
  · exact kX11_miceAfter_22 X hret (ifn c1 hf) hP hS (lv_sub hl [0] rfl)
set_option maxRecDepth 10000 in
theorem kX11_miceAfter_13 {r : Int32} {S1 : MS} {M : MS} {x1 : Int32} {x2 : Int32} {H : Heap} {locs : List Loc} {ls : Array Slot} (X : gX p s m args c cX11_miceAfter 3 RX11 (kR kTab kA)) (hret : gRetI p l e (rmL 8 0 0) s m args below meth c cX11_miceAfter (mΩ ad) (mP dC dI cI kA ad) Q r S1) (hf : fX11_miceAfter_13 M x1 x2 = some (r, S1)) (hP : (mP dC dI cI kA ad) M s H) (hS : va_S (Fr (mΩ ad) s.heap.size) s.heap H locs) (hl : lv_has ls 3 [(0, .ref (ad 25)), (1, .int x1), (2, .int x2)]) : W p l e (rmL 8 0 0) s m args below meth c H locs 0 0 Q (F0 m 13 ls []) := by
  have hx := X.hx
  have hb := X.hb
  have hown := X.hown
  have hts := X.hts
  rw [fX11_miceAfter_13] at hf
  refine lv_aload_n hx hb dX11_miceAfter_13 rfl (lv_at hl 0 rfl) ?_
  refine lv_iload_n hx hb dX11_miceAfter_14 rfl (lv_at hl 2 rfl) ?_
  refine lv_iconst (v := 2) hx hb dX11_miceAfter_15 (by decide) ?_
  obtain ⟨q, hc, hf⟩ := bd hf
  refine gCallVI X mOK rfl (vX11_noHours hc) gRX11_X11_noHours hdX11_noHours rfl ⟨by decide, by decide⟩ hP hS (mrec hP) hl.1 (Nat.le_of_ble_eq_true rfl) ⟨Nat.le_refl _, Nat.le_refl _⟩ dX11_miceAfter_16 (As := [.int x2, .int 2]) (rest := []) rfl (fun H locs hP hS => ?_)
  exact kX11_miceAfter_19 X hret hf hP hS (lv_sub hl [0, 1, 2] rfl)
set_option maxRecDepth 10000 in
theorem kX11_miceAfter_10 {r : Int32} {S1 : MS} {M : MS} {x1 : Int32} {x2 : Int32} {s0 : Int32} {H : Heap} {locs : List Loc} {ls : Array Slot} (X : gX p s m args c cX11_miceAfter 3 RX11 (kR kTab kA)) (hret : gRetI p l e (rmL 8 0 0) s m args below meth c cX11_miceAfter (mΩ ad) (mP dC dI cI kA ad) Q r S1) (hf : fX11_miceAfter_10 M x1 x2 s0 = some (r, S1)) (hP : (mP dC dI cI kA ad) M s H) (hS : va_S (Fr (mΩ ad) s.heap.size) s.heap H locs) (hl : lv_has ls 3 [(0, .ref (ad 25)), (1, .int x1), (2, .int x2)]) : W p l e (rmL 8 0 0) s m args below meth c H locs 0 0 Q (F0 m 10 ls [.int s0]) := by
  have hx := X.hx
  have hb := X.hb
  have hown := X.hown
  have hts := X.hts
  rw [fX11_miceAfter_10] at hf
  refine lv_if_ne (tgt := 22) hx hb dX11_miceAfter_10 (by decide) (fun c1 => ?_) (fun c1 => ?_)
  · exact kX11_miceAfter_22 X hret (ifn c1 hf) hP hS (lv_sub hl [0] rfl)
  · exact kX11_miceAfter_13 X hret (ifp c1 hf) hP hS (lv_sub hl [0, 1, 2] rfl)
set_option maxRecDepth 10000 in
theorem kX11_miceAfter_5 {r : Int32} {S1 : MS} {M : MS} {x1 : Int32} {x2 : Int32} {H : Heap} {locs : List Loc} {ls : Array Slot} (X : gX p s m args c cX11_miceAfter 3 RX11 (kR kTab kA)) (hret : gRetI p l e (rmL 8 0 0) s m args below meth c cX11_miceAfter (mΩ ad) (mP dC dI cI kA ad) Q r S1) (hf : fX11_miceAfter_5 M x1 x2 = some (r, S1)) (hP : (mP dC dI cI kA ad) M s H) (hS : va_S (Fr (mΩ ad) s.heap.size) s.heap H locs) (hl : lv_has ls 3 [(0, .ref (ad 25)), (1, .int x1), (2, .int x2)]) : W p l e (rmL 8 0 0) s m args below meth c H locs 0 0 Q (F0 m 5 ls []) := by
  have hx := X.hx
  have hb := X.hb
  have hown := X.hown
  have hts := X.hts
  rw [fX11_miceAfter_5] at hf
  refine lv_aload_n hx hb dX11_miceAfter_5 rfl (lv_at hl 0 rfl) ?_
  refine lv_iload_n hx hb dX11_miceAfter_6 rfl (lv_at hl 1 rfl) ?_
  obtain ⟨q, hc, hf⟩ := bd hf
  refine gCallVI X mOK rfl (vX11_noSack hc) gRX11_X11_noSack hdX11_noSack rfl ⟨by decide, by decide⟩ hP hS (mrec hP) hl.1 (Nat.le_of_ble_eq_true rfl) ⟨Nat.le_refl _, Nat.le_refl _⟩ dX11_miceAfter_7 (As := [.int x1]) (rest := []) rfl (fun H locs hP hS => ?_)
  exact kX11_miceAfter_10 X hret hf hP hS (lv_sub hl [0, 1, 2] rfl)
set_option maxRecDepth 10000 in
theorem kX11_miceAfter_0 {r : Int32} {S1 : MS} {M : MS} {a1 : Int32} {a2 : Int32} {H : Heap} {locs : List Loc} {ls : Array Slot} (X : gX p s m args c cX11_miceAfter 3 RX11 (kR kTab kA)) (hret : gRetI p l e (rmL 8 0 0) s m args below meth c cX11_miceAfter (mΩ ad) (mP dC dI cI kA ad) Q r S1) (hf : fX11_miceAfter_0 M a1 a2 = some (r, S1)) (hP : (mP dC dI cI kA ad) M s H) (hS : va_S (Fr (mΩ ad) s.heap.size) s.heap H locs) (hl : lv_has ls 3 [(0, .ref (ad 25)), (1, .int a1), (2, .int a2)]) : W p l e (rmL 8 0 0) s m args below meth c H locs 0 0 Q (F0 m 0 ls []) := by
  have hx := X.hx
  have hb := X.hb
  have hown := X.hown
  have hts := X.hts
  rw [fX11_miceAfter_0] at hf
  refine lv_aload_n hx hb dX11_miceAfter_0 rfl (lv_at hl 0 rfl) ?_
  refine lv_iconst (v := 0) hx hb dX11_miceAfter_1 (by decide) ?_
  refine mr_put (k := 7) X hP hS (by decide) rfl rfl rfl rfl tw1672 dX11_miceAfter_2 (fun H locs hP hS => ?_)
  exact kX11_miceAfter_5 X hret hf hP hS (lv_sub hl [0, 1, 2] rfl)
theorem vX11_miceAfter {l : Launch} {dC : Nat → ClassId} {dI : Nat → Nat → Nat} {cI : ClassId} {kA : String → Nat → Nat} {ad : Nat → Nat} {M S1 : MS} {r : Int32} {a1 : Int32} {a2 : Int32} (hf : fX11_miceAfter M a1 a2 = some (r, S1)) : gMetI l yX11_miceAfter cX11_miceAfter 3 (some .int) 8 (mΩ ad) (mP dC dI cI kA ad) (kR kTab kA) [.ref (ad 25), .int a1, .int a2] M r S1 := gEntryI (ty := .int) (by decide) rfl rfl mOK (Nat.le_of_ble_eq_true rfl) (fun p e s m args below meth c Q ls X hP hS hret hl => 
  kX11_miceAfter_0 X hret hf hP hS (lv_sub hl [0, 1, 2] rfl))
set_option maxRecDepth 10000 in
theorem kX11_grainAfter_34 {r : Int32} {S1 : MS} {M : MS} {s0 : Int32} {H : Heap} {locs : List Loc} {ls : Array Slot} (X : gX p s m args c cX11_grainAfter 3 RX11 (kR kTab kA)) (hret : gRetI p l e (rmL 8 0 0) s m args below meth c cX11_grainAfter (mΩ ad) (mP dC dI cI kA ad) Q r S1) (hf : fX11_grainAfter_34 M s0 = some (r, S1)) (hP : (mP dC dI cI kA ad) M s H) (hS : va_S (Fr (mΩ ad) s.heap.size) s.heap H locs) (hl : lv_has ls 3 [(0, .ref (ad 25))]) : W p l e (rmL 8 0 0) s m args below meth c H locs 0 0 Q (F0 m 34 ls [.int s0]) := by
  have hx := X.hx
  have hb := X.hb
  have hown := X.hown
  have hts := X.hts
  rw [fX11_grainAfter_34] at hf
  cases hf
  exact hret _ _ _ _ dX11_grainAfter_34 hP hS
set_option maxRecDepth 10000 in
theorem kX11_grainAfter_22 {r : Int32} {S1 : MS} {M : MS} {H : Heap} {locs : List Loc} {ls : Array Slot} (X : gX p s m args c cX11_grainAfter 3 RX11 (kR kTab kA)) (hret : gRetI p l e (rmL 8 0 0) s m args below meth c cX11_grainAfter (mΩ ad) (mP dC dI cI kA ad) Q r S1) (hf : fX11_grainAfter_22 M = some (r, S1)) (hP : (mP dC dI cI kA ad) M s H) (hS : va_S (Fr (mΩ ad) s.heap.size) s.heap H locs) (hl : lv_has ls 3 [(0, .ref (ad 25))]) : W p l e (rmL 8 0 0) s m args below meth c H locs 0 0 Q (F0 m 22 ls []) := by
  have hx := X.hx
  have hb := X.hb
  have hown := X.hown
  have hts := X.hts
  rw [fX11_grainAfter_22] at hf
  refine lv_iconst (v := 0) hx hb dX11_grainAfter_22 (by decide) ?_
  refine lv_goto (tgt := 34) hx hb dX11_grainAfter_23 (by decide) ?_
  exact kX11_grainAfter_34 X hret hf hP hS (lv_sub hl [0] rfl)
set_option maxRecDepth 10000 in
theorem kX11_grainAfter_26 {r : Int32} {S1 : MS} {M : MS} {x1 : Int32} {x2 : Int32} {H : Heap} {locs : List Loc} {ls : Array Slot} (X : gX p s m args c cX11_grainAfter 3 RX11 (kR kTab kA)) (hret : gRetI p l e (rmL 8 0 0) s m args below meth c cX11_grainAfter (mΩ ad) (mP dC dI cI kA ad) Q r S1) (hf : fX11_grainAfter_26 M x1 x2 = some (r, S1)) (hP : (mP dC dI cI kA ad) M s H) (hS : va_S (Fr (mΩ ad) s.heap.size) s.heap H locs) (hl : lv_has ls 3 [(0, .ref (ad 25)), (1, .int x1), (2, .int x2)]) : W p l e (rmL 8 0 0) s m args below meth c H locs 0 0 Q (F0 m 26 ls []) := by
  have hx := X.hx
  have hb := X.hb
  have hown := X.hown
  have hts := X.hts
  rw [fX11_grainAfter_26] at hf
  refine lv_aload_n hx hb dX11_grainAfter_26 rfl (lv_at hl 0 rfl) ?_
  refine lv_iload_n hx hb dX11_grainAfter_27 rfl (lv_at hl 1 rfl) ?_
  refine lv_bipush (v := 7) hx hb dX11_grainAfter_28 (by decide) ?_
  refine lv_iload_n hx hb dX11_grainAfter_30 rfl (lv_at hl 2 rfl) ?_
  obtain ⟨q, hc, hf⟩ := bd hf
  refine gCallVI X mOK rfl (vX11_sackAfter hc) gRX11_X11_sackAfter hdX11_sackAfter rfl ⟨by decide, by decide⟩ hP hS (mrec hP) hl.1 (Nat.le_of_ble_eq_true rfl) ⟨Nat.le_refl _, Nat.le_refl _⟩ dX11_grainAfter_31 (As := [.int x1, .int 7, .int x2]) (rest := []) rfl (fun H locs hP hS => ?_)
  exact kX11_grainAfter_34 X hret hf hP hS (lv_sub hl [0] rfl)
set_option maxRecDepth 10000 in
theorem kX11_grainAfter_19 {r : Int32} {S1 : MS} {M : MS} {x1 : Int32} {x2 : Int32} {s0 : Int32} {H : Heap} {locs : List Loc} {ls : Array Slot} (X : gX p s m args c cX11_grainAfter 3 RX11 (kR kTab kA)) (hret : gRetI p l e (rmL 8 0 0) s m args below meth c cX11_grainAfter (mΩ ad) (mP dC dI cI kA ad) Q r S1) (hf : fX11_grainAfter_19 M x1 x2 s0 = some (r, S1)) (hP : (mP dC dI cI kA ad) M s H) (hS : va_S (Fr (mΩ ad) s.heap.size) s.heap H locs) (hl : lv_has ls 3 [(0, .ref (ad 25)), (1, .int x1), (2, .int x2)]) : W p l e (rmL 8 0 0) s m args below meth c H locs 0 0 Q (F0 m 19 ls [.int s0]) := by
  have hx := X.hx
  have hb := X.hb
  have hown := X.hown
  have hts := X.hts
  rw [fX11_grainAfter_19] at hf
  refine lv_if_eq (tgt := 26) hx hb dX11_grainAfter_19 (by decide) (fun c1 => ?_) (fun c1 => ?_)
  · exact kX11_grainAfter_26 X hret (ifp c1 hf) hP hS (lv_sub hl [0, 1, 2] rfl)
  · exact kX11_grainAfter_22 X hret (ifn c1 hf) hP hS (lv_sub hl [0] rfl)
set_option maxRecDepth 10000 in
theorem kX11_grainAfter_13 {r : Int32} {S1 : MS} {M : MS} {x1 : Int32} {x2 : Int32} {H : Heap} {locs : List Loc} {ls : Array Slot} (X : gX p s m args c cX11_grainAfter 3 RX11 (kR kTab kA)) (hret : gRetI p l e (rmL 8 0 0) s m args below meth c cX11_grainAfter (mΩ ad) (mP dC dI cI kA ad) Q r S1) (hf : fX11_grainAfter_13 M x1 x2 = some (r, S1)) (hP : (mP dC dI cI kA ad) M s H) (hS : va_S (Fr (mΩ ad) s.heap.size) s.heap H locs) (hl : lv_has ls 3 [(0, .ref (ad 25)), (1, .int x1), (2, .int x2)]) : W p l e (rmL 8 0 0) s m args below meth c H locs 0 0 Q (F0 m 13 ls []) := by
  have hx := X.hx
  have hb := X.hb
  have hown := X.hown
  have hts := X.hts
  rw [fX11_grainAfter_13] at hf
  refine lv_aload_n hx hb dX11_grainAfter_13 rfl (lv_at hl 0 rfl) ?_
  refine lv_iload_n hx hb dX11_grainAfter_14 rfl (lv_at hl 2 rfl) ?_
  refine lv_iconst (v := 2) hx hb dX11_grainAfter_15 (by decide) ?_
  obtain ⟨q, hc, hf⟩ := bd hf
  refine gCallVI X mOK rfl (vX11_noHours hc) gRX11_X11_noHours hdX11_noHours rfl ⟨by decide, by decide⟩ hP hS (mrec hP) hl.1 (Nat.le_of_ble_eq_true rfl) ⟨Nat.le_refl _, Nat.le_refl _⟩ dX11_grainAfter_16 (As := [.int x2, .int 2]) (rest := []) rfl (fun H locs hP hS => ?_)
  exact kX11_grainAfter_19 X hret hf hP hS (lv_sub hl [0, 1, 2] rfl)
set_option maxRecDepth 10000 in
theorem kX11_grainAfter_10 {r : Int32} {S1 : MS} {M : MS} {x1 : Int32} {x2 : Int32} {s0 : Int32} {H : Heap} {locs : List Loc} {ls : Array Slot} (X : gX p s m args c cX11_grainAfter 3 RX11 (kR kTab kA)) (hret : gRetI p l e (rmL 8 0 0) s m args below meth c cX11_grainAfter (mΩ ad) (mP dC dI cI kA ad) Q r S1) (hf : fX11_grainAfter_10 M x1 x2 s0 = some (r, S1)) (hP : (mP dC dI cI kA ad) M s H) (hS : va_S (Fr (mΩ ad) s.heap.size) s.heap H locs) (hl : lv_has ls 3 [(0, .ref (ad 25)), (1, .int x1), (2, .int x2)]) : W p l e (rmL 8 0 0) s m args below meth c H locs 0 0 Q (F0 m 10 ls [.int s0]) := by
  have hx := X.hx
  have hb := X.hb
  have hown := X.hown
  have hts := X.hts
  rw [fX11_grainAfter_10] at hf
  refine lv_if_ne (tgt := 22) hx hb dX11_grainAfter_10 (by decide) (fun c1 => ?_) (fun c1 => ?_)
  · exact kX11_grainAfter_22 X hret (ifn c1 hf) hP hS (lv_sub hl [0] rfl)
  · exact kX11_grainAfter_13 X hret (ifp c1 hf) hP hS (lv_sub hl [0, 1, 2] rfl)
set_option maxRecDepth 10000 in
theorem kX11_grainAfter_5 {r : Int32} {S1 : MS} {M : MS} {x1 : Int32} {x2 : Int32} {H : Heap} {locs : List Loc} {ls : Array Slot} (X : gX p s m args c cX11_grainAfter 3 RX11 (kR kTab kA)) (hret : gRetI p l e (rmL 8 0 0) s m args below meth c cX11_grainAfter (mΩ ad) (mP dC dI cI kA ad) Q r S1) (hf : fX11_grainAfter_5 M x1 x2 = some (r, S1)) (hP : (mP dC dI cI kA ad) M s H) (hS : va_S (Fr (mΩ ad) s.heap.size) s.heap H locs) (hl : lv_has ls 3 [(0, .ref (ad 25)), (1, .int x1), (2, .int x2)]) : W p l e (rmL 8 0 0) s m args below meth c H locs 0 0 Q (F0 m 5 ls []) := by
  have hx := X.hx
  have hb := X.hb
  have hown := X.hown
  have hts := X.hts
  rw [fX11_grainAfter_5] at hf
  refine lv_aload_n hx hb dX11_grainAfter_5 rfl (lv_at hl 0 rfl) ?_
  refine lv_iload_n hx hb dX11_grainAfter_6 rfl (lv_at hl 1 rfl) ?_
  obtain ⟨q, hc, hf⟩ := bd hf
  refine gCallVI X mOK rfl (vX11_noSack hc) gRX11_X11_noSack hdX11_noSack rfl ⟨by decide, by decide⟩ hP hS (mrec hP) hl.1 (Nat.le_of_ble_eq_true rfl) ⟨Nat.le_refl _, Nat.le_refl _⟩ dX11_grainAfter_7 (As := [.int x1]) (rest := []) rfl (fun H locs hP hS => ?_)
  exact kX11_grainAfter_10 X hret hf hP hS (lv_sub hl [0, 1, 2] rfl)
set_option maxRecDepth 10000 in
theorem kX11_grainAfter_0 {r : Int32} {S1 : MS} {M : MS} {a1 : Int32} {a2 : Int32} {H : Heap} {locs : List Loc} {ls : Array Slot} (X : gX p s m args c cX11_grainAfter 3 RX11 (kR kTab kA)) (hret : gRetI p l e (rmL 8 0 0) s m args below meth c cX11_grainAfter (mΩ ad) (mP dC dI cI kA ad) Q r S1) (hf : fX11_grainAfter_0 M a1 a2 = some (r, S1)) (hP : (mP dC dI cI kA ad) M s H) (hS : va_S (Fr (mΩ ad) s.heap.size) s.heap H locs) (hl : lv_has ls 3 [(0, .ref (ad 25)), (1, .int a1), (2, .int a2)]) : W p l e (rmL 8 0 0) s m args below meth c H locs 0 0 Q (F0 m 0 ls []) := by
  have hx := X.hx
  have hb := X.hb
  have hown := X.hown
  have hts := X.hts
  rw [fX11_grainAfter_0] at hf
  refine lv_aload_n hx hb dX11_grainAfter_0 rfl (lv_at hl 0 rfl) ?_
  refine lv_iconst (v := 0) hx hb dX11_grainAfter_1 (by decide) ?_
  refine mr_put (k := 7) X hP hS (by decide) rfl rfl rfl rfl tw1672 dX11_grainAfter_2 (fun H locs hP hS => ?_)
  exact kX11_grainAfter_5 X hret hf hP hS (lv_sub hl [0, 1, 2] rfl)
theorem vX11_grainAfter {l : Launch} {dC : Nat → ClassId} {dI : Nat → Nat → Nat} {cI : ClassId} {kA : String → Nat → Nat} {ad : Nat → Nat} {M S1 : MS} {r : Int32} {a1 : Int32} {a2 : Int32} (hf : fX11_grainAfter M a1 a2 = some (r, S1)) : gMetI l yX11_grainAfter cX11_grainAfter 3 (some .int) 8 (mΩ ad) (mP dC dI cI kA ad) (kR kTab kA) [.ref (ad 25), .int a1, .int a2] M r S1 := gEntryI (ty := .int) (by decide) rfl rfl mOK (Nat.le_of_ble_eq_true rfl) (fun p e s m args below meth c Q ls X hP hS hret hl => 
  kX11_grainAfter_0 X hret hf hP hS (lv_sub hl [0, 1, 2] rfl))
set_option maxRecDepth 10000 in
theorem kX11_grainWithChange_33 {r : Int32} {S1 : MS} {M : MS} {x4 : Int32} {H : Heap} {locs : List Loc} {ls : Array Slot} (X : gX p s m args c cX11_grainWithChange 5 RX11 (kR kTab kA)) (hret : gRetI p l e (rmL 8 0 0) s m args below meth c cX11_grainWithChange (mΩ ad) (mP dC dI cI kA ad) Q r S1) (hf : fX11_grainWithChange_33 M x4 = some (r, S1)) (hP : (mP dC dI cI kA ad) M s H) (hS : va_S (Fr (mΩ ad) s.heap.size) s.heap H locs) (hl : lv_has ls 5 [(0, .ref (ad 25)), (4, .int x4)]) : W p l e (rmL 8 0 0) s m args below meth c H locs 0 0 Q (F0 m 33 ls []) := by
  have hx := X.hx
  have hb := X.hb
  have hown := X.hown
  have hts := X.hts
  rw [fX11_grainWithChange_33] at hf
  refine lv_iload hx hb dX11_grainWithChange_33 (lv_at hl 1 rfl) ?_
  cases hf
  exact hret _ _ _ _ dX11_grainWithChange_35 hP hS
set_option maxRecDepth 10000 in
theorem kX11_grainWithChange_23 {r : Int32} {S1 : MS} {M : MS} {x1 : Int32} {x3 : Int32} {s0 : Int32} {H : Heap} {locs : List Loc} {ls : Array Slot} (X : gX p s m args c cX11_grainWithChange 5 RX11 (kR kTab kA)) (hret : gRetI p l e (rmL 8 0 0) s m args below meth c cX11_grainWithChange (mΩ ad) (mP dC dI cI kA ad) Q r S1) (hf : fX11_grainWithChange_23 M x1 x3 s0 = some (r, S1)) (hP : (mP dC dI cI kA ad) M s H) (hS : va_S (Fr (mΩ ad) s.heap.size) s.heap H locs) (hl : lv_has ls 5 [(0, .ref (ad 25)), (1, .int x1), (3, .int x3)]) : W p l e (rmL 8 0 0) s m args below meth c H locs 0 0 Q (F0 m 23 ls [.int s0]) := by
  have hx := X.hx
  have hb := X.hb
  have hown := X.hown
  have hts := X.hts
  rw [fX11_grainWithChange_23] at hf
  refine lv_istore (lv' := [(4, .int s0), (0, .ref (ad 25)), (1, .int x1), (3, .int x3)]) hx hb dX11_grainWithChange_23 hl (by decide) rfl (fun ls hl => ?_)
  refine lv_aload_n hx hb dX11_grainWithChange_25 rfl (lv_at hl 1 rfl) ?_
  refine lv_iload_n hx hb dX11_grainWithChange_26 rfl (lv_at hl 2 rfl) ?_
  refine lv_bipush (v := 9) hx hb dX11_grainWithChange_27 (by decide) ?_
  refine lv_iload_n hx hb dX11_grainWithChange_29 rfl (lv_at hl 3 rfl) ?_
  obtain ⟨q, hc, hf⟩ := bd hf
  refine gCallVV X mOK rfl (vX11_putsSack hc) gRX11_X11_putsSack hdX11_putsSack rfl ⟨by decide, by decide⟩ hP hS (mrec hP) hl.1 (Nat.le_of_ble_eq_true rfl) ⟨Nat.le_refl _, Nat.le_refl _⟩ dX11_grainWithChange_30 (As := [.int x1, .int 9, .int x3]) (rest := []) rfl (fun H locs hP hS => ?_)
  exact kX11_grainWithChange_33 X hret hf hP hS (lv_sub hl [1, 0] rfl)
set_option maxRecDepth 10000 in
theorem kX11_grainWithChange_18 {r : Int32} {S1 : MS} {M : MS} {x1 : Int32} {x2 : Int32} {x3 : Int32} {H : Heap} {locs : List Loc} {ls : Array Slot} (X : gX p s m args c cX11_grainWithChange 5 RX11 (kR kTab kA)) (hret : gRetI p l e (rmL 8 0 0) s m args below meth c cX11_grainWithChange (mΩ ad) (mP dC dI cI kA ad) Q r S1) (hf : fX11_grainWithChange_18 M x1 x2 x3 = some (r, S1)) (hP : (mP dC dI cI kA ad) M s H) (hS : va_S (Fr (mΩ ad) s.heap.size) s.heap H locs) (hl : lv_has ls 5 [(0, .ref (ad 25)), (1, .int x1), (2, .int x2), (3, .int x3)]) : W p l e (rmL 8 0 0) s m args below meth c H locs 0 0 Q (F0 m 18 ls []) := by
  have hx := X.hx
  have hb := X.hb
  have hown := X.hown
  have hts := X.hts
  rw [fX11_grainWithChange_18] at hf
  refine lv_aload_n hx hb dX11_grainWithChange_18 rfl (lv_at hl 0 rfl) ?_
  refine lv_iload_n hx hb dX11_grainWithChange_19 rfl (lv_at hl 2 rfl) ?_
  obtain ⟨q, hc, hf⟩ := bd hf
  refine gCallVI X mOK rfl (vX11_allGrainAfter hc) gRX11_X11_allGrainAfter hdX11_allGrainAfter rfl ⟨by decide, by decide⟩ hP hS (mrec hP) hl.1 (Nat.le_of_ble_eq_true rfl) ⟨Nat.le_refl _, Nat.le_refl _⟩ dX11_grainWithChange_20 (As := [.int x2]) (rest := []) rfl (fun H locs hP hS => ?_)
  exact kX11_grainWithChange_23 X hret hf hP hS (lv_sub hl [0, 1, 3] rfl)
set_option maxRecDepth 10000 in
theorem kX11_grainWithChange_7 {r : Int32} {S1 : MS} {M : MS} {x1 : Int32} {x2 : Int32} {s0 : Int32} {H : Heap} {locs : List Loc} {ls : Array Slot} (X : gX p s m args c cX11_grainWithChange 5 RX11 (kR kTab kA)) (hret : gRetI p l e (rmL 8 0 0) s m args below meth c cX11_grainWithChange (mΩ ad) (mP dC dI cI kA ad) Q r S1) (hf : fX11_grainWithChange_7 M x1 x2 s0 = some (r, S1)) (hP : (mP dC dI cI kA ad) M s H) (hS : va_S (Fr (mΩ ad) s.heap.size) s.heap H locs) (hl : lv_has ls 5 [(0, .ref (ad 25)), (1, .int x1), (2, .int x2)]) : W p l e (rmL 8 0 0) s m args below meth c H locs 0 0 Q (F0 m 7 ls [.int s0]) := by
  have hx := X.hx
  have hb := X.hb
  have hown := X.hown
  have hts := X.hts
  rw [fX11_grainWithChange_7] at hf
  refine lv_istore_n (lv' := [(3, .int s0), (0, .ref (ad 25)), (1, .int x1), (2, .int x2)]) hx hb dX11_grainWithChange_7 rfl hl (by decide) rfl (fun ls hl => ?_)
  refine lv_aload_n hx hb dX11_grainWithChange_8 rfl (lv_at hl 1 rfl) ?_
  refine lv_iload_n hx hb dX11_grainWithChange_9 rfl (lv_at hl 2 rfl) ?_
  refine lv_bipush (v := 9) hx hb dX11_grainWithChange_10 (by decide) ?_
  refine lv_iconst (v := 1) hx hb dX11_grainWithChange_12 (by decide) ?_
  refine lv_iload_n hx hb dX11_grainWithChange_13 rfl (lv_at hl 0 rfl) ?_
  refine lv_isub hx hb dX11_grainWithChange_14 ?_
  obtain ⟨q, hc, hf⟩ := bd hf
  refine gCallVV X mOK rfl (vX11_putsSack hc) gRX11_X11_putsSack hdX11_putsSack rfl ⟨by decide, by decide⟩ hP hS (mrec hP) hl.1 (Nat.le_of_ble_eq_true rfl) ⟨Nat.le_refl _, Nat.le_refl _⟩ dX11_grainWithChange_15 (As := [.int x1, .int 9, .int (1 - s0)]) (rest := []) rfl (fun H locs hP hS => ?_)
  exact kX11_grainWithChange_18 X hret hf hP hS (lv_sub hl [1, 2, 3, 0] rfl)
set_option maxRecDepth 10000 in
theorem kX11_grainWithChange_0 {r : Int32} {S1 : MS} {M : MS} {a1 : Int32} {a2 : Int32} {H : Heap} {locs : List Loc} {ls : Array Slot} (X : gX p s m args c cX11_grainWithChange 5 RX11 (kR kTab kA)) (hret : gRetI p l e (rmL 8 0 0) s m args below meth c cX11_grainWithChange (mΩ ad) (mP dC dI cI kA ad) Q r S1) (hf : fX11_grainWithChange_0 M a1 a2 = some (r, S1)) (hP : (mP dC dI cI kA ad) M s H) (hS : va_S (Fr (mΩ ad) s.heap.size) s.heap H locs) (hl : lv_has ls 5 [(0, .ref (ad 25)), (1, .int a1), (2, .int a2)]) : W p l e (rmL 8 0 0) s m args below meth c H locs 0 0 Q (F0 m 0 ls []) := by
  have hx := X.hx
  have hb := X.hb
  have hown := X.hown
  have hts := X.hts
  rw [fX11_grainWithChange_0] at hf
  refine lv_aload_n hx hb dX11_grainWithChange_0 rfl (lv_at hl 0 rfl) ?_
  refine lv_iload_n hx hb dX11_grainWithChange_1 rfl (lv_at hl 1 rfl) ?_
  refine lv_bipush (v := 9) hx hb dX11_grainWithChange_2 (by decide) ?_
  obtain ⟨q, hc, hf⟩ := bd hf
  refine gCallVR X rfl (vX11_ofSack hc) gRX11_X11_ofSack hdX11_ofSack rfl ⟨by decide, by decide⟩ (gB_blind mOK) (gB_at mOK X hP) (mrec hP) hl.1 (Nat.le_of_ble_eq_true rfl) ⟨Nat.le_refl _, Nat.le_refl _⟩ dX11_grainWithChange_4 (As := [.int a1, .int 9]) (rest := []) rfl ?_
  exact kX11_grainWithChange_7 X hret hf hP hS (lv_sub hl [0, 1, 2] rfl)
theorem vX11_grainWithChange {l : Launch} {dC : Nat → ClassId} {dI : Nat → Nat → Nat} {cI : ClassId} {kA : String → Nat → Nat} {ad : Nat → Nat} {M S1 : MS} {r : Int32} {a1 : Int32} {a2 : Int32} (hf : fX11_grainWithChange M a1 a2 = some (r, S1)) : gMetI l yX11_grainWithChange cX11_grainWithChange 5 (some .int) 8 (mΩ ad) (mP dC dI cI kA ad) (kR kTab kA) [.ref (ad 25), .int a1, .int a2] M r S1 := gEntryI (ty := .int) (by decide) rfl rfl mOK (Nat.le_of_ble_eq_true rfl) (fun p e s m args below meth c Q ls X hP hS hret hl => 
  kX11_grainWithChange_0 X hret hf hP hS (lv_sub hl [0, 1, 2] rfl))
set_option maxRecDepth 10000 in
theorem kX11_loadGranary_64 {r : Int32} {S1 : MS} {M : MS} {H : Heap} {locs : List Loc} {ls : Array Slot} (X : gX p s m args c cX11_loadGranary 2 RX11 (kR kTab kA)) (hret : gRetI p l e (rmL 9 0 0) s m args below meth c cX11_loadGranary (mΩ ad) (mP dC dI cI kA ad) Q r S1) (hf : fX11_loadGranary_64 M = some (r, S1)) (hP : (mP dC dI cI kA ad) M s H) (hS : va_S (Fr (mΩ ad) s.heap.size) s.heap H locs) (hl : lv_has ls 2 [(0, .ref (ad 25))]) : W p l e (rmL 9 0 0) s m args below meth c H locs 0 0 Q (F0 m 64 ls []) := by
  have hx := X.hx
  have hb := X.hb
  have hown := X.hown
  have hts := X.hts
  rw [fX11_loadGranary_64] at hf
  refine lv_aload_n hx hb dX11_loadGranary_64 rfl (lv_at hl 0 rfl) ?_
  refine mr_get (k := 0) X hP (by decide) rfl rfl tw1665 dX11_loadGranary_65 ?_
  refine lv_iconst (v := 0) hx hb dX11_loadGranary_68 (by decide) ?_
  obtain ⟨g1, hf⟩ := gd hf
  refine mr_ald (a := 0) X hP rfl g1 dX11_loadGranary_69 ?_
  cases hf
  exact hret _ _ _ _ dX11_loadGranary_70 hP hS
set_option maxRecDepth 10000 in
theorem kX11_loadGranary_59 {r : Int32} {S1 : MS} {M : MS} {H : Heap} {locs : List Loc} {ls : Array Slot} (X : gX p s m args c cX11_loadGranary 2 RX11 (kR kTab kA)) (hret : gRetI p l e (rmL 9 0 0) s m args below meth c cX11_loadGranary (mΩ ad) (mP dC dI cI kA ad) Q r S1) (hf : fX11_loadGranary_59 M = some (r, S1)) (hP : (mP dC dI cI kA ad) M s H) (hS : va_S (Fr (mΩ ad) s.heap.size) s.heap H locs) (hl : lv_has ls 2 [(0, .ref (ad 25))]) : W p l e (rmL 9 0 0) s m args below meth c H locs 0 0 Q (F0 m 59 ls []) := by
  have hx := X.hx
  have hb := X.hb
  have hown := X.hown
  have hts := X.hts
  rw [fX11_loadGranary_59] at hf
  refine lv_aload_n hx hb dX11_loadGranary_59 rfl (lv_at hl 0 rfl) ?_
  refine lv_iconst (v := 0) hx hb dX11_loadGranary_60 (by decide) ?_
  refine mr_put (k := 6) X hP hS (by decide) (by decide +kernel) (by decide +kernel) rfl rfl tw1671 dX11_loadGranary_61 (fun H locs hP hS => ?_)
  exact kX11_loadGranary_64 X hret hf hP hS (lv_sub hl [0] rfl)
set_option maxRecDepth 10000 in
theorem kX11_loadGranary_54 {r : Int32} {S1 : MS} {M : MS} {H : Heap} {locs : List Loc} {ls : Array Slot} (X : gX p s m args c cX11_loadGranary 2 RX11 (kR kTab kA)) (hret : gRetI p l e (rmL 9 0 0) s m args below meth c cX11_loadGranary (mΩ ad) (mP dC dI cI kA ad) Q r S1) (hf : fX11_loadGranary_54 M = some (r, S1)) (hP : (mP dC dI cI kA ad) M s H) (hS : va_S (Fr (mΩ ad) s.heap.size) s.heap H locs) (hl : lv_has ls 2 [(0, .ref (ad 25))]) : W p l e (rmL 9 0 0) s m args below meth c H locs 0 0 Q (F0 m 54 ls []) := by
  have hx := X.hx
  have hb := X.hb
  have hown := X.hown
  have hts := X.hts
  rw [fX11_loadGranary_54] at hf
  refine lv_aload_n hx hb dX11_loadGranary_54 rfl (lv_at hl 0 rfl) ?_
  refine lv_iconst (v := 0) hx hb dX11_loadGranary_55 (by decide) ?_
  refine mr_put (k := 5) X hP hS (by decide) rfl rfl rfl rfl tw1670 dX11_loadGranary_56 (fun H locs hP hS => ?_)
  exact kX11_loadGranary_59 X hret hf hP hS (lv_sub hl [0] rfl)
set_option maxRecDepth 10000 in
theorem kX11_loadGranary_50 {r : Int32} {S1 : MS} {M : MS} {H : Heap} {locs : List Loc} {ls : Array Slot} (X : gX p s m args c cX11_loadGranary 2 RX11 (kR kTab kA)) (hret : gRetI p l e (rmL 9 0 0) s m args below meth c cX11_loadGranary (mΩ ad) (mP dC dI cI kA ad) Q r S1) (hf : fX11_loadGranary_50 M = some (r, S1)) (hP : (mP dC dI cI kA ad) M s H) (hS : va_S (Fr (mΩ ad) s.heap.size) s.heap H locs) (hl : lv_has ls 2 [(0, .ref (ad 25))]) : W p l e (rmL 9 0 0) s m args below meth c H locs 0 0 Q (F0 m 50 ls []) := by
  have hx := X.hx
  have hb := X.hb
  have hown := X.hown
  have hts := X.hts
  rw [fX11_loadGranary_50] at hf
  refine lv_aload_n hx hb dX11_loadGranary_50 rfl (lv_at hl 0 rfl) ?_
  obtain ⟨q, hc, hf⟩ := bd hf
  refine gCallVV X mOK rfl (vX11_starts hc) gRX11_X11_starts hdX11_starts rfl ⟨by decide, by decide⟩ hP hS (mrec hP) hl.1 (Nat.le_of_ble_eq_true rfl) ⟨Nat.le_refl _, Nat.le_refl _⟩ dX11_loadGranary_51 (As := []) (rest := []) rfl (fun H locs hP hS => ?_)
  exact kX11_loadGranary_54 X hret hf hP hS (lv_sub hl [0] rfl)
set_option maxRecDepth 10000 in
theorem kX11_loadGranary_48 {r : Int32} {S1 : MS} {M : MS} {H : Heap} {locs : List Loc} {ls : Array Slot} (X : gX p s m args c cX11_loadGranary 2 RX11 (kR kTab kA)) (hret : gRetI p l e (rmL 9 0 0) s m args below meth c cX11_loadGranary (mΩ ad) (mP dC dI cI kA ad) Q r S1) (hf : fX11_loadGranary_48 M = some (r, S1)) (hP : (mP dC dI cI kA ad) M s H) (hS : va_S (Fr (mΩ ad) s.heap.size) s.heap H locs) (hl : lv_has ls 2 [(0, .ref (ad 25))]) : W p l e (rmL 9 0 0) s m args below meth c H locs 0 0 Q (F0 m 48 ls []) := by
  have hx := X.hx
  have hb := X.hb
  have hown := X.hown
  have hts := X.hts
  rw [fX11_loadGranary_48] at hf
  refine lv_iconst (v := (-1)) hx hb dX11_loadGranary_48 (by decide) ?_
  cases hf
  exact hret _ _ _ _ dX11_loadGranary_49 hP hS
set_option maxRecDepth 10000 in
theorem kX11_loadGranary_35 {r : Int32} {S1 : MS} {M : MS} {H : Heap} {locs : List Loc} {ls : Array Slot} (X : gX p s m args c cX11_loadGranary 2 RX11 (kR kTab kA)) (hret : gRetI p l e (rmL 9 0 0) s m args below meth c cX11_loadGranary (mΩ ad) (mP dC dI cI kA ad) Q r S1) (hf : fX11_loadGranary_35 M = some (r, S1)) (hP : (mP dC dI cI kA ad) M s H) (hS : va_S (Fr (mΩ ad) s.heap.size) s.heap H locs) (hl : lv_has ls 2 [(0, .ref (ad 25))]) : W p l e (rmL 9 0 0) s m args below meth c H locs 0 0 Q (F0 m 35 ls []) := by
  have hx := X.hx
  have hb := X.hb
  have hown := X.hown
  have hts := X.hts
  rw [fX11_loadGranary_35] at hf
  refine lv_aload_n hx hb dX11_loadGranary_35 rfl (lv_at hl 0 rfl) ?_
  refine mr_get (k := 1) X hP (by decide) rfl rfl tw1666 dX11_loadGranary_36 ?_
  refine lv_iconst (v := 0) hx hb dX11_loadGranary_39 (by decide) ?_
  refine lv_aload_n hx hb dX11_loadGranary_40 rfl (lv_at hl 0 rfl) ?_
  refine mr_get (k := 0) X hP (by decide) rfl rfl tw1665 dX11_loadGranary_41 ?_
  refine lv_iconst (v := 0) hx hb dX11_loadGranary_44 (by decide) ?_
  obtain ⟨q, hc, hf⟩ := bd hf
  refine gCallSV X mOK rfl (vX11_copies hc) gRX11_X11_copies hdX11_copies rfl ⟨by decide, by decide⟩ hP hS hl.1 (Nat.le_of_ble_eq_true rfl) ⟨Nat.le_refl _, Nat.le_refl _⟩ dX11_loadGranary_45 (As := [.ref (ad 1), .int 0, .ref (ad 0), .int 0]) (rest := []) rfl (fun H locs hP hS => ?_)
  exact kX11_loadGranary_48 X hret hf hP hS (lv_sub hl [0] rfl)
set_option maxRecDepth 10000 in
theorem kX11_loadGranary_31 {r : Int32} {S1 : MS} {M : MS} {x1 : Int32} {H : Heap} {locs : List Loc} {ls : Array Slot} (X : gX p s m args c cX11_loadGranary 2 RX11 (kR kTab kA)) (hret : gRetI p l e (rmL 9 0 0) s m args below meth c cX11_loadGranary (mΩ ad) (mP dC dI cI kA ad) Q r S1) (hf : fX11_loadGranary_31 M x1 = some (r, S1)) (hP : (mP dC dI cI kA ad) M s H) (hS : va_S (Fr (mΩ ad) s.heap.size) s.heap H locs) (hl : lv_has ls 2 [(0, .ref (ad 25)), (1, .int x1)]) : W p l e (rmL 9 0 0) s m args below meth c H locs 0 0 Q (F0 m 31 ls []) := by
  have hx := X.hx
  have hb := X.hb
  have hown := X.hown
  have hts := X.hts
  rw [fX11_loadGranary_31] at hf
  refine lv_iload_n hx hb dX11_loadGranary_31 rfl (lv_at hl 1 rfl) ?_
  refine lv_if_ne (tgt := 50) hx hb dX11_loadGranary_32 (by decide) (fun c1 => ?_) (fun c1 => ?_)
  · exact kX11_loadGranary_50 X hret (ifn c1 hf) hP hS (lv_sub hl [0] rfl)
  · exact kX11_loadGranary_35 X hret (ifp c1 hf) hP hS (lv_sub hl [0] rfl)
set_option maxRecDepth 10000 in
theorem kX11_loadGranary_26 {r : Int32} {S1 : MS} {M : MS} {s0 : Int32} {H : Heap} {locs : List Loc} {ls : Array Slot} (X : gX p s m args c cX11_loadGranary 2 RX11 (kR kTab kA)) (hret : gRetI p l e (rmL 9 0 0) s m args below meth c cX11_loadGranary (mΩ ad) (mP dC dI cI kA ad) Q r S1) (hf : fX11_loadGranary_26 M s0 = some (r, S1)) (hP : (mP dC dI cI kA ad) M s H) (hS : va_S (Fr (mΩ ad) s.heap.size) s.heap H locs) (hl : lv_has ls 2 [(0, .ref (ad 25))]) : W p l e (rmL 9 0 0) s m args below meth c H locs 0 0 Q (F0 m 26 ls [.int s0]) := by
  have hx := X.hx
  have hb := X.hb
  have hown := X.hown
  have hts := X.hts
  rw [fX11_loadGranary_26] at hf
  refine lv_istore_n (lv' := [(1, .int s0), (0, .ref (ad 25))]) hx hb dX11_loadGranary_26 rfl hl (by decide) rfl (fun ls hl => ?_)
  refine lv_aload_n hx hb dX11_loadGranary_27 rfl (lv_at hl 1 rfl) ?_
  obtain ⟨q, hc, hf⟩ := bd hf
  refine gCallVV X mOK rfl (vX11_endsText hc) gRX11_X11_endsText hdX11_endsText rfl ⟨by decide, by decide⟩ hP hS (mrec hP) hl.1 (Nat.le_of_ble_eq_true rfl) ⟨Nat.le_refl _, Nat.le_refl _⟩ dX11_loadGranary_28 (As := []) (rest := []) rfl (fun H locs hP hS => ?_)
  exact kX11_loadGranary_31 X hret hf hP hS (lv_sub hl [1, 0] rfl)
set_option maxRecDepth 10000 in
theorem kX11_loadGranary_22 {r : Int32} {S1 : MS} {M : MS} {H : Heap} {locs : List Loc} {ls : Array Slot} (X : gX p s m args c cX11_loadGranary 2 RX11 (kR kTab kA)) (hret : gRetI p l e (rmL 9 0 0) s m args below meth c cX11_loadGranary (mΩ ad) (mP dC dI cI kA ad) Q r S1) (hf : fX11_loadGranary_22 M = some (r, S1)) (hP : (mP dC dI cI kA ad) M s H) (hS : va_S (Fr (mΩ ad) s.heap.size) s.heap H locs) (hl : lv_has ls 2 [(0, .ref (ad 25))]) : W p l e (rmL 9 0 0) s m args below meth c H locs 0 0 Q (F0 m 22 ls []) := by
  have hx := X.hx
  have hb := X.hb
  have hown := X.hown
  have hts := X.hts
  rw [fX11_loadGranary_22] at hf
  refine lv_aload_n hx hb dX11_loadGranary_22 rfl (lv_at hl 0 rfl) ?_
  obtain ⟨q, hc, hf⟩ := bd hf
  refine gCallVI X mOK rfl (vX11_readText hc) gRX11_X11_readText hdX11_readText rfl ⟨by decide, by decide⟩ hP hS (mrec hP) hl.1 (Nat.le_of_ble_eq_true rfl) ⟨Nat.le_refl _, Nat.le_refl _⟩ dX11_loadGranary_23 (As := []) (rest := []) rfl (fun H locs hP hS => ?_)
  exact kX11_loadGranary_26 X hret hf hP hS (lv_sub hl [0] rfl)
set_option maxRecDepth 10000 in
theorem kX11_loadGranary_18 {r : Int32} {S1 : MS} {M : MS} {H : Heap} {locs : List Loc} {ls : Array Slot} (X : gX p s m args c cX11_loadGranary 2 RX11 (kR kTab kA)) (hret : gRetI p l e (rmL 9 0 0) s m args below meth c cX11_loadGranary (mΩ ad) (mP dC dI cI kA ad) Q r S1) (hf : fX11_loadGranary_18 M = some (r, S1)) (hP : (mP dC dI cI kA ad) M s H) (hS : va_S (Fr (mΩ ad) s.heap.size) s.heap H locs) (hl : lv_has ls 2 [(0, .ref (ad 25))]) : W p l e (rmL 9 0 0) s m args below meth c H locs 0 0 Q (F0 m 18 ls []) := by
  have hx := X.hx
  have hb := X.hb
  have hown := X.hown
  have hts := X.hts
  rw [fX11_loadGranary_18] at hf
  refine lv_aload_n hx hb dX11_loadGranary_18 rfl (lv_at hl 0 rfl) ?_
  obtain ⟨q, hc, hf⟩ := bd hf
  refine gCallVV X mOK rfl (vX11_startsText hc) gRX11_X11_startsText hdX11_startsText rfl ⟨by decide, by decide⟩ hP hS (mrec hP) hl.1 (Nat.le_of_ble_eq_true rfl) ⟨Nat.le_refl _, Nat.le_refl _⟩ dX11_loadGranary_19 (As := []) (rest := []) rfl (fun H locs hP hS => ?_)
  exact kX11_loadGranary_22 X hret hf hP hS (lv_sub hl [0] rfl)
set_option maxRecDepth 10000 in
theorem kX11_loadGranary_5 {r : Int32} {S1 : MS} {M : MS} {H : Heap} {locs : List Loc} {ls : Array Slot} (X : gX p s m args c cX11_loadGranary 2 RX11 (kR kTab kA)) (hret : gRetI p l e (rmL 9 0 0) s m args below meth c cX11_loadGranary (mΩ ad) (mP dC dI cI kA ad) Q r S1) (hf : fX11_loadGranary_5 M = some (r, S1)) (hP : (mP dC dI cI kA ad) M s H) (hS : va_S (Fr (mΩ ad) s.heap.size) s.heap H locs) (hl : lv_has ls 2 [(0, .ref (ad 25))]) : W p l e (rmL 9 0 0) s m args below meth c H locs 0 0 Q (F0 m 5 ls []) := by
  have hx := X.hx
  have hb := X.hb
  have hown := X.hown
  have hts := X.hts
  rw [fX11_loadGranary_5] at hf
  refine lv_aload_n hx hb dX11_loadGranary_5 rfl (lv_at hl 0 rfl) ?_
  refine mr_get (k := 0) X hP (by decide) rfl rfl tw1665 dX11_loadGranary_6 ?_
  refine lv_iconst (v := 0) hx hb dX11_loadGranary_9 (by decide) ?_
  refine lv_aload_n hx hb dX11_loadGranary_10 rfl (lv_at hl 0 rfl) ?_
  refine mr_get (k := 1) X hP (by decide) rfl rfl tw1666 dX11_loadGranary_11 ?_
  refine lv_iconst (v := 0) hx hb dX11_loadGranary_14 (by decide) ?_
  obtain ⟨q, hc, hf⟩ := bd hf
  refine gCallSV X mOK rfl (vX11_copies hc) gRX11_X11_copies hdX11_copies rfl ⟨by decide, by decide⟩ hP hS hl.1 (Nat.le_of_ble_eq_true rfl) ⟨Nat.le_refl _, Nat.le_refl _⟩ dX11_loadGranary_15 (As := [.ref (ad 0), .int 0, .ref (ad 1), .int 0]) (rest := []) rfl (fun H locs hP hS => ?_)
  exact kX11_loadGranary_18 X hret hf hP hS (lv_sub hl [0] rfl)
set_option maxRecDepth 10000 in
theorem kX11_loadGranary_0 {r : Int32} {S1 : MS} {M : MS} {H : Heap} {locs : List Loc} {ls : Array Slot} (X : gX p s m args c cX11_loadGranary 2 RX11 (kR kTab kA)) (hret : gRetI p l e (rmL 9 0 0) s m args below meth c cX11_loadGranary (mΩ ad) (mP dC dI cI kA ad) Q r S1) (hf : fX11_loadGranary_0 M = some (r, S1)) (hP : (mP dC dI cI kA ad) M s H) (hS : va_S (Fr (mΩ ad) s.heap.size) s.heap H locs) (hl : lv_has ls 2 [(0, .ref (ad 25))]) : W p l e (rmL 9 0 0) s m args below meth c H locs 0 0 Q (F0 m 0 ls []) := by
  have hx := X.hx
  have hb := X.hb
  have hown := X.hown
  have hts := X.hts
  rw [fX11_loadGranary_0] at hf
  refine lv_aload_n hx hb dX11_loadGranary_0 rfl (lv_at hl 0 rfl) ?_
  refine lv_iconst (v := 0) hx hb dX11_loadGranary_1 (by decide) ?_
  refine mr_put (k := 7) X hP hS (by decide) rfl rfl rfl rfl tw1672 dX11_loadGranary_2 (fun H locs hP hS => ?_)
  exact kX11_loadGranary_5 X hret hf hP hS (lv_sub hl [0] rfl)
theorem vX11_loadGranary {l : Launch} {dC : Nat → ClassId} {dI : Nat → Nat → Nat} {cI : ClassId} {kA : String → Nat → Nat} {ad : Nat → Nat} {M S1 : MS} {r : Int32} (hf : fX11_loadGranary M  = some (r, S1)) : gMetI l yX11_loadGranary cX11_loadGranary 2 (some .int) 9 (mΩ ad) (mP dC dI cI kA ad) (kR kTab kA) [.ref (ad 25)] M r S1 := gEntryI (ty := .int) (by decide) rfl rfl mOK (Nat.le_of_ble_eq_true rfl) (fun p e s m args below meth c Q ls X hP hS hret hl => 
  kX11_loadGranary_0 X hret hf hP hS (lv_sub hl [0] rfl))
set_option maxRecDepth 10000 in
theorem kX11_bestFlapToChange_69 {r : Int32} {S1 : MS} {M : MS} {x2 : Int32} {H : Heap} {locs : List Loc} {ls : Array Slot} (X : gX p s m args c cX11_bestFlapToChange 6 RX11 (kR kTab kA)) (hret : gRetI p l e (rmL 9 0 0) s m args below meth c cX11_bestFlapToChange (mΩ ad) (mP dC dI cI kA ad) Q r S1) (hf : fX11_bestFlapToChange_69 M x2 = some (r, S1)) (hP : (mP dC dI cI kA ad) M s H) (hS : va_S (Fr (mΩ ad) s.heap.size) s.heap H locs) (hl : lv_has ls 6 [(0, .ref (ad 25)), (2, .int x2)]) : W p l e (rmL 9 0 0) s m args below meth c H locs 0 0 Q (F0 m 69 ls []) := by
  have hx := X.hx
  have hb := X.hb
  have hown := X.hown
  have hts := X.hts
  rw [fX11_bestFlapToChange_69] at hf
  refine lv_iload_n hx hb dX11_bestFlapToChange_69 rfl (lv_at hl 1 rfl) ?_
  cases hf
  exact hret _ _ _ _ dX11_bestFlapToChange_70 hP hS
set_option maxRecDepth 10000 in
theorem kX11_bestFlapToChange_56 {r : Int32} {S1 : MS} {K27 : MS → Int32 → Int32 → Int32 → Int32 → Option (Int32 × MS)} {M : MS} {x1 : Int32} {x2 : Int32} {x3 : Int32} {x4 : Int32} {x5 : Int32} {H : Heap} {locs : List Loc} {ls : Array Slot} (X : gX p s m args c cX11_bestFlapToChange 6 RX11 (kR kTab kA)) (hret : gRetI p l e (rmL 9 0 0) s m args below meth c cX11_bestFlapToChange (mΩ ad) (mP dC dI cI kA ad) Q r S1) (hK27 : ∀ (M : MS) (x1 : Int32) (x2 : Int32) (x3 : Int32) (x4 : Int32) (H : Heap) (locs : List Loc) (ls : Array Slot), K27 M x1 x2 x3 x4 = some (r, S1) → (mP dC dI cI kA ad) M s H → va_S (Fr (mΩ ad) s.heap.size) s.heap H locs → lv_has ls 6 [(0, .ref (ad 25)), (1, .int x1), (2, .int x2), (3, .int x3), (4, .int x4)] → W p l e (rmL 9 0 0) s m args below meth c H locs 0 0 Q (F0 m 27 ls [])) (hf : fX11_bestFlapToChange_56 K27 M x1 x2 x3 x4 x5 = some (r, S1)) (hP : (mP dC dI cI kA ad) M s H) (hS : va_S (Fr (mΩ ad) s.heap.size) s.heap H locs) (hl : lv_has ls 6 [(0, .ref (ad 25)), (1, .int x1), (2, .int x2), (3, .int x3), (4, .int x4), (5, .int x5)]) : W p l e (rmL 9 0 0) s m args below meth c H locs 0 0 Q (F0 m 56 ls []) := by
  have hx := X.hx
  have hb := X.hb
  have hown := X.hown
  have hts := X.hts
  rw [fX11_bestFlapToChange_56] at hf
  refine lv_iload_n hx hb dX11_bestFlapToChange_56 rfl (lv_at hl 3 rfl) ?_
  refine lv_iload hx hb dX11_bestFlapToChange_57 (lv_at hl 5 rfl) ?_
  refine gMax X rfl tw1950 tw574 tw24 tw575 (by decide) hl.1 (Nat.le_of_ble_eq_true rfl) ⟨Nat.zero_le _, Nat.zero_le _⟩ dX11_bestFlapToChange_59 ?_
  refine lv_istore_n (lv' := [(3, .int (if x3 < x5 then x5 else x3)), (0, .ref (ad 25)), (1, .int x1), (2, .int x2), (4, .int x4), (5, .int x5)]) hx hb dX11_bestFlapToChange_62 rfl hl (by decide) rfl (fun ls hl => ?_)
  refine lv_iinc (v := (x4 + 1)) (lv' := [(4, .int (x4 + 1)), (3, .int (if x3 < x5 then x5 else x3)), (0, .ref (ad 25)), (1, .int x1), (2, .int x2), (5, .int x5)]) hx hb dX11_bestFlapToChange_63 hl (k := 4) rfl (by rfl) (by decide) rfl (fun ls hl => ?_)
  refine lv_goto (tgt := 27) hx hb dX11_bestFlapToChange_66 (by decide) ?_
  exact hK27 _ _ _ _ _ _ _ _ hf hP hS (lv_sub hl [2, 3, 4, 1, 0] rfl)
set_option maxRecDepth 10000 in
theorem kX11_bestFlapToChange_53 {r : Int32} {S1 : MS} {K27 : MS → Int32 → Int32 → Int32 → Int32 → Option (Int32 × MS)} {M : MS} {x1 : Int32} {x3 : Int32} {x4 : Int32} {x5 : Int32} {H : Heap} {locs : List Loc} {ls : Array Slot} (X : gX p s m args c cX11_bestFlapToChange 6 RX11 (kR kTab kA)) (hret : gRetI p l e (rmL 9 0 0) s m args below meth c cX11_bestFlapToChange (mΩ ad) (mP dC dI cI kA ad) Q r S1) (hK27 : ∀ (M : MS) (x1 : Int32) (x2 : Int32) (x3 : Int32) (x4 : Int32) (H : Heap) (locs : List Loc) (ls : Array Slot), K27 M x1 x2 x3 x4 = some (r, S1) → (mP dC dI cI kA ad) M s H → va_S (Fr (mΩ ad) s.heap.size) s.heap H locs → lv_has ls 6 [(0, .ref (ad 25)), (1, .int x1), (2, .int x2), (3, .int x3), (4, .int x4)] → W p l e (rmL 9 0 0) s m args below meth c H locs 0 0 Q (F0 m 27 ls [])) (hf : fX11_bestFlapToChange_53 K27 M x1 x3 x4 x5 = some (r, S1)) (hP : (mP dC dI cI kA ad) M s H) (hS : va_S (Fr (mΩ ad) s.heap.size) s.heap H locs) (hl : lv_has ls 6 [(0, .ref (ad 25)), (1, .int x1), (3, .int x3), (4, .int x4), (5, .int x5)]) : W p l e (rmL 9 0 0) s m args below meth c H locs 0 0 Q (F0 m 53 ls []) := by
  have hx := X.hx
  have hb := X.hb
  have hown := X.hown
  have hts := X.hts
  rw [fX11_bestFlapToChange_53] at hf
  refine lv_iload hx hb dX11_bestFlapToChange_53 (lv_at hl 3 rfl) ?_
  refine lv_istore_n (lv' := [(2, .int x4), (0, .ref (ad 25)), (1, .int x1), (3, .int x3), (4, .int x4), (5, .int x5)]) hx hb dX11_bestFlapToChange_55 rfl hl (by decide) rfl (fun ls hl => ?_)
  exact kX11_bestFlapToChange_56 X hret hK27 hf hP hS (lv_sub hl [1, 2, 0, 3, 4, 5] rfl)
set_option maxRecDepth 10000 in
theorem kX11_bestFlapToChange_45 {r : Int32} {S1 : MS} {K27 : MS → Int32 → Int32 → Int32 → Int32 → Option (Int32 × MS)} {M : MS} {x1 : Int32} {x2 : Int32} {x3 : Int32} {x4 : Int32} {s0 : Int32} {H : Heap} {locs : List Loc} {ls : Array Slot} (X : gX p s m args c cX11_bestFlapToChange 6 RX11 (kR kTab kA)) (hret : gRetI p l e (rmL 9 0 0) s m args below meth c cX11_bestFlapToChange (mΩ ad) (mP dC dI cI kA ad) Q r S1) (hK27 : ∀ (M : MS) (x1 : Int32) (x2 : Int32) (x3 : Int32) (x4 : Int32) (H : Heap) (locs : List Loc) (ls : Array Slot), K27 M x1 x2 x3 x4 = some (r, S1) → (mP dC dI cI kA ad) M s H → va_S (Fr (mΩ ad) s.heap.size) s.heap H locs → lv_has ls 6 [(0, .ref (ad 25)), (1, .int x1), (2, .int x2), (3, .int x3), (4, .int x4)] → W p l e (rmL 9 0 0) s m args below meth c H locs 0 0 Q (F0 m 27 ls [])) (hf : fX11_bestFlapToChange_45 K27 M x1 x2 x3 x4 s0 = some (r, S1)) (hP : (mP dC dI cI kA ad) M s H) (hS : va_S (Fr (mΩ ad) s.heap.size) s.heap H locs) (hl : lv_has ls 6 [(0, .ref (ad 25)), (1, .int x1), (2, .int x2), (3, .int x3), (4, .int x4)]) : W p l e (rmL 9 0 0) s m args below meth c H locs 0 0 Q (F0 m 45 ls [.int s0]) := by
  have hx := X.hx
  have hb := X.hb
  have hown := X.hown
  have hts := X.hts
  rw [fX11_bestFlapToChange_45] at hf
  refine lv_istore (lv' := [(5, .int s0), (0, .ref (ad 25)), (1, .int x1), (2, .int x2), (3, .int x3), (4, .int x4)]) hx hb dX11_bestFlapToChange_45 hl (by decide) rfl (fun ls hl => ?_)
  refine lv_iload hx hb dX11_bestFlapToChange_47 (lv_at hl 0 rfl) ?_
  refine lv_iload_n hx hb dX11_bestFlapToChange_49 rfl (lv_at hl 4 rfl) ?_
  refine lv_icmp_le (tgt := 56) hx hb dX11_bestFlapToChange_50 (by decide) (fun c1 => ?_) (fun c1 => ?_)
  · exact kX11_bestFlapToChange_56 X hret hK27 (ifp c1 hf) hP hS (lv_sub hl [1, 2, 3, 4, 5, 0] rfl)
  · exact kX11_bestFlapToChange_53 X hret hK27 (ifn c1 hf) hP hS (lv_sub hl [1, 2, 4, 5, 0] rfl)
set_option maxRecDepth 10000 in
theorem kX11_bestFlapToChange_38 {r : Int32} {S1 : MS} {K27 : MS → Int32 → Int32 → Int32 → Int32 → Option (Int32 × MS)} {M : MS} {x1 : Int32} {x2 : Int32} {x3 : Int32} {x4 : Int32} {H : Heap} {locs : List Loc} {ls : Array Slot} (X : gX p s m args c cX11_bestFlapToChange 6 RX11 (kR kTab kA)) (hret : gRetI p l e (rmL 9 0 0) s m args below meth c cX11_bestFlapToChange (mΩ ad) (mP dC dI cI kA ad) Q r S1) (hK27 : ∀ (M : MS) (x1 : Int32) (x2 : Int32) (x3 : Int32) (x4 : Int32) (H : Heap) (locs : List Loc) (ls : Array Slot), K27 M x1 x2 x3 x4 = some (r, S1) → (mP dC dI cI kA ad) M s H → va_S (Fr (mΩ ad) s.heap.size) s.heap H locs → lv_has ls 6 [(0, .ref (ad 25)), (1, .int x1), (2, .int x2), (3, .int x3), (4, .int x4)] → W p l e (rmL 9 0 0) s m args below meth c H locs 0 0 Q (F0 m 27 ls [])) (hf : fX11_bestFlapToChange_38 K27 M x1 x2 x3 x4 = some (r, S1)) (hP : (mP dC dI cI kA ad) M s H) (hS : va_S (Fr (mΩ ad) s.heap.size) s.heap H locs) (hl : lv_has ls 6 [(0, .ref (ad 25)), (1, .int x1), (2, .int x2), (3, .int x3), (4, .int x4)]) : W p l e (rmL 9 0 0) s m args below meth c H locs 0 0 Q (F0 m 38 ls []) := by
  have hx := X.hx
  have hb := X.hb
  have hown := X.hown
  have hts := X.hts
  rw [fX11_bestFlapToChange_38] at hf
  refine lv_aload_n hx hb dX11_bestFlapToChange_38 rfl (lv_at hl 0 rfl) ?_
  refine lv_iload hx hb dX11_bestFlapToChange_39 (lv_at hl 4 rfl) ?_
  refine lv_iload_n hx hb dX11_bestFlapToChange_41 rfl (lv_at hl 1 rfl) ?_
  obtain ⟨q, hc, hf⟩ := bd hf
  refine gCallVI X mOK rfl (vX11_grainWithChange hc) gRX11_X11_grainWithChange hdX11_grainWithChange rfl ⟨by decide, by decide⟩ hP hS (mrec hP) hl.1 (Nat.le_of_ble_eq_true rfl) ⟨Nat.le_refl _, Nat.le_refl _⟩ dX11_bestFlapToChange_42 (As := [.int x4, .int x1]) (rest := []) rfl (fun H locs hP hS => ?_)
  exact kX11_bestFlapToChange_45 X hret hK27 hf hP hS (lv_sub hl [0, 1, 2, 3, 4] rfl)
set_option maxRecDepth 10000 in
theorem kX11_bestFlapToChange_27 {r : Int32} {S1 : MS} (X : gX p s m args c cX11_bestFlapToChange 6 RX11 (kR kTab kA)) (hret : gRetI p l e (rmL 9 0 0) s m args below meth c cX11_bestFlapToChange (mΩ ad) (mP dC dI cI kA ad) Q r S1) : ∀ (n : Nat) (M : MS) (x1 : Int32) (x2 : Int32) (x3 : Int32) (x4 : Int32) (H : Heap) (locs : List Loc) (ls : Array Slot), fX11_bestFlapToChange_27 n M x1 x2 x3 x4 = some (r, S1) → (mP dC dI cI kA ad) M s H → va_S (Fr (mΩ ad) s.heap.size) s.heap H locs → lv_has ls 6 [(0, .ref (ad 25)), (1, .int x1), (2, .int x2), (3, .int x3), (4, .int x4)] → W p l e (rmL 9 0 0) s m args below meth c H locs 0 0 Q (F0 m 27 ls []) := by
  intro n
  induction n with
  | zero => intro M x1 x2 x3 x4 H locs ls hf; cases hf
  | succ k ih =>
    intro M x1 x2 x3 x4 H locs ls hf hP hS hl
    have hx := X.hx
    have hb := X.hb
    have hown := X.hown
    have hts := X.hts
    rw [fX11_bestFlapToChange_27] at hf
    try dsimp only at hf
    refine lv_iload hx hb dX11_bestFlapToChange_27 (lv_at hl 4 rfl) ?_
    refine lv_aload_n hx hb dX11_bestFlapToChange_29 rfl (lv_at hl 0 rfl) ?_
    refine mr_get (k := 0) X hP (by decide) rfl rfl tw1665 dX11_bestFlapToChange_30 ?_
    refine lv_iconst (v := 1) hx hb dX11_bestFlapToChange_33 (by decide) ?_
    obtain ⟨g1, hf⟩ := gd hf
    refine mr_ald (a := 0) X hP rfl g1 dX11_bestFlapToChange_34 ?_
    refine lv_icmp_ge (tgt := 69) hx hb dX11_bestFlapToChange_35 (by decide) (fun c1 => ?_) (fun c1 => ?_)
    · exact kX11_bestFlapToChange_69 X hret (ifp c1 hf) hP hS (lv_sub hl [0, 2] rfl)
    · exact kX11_bestFlapToChange_38 X hret ih (ifn c1 hf) hP hS (lv_sub hl [0, 1, 2, 3, 4] rfl)
set_option maxRecDepth 10000 in
theorem kX11_bestFlapToChange_23 {r : Int32} {S1 : MS} {M : MS} {x1 : Int32} {x2 : Int32} {s0 : Int32} {H : Heap} {locs : List Loc} {ls : Array Slot} (X : gX p s m args c cX11_bestFlapToChange 6 RX11 (kR kTab kA)) (hret : gRetI p l e (rmL 9 0 0) s m args below meth c cX11_bestFlapToChange (mΩ ad) (mP dC dI cI kA ad) Q r S1) (hf : fX11_bestFlapToChange_23 M x1 x2 s0 = some (r, S1)) (hP : (mP dC dI cI kA ad) M s H) (hS : va_S (Fr (mΩ ad) s.heap.size) s.heap H locs) (hl : lv_has ls 6 [(0, .ref (ad 25)), (1, .int x1), (2, .int x2)]) : W p l e (rmL 9 0 0) s m args below meth c H locs 0 0 Q (F0 m 23 ls [.int s0]) := by
  have hx := X.hx
  have hb := X.hb
  have hown := X.hown
  have hts := X.hts
  rw [fX11_bestFlapToChange_23] at hf
  refine lv_istore_n (lv' := [(3, .int s0), (0, .ref (ad 25)), (1, .int x1), (2, .int x2)]) hx hb dX11_bestFlapToChange_23 rfl hl (by decide) rfl (fun ls hl => ?_)
  refine lv_iconst (v := 0) hx hb dX11_bestFlapToChange_24 (by decide) ?_
  refine lv_istore (lv' := [(4, .int 0), (3, .int s0), (0, .ref (ad 25)), (1, .int x1), (2, .int x2)]) hx hb dX11_bestFlapToChange_25 hl (by decide) rfl (fun ls hl => ?_)
  exact kX11_bestFlapToChange_27 X hret FU _ _ _ _ _ _ _ _ hf hP hS (lv_sub hl [2, 3, 4, 1, 0] rfl)
set_option maxRecDepth 10000 in
theorem kX11_bestFlapToChange_16 {r : Int32} {S1 : MS} {M : MS} {x1 : Int32} {H : Heap} {locs : List Loc} {ls : Array Slot} (X : gX p s m args c cX11_bestFlapToChange 6 RX11 (kR kTab kA)) (hret : gRetI p l e (rmL 9 0 0) s m args below meth c cX11_bestFlapToChange (mΩ ad) (mP dC dI cI kA ad) Q r S1) (hf : fX11_bestFlapToChange_16 M x1 = some (r, S1)) (hP : (mP dC dI cI kA ad) M s H) (hS : va_S (Fr (mΩ ad) s.heap.size) s.heap H locs) (hl : lv_has ls 6 [(0, .ref (ad 25)), (1, .int x1)]) : W p l e (rmL 9 0 0) s m args below meth c H locs 0 0 Q (F0 m 16 ls []) := by
  have hx := X.hx
  have hb := X.hb
  have hown := X.hown
  have hts := X.hts
  rw [fX11_bestFlapToChange_16] at hf
  refine lv_iconst (v := (-1)) hx hb dX11_bestFlapToChange_16 (by decide) ?_
  refine lv_istore_n (lv' := [(2, .int (-1)), (0, .ref (ad 25)), (1, .int x1)]) hx hb dX11_bestFlapToChange_17 rfl hl (by decide) rfl (fun ls hl => ?_)
  refine lv_aload_n hx hb dX11_bestFlapToChange_18 rfl (lv_at hl 1 rfl) ?_
  refine lv_iload_n hx hb dX11_bestFlapToChange_19 rfl (lv_at hl 2 rfl) ?_
  obtain ⟨q, hc, hf⟩ := bd hf
  refine gCallVI X mOK rfl (vX11_allGrainAfter hc) gRX11_X11_allGrainAfter hdX11_allGrainAfter rfl ⟨by decide, by decide⟩ hP hS (mrec hP) hl.1 (Nat.le_of_ble_eq_true rfl) ⟨Nat.le_refl _, Nat.le_refl _⟩ dX11_bestFlapToChange_20 (As := [.int x1]) (rest := []) rfl (fun H locs hP hS => ?_)
  exact kX11_bestFlapToChange_23 X hret hf hP hS (lv_sub hl [1, 2, 0] rfl)
set_option maxRecDepth 10000 in
theorem kX11_bestFlapToChange_14 {r : Int32} {S1 : MS} {M : MS} {H : Heap} {locs : List Loc} {ls : Array Slot} (X : gX p s m args c cX11_bestFlapToChange 6 RX11 (kR kTab kA)) (hret : gRetI p l e (rmL 9 0 0) s m args below meth c cX11_bestFlapToChange (mΩ ad) (mP dC dI cI kA ad) Q r S1) (hf : fX11_bestFlapToChange_14 M = some (r, S1)) (hP : (mP dC dI cI kA ad) M s H) (hS : va_S (Fr (mΩ ad) s.heap.size) s.heap H locs) (hl : lv_has ls 6 [(0, .ref (ad 25))]) : W p l e (rmL 9 0 0) s m args below meth c H locs 0 0 Q (F0 m 14 ls []) := by
  have hx := X.hx
  have hb := X.hb
  have hown := X.hown
  have hts := X.hts
  rw [fX11_bestFlapToChange_14] at hf
  refine lv_iconst (v := 0) hx hb dX11_bestFlapToChange_14 (by decide) ?_
  cases hf
  exact hret _ _ _ _ dX11_bestFlapToChange_15 hP hS
set_option maxRecDepth 10000 in
theorem kX11_bestFlapToChange_11 {r : Int32} {S1 : MS} {M : MS} {x1 : Int32} {s0 : Int32} {H : Heap} {locs : List Loc} {ls : Array Slot} (X : gX p s m args c cX11_bestFlapToChange 6 RX11 (kR kTab kA)) (hret : gRetI p l e (rmL 9 0 0) s m args below meth c cX11_bestFlapToChange (mΩ ad) (mP dC dI cI kA ad) Q r S1) (hf : fX11_bestFlapToChange_11 M x1 s0 = some (r, S1)) (hP : (mP dC dI cI kA ad) M s H) (hS : va_S (Fr (mΩ ad) s.heap.size) s.heap H locs) (hl : lv_has ls 6 [(0, .ref (ad 25)), (1, .int x1)]) : W p l e (rmL 9 0 0) s m args below meth c H locs 0 0 Q (F0 m 11 ls [.int s0]) := by
  have hx := X.hx
  have hb := X.hb
  have hown := X.hown
  have hts := X.hts
  rw [fX11_bestFlapToChange_11] at hf
  refine lv_if_eq (tgt := 16) hx hb dX11_bestFlapToChange_11 (by decide) (fun c1 => ?_) (fun c1 => ?_)
  · exact kX11_bestFlapToChange_16 X hret (ifp c1 hf) hP hS (lv_sub hl [0, 1] rfl)
  · exact kX11_bestFlapToChange_14 X hret (ifn c1 hf) hP hS (lv_sub hl [0] rfl)
set_option maxRecDepth 10000 in
theorem kX11_bestFlapToChange_5 {r : Int32} {S1 : MS} {M : MS} {x1 : Int32} {H : Heap} {locs : List Loc} {ls : Array Slot} (X : gX p s m args c cX11_bestFlapToChange 6 RX11 (kR kTab kA)) (hret : gRetI p l e (rmL 9 0 0) s m args below meth c cX11_bestFlapToChange (mΩ ad) (mP dC dI cI kA ad) Q r S1) (hf : fX11_bestFlapToChange_5 M x1 = some (r, S1)) (hP : (mP dC dI cI kA ad) M s H) (hS : va_S (Fr (mΩ ad) s.heap.size) s.heap H locs) (hl : lv_has ls 6 [(0, .ref (ad 25)), (1, .int x1)]) : W p l e (rmL 9 0 0) s m args below meth c H locs 0 0 Q (F0 m 5 ls []) := by
  have hx := X.hx
  have hb := X.hb
  have hown := X.hown
  have hts := X.hts
  rw [fX11_bestFlapToChange_5] at hf
  refine lv_aload_n hx hb dX11_bestFlapToChange_5 rfl (lv_at hl 0 rfl) ?_
  refine lv_iload_n hx hb dX11_bestFlapToChange_6 rfl (lv_at hl 1 rfl) ?_
  refine lv_iconst (v := 1) hx hb dX11_bestFlapToChange_7 (by decide) ?_
  obtain ⟨q, hc, hf⟩ := bd hf
  refine gCallVI X mOK rfl (vX11_noHours hc) gRX11_X11_noHours hdX11_noHours rfl ⟨by decide, by decide⟩ hP hS (mrec hP) hl.1 (Nat.le_of_ble_eq_true rfl) ⟨Nat.le_refl _, Nat.le_refl _⟩ dX11_bestFlapToChange_8 (As := [.int x1, .int 1]) (rest := []) rfl (fun H locs hP hS => ?_)
  exact kX11_bestFlapToChange_11 X hret hf hP hS (lv_sub hl [0, 1] rfl)
set_option maxRecDepth 10000 in
theorem kX11_bestFlapToChange_0 {r : Int32} {S1 : MS} {M : MS} {a1 : Int32} {H : Heap} {locs : List Loc} {ls : Array Slot} (X : gX p s m args c cX11_bestFlapToChange 6 RX11 (kR kTab kA)) (hret : gRetI p l e (rmL 9 0 0) s m args below meth c cX11_bestFlapToChange (mΩ ad) (mP dC dI cI kA ad) Q r S1) (hf : fX11_bestFlapToChange_0 M a1 = some (r, S1)) (hP : (mP dC dI cI kA ad) M s H) (hS : va_S (Fr (mΩ ad) s.heap.size) s.heap H locs) (hl : lv_has ls 6 [(0, .ref (ad 25)), (1, .int a1)]) : W p l e (rmL 9 0 0) s m args below meth c H locs 0 0 Q (F0 m 0 ls []) := by
  have hx := X.hx
  have hb := X.hb
  have hown := X.hown
  have hts := X.hts
  rw [fX11_bestFlapToChange_0] at hf
  refine lv_aload_n hx hb dX11_bestFlapToChange_0 rfl (lv_at hl 0 rfl) ?_
  refine lv_iconst (v := 0) hx hb dX11_bestFlapToChange_1 (by decide) ?_
  refine mr_put (k := 7) X hP hS (by decide) rfl rfl rfl rfl tw1672 dX11_bestFlapToChange_2 (fun H locs hP hS => ?_)
  exact kX11_bestFlapToChange_5 X hret hf hP hS (lv_sub hl [0, 1] rfl)
theorem vX11_bestFlapToChange {l : Launch} {dC : Nat → ClassId} {dI : Nat → Nat → Nat} {cI : ClassId} {kA : String → Nat → Nat} {ad : Nat → Nat} {M S1 : MS} {r : Int32} {a1 : Int32} (hf : fX11_bestFlapToChange M a1 = some (r, S1)) : gMetI l yX11_bestFlapToChange cX11_bestFlapToChange 6 (some .int) 9 (mΩ ad) (mP dC dI cI kA ad) (kR kTab kA) [.ref (ad 25), .int a1] M r S1 := gEntryI (ty := .int) (by decide) rfl rfl mOK (Nat.le_of_ble_eq_true rfl) (fun p e s m args below meth c Q ls X hP hS hret hl => 
  kX11_bestFlapToChange_0 X hret hf hP hS (lv_sub hl [0, 1] rfl))
