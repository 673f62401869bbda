/-! the programs of the setup's parsing (their contracts come later) -/
def wordOf (M : CS) : List Int32 := (List.range (M.1 1 3 - M.1 1 5).toNatClampNeg).map fun j => M.1 2 ((M.1 1 5).toNatClampNeg + j)
/-- what Text.word asks: 1 to 15 letters of ASCII, within the bytes -/
def wordG (M : CS) : Prop := ¬ M.1 1 5 < 0 ∧ M.1 1 5 < M.1 1 3 ∧ (M.1 1 3).toNatClampNeg ≤ 600 ∧ (M.1 1 3).toNatClampNeg ≤ (M.1 1 5).toNatClampNeg + 15 ∧ ∀ j, j < 15 → (M.1 1 5).toNatClampNeg + j < (M.1 1 3).toNatClampNeg → ∃ k : Fin 128, M.1 2 ((M.1 1 5).toNatClampNeg + j) = Int32.ofNat k.val
def wordS (M : CS) : CS := (va_up (va_up M.1 3 (upd (upd (M.1 3) 2 (if 0 < M.1 3 3 then 1 else M.1 3 2)) 3 (Int32.ofNat (wordOf M).length))) 4 (fun j => if j < (wordOf M).length then (wordOf M).getD j 0 else M.1 4 j), M.2)
noncomputable def fX8_word (M : CS) : Option (List Int32 × CS) := @ite _ (wordG M) (Classical.propDecidable _) (some (wordOf M, wordS M)) none
noncomputable def fX8_nameTo (M : CS) (q : Nat) : Option CS := (fX8_word M).bind fun r => some (r.2.1, va_up r.2.2 q r.1)

noncomputable def fX6_readCat_163 (M : CS) (s0 : Int32) : Option (Int32 × CS) := some (s0, M)
noncomputable def fX6_readCat_156 (M : CS) : Option (Int32 × CS) := (fX8_takeSemicolon M ).bind fun q => fX6_readCat_163 q.2 q.1
noncomputable def fX6_readCat_143 (M : CS) : Option (Int32 × CS) := fX6_readCat_156 (va_up M.1 48 (upd (M.1 48) 5 ((M.1 48 5) + 1)), M.2)
noncomputable def fX6_readCat_140 (M : CS) (z1 : Nat) (s0 : Int32) : Option (Int32 × CS) := if s0 = 0 ∨ s0 = 1 then fX6_readCat_143 (va_up M.1 z1 (upd (M.1 z1) 2 s0), M.2) else none
noncomputable def fX6_readCat_130 (M : CS) (p1 : Nat) : Option (Int32 × CS) := (fX8_isWord M ([108, 101, 102, 116])).bind fun q => fX6_readCat_140 M p1 q
noncomputable def fX6_readCat_128 (M : CS) : Option (Int32 × CS) := some (0, M)
noncomputable def fX6_readCat_125 (M : CS) (p1 : Nat) (s0 : Int32) : Option (Int32 × CS) := if s0 = 0 then fX6_readCat_128 M else fX6_readCat_130 M p1
noncomputable def fX6_readCat_114 (M : CS) (p1 : Nat) : Option (Int32 × CS) := (fX8_takeEither M ([108, 101, 102, 116]) ([114, 105, 103, 104, 116])).bind fun q => fX6_readCat_125 q.2 p1 q.1
noncomputable def fX6_readCat_103 (M : CS) (p1 : Nat) : Option (Int32 × CS) := fX6_readCat_114 (va_up M.1 p1 (upd (M.1 p1) 1 (M.1 1 6)), M.2) p1
noncomputable def fX6_readCat_101 (M : CS) : Option (Int32 × CS) := some (0, M)
noncomputable def fX6_readCat_98 (M : CS) (p1 : Nat) (s0 : Int32) : Option (Int32 × CS) := if s0 = 0 then fX6_readCat_101 M else fX6_readCat_103 M p1
noncomputable def fX6_readCat_88 (M : CS) (p1 : Nat) : Option (Int32 × CS) := (fX8_takeNumber M 1 9).bind fun q => fX6_readCat_98 q.2 p1 q.1
noncomputable def fX6_readCat_77 (M : CS) (p1 : Nat) : Option (Int32 × CS) := (fX8_nameTo M p1).bind fun q => fX6_readCat_88 q p1
noncomputable def fX6_readCat_57 (M : CS) : Option (Int32 × CS) := if gIn (M.1 48 5) 8 then (fX0_begin M ((48 + 1) + 8 + (M.1 48 5).toNatClampNeg)).bind fun q => fX6_readCat_77 q ((48 + 1) + 8 + (M.1 48 5).toNatClampNeg) else none
noncomputable def fX6_readCat_56 (M : CS) (s0 : Int32) : Option (Int32 × CS) := some (s0, M)
noncomputable def fX6_readCat_48 (M : CS) : Option (Int32 × CS) := (fX8_fail M 3).bind fun q => fX6_readCat_56 q.2 q.1
noncomputable def fX6_readCat_44 (M : CS) (s0 : Int32) : Option (Int32 × CS) := if s0 = (-1) then fX6_readCat_57 M else fX6_readCat_48 M
noncomputable def fX6_readCat_33 (M : CS) : Option (Int32 × CS) := (fX2_catNamed M 48).bind fun q => fX6_readCat_44 M q
noncomputable def fX6_readCat_31 (M : CS) : Option (Int32 × CS) := some (0, M)
noncomputable def fX6_readCat_28 (M : CS) (s0 : Int32) : Option (Int32 × CS) := if s0 = 0 then fX6_readCat_31 M else fX6_readCat_33 M
noncomputable def fX6_readCat_21 (M : CS) : Option (Int32 × CS) := (fX8_takeName M ).bind fun q => fX6_readCat_28 q.2 q.1
noncomputable def fX6_readCat_20 (M : CS) (s0 : Int32) : Option (Int32 × CS) := some (s0, M)
noncomputable def fX6_readCat_12 (M : CS) : Option (Int32 × CS) := (fX8_fail M 5).bind fun q => fX6_readCat_20 q.2 q.1
noncomputable def fX6_readCat_0 (M : CS) : Option (Int32 × CS) := if (M.1 48 5) < 8 then fX6_readCat_21 M else fX6_readCat_12 M
noncomputable def fX6_readCat (M : CS) : Option (Int32 × CS) := bz (fX6_readCat_0  M)
noncomputable def fX6_readSack_191 (M : CS) (s0 : Int32) : Option (Int32 × CS) := some (s0, M)
noncomputable def fX6_readSack_184 (M : CS) : Option (Int32 × CS) := (fX8_takeSemicolon M ).bind fun q => fX6_readSack_191 q.2 q.1
noncomputable def fX6_readSack_171 (M : CS) : Option (Int32 × CS) := fX6_readSack_184 (va_up M.1 48 (upd (M.1 48) 6 ((M.1 48 6) + 1)), M.2)
noncomputable def fX6_readSack_168 (M : CS) (z1 : Nat) (s0 : Int32) : Option (Int32 × CS) := if s0 = 0 ∨ s0 = 1 then fX6_readSack_171 (va_up M.1 z1 (upd (M.1 z1) 3 s0), M.2) else none
noncomputable def fX6_readSack_158 (M : CS) (p1 : Nat) : Option (Int32 × CS) := (fX8_isWord M ([111, 112, 101, 110])).bind fun q => fX6_readSack_168 M p1 q
noncomputable def fX6_readSack_156 (M : CS) : Option (Int32 × CS) := some (0, M)
noncomputable def fX6_readSack_153 (M : CS) (p1 : Nat) (s0 : Int32) : Option (Int32 × CS) := if s0 = 0 then fX6_readSack_156 M else fX6_readSack_158 M p1
noncomputable def fX6_readSack_142 (M : CS) (p1 : Nat) : Option (Int32 × CS) := (fX8_takeEither M ([111, 112, 101, 110]) ([115, 104, 117, 116])).bind fun q => fX6_readSack_153 q.2 p1 q.1
noncomputable def fX6_readSack_131 (M : CS) (p1 : Nat) : Option (Int32 × CS) := fX6_readSack_142 (va_up M.1 p1 (upd (M.1 p1) 2 (M.1 1 6)), M.2) p1
noncomputable def fX6_readSack_129 (M : CS) : Option (Int32 × CS) := some (0, M)
noncomputable def fX6_readSack_126 (M : CS) (p1 : Nat) (s0 : Int32) : Option (Int32 × CS) := if s0 = 0 then fX6_readSack_129 M else fX6_readSack_131 M p1
noncomputable def fX6_readSack_116 (M : CS) (p1 : Nat) : Option (Int32 × CS) := (fX8_takeNumber M 0 99).bind fun q => fX6_readSack_126 q.2 p1 q.1
noncomputable def fX6_readSack_105 (M : CS) (p1 : Nat) : Option (Int32 × CS) := fX6_readSack_116 (va_up M.1 p1 (upd (M.1 p1) 1 (M.1 1 6)), M.2) p1
noncomputable def fX6_readSack_103 (M : CS) : Option (Int32 × CS) := some (0, M)
noncomputable def fX6_readSack_100 (M : CS) (p1 : Nat) (s0 : Int32) : Option (Int32 × CS) := if s0 = 0 then fX6_readSack_103 M else fX6_readSack_105 M p1
noncomputable def fX6_readSack_89 (M : CS) (p1 : Nat) : Option (Int32 × CS) := (fX8_takeNumber M 0 999).bind fun q => fX6_readSack_100 q.2 p1 q.1
noncomputable def fX6_readSack_78 (M : CS) (p1 : Nat) : Option (Int32 × CS) := (fX8_nameTo M p1).bind fun q => fX6_readSack_89 q p1
noncomputable def fX6_readSack_57 (M : CS) : Option (Int32 × CS) := if gIn (M.1 48 6) 6 then fX6_readSack_78 (va_up M.1 ((48 + 2) + 15 + (M.1 48 6).toNatClampNeg) (upd (M.1 ((48 + 2) + 15 + (M.1 48 6).toNatClampNeg)) 4 0), M.2) ((48 + 2) + 15 + (M.1 48 6).toNatClampNeg) else none
noncomputable def fX6_readSack_56 (M : CS) (s0 : Int32) : Option (Int32 × CS) := some (s0, M)
noncomputable def fX6_readSack_48 (M : CS) : Option (Int32 × CS) := (fX8_fail M 3).bind fun q => fX6_readSack_56 q.2 q.1
noncomputable def fX6_readSack_44 (M : CS) (s0 : Int32) : Option (Int32 × CS) := if s0 = (-1) then fX6_readSack_57 M else fX6_readSack_48 M
noncomputable def fX6_readSack_33 (M : CS) : Option (Int32 × CS) := (fX2_sackNamed M 48).bind fun q => fX6_readSack_44 M q
noncomputable def fX6_readSack_31 (M : CS) : Option (Int32 × CS) := some (0, M)
noncomputable def fX6_readSack_28 (M : CS) (s0 : Int32) : Option (Int32 × CS) := if s0 = 0 then fX6_readSack_31 M else fX6_readSack_33 M
noncomputable def fX6_readSack_21 (M : CS) : Option (Int32 × CS) := (fX8_takeName M ).bind fun q => fX6_readSack_28 q.2 q.1
noncomputable def fX6_readSack_20 (M : CS) (s0 : Int32) : Option (Int32 × CS) := some (s0, M)
noncomputable def fX6_readSack_12 (M : CS) : Option (Int32 × CS) := (fX8_fail M 5).bind fun q => fX6_readSack_20 q.2 q.1
noncomputable def fX6_readSack_0 (M : CS) : Option (Int32 × CS) := if (M.1 48 6) < 6 then fX6_readSack_21 M else fX6_readSack_12 M
noncomputable def fX6_readSack (M : CS) : Option (Int32 × CS) := bz (fX6_readSack_0  M)
noncomputable def fX6_readStatement_95 (M : CS) (s0 : Int32) : Option (Int32 × CS) := some (s0, M)
noncomputable def fX6_readStatement_87 (M : CS) : Option (Int32 × CS) := (fX8_fail M 1).bind fun q => fX6_readStatement_95 q.2 q.1
noncomputable def fX6_readStatement_84 (M : CS) (s0 : Int32) : Option (Int32 × CS) := fX6_readStatement_95 M s0
noncomputable def fX6_readStatement_80 (M : CS) : Option (Int32 × CS) := (fX6_readHour M ).bind fun q => fX6_readStatement_84 q.2 q.1
noncomputable def fX6_readStatement_77 (M : CS) (s0 : Int32) : Option (Int32 × CS) := if s0 = 0 then fX6_readStatement_87 M else fX6_readStatement_80 M
noncomputable def fX6_readStatement_68 (M : CS) : Option (Int32 × CS) := (fX8_isWord M ([104, 111, 117, 114])).bind fun q => fX6_readStatement_77 M q
noncomputable def fX6_readStatement_67 (M : CS) (s0 : Int32) : Option (Int32 × CS) := some (s0, M)
noncomputable def fX6_readStatement_63 (M : CS) : Option (Int32 × CS) := (fX6_readMilk M ).bind fun q => fX6_readStatement_67 q.2 q.1
noncomputable def fX6_readStatement_60 (M : CS) (s0 : Int32) : Option (Int32 × CS) := if s0 = 0 then fX6_readStatement_68 M else fX6_readStatement_63 M
noncomputable def fX6_readStatement_51 (M : CS) : Option (Int32 × CS) := (fX8_isWord M ([109, 105, 108, 107])).bind fun q => fX6_readStatement_60 M q
noncomputable def fX6_readStatement_50 (M : CS) (s0 : Int32) : Option (Int32 × CS) := some (s0, M)
noncomputable def fX6_readStatement_46 (M : CS) : Option (Int32 × CS) := (fX6_readShift M ).bind fun q => fX6_readStatement_50 q.2 q.1
noncomputable def fX6_readStatement_43 (M : CS) (s0 : Int32) : Option (Int32 × CS) := if s0 = 0 then fX6_readStatement_51 M else fX6_readStatement_46 M
noncomputable def fX6_readStatement_34 (M : CS) : Option (Int32 × CS) := (fX8_isWord M ([115, 104, 105, 102, 116])).bind fun q => fX6_readStatement_43 M q
noncomputable def fX6_readStatement_33 (M : CS) (s0 : Int32) : Option (Int32 × CS) := some (s0, M)
noncomputable def fX6_readStatement_29 (M : CS) : Option (Int32 × CS) := (fX6_readSack M ).bind fun q => fX6_readStatement_33 q.2 q.1
noncomputable def fX6_readStatement_26 (M : CS) (s0 : Int32) : Option (Int32 × CS) := if s0 = 0 then fX6_readStatement_34 M else fX6_readStatement_29 M
noncomputable def fX6_readStatement_17 (M : CS) : Option (Int32 × CS) := (fX8_isWord M ([115, 97, 99, 107])).bind fun q => fX6_readStatement_26 M q
noncomputable def fX6_readStatement_16 (M : CS) (s0 : Int32) : Option (Int32 × CS) := some (s0, M)
noncomputable def fX6_readStatement_12 (M : CS) : Option (Int32 × CS) := (fX6_readCat M ).bind fun q => fX6_readStatement_16 q.2 q.1
noncomputable def fX6_readStatement_9 (M : CS) (s0 : Int32) : Option (Int32 × CS) := if s0 = 0 then fX6_readStatement_17 M else fX6_readStatement_12 M
noncomputable def fX6_readStatement_0 (M : CS) : Option (Int32 × CS) := (fX8_isWord M ([99, 97, 116])).bind fun q => fX6_readStatement_9 M q
noncomputable def fX6_readStatement (M : CS) : Option (Int32 × CS) := bz (fX6_readStatement_0  M)
noncomputable def fX6_parse_91 (M : CS) (s0 : Int32) : Option (Int32 × CS) := some (s0, M)
noncomputable def fX6_parse_82 (M : CS) : Option (Int32 × CS) := (fX8_fail M 6).bind fun q => fX6_parse_91 q.2 q.1
noncomputable def fX6_parse_99 (M : CS) : Option (Int32 × CS) := some (1, M)
noncomputable def fX6_parse_92 (M : CS) : Option (Int32 × CS) := (fX2_begin M 48).bind fun q => fX6_parse_99 q
noncomputable def fX6_parse_72 (M : CS) : Option (Int32 × CS) := if (M.1 48 7) = 0 then fX6_parse_82 M else fX6_parse_92 M
noncomputable def fX6_parse_62 (M : CS) : Option (Int32 × CS) := if (M.1 48 6) = 0 then fX6_parse_82 M else fX6_parse_72 M
noncomputable def fX6_parse_52 (M : CS) : Option (Int32 × CS) := if (M.1 48 5) = 0 then fX6_parse_82 M else fX6_parse_62 M
noncomputable def fX6_parse_46 (K16 : CS → Int32 → Option (Int32 × CS)) (M : CS) (x1 : Int32) : Option (Int32 × CS) := K16 M (x1 + 1)
noncomputable def fX6_parse_44 (M : CS) : Option (Int32 × CS) := some (0, M)
noncomputable def fX6_parse_41 (K16 : CS → Int32 → Option (Int32 × CS)) (M : CS) (x1 : Int32) (s0 : Int32) : Option (Int32 × CS) := if s0 = 0 then fX6_parse_44 M else fX6_parse_46 K16 M x1
noncomputable def fX6_parse_37 (K16 : CS → Int32 → Option (Int32 × CS)) (M : CS) (x1 : Int32) : Option (Int32 × CS) := (fX6_readStatement M ).bind fun q => fX6_parse_41 K16 q.2 x1 q.1
noncomputable def fX6_parse_34 (K16 : CS → Int32 → Option (Int32 × CS)) (M : CS) (x1 : Int32) (s0 : Int32) : Option (Int32 × CS) := if s0 = 0 then fX6_parse_52 M else fX6_parse_37 K16 M x1
noncomputable def fX6_parse_27 (K16 : CS → Int32 → Option (Int32 × CS)) (M : CS) (x1 : Int32) : Option (Int32 × CS) := (fX8_advance M ).bind fun q => fX6_parse_34 K16 q.2 x1 q.1
noncomputable def fX6_parse_16 : Nat → CS → Int32 → Option (Int32 × CS)
  | 0 => fun _ _ => none
  | k + 1 => fun M x1 => if (M.1 1 2) < x1 then fX6_parse_52 M else if gIn x1 201 then fX6_parse_27 (fX6_parse_16 k) M x1 else none
noncomputable def fX6_parse_14 (M : CS) : Option (Int32 × CS) := fX6_parse_16 FU M 0
noncomputable def fX6_parse_7 (M : CS) : Option (Int32 × CS) := (fX2_clear M 48).bind fun q => fX6_parse_14 q
noncomputable def fX6_parse_0 (M : CS) : Option (Int32 × CS) := (fX8_begin M ).bind fun q => fX6_parse_7 q
noncomputable def fX6_parse (M : CS) : Option (Int32 × CS) := bz (fX6_parse_0  M)
noncomputable def fX10_loadGranary_43 (M : CS) : Option (Int32 × CS) := some ((M.1 13 5), M)
noncomputable def fX10_loadGranary_38 (M : CS) : Option (Int32 × CS) := fX10_loadGranary_43 (va_up M.1 0 (upd (M.1 0) 9 0), M.2)
noncomputable def fX10_loadGranary_33 (M : CS) : Option (Int32 × CS) := fX10_loadGranary_38 (va_up M.1 0 (upd (M.1 0) 11 0), M.2)
noncomputable def fX10_loadGranary_22 (M : CS) : Option (Int32 × CS) := (fX2_copyFrom M 13 48).bind fun q => fX10_loadGranary_33 q
noncomputable def fX10_loadGranary_20 (M : CS) : Option (Int32 × CS) := some ((-1), M)
noncomputable def fX10_loadGranary_16 (M : CS) (x1 : Int32) : Option (Int32 × CS) := if x1 = 0 then fX10_loadGranary_20 M else fX10_loadGranary_22 M
noncomputable def fX10_loadGranary_7 (M : CS) (s0 : Int32) : Option (Int32 × CS) := fX10_loadGranary_16 (va_up M.1 1 (upd (M.1 1) 2 0), M.2) s0
noncomputable def fX10_loadGranary_0 (M : CS) : Option (Int32 × CS) := (fX6_parse M ).bind fun q => fX10_loadGranary_7 q.2 q.1
noncomputable def fX10_loadGranary (M : CS) : Option (Int32 × CS) := fX10_loadGranary_0  M
