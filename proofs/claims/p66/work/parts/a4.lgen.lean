theorem tw22 : (Jvm.Cond.initialized "GranaryWatchLaw$Granary") ∈ TBG := tb_t 22 (by decide +kernel) (by decide +kernel)
theorem tw26 : (Jvm.Cond.initialized "GranaryWatchLaw$Cat") ∈ TBG := tb_t 26 (by decide +kernel) (by decide +kernel)
theorem tw818 : (Jvm.Cond.fieldLink "GranaryWatchLaw$Cat" (7 : Nat) "GranaryWatchLaw$Cat" "speed" "I") ∈ TBG := tb_t 818 (by decide +kernel) (by decide +kernel)
theorem tw820 : (Jvm.Cond.fieldLink "GranaryWatchLaw$Cat" (13 : Nat) "GranaryWatchLaw$Cat" "tired" "I") ∈ TBG := tb_t 820 (by decide +kernel) (by decide +kernel)
theorem tw880 : (Jvm.Cond.fieldLink "GranaryWatchLaw$Granary" (10 : Nat) "GranaryWatchLaw$Granary" "cats" "Ljava/util/List;") ∈ TBG := tb_t 880 (by decide +kernel) (by decide +kernel)
theorem tw882 : (Jvm.Cond.fieldLink "GranaryWatchLaw$Granary" (16 : Nat) "GranaryWatchLaw$Granary" "shifts" "Ljava/util/List;") ∈ TBG := tb_t 882 (by decide +kernel) (by decide +kernel)
theorem tw884 : (Jvm.Cond.fieldLink "GranaryWatchLaw$Granary" (19 : Nat) "GranaryWatchLaw$Granary" "sacks" "Ljava/util/List;") ∈ TBG := tb_t 884 (by decide +kernel) (by decide +kernel)
theorem tw886 : (Jvm.Cond.fieldLink "GranaryWatchLaw$Granary" (22 : Nat) "GranaryWatchLaw$Granary" "hours" "Ljava/util/List;") ∈ TBG := tb_t 886 (by decide +kernel) (by decide +kernel)
theorem tw888 : (Jvm.Cond.fieldLink "GranaryWatchLaw$Granary" (25 : Nat) "GranaryWatchLaw$Granary" "sworn" "LGranaryWatchLaw$Cat;") ∈ TBG := tb_t 888 (by decide +kernel) (by decide +kernel)
theorem tw891 : (Jvm.Cond.fieldLink "GranaryWatchLaw$Granary" (116 : Nat) "GranaryWatchLaw$Granary" "clock" "I") ∈ TBG := tb_t 891 (by decide +kernel) (by decide +kernel)
theorem tw893 : (Jvm.Cond.fieldLink "GranaryWatchLaw$Granary" (132 : Nat) "GranaryWatchLaw$Granary" "milk" "I") ∈ TBG := tb_t 893 (by decide +kernel) (by decide +kernel)
theorem tw894 : (Jvm.Cond.fieldLink "GranaryWatchLaw$Granary" (95 : Nat) "GranaryWatchLaw$Granary" "shift" "I") ∈ TBG := tb_t 894 (by decide +kernel) (by decide +kernel)
theorem tw896 : (Jvm.Cond.fieldLink "GranaryWatchLaw$Granary" (103 : Nat) "GranaryWatchLaw$Granary" "left" "I") ∈ TBG := tb_t 896 (by decide +kernel) (by decide +kernel)
theorem tw898 : (Jvm.Cond.fieldLink "GranaryWatchLaw$Granary" (88 : Nat) "GranaryWatchLaw$Granary" "caught" "I") ∈ TBG := tb_t 898 (by decide +kernel) (by decide +kernel)
theorem tw900 : (Jvm.Cond.fieldLink "GranaryWatchLaw$Granary" (47 : Nat) "GranaryWatchLaw$Granary" "eaten" "I") ∈ TBG := tb_t 900 (by decide +kernel) (by decide +kernel)
theorem tw903 : (Jvm.Cond.fieldLink "GranaryWatchLaw$Granary" (123 : Nat) "GranaryWatchLaw$Granary" "born" "I") ∈ TBG := tb_t 903 (by decide +kernel) (by decide +kernel)
theorem tw904 : (Jvm.Cond.fieldLink "GranaryWatchLaw$Granary" (65 : Nat) "GranaryWatchLaw$Granary" "starved" "I") ∈ TBG := tb_t 904 (by decide +kernel) (by decide +kernel)
theorem tw906 : (Jvm.Cond.fieldLink "GranaryWatchLaw$Granary" (35 : Nat) "GranaryWatchLaw$Granary" "oaths" "I") ∈ TBG := tb_t 906 (by decide +kernel) (by decide +kernel)
theorem tw908 : (Jvm.Cond.fieldLink "GranaryWatchLaw$Granary" (113 : Nat) "GranaryWatchLaw$Granary" "refusals" "I") ∈ TBG := tb_t 908 (by decide +kernel) (by decide +kernel)
theorem tw942 : (Jvm.Cond.instanceMethod ({ cls := "GranaryWatchLaw$Granary", name := "swearsIn", desc := "(LGranaryWatchLaw$Cat;)V" } : Jvm.MethodName)) ∈ TBG := tb_t 942 (by decide +kernel) (by decide +kernel)
theorem tw943 : (Jvm.Cond.selects "GranaryWatchLaw$Granary" ({ cls := "GranaryWatchLaw$Granary", name := "swearsIn", desc := "(LGranaryWatchLaw$Cat;)V" } : Jvm.MethodName) ({ cls := "GranaryWatchLaw$Granary", name := "swearsIn", desc := "(LGranaryWatchLaw$Cat;)V" } : Jvm.MethodName)) ∈ TBG := tb_t 943 (by decide +kernel) (by decide +kernel)
theorem tw944 : (Jvm.Cond.code ({ cls := "GranaryWatchLaw$Granary", name := "swearsIn", desc := "(LGranaryWatchLaw$Cat;)V" } : Jvm.MethodName) prog_14_method_2_code (2 : Nat) (Option.none : Option Jvm.ClassFile.FieldType)) ∈ TBG := tb_t 944 (by decide +kernel) (by decide +kernel)
theorem tw1179 : (Jvm.Cond.instanceMethod ({ cls := "GranaryWatchLaw$Cat", name := "strength", desc := "()I" } : Jvm.MethodName)) ∈ TBG := tb_t 1179 (by decide +kernel) (by decide +kernel)
theorem tw1180 : (Jvm.Cond.selects "GranaryWatchLaw$Cat" ({ cls := "GranaryWatchLaw$Cat", name := "strength", desc := "()I" } : Jvm.MethodName) ({ cls := "GranaryWatchLaw$Cat", name := "strength", desc := "()I" } : Jvm.MethodName)) ∈ TBG := tb_t 1180 (by decide +kernel) (by decide +kernel)
theorem tw1181 : (Jvm.Cond.code ({ cls := "GranaryWatchLaw$Cat", name := "strength", desc := "()I" } : Jvm.MethodName) prog_13_method_2_code (1 : Nat) (Option.some Jvm.ClassFile.FieldType.int)) ∈ TBG := tb_t 1181 (by decide +kernel) (by decide +kernel)
theorem tw1390 : (Jvm.Cond.methodLink "GranaryWatchLaw$Granary" (68 : Nat) ({ cls := "java/util/List", name := "iterator", desc := "()Ljava/util/Iterator;" } : Jvm.MethodName)) ∈ TBG := tb_t 1390 (by decide +kernel) (by decide +kernel)
theorem tw1392 : (Jvm.Cond.methodLink "GranaryWatchLaw$Granary" (72 : Nat) ({ cls := "java/util/Iterator", name := "hasNext", desc := "()Z" } : Jvm.MethodName)) ∈ TBG := tb_t 1392 (by decide +kernel) (by decide +kernel)
theorem tw1394 : (Jvm.Cond.methodLink "GranaryWatchLaw$Granary" (78 : Nat) ({ cls := "java/util/Iterator", name := "next", desc := "()Ljava/lang/Object;" } : Jvm.MethodName)) ∈ TBG := tb_t 1394 (by decide +kernel) (by decide +kernel)
theorem tw1395 : (Jvm.Cond.classLink "GranaryWatchLaw$Granary" (37 : Nat) "GranaryWatchLaw$Sack") ∈ TBG := tb_t 1395 (by decide +kernel) (by decide +kernel)
theorem tw1396 : (Jvm.Cond.methodLink "GranaryWatchLaw$Granary" (119 : Nat) ({ cls := "GranaryWatchLaw$Granary", name := "eats", desc := "(LGranaryWatchLaw$Sack;)V" } : Jvm.MethodName)) ∈ TBG := tb_t 1396 (by decide +kernel) (by decide +kernel)
theorem tw1398 : (Jvm.Cond.instanceMethod ({ cls := "GranaryWatchLaw$Granary", name := "eats", desc := "(LGranaryWatchLaw$Sack;)V" } : Jvm.MethodName)) ∈ TBG := tb_t 1398 (by decide +kernel) (by decide +kernel)
theorem tw1399 : (Jvm.Cond.code ({ cls := "GranaryWatchLaw$Granary", name := "eats", desc := "(LGranaryWatchLaw$Sack;)V" } : Jvm.MethodName) prog_14_method_3_code (4 : Nat) (Option.none : Option Jvm.ClassFile.FieldType)) ∈ TBG := tb_t 1399 (by decide +kernel) (by decide +kernel)
theorem tw1401 : (Jvm.Cond.methodLink "GranaryWatchLaw$Granary" (48 : Nat) ({ cls := "java/util/List", name := "size", desc := "()I" } : Jvm.MethodName)) ∈ TBG := tb_t 1401 (by decide +kernel) (by decide +kernel)
theorem tw1403 : (Jvm.Cond.methodLink "GranaryWatchLaw$Granary" (61 : Nat) ({ cls := "java/util/List", name := "get", desc := "(I)Ljava/lang/Object;" } : Jvm.MethodName)) ∈ TBG := tb_t 1403 (by decide +kernel) (by decide +kernel)
theorem tw1404 : (Jvm.Cond.classLink "GranaryWatchLaw$Granary" (30 : Nat) "GranaryWatchLaw$Cat") ∈ TBG := tb_t 1404 (by decide +kernel) (by decide +kernel)
theorem tw1405 : (Jvm.Cond.methodLink "GranaryWatchLaw$Granary" (126 : Nat) ({ cls := "GranaryWatchLaw$Granary", name := "hunts", desc := "()V" } : Jvm.MethodName)) ∈ TBG := tb_t 1405 (by decide +kernel) (by decide +kernel)
theorem tw1407 : (Jvm.Cond.instanceMethod ({ cls := "GranaryWatchLaw$Granary", name := "hunts", desc := "()V" } : Jvm.MethodName)) ∈ TBG := tb_t 1407 (by decide +kernel) (by decide +kernel)
theorem tw1408 : (Jvm.Cond.code ({ cls := "GranaryWatchLaw$Granary", name := "hunts", desc := "()V" } : Jvm.MethodName) prog_14_method_4_code (4 : Nat) (Option.none : Option Jvm.ClassFile.FieldType)) ∈ TBG := tb_t 1408 (by decide +kernel) (by decide +kernel)
theorem tw1409 : (Jvm.Cond.methodLink "GranaryWatchLaw$Granary" (82 : Nat) ({ cls := "GranaryWatchLaw$Cat", name := "strength", desc := "()I" } : Jvm.MethodName)) ∈ TBG := tb_t 1409 (by decide +kernel) (by decide +kernel)
theorem tw1410 : (Jvm.Cond.methodLink "GranaryWatchLaw$Granary" (129 : Nat) ({ cls := "GranaryWatchLaw$Granary", name := "changes", desc := "()V" } : Jvm.MethodName)) ∈ TBG := tb_t 1410 (by decide +kernel) (by decide +kernel)
theorem tw1412 : (Jvm.Cond.instanceMethod ({ cls := "GranaryWatchLaw$Granary", name := "changes", desc := "()V" } : Jvm.MethodName)) ∈ TBG := tb_t 1412 (by decide +kernel) (by decide +kernel)
theorem tw1413 : (Jvm.Cond.code ({ cls := "GranaryWatchLaw$Granary", name := "changes", desc := "()V" } : Jvm.MethodName) prog_14_method_5_code (2 : Nat) (Option.none : Option Jvm.ClassFile.FieldType)) ∈ TBG := tb_t 1413 (by decide +kernel) (by decide +kernel)
theorem tw1414 : (Jvm.Cond.classLink "GranaryWatchLaw$Granary" (98 : Nat) "java/lang/Integer") ∈ TBG := tb_t 1414 (by decide +kernel) (by decide +kernel)
theorem tw1415 : (Jvm.Cond.methodLink "GranaryWatchLaw$Granary" (100 : Nat) ({ cls := "java/lang/Integer", name := "intValue", desc := "()I" } : Jvm.MethodName)) ∈ TBG := tb_t 1415 (by decide +kernel) (by decide +kernel)
theorem tw1419 : (Jvm.Cond.methodLink "GranaryWatchLaw$Granary" (109 : Nat) ({ cls := "GranaryWatchLaw$Granary", name := "swearsIn", desc := "(LGranaryWatchLaw$Cat;)V" } : Jvm.MethodName)) ∈ TBG := tb_t 1419 (by decide +kernel) (by decide +kernel)
theorem tp11 : Cond.selects "GranaryWatchLaw$Granary" ⟨"GranaryWatchLaw$Granary", "eats", "(LGranaryWatchLaw$Sack;)V"⟩ ⟨"GranaryWatchLaw$Granary", "eats", "(LGranaryWatchLaw$Sack;)V"⟩ ∈ TBG := tb_s (q := (⟨"GranaryWatchLaw$Granary", "eats", "(LGranaryWatchLaw$Sack;)V"⟩, 15)) 11 (by decide +kernel) (by decide +kernel)
theorem tp12 : Cond.selects "GranaryWatchLaw$Granary" ⟨"GranaryWatchLaw$Granary", "hunts", "()V"⟩ ⟨"GranaryWatchLaw$Granary", "hunts", "()V"⟩ ∈ TBG := tb_s (q := (⟨"GranaryWatchLaw$Granary", "hunts", "()V"⟩, 15)) 12 (by decide +kernel) (by decide +kernel)
theorem tp13 : Cond.selects "GranaryWatchLaw$Granary" ⟨"GranaryWatchLaw$Granary", "changes", "()V"⟩ ⟨"GranaryWatchLaw$Granary", "changes", "()V"⟩ ∈ TBG := tb_s (q := (⟨"GranaryWatchLaw$Granary", "changes", "()V"⟩, 15)) 13 (by decide +kernel) (by decide +kernel)
theorem xw821 : (Jvm.Cond.fieldLinkNest "GranaryWatchLaw$Granary" (89 : Nat) "GranaryWatchLaw$Cat" "tired" "I" "GranaryWatchLaw") ∈ xws := xt 821 (by decide +kernel) rfl
theorem xw823 : (Jvm.Cond.fieldLinkNest "GranaryWatchLaw$Granary" (85 : Nat) "GranaryWatchLaw$Cat" "caught" "I" "GranaryWatchLaw") ∈ xws := xt 823 (by decide +kernel) rfl
theorem xw825 : (Jvm.Cond.fieldLinkNest "GranaryWatchLaw$Granary" (29 : Nat) "GranaryWatchLaw$Cat" "oaths" "I" "GranaryWatchLaw") ∈ xws := xt 825 (by decide +kernel) rfl
theorem xw827 : (Jvm.Cond.fieldLinkNest "GranaryWatchLaw$Granary" (106 : Nat) "GranaryWatchLaw$Cat" "isLeft" "Z" "GranaryWatchLaw") ∈ xws := xt 827 (by decide +kernel) rfl
theorem xw829 : (Jvm.Cond.fieldLinkNest "GranaryWatchLaw$Granary" (92 : Nat) "GranaryWatchLaw$Cat" "isHunting" "Z" "GranaryWatchLaw") ∈ xws := xt 829 (by decide +kernel) rfl
theorem xw951 : (Jvm.Cond.fieldLinkNest "GranaryWatchLaw$Granary" (58 : Nat) "GranaryWatchLaw$Sack" "number" "I" "GranaryWatchLaw") ∈ xws := xt 951 (by decide +kernel) rfl
theorem xw953 : (Jvm.Cond.fieldLinkNest "GranaryWatchLaw$Granary" (41 : Nat) "GranaryWatchLaw$Sack" "grain" "I" "GranaryWatchLaw") ∈ xws := xt 953 (by decide +kernel) rfl
theorem xw955 : (Jvm.Cond.fieldLinkNest "GranaryWatchLaw$Granary" (36 : Nat) "GranaryWatchLaw$Sack" "mice" "I" "GranaryWatchLaw") ∈ xws := xt 955 (by decide +kernel) rfl
theorem xw957 : (Jvm.Cond.fieldLinkNest "GranaryWatchLaw$Granary" (44 : Nat) "GranaryWatchLaw$Sack" "eaten" "I" "GranaryWatchLaw") ∈ xws := xt 957 (by decide +kernel) rfl
theorem xw959 : (Jvm.Cond.fieldLinkNest "GranaryWatchLaw$Granary" (54 : Nat) "GranaryWatchLaw$Sack" "isOpen" "Z" "GranaryWatchLaw") ∈ xws := xt 959 (by decide +kernel) rfl
/-! the law's granary: plain programs and what its methods do -/
def fZ11_strength_29 (C : LC) (t : Nat) (M : XL) (s0 : Int32) : Option (Int32 × XL) := some (s0, M)
def fZ11_strength_18 (C : LC) (t : Nat) (M : XL) : Option (Int32 × XL) := fZ11_strength_29 C t M ((M.1 (65 + 12 * t + 7)) - ((M.1 (65 + 12 * t + 9)) / 4))
def fZ11_strength_14 (C : LC) (t : Nat) (M : XL) : Option (Int32 × XL) := fZ11_strength_29 C t M 0
def fZ11_strength_0 (C : LC) (t : Nat) (M : XL) : Option (Int32 × XL) := if 0 ≤ ((M.1 (65 + 12 * t + 7)) - ((M.1 (65 + 12 * t + 9)) / 4)) then fZ11_strength_18 C t M else fZ11_strength_14 C t M
def fZ11_strength (C : LC) (M : XL) (t : Nat) : Option (Int32 × XL) := fZ11_strength_0 C t M
def fZ12_swearsIn_25 (C : LC) (a1 : Nat) (M : XL) : Option (XL) := some M
def fZ12_swearsIn_15 (C : LC) (a1 : Nat) (M : XL) : Option (XL) := fZ12_swearsIn_25 C a1 (upd M.1 12 ((M.1 12) + 1), M.2)
def fZ12_swearsIn_5 (C : LC) (a1 : Nat) (M : XL) : Option (XL) := fZ12_swearsIn_15 C a1 (upd M.1 (65 + 12 * a1 + 11) ((M.1 (65 + 12 * a1 + 11)) + 1), M.2)
def fZ12_swearsIn_0 (C : LC) (a1 : Nat) (M : XL) : Option (XL) := fZ12_swearsIn_5 C a1 (upd M.1 5 (nI a1), M.2)
def fZ12_swearsIn (C : LC) (M : XL) (a1 : Nat) : Option (XL) := fZ12_swearsIn_0 C a1 M
def fZ12_eats_67 (C : LC) (a1 : Nat) (M : XL) : Option (XL) := some M
def fZ12_eats_254 (C : LC) (a1 : Nat) (M : XL) : Option (XL) := some M
def fZ12_eats_251 (C : LC) (a1 : Nat) (K202 : XL → Nat → Option (XL)) (M : XL) (z2 : Nat) : Option (XL) := K202 M z2
def fZ12_eats_241 (C : LC) (a1 : Nat) (K202 : XL → Nat → Option (XL)) (M : XL) (z2 : Nat) : Option (XL) := fZ12_eats_251 C a1 K202 (upd M.1 (161 + 12 * a1 + 8) ((M.1 (161 + 12 * a1 + 8)) - 1), M.2) z2
def fZ12_eats_231 (C : LC) (a1 : Nat) (K202 : XL → Nat → Option (XL)) (M : XL) (z2 : Nat) : Option (XL) := fZ12_eats_241 C a1 K202 (upd M.1 11 ((M.1 11) + 1), M.2) z2
def fZ12_eats_228 (C : LC) (a1 : Nat) (K202 : XL → Nat → Option (XL)) (M : XL) (z2 : Nat) : Option (XL) := fZ12_eats_241 C a1 K202 M z2
def fZ12_eats_218 (C : LC) (a1 : Nat) (K202 : XL → Nat → Option (XL)) (M : XL) (z2 : Nat) : Option (XL) := if ¬ z2 = 0 ∧ z2 - 1 < C.1.2.1 then fZ12_eats_228 C a1 K202 (upd M.1 (161 + 12 * (z2 - 1) + 8) ((M.1 (161 + 12 * (z2 - 1) + 8)) + 1), M.2) z2 else none
def fZ12_eats_209 (C : LC) (a1 : Nat) (K202 : XL → Nat → Option (XL)) (M : XL) (z2 : Nat) : Option (XL) := if ¬ z2 = 0 ∧ z2 - 1 < C.1.2.1 then if 99 ≤ (M.1 (161 + 12 * (z2 - 1) + 8)) then fZ12_eats_231 C a1 K202 M z2 else fZ12_eats_218 C a1 K202 M z2 else none
def fZ12_eats_202 (C : LC) (a1 : Nat) : Nat → XL → Nat → Option (XL)
  | 0 => fun _ _ => none
  | k + 1 => fun M z2 => if (M.1 (161 + 12 * a1 + 8)) ≤ 0 then fZ12_eats_254 C a1 M else fZ12_eats_209 C a1 (fZ12_eats_202 C a1 k) M z2
def fZ12_eats_201 (C : LC) (a1 : Nat) (M : XL) : Option (XL) := some M
def fZ12_eats_191 (C : LC) (a1 : Nat) (M : XL) (x3 : Int32) : Option (XL) := fZ12_eats_201 C a1 (upd M.1 11 ((M.1 11) + x3), M.2)
def fZ12_eats_169 (C : LC) (a1 : Nat) (M : XL) : Option (XL) := fZ12_eats_191 C a1 (upd M.1 (161 + 12 * a1 + 8) ((M.1 (161 + 12 * a1 + 8)) - ((M.1 (161 + 12 * a1 + 8)) - ((M.1 (161 + 12 * a1 + 8)) / 2))), M.2) ((M.1 (161 + 12 * a1 + 8)) - ((M.1 (161 + 12 * a1 + 8)) / 2))
def fZ12_eats_165 (C : LC) (a1 : Nat) (M : XL) (z2 : Nat) : Option (XL) := if z2 = 0 then fZ12_eats_169 C a1 M else fZ12_eats_202 C a1 FU M z2
def fZ12_eats_159 (C : LC) (a1 : Nat) (K72 : XL → Nat → Int32 → Option (XL)) (M : XL) (z2 : Nat) (x3 : Int32) : Option (XL) := K72 M z2 (x3 + 1)
def fZ12_eats_130 (C : LC) (a1 : Nat) (K72 : XL → Nat → Int32 → Option (XL)) (M : XL) (x3 : Int32) : Option (XL) := if ¬ (nI (lNum C 3)) = 0 then if gIn (((nI a1) + x3) - ((nI a1) + x3) / (nI (lNum C 3)) * (nI (lNum C 3))) (lNum C 3) then fZ12_eats_159 C a1 K72 M ((((nI a1) + x3) - ((nI a1) + x3) / (nI (lNum C 3)) * (nI (lNum C 3))).toNatClampNeg + 1) x3 else none else none
def fZ12_eats_96 (C : LC) (a1 : Nat) (K72 : XL → Nat → Int32 → Option (XL)) (M : XL) (z2 : Nat) (x3 : Int32) : Option (XL) := if ¬ (nI (lNum C 3)) = 0 then if gIn (((nI a1) + x3) - ((nI a1) + x3) / (nI (lNum C 3)) * (nI (lNum C 3))) (lNum C 3) then if (M.1 (161 + 12 * (((nI a1) + x3) - ((nI a1) + x3) / (nI (lNum C 3)) * (nI (lNum C 3))).toNatClampNeg + 9)) = 0 then fZ12_eats_159 C a1 K72 M z2 x3 else fZ12_eats_130 C a1 K72 M x3 else none else none
def fZ12_eats_92 (C : LC) (a1 : Nat) (K72 : XL → Nat → Int32 → Option (XL)) (M : XL) (z2 : Nat) (x3 : Int32) : Option (XL) := if z2 = 0 then fZ12_eats_96 C a1 K72 M z2 x3 else fZ12_eats_165 C a1 M z2
def fZ12_eats_85 (C : LC) (a1 : Nat) (K72 : XL → Nat → Int32 → Option (XL)) (M : XL) (z2 : Nat) (x3 : Int32) : Option (XL) := if (M.1 (161 + 12 * a1 + 9)) = 0 then fZ12_eats_165 C a1 M z2 else fZ12_eats_92 C a1 K72 M z2 x3
def fZ12_eats_72 (C : LC) (a1 : Nat) : Nat → XL → Nat → Int32 → Option (XL)
  | 0 => fun _ _ _ => none
  | k + 1 => fun M z2 x3 => if (nI (lNum C 3)) ≤ x3 then fZ12_eats_165 C a1 M z2 else fZ12_eats_85 C a1 (fZ12_eats_72 C a1 k) M z2 x3
def fZ12_eats_68 (C : LC) (a1 : Nat) (M : XL) : Option (XL) := fZ12_eats_72 C a1 FU M 0 1
def fZ12_eats_60 (C : LC) (a1 : Nat) (M : XL) : Option (XL) := if (M.1 (161 + 12 * a1 + 7)) ≤ 0 then fZ12_eats_68 C a1 M else fZ12_eats_67 C a1 M
def fZ12_eats_53 (C : LC) (a1 : Nat) (M : XL) : Option (XL) := if (M.1 (161 + 12 * a1 + 8)) = 0 then fZ12_eats_67 C a1 M else fZ12_eats_60 C a1 M
def fZ12_eats_47 (C : LC) (a1 : Nat) (K2 : XL → Int32 → Option (XL)) (M : XL) (x2 : Int32) : Option (XL) := K2 M (x2 + 1)
def fZ12_eats_37 (C : LC) (a1 : Nat) (K2 : XL → Int32 → Option (XL)) (M : XL) (x2 : Int32) : Option (XL) := fZ12_eats_47 C a1 K2 (upd M.1 9 ((M.1 9) + 1), M.2) x2
def fZ12_eats_27 (C : LC) (a1 : Nat) (K2 : XL → Int32 → Option (XL)) (M : XL) (x2 : Int32) : Option (XL) := fZ12_eats_37 C a1 K2 (upd M.1 (161 + 12 * a1 + 10) ((M.1 (161 + 12 * a1 + 10)) + 1), M.2) x2
def fZ12_eats_17 (C : LC) (a1 : Nat) (K2 : XL → Int32 → Option (XL)) (M : XL) (x2 : Int32) : Option (XL) := fZ12_eats_27 C a1 K2 (upd M.1 (161 + 12 * a1 + 7) ((M.1 (161 + 12 * a1 + 7)) - 1), M.2) x2
def fZ12_eats_10 (C : LC) (a1 : Nat) (K2 : XL → Int32 → Option (XL)) (M : XL) (x2 : Int32) : Option (XL) := if (M.1 (161 + 12 * a1 + 7)) ≤ 0 then fZ12_eats_53 C a1 M else fZ12_eats_17 C a1 K2 M x2
def fZ12_eats_2 (C : LC) (a1 : Nat) : Nat → XL → Int32 → Option (XL)
  | 0 => fun _ _ => none
  | k + 1 => fun M x2 => if (M.1 (161 + 12 * a1 + 8)) ≤ x2 then fZ12_eats_53 C a1 M else fZ12_eats_10 C a1 (fZ12_eats_2 C a1 k) M x2
def fZ12_eats_0 (C : LC) (a1 : Nat) (M : XL) : Option (XL) := fZ12_eats_2 C a1 FU M 0
def fZ12_eats (C : LC) (M : XL) (a1 : Nat) : Option (XL) := fZ12_eats_0 C a1 M
def fZ12_hunts_76 (C : LC) (M : XL) : Option (XL) := some M
def fZ12_hunts_172 (C : LC) (M : XL) : Option (XL) := some M
def fZ12_hunts_164 (C : LC) (M : XL) : Option (XL) := if ¬ (M.1 5) = -1 ∧ (M.1 5).toNatClampNeg < C.1.1 then fZ12_hunts_172 C (M.1, upd M.2 ((M.1 5).toNatClampNeg) 1) else none
def fZ12_hunts_151 (C : LC) (M : XL) : Option (XL) := if ¬ (M.1 5) = -1 ∧ (M.1 5).toNatClampNeg < C.1.1 then fZ12_hunts_164 C (upd M.1 (65 + 12 * (M.1 5).toNatClampNeg + 9) ((M.1 (65 + 12 * (M.1 5).toNatClampNeg + 9)) + 1), M.2) else none
def fZ12_hunts_139 (C : LC) (M : XL) : Option (XL) := if ¬ (M.1 5) = -1 ∧ (M.1 5).toNatClampNeg < C.1.1 then if 20 ≤ (M.1 (65 + 12 * (M.1 5).toNatClampNeg + 9)) then fZ12_hunts_164 C M else fZ12_hunts_151 C M else none
def fZ12_hunts_129 (C : LC) (M : XL) (x2 : Int32) : Option (XL) := fZ12_hunts_139 C (upd M.1 8 ((M.1 8) + x2), M.2)
def fZ12_hunts_116 (C : LC) (M : XL) (x2 : Int32) : Option (XL) := if ¬ (M.1 5) = -1 ∧ (M.1 5).toNatClampNeg < C.1.1 then fZ12_hunts_129 C (upd M.1 (65 + 12 * (M.1 5).toNatClampNeg + 10) ((M.1 (65 + 12 * (M.1 5).toNatClampNeg + 10)) + x2), M.2) x2 else none
def fZ12_hunts_105 (C : LC) (M : XL) (z1 : Nat) (s0 : Int32) : Option (XL) := if ¬ z1 = 0 ∧ z1 - 1 < C.1.2.1 then fZ12_hunts_116 C (upd M.1 (161 + 12 * (z1 - 1) + 8) ((M.1 (161 + 12 * (z1 - 1) + 8)) - s0), M.2) s0 else none
def fZ12_hunts_101 (C : LC) (M : XL) (z1 : Nat) : Option (XL) := if ¬ z1 = 0 ∧ z1 - 1 < C.1.2.1 then fZ12_hunts_105 C M z1 (M.1 (161 + 12 * (z1 - 1) + 8)) else none
def fZ12_hunts_98 (C : LC) (M : XL) (z1 : Nat) (s0 : Int32) : Option (XL) := fZ12_hunts_105 C M z1 s0
def fZ12_hunts_91 (C : LC) (M : XL) (z1 : Nat) : Option (XL) := if ¬ (M.1 5) = -1 ∧ (M.1 5).toNatClampNeg < C.1.1 then (fZ11_strength C M ((M.1 5).toNatClampNeg)).bind fun q => fZ12_hunts_98 C q.2 z1 q.1 else none
def fZ12_hunts_84 (C : LC) (M : XL) (z1 : Nat) (s0 : Int32) : Option (XL) := if ¬ z1 = 0 ∧ z1 - 1 < C.1.2.1 then if (M.1 (161 + 12 * (z1 - 1) + 8)) ≤ s0 then fZ12_hunts_101 C M z1 else fZ12_hunts_91 C M z1 else none
def fZ12_hunts_77 (C : LC) (M : XL) (z1 : Nat) : Option (XL) := if ¬ (M.1 5) = -1 ∧ (M.1 5).toNatClampNeg < C.1.1 then (fZ11_strength C M ((M.1 5).toNatClampNeg)).bind fun q => fZ12_hunts_84 C q.2 z1 q.1 else none
def fZ12_hunts_72 (C : LC) (M : XL) (z1 : Nat) : Option (XL) := if z1 = 0 then fZ12_hunts_76 C M else fZ12_hunts_77 C M z1
def fZ12_hunts_65 (C : LC) (M : XL) (z1 : Nat) : Option (XL) := if (M.1 5) = -1 then fZ12_hunts_76 C M else fZ12_hunts_72 C M z1
def fZ12_hunts_62 (C : LC) (K12 : XL → Nat → Nat → Option (XL)) (M : XL) (z1 : Nat) (ic : Nat) : Option (XL) := K12 M z1 ic
def fZ12_hunts_60 (C : LC) (K12 : XL → Nat → Nat → Option (XL)) (M : XL) (ic : Nat) (p3 : Nat) : Option (XL) := fZ12_hunts_62 C K12 M (p3 + 1) ic
def fZ12_hunts_49 (C : LC) (K12 : XL → Nat → Nat → Option (XL)) (M : XL) (z1 : Nat) (ic : Nat) (p3 : Nat) : Option (XL) := if ¬ z1 = 0 ∧ z1 - 1 < C.1.2.1 then if (M.1 (161 + 12 * p3 + 8)) ≤ (M.1 (161 + 12 * (z1 - 1) + 8)) then fZ12_hunts_62 C K12 M z1 ic else fZ12_hunts_60 C K12 M ic p3 else none
def fZ12_hunts_45 (C : LC) (K12 : XL → Nat → Nat → Option (XL)) (M : XL) (z1 : Nat) (ic : Nat) (p3 : Nat) : Option (XL) := if z1 = 0 then fZ12_hunts_60 C K12 M ic p3 else fZ12_hunts_49 C K12 M z1 ic p3
def fZ12_hunts_38 (C : LC) (K12 : XL → Nat → Nat → Option (XL)) (M : XL) (z1 : Nat) (ic : Nat) (p3 : Nat) : Option (XL) := if (M.1 (161 + 12 * p3 + 8)) ≤ 0 then fZ12_hunts_62 C K12 M z1 ic else fZ12_hunts_45 C K12 M z1 ic p3
def fZ12_hunts_27 (C : LC) (K12 : XL → Nat → Nat → Option (XL)) (M : XL) (z1 : Nat) (ic : Nat) (ps0 : Nat) : Option (XL) := if (M.1 (161 + 12 * ps0 + 9)) = 0 then fZ12_hunts_62 C K12 M z1 ic else fZ12_hunts_38 C K12 M z1 ic ps0
def fZ12_hunts_21 (C : LC) (K12 : XL → Nat → Nat → Option (XL)) (M : XL) (z1 : Nat) (ic : Nat) : Option (XL) := if ic < lNum C 3 then fZ12_hunts_27 C K12 M z1 (ic + 1) ic else none
def fZ12_hunts_12 (C : LC) : Nat → XL → Nat → Nat → Option (XL)
  | 0 => fun _ _ _ => none
  | k + 1 => fun M z1 ic => if ic = lNum C 3 then fZ12_hunts_65 C M z1 else fZ12_hunts_21 C (fZ12_hunts_12 C k) M z1 ic
def fZ12_hunts_11 (C : LC) (M : XL) (z1 : Nat) (ic : Nat) : Option (XL) := fZ12_hunts_12 C FU M z1 ic
def fZ12_hunts_0 (C : LC) (M : XL) : Option (XL) := fZ12_hunts_11 C M 0 0
def fZ12_hunts (C : LC) (M : XL) : Option (XL) := fZ12_hunts_0 C M
def fZ12_changes_134 (C : LC) (M : XL) : Option (XL) := some M
def fZ12_changes_124 (C : LC) (M : XL) : Option (XL) := fZ12_changes_134 C (upd M.1 13 ((M.1 13) + 1), M.2)
def fZ12_changes_119 (C : LC) (M : XL) : Option (XL) := fZ12_changes_124 C (upd M.1 5 (-1), M.2)
def fZ12_changes_116 (C : LC) (M : XL) : Option (XL) := fZ12_changes_134 C M
def fZ12_changes_111 (C : LC) (M : XL) (p1 : Nat) : Option (XL) := (fZ12_swearsIn C M p1).bind fun q => fZ12_changes_116 C q
def fZ12_changes_97 (C : LC) (M : XL) (p1 : Nat) : Option (XL) := if ¬ (M.1 5) = -1 ∧ (M.1 5).toNatClampNeg < C.1.1 then if (M.2 (4 + p1)) = (M.2 (4 + (M.1 5).toNatClampNeg)) then fZ12_changes_119 C M else fZ12_changes_111 C M p1 else none
def fZ12_changes_89 (C : LC) (M : XL) (p1 : Nat) : Option (XL) := if ¬ (M.1 5) = -1 ∧ (M.1 5).toNatClampNeg < C.1.1 then if p1 = (M.1 5).toNatClampNeg then fZ12_changes_111 C M p1 else fZ12_changes_97 C M p1 else none
def fZ12_changes_80 (C : LC) (M : XL) (p1 : Nat) : Option (XL) := if 12 ≤ (M.1 (65 + 12 * p1 + 9)) then fZ12_changes_119 C M else fZ12_changes_89 C M p1
def fZ12_changes_79 (C : LC) (M : XL) : Option (XL) := some M
def fZ12_changes_55 (C : LC) (M : XL) : Option (XL) := if gIn (M.1 6) (lNum C 2) then if (M.1 5) = -1 then fZ12_changes_79 C M else fZ12_changes_80 C M (C.2.1 (M.1 6).toNatClampNeg) else none
def fZ12_changes_32 (C : LC) (M : XL) : Option (XL) := if gIn (M.1 6) (lNum C 4) then fZ12_changes_55 C (upd M.1 7 (nI (C.2.2 (M.1 6).toNatClampNeg)), M.2) else none
def fZ12_changes_29 (C : LC) (M : XL) (s0 : Int32) : Option (XL) := fZ12_changes_32 C (upd M.1 6 s0, M.2)
def fZ12_changes_23 (C : LC) (M : XL) : Option (XL) := fZ12_changes_29 C M ((M.1 6) + 1)
def fZ12_changes_19 (C : LC) (M : XL) : Option (XL) := fZ12_changes_29 C M 0
def fZ12_changes_0 (C : LC) (M : XL) : Option (XL) := if ((M.1 6) + 1) = (nI (lNum C 2)) then fZ12_changes_19 C M else fZ12_changes_23 C M
def fZ12_changes (C : LC) (M : XL) : Option (XL) := fZ12_changes_0 C M
def fZ12_hour_384 (C : LC) (M : XL) : Option (XL) := some M
def fZ12_hour_364 (C : LC) (M : XL) : Option (XL) := if gIn (M.1 6) (lNum C 2) then (fZ12_swearsIn C M (C.2.1 (M.1 6).toNatClampNeg)).bind fun q => fZ12_hour_384 C q else none
def fZ12_hour_340 (C : LC) (M : XL) : Option (XL) := if gIn (M.1 6) (lNum C 2) then if 12 ≤ (M.1 (65 + 12 * (C.2.1 (M.1 6).toNatClampNeg) + 9)) then fZ12_hour_384 C M else fZ12_hour_364 C M else none
def fZ12_hour_333 (C : LC) (M : XL) : Option (XL) := if (M.1 5) = -1 then fZ12_hour_340 C M else fZ12_hour_384 C M
def fZ12_hour_330 (C : LC) (K283 : XL → Nat → Option (XL)) (M : XL) (ic : Nat) : Option (XL) := K283 M ic
def fZ12_hour_327 (C : LC) (K283 : XL → Nat → Option (XL)) (M : XL) (ic : Nat) (ps1 : Nat) (s0 : Int32) : Option (XL) := fZ12_hour_330 C K283 (upd M.1 (65 + 12 * ps1 + 9) s0, M.2) ic
def fZ12_hour_318 (C : LC) (K283 : XL → Nat → Option (XL)) (M : XL) (ic : Nat) (p2 : Nat) (ps0 : Nat) : Option (XL) := fZ12_hour_327 C K283 M ic ps0 ((M.1 (65 + 12 * p2 + 9)) - (M.1 4))
def fZ12_hour_314 (C : LC) (K283 : XL → Nat → Option (XL)) (M : XL) (ic : Nat) (ps0 : Nat) : Option (XL) := fZ12_hour_327 C K283 M ic ps0 0
def fZ12_hour_298 (C : LC) (K283 : XL → Nat → Option (XL)) (M : XL) (ic : Nat) (ps0 : Nat) : Option (XL) := if (M.1 4) ≤ (M.1 (65 + 12 * ps0 + 9)) then fZ12_hour_318 C K283 M ic ps0 ps0 else fZ12_hour_314 C K283 M ic ps0
def fZ12_hour_292 (C : LC) (K283 : XL → Nat → Option (XL)) (M : XL) (ic : Nat) : Option (XL) := if ic < lNum C 1 then fZ12_hour_298 C K283 M (ic + 1) ic else none
def fZ12_hour_283 (C : LC) : Nat → XL → Nat → Option (XL)
  | 0 => fun _ _ => none
  | k + 1 => fun M ic => if ic = lNum C 1 then fZ12_hour_333 C M else fZ12_hour_292 C (fZ12_hour_283 C k) M ic
def fZ12_hour_282 (C : LC) (M : XL) (ic : Nat) : Option (XL) := fZ12_hour_283 C FU M ic
def fZ12_hour_273 (C : LC) (M : XL) : Option (XL) := fZ12_hour_282 C M 0
def fZ12_hour_272 (C : LC) (M : XL) : Option (XL) := some M
def fZ12_hour_260 (C : LC) (M : XL) : Option (XL) := if ((M.1 3) - (M.1 3) / 24 * 24) = 6 then fZ12_hour_273 C M else fZ12_hour_272 C M
def fZ12_hour_256 (C : LC) (M : XL) : Option (XL) := (fZ12_changes C M ).bind fun q => fZ12_hour_260 C q
def fZ12_hour_249 (C : LC) (M : XL) : Option (XL) := if (M.1 7) = 0 then fZ12_hour_256 C M else fZ12_hour_260 C M
def fZ12_hour_239 (C : LC) (M : XL) : Option (XL) := fZ12_hour_249 C (upd M.1 7 ((M.1 7) - 1), M.2)
def fZ12_hour_236 (C : LC) (K193 : XL → Nat → Option (XL)) (M : XL) (ic : Nat) : Option (XL) := K193 M ic
def fZ12_hour_226 (C : LC) (K193 : XL → Nat → Option (XL)) (M : XL) (ic : Nat) (p2 : Nat) : Option (XL) := fZ12_hour_236 C K193 (upd M.1 (65 + 12 * p2 + 9) ((M.1 (65 + 12 * p2 + 9)) - 1), M.2) ic
def fZ12_hour_219 (C : LC) (K193 : XL → Nat → Option (XL)) (M : XL) (ic : Nat) (p2 : Nat) : Option (XL) := if (M.1 (65 + 12 * p2 + 9)) ≤ 0 then fZ12_hour_236 C K193 M ic else fZ12_hour_226 C K193 M ic p2
def fZ12_hour_208 (C : LC) (K193 : XL → Nat → Option (XL)) (M : XL) (ic : Nat) (ps0 : Nat) : Option (XL) := if (M.2 ps0) = 0 then fZ12_hour_219 C K193 M ic ps0 else fZ12_hour_236 C K193 M ic
def fZ12_hour_202 (C : LC) (K193 : XL → Nat → Option (XL)) (M : XL) (ic : Nat) : Option (XL) := if ic < lNum C 1 then fZ12_hour_208 C K193 M (ic + 1) ic else none
def fZ12_hour_193 (C : LC) : Nat → XL → Nat → Option (XL)
  | 0 => fun _ _ => none
  | k + 1 => fun M ic => if ic = lNum C 1 then fZ12_hour_239 C M else fZ12_hour_202 C (fZ12_hour_193 C k) M ic
def fZ12_hour_192 (C : LC) (M : XL) (ic : Nat) : Option (XL) := fZ12_hour_193 C FU M ic
def fZ12_hour_183 (C : LC) (M : XL) : Option (XL) := fZ12_hour_192 C M 0
def fZ12_hour_179 (C : LC) (M : XL) : Option (XL) := (fZ12_hunts C M ).bind fun q => fZ12_hour_183 C q
def fZ12_hour_176 (C : LC) (K152 : XL → Nat → Option (XL)) (M : XL) (ic : Nat) : Option (XL) := K152 M ic
def fZ12_hour_167 (C : LC) (K152 : XL → Nat → Option (XL)) (M : XL) (ic : Nat) (ps0 : Nat) : Option (XL) := fZ12_hour_176 C K152 (M.1, upd M.2 ps0 0) ic
def fZ12_hour_161 (C : LC) (K152 : XL → Nat → Option (XL)) (M : XL) (ic : Nat) : Option (XL) := if ic < lNum C 1 then fZ12_hour_167 C K152 M (ic + 1) ic else none
def fZ12_hour_152 (C : LC) : Nat → XL → Nat → Option (XL)
  | 0 => fun _ _ => none
  | k + 1 => fun M ic => if ic = lNum C 1 then fZ12_hour_179 C M else fZ12_hour_161 C (fZ12_hour_152 C k) M ic
def fZ12_hour_151 (C : LC) (M : XL) (ic : Nat) : Option (XL) := fZ12_hour_152 C FU M ic
def fZ12_hour_142 (C : LC) (M : XL) : Option (XL) := fZ12_hour_151 C M 0
def fZ12_hour_139 (C : LC) (K67 : XL → Nat → Option (XL)) (M : XL) (ic : Nat) : Option (XL) := K67 M ic
def fZ12_hour_129 (C : LC) (K67 : XL → Nat → Option (XL)) (M : XL) (ic : Nat) (x3 : Int32) : Option (XL) := fZ12_hour_139 C K67 (upd M.1 10 ((M.1 10) + x3), M.2) ic
def fZ12_hour_118 (C : LC) (K67 : XL → Nat → Option (XL)) (M : XL) (ic : Nat) (p2 : Nat) (s0 : Int32) : Option (XL) := fZ12_hour_129 C K67 (upd M.1 (161 + 12 * p2 + 8) ((M.1 (161 + 12 * p2 + 8)) + s0), M.2) ic s0
def fZ12_hour_111 (C : LC) (K67 : XL → Nat → Option (XL)) (M : XL) (ic : Nat) (p2 : Nat) : Option (XL) := fZ12_hour_118 C K67 M ic p2 (99 - (M.1 (161 + 12 * p2 + 8)))
def fZ12_hour_102 (C : LC) (K67 : XL → Nat → Option (XL)) (M : XL) (ic : Nat) (p2 : Nat) : Option (XL) := fZ12_hour_118 C K67 M ic p2 ((M.1 (161 + 12 * p2 + 8)) / 2)
def fZ12_hour_82 (C : LC) (K67 : XL → Nat → Option (XL)) (M : XL) (ic : Nat) (ps0 : Nat) : Option (XL) := if (99 - (M.1 (161 + 12 * ps0 + 8))) ≤ ((M.1 (161 + 12 * ps0 + 8)) / 2) then fZ12_hour_111 C K67 M ic ps0 else fZ12_hour_102 C K67 M ic ps0
def fZ12_hour_76 (C : LC) (K67 : XL → Nat → Option (XL)) (M : XL) (ic : Nat) : Option (XL) := if ic < lNum C 3 then fZ12_hour_82 C K67 M (ic + 1) ic else none
def fZ12_hour_67 (C : LC) : Nat → XL → Nat → Option (XL)
  | 0 => fun _ _ => none
  | k + 1 => fun M ic => if ic = lNum C 3 then fZ12_hour_142 C M else fZ12_hour_76 C (fZ12_hour_67 C k) M ic
def fZ12_hour_66 (C : LC) (M : XL) (ic : Nat) : Option (XL) := fZ12_hour_67 C FU M ic
def fZ12_hour_57 (C : LC) (M : XL) : Option (XL) := fZ12_hour_66 C M 0
def fZ12_hour_47 (C : LC) (M : XL) : Option (XL) := if ((M.1 3) - (M.1 3) / 24 * 24) = 0 then fZ12_hour_57 C M else fZ12_hour_142 C M
def fZ12_hour_44 (C : LC) (K20 : XL → Nat → Option (XL)) (M : XL) (ic : Nat) : Option (XL) := K20 M ic
def fZ12_hour_35 (C : LC) (K20 : XL → Nat → Option (XL)) (M : XL) (ic : Nat) (ps0 : Nat) : Option (XL) := (fZ12_eats C M ps0).bind fun q => fZ12_hour_44 C K20 q ic
def fZ12_hour_29 (C : LC) (K20 : XL → Nat → Option (XL)) (M : XL) (ic : Nat) : Option (XL) := if ic < lNum C 3 then fZ12_hour_35 C K20 M (ic + 1) ic else none
def fZ12_hour_20 (C : LC) : Nat → XL → Nat → Option (XL)
  | 0 => fun _ _ => none
  | k + 1 => fun M ic => if ic = lNum C 3 then fZ12_hour_47 C M else fZ12_hour_29 C (fZ12_hour_20 C k) M ic
def fZ12_hour_19 (C : LC) (M : XL) (ic : Nat) : Option (XL) := fZ12_hour_20 C FU M ic
def fZ12_hour_10 (C : LC) (M : XL) : Option (XL) := fZ12_hour_19 C M 0
def fZ12_hour_0 (C : LC) (M : XL) : Option (XL) := fZ12_hour_10 C (upd M.1 3 ((M.1 3) + 1), M.2)
def fZ12_hour (C : LC) (M : XL) : Option (XL) := fZ12_hour_0 C M
theorem g5_RX12_X11_strength : GoodIn TBG (wsV RX12 82 RX11 yX11_strength (wT yX11_strength cX11_strength 1 (some .int))) := gT_V tw1409 tw1179 tw1180 tw26 tw1181
theorem hd5_X11_strength : yX11_strength.cls = RX11 ∧ yX11_strength.cls ≠ "java/lang/invoke/MethodHandle" ∧ yX11_strength.cls ≠ "java/lang/invoke/VarHandle" ∧ (parseMethodDescriptor yX11_strength.desc).map (fun d => d.parameters.length) = some 0 := ⟨rfl, by decide +kernel, by decide +kernel, by decide +kernel⟩
theorem g5_RX12_X12_changes : GoodIn TBG (wsV RX12 129 RX12 yX12_changes (wT yX12_changes cX12_changes 2 none)) := gT_V tw1410 tw1412 tp13 tw22 tw1413
theorem hd5_X12_changes : yX12_changes.cls = RX12 ∧ yX12_changes.cls ≠ "java/lang/invoke/MethodHandle" ∧ yX12_changes.cls ≠ "java/lang/invoke/VarHandle" ∧ (parseMethodDescriptor yX12_changes.desc).map (fun d => d.parameters.length) = some 0 := ⟨rfl, by decide +kernel, by decide +kernel, by decide +kernel⟩
theorem g5_RX12_X12_eats : GoodIn TBG (wsV RX12 119 RX12 yX12_eats (wT yX12_eats cX12_eats 4 none)) := gT_V tw1396 tw1398 tp11 tw22 tw1399
theorem hd5_X12_eats : yX12_eats.cls = RX12 ∧ yX12_eats.cls ≠ "java/lang/invoke/MethodHandle" ∧ yX12_eats.cls ≠ "java/lang/invoke/VarHandle" ∧ (parseMethodDescriptor yX12_eats.desc).map (fun d => d.parameters.length) = some 1 := ⟨rfl, by decide +kernel, by decide +kernel, by decide +kernel⟩
theorem g5_RX12_X12_hunts : GoodIn TBG (wsV RX12 126 RX12 yX12_hunts (wT yX12_hunts cX12_hunts 4 none)) := gT_V tw1405 tw1407 tp12 tw22 tw1408
theorem hd5_X12_hunts : yX12_hunts.cls = RX12 ∧ yX12_hunts.cls ≠ "java/lang/invoke/MethodHandle" ∧ yX12_hunts.cls ≠ "java/lang/invoke/VarHandle" ∧ (parseMethodDescriptor yX12_hunts.desc).map (fun d => d.parameters.length) = some 0 := ⟨rfl, by decide +kernel, by decide +kernel, by decide +kernel⟩
theorem g5_RX12_X12_swearsIn : GoodIn TBG (wsV RX12 109 RX12 yX12_swearsIn (wT yX12_swearsIn cX12_swearsIn 2 none)) := gT_V tw1419 tw942 tw943 tw22 tw944
theorem hd5_X12_swearsIn : yX12_swearsIn.cls = RX12 ∧ yX12_swearsIn.cls ≠ "java/lang/invoke/MethodHandle" ∧ yX12_swearsIn.cls ≠ "java/lang/invoke/VarHandle" ∧ (parseMethodDescriptor yX12_swearsIn.desc).map (fun d => d.parameters.length) = some 1 := ⟨rfl, by decide +kernel, by decide +kernel, by decide +kernel⟩
section LGEN
variable {l : Launch} {p : Program} {e : Env} {s : State} {m : MethodId} {args : Array Value} {below : List Frame} {meth : Method} {c : Code} {A : Nat → Prop} {Q : State → Prop}
variable {dC : Nat → ClassId} {dI : Nat → Nat → Nat} {cg : Nat → ClassId} {kA : String → Nat → Nat} {la iA : Nat → Nat} {C : LC} {bs : Nat}
set_option maxRecDepth 10000 in
theorem kZ11_strength_29 {r : Int32} {S1 : XL} {M : XL} {s0 : Int32} {H : Heap} {locs : List Loc} {ls : Array Slot} {cells slots : Nat} (X : gX p s m args c cX11_strength 1 RX11 (kR kTab kA)) (hC : lC C) {t : Nat} (ht : t < C.1.1) (hret : gRetIA p l e (rmL 1 0 0) s m args below meth c cX11_strength 0 0 (lΩ la C) (lP dC dI cg kA la iA C bs) Q r S1) (hcs : cells + 0 ≤ 0 ∧ slots + 0 ≤ 0) (hf : fZ11_strength_29 C t  M s0 = some (r, S1)) (hP : (gF (lP dC dI cg kA la iA C bs) T0) M s H) (hS : va_S (Fr (lΩ la C) s.heap.size) s.heap H locs) (hl : lv_has ls 1 [(0, .ref (la (9 + t)))]) : W p l e (rmL 1 0 0) s m args below meth c H locs cells slots Q (F0 m 29 ls [.int s0]) := by
  have hx := X.hx
  have hb := X.hb
  rw [fZ11_strength_29] at hf
  cases hf
  exact hret _ _ _ _ _ _ dX11_strength_29 hP.1 hS (by omega) (by omega)
set_option maxRecDepth 10000 in
theorem kZ11_strength_18 {r : Int32} {S1 : XL} {M : XL} {H : Heap} {locs : List Loc} {ls : Array Slot} {cells slots : Nat} (X : gX p s m args c cX11_strength 1 RX11 (kR kTab kA)) (hC : lC C) {t : Nat} (ht : t < C.1.1) (hret : gRetIA p l e (rmL 1 0 0) s m args below meth c cX11_strength 0 0 (lΩ la C) (lP dC dI cg kA la iA C bs) Q r S1) (hcs : cells + 0 ≤ 0 ∧ slots + 0 ≤ 0) (hf : fZ11_strength_18 C t  M = some (r, S1)) (hP : (gF (lP dC dI cg kA la iA C bs) T0) M s H) (hS : va_S (Fr (lΩ la C) s.heap.size) s.heap H locs) (hl : lv_has ls 1 [(0, .ref (la (9 + t)))]) : W p l e (rmL 1 0 0) s m args below meth c H locs cells slots Q (F0 m 18 ls []) := by
  have hx := X.hx
  have hb := X.hb
  rw [fZ11_strength_18] at hf
  refine lv_aload_n hx hb dX11_strength_18 rfl (lv_at hl 0 rfl) ?_
  refine lr_get (k := 1) (fs := (lFc t M)) (v := .int (M.1 (65 + 12 * t + 7))) X hP (lEx_c hC ht) (lR_c (lC_c hC ht)) (rfl : vwCl[16]? = some (RX11, TX11, 7)) cinX11 (by decide) rfl rfl tw818 dX11_strength_19 ?_
  refine lv_aload_n hx hb dX11_strength_22 rfl (lv_at hl 0 rfl) ?_
  refine lr_get (k := 2) (fs := (lFc t M)) (v := .int (M.1 (65 + 12 * t + 9))) X hP (lEx_c hC ht) (lR_c (lC_c hC ht)) (rfl : vwCl[16]? = some (RX11, TX11, 7)) cinX11 (by decide) rfl rfl tw820 dX11_strength_23 ?_
  refine lv_iconst (v := 4) hx hb dX11_strength_26 (by decide) ?_
  refine lv_idiv hx hb dX11_strength_27 (by decide) ?_
  refine lv_isub hx hb dX11_strength_28 ?_
  exact kZ11_strength_29 X hC ht hret (by omega) hf hP hS (lv_sub hl [0] rfl)
set_option maxRecDepth 10000 in
theorem kZ11_strength_14 {r : Int32} {S1 : XL} {M : XL} {H : Heap} {locs : List Loc} {ls : Array Slot} {cells slots : Nat} (X : gX p s m args c cX11_strength 1 RX11 (kR kTab kA)) (hC : lC C) {t : Nat} (ht : t < C.1.1) (hret : gRetIA p l e (rmL 1 0 0) s m args below meth c cX11_strength 0 0 (lΩ la C) (lP dC dI cg kA la iA C bs) Q r S1) (hcs : cells + 0 ≤ 0 ∧ slots + 0 ≤ 0) (hf : fZ11_strength_14 C t  M = some (r, S1)) (hP : (gF (lP dC dI cg kA la iA C bs) T0) M s H) (hS : va_S (Fr (lΩ la C) s.heap.size) s.heap H locs) (hl : lv_has ls 1 [(0, .ref (la (9 + t)))]) : W p l e (rmL 1 0 0) s m args below meth c H locs cells slots Q (F0 m 14 ls []) := by
  have hx := X.hx
  have hb := X.hb
  rw [fZ11_strength_14] at hf
  refine lv_iconst (v := 0) hx hb dX11_strength_14 (by decide) ?_
  refine lv_goto (tgt := 29) hx hb dX11_strength_15 (by decide) ?_
  exact kZ11_strength_29 X hC ht hret (by omega) hf hP hS (lv_sub hl [0] rfl)
set_option maxRecDepth 10000 in
theorem kZ11_strength_0 {r : Int32} {S1 : XL} {M : XL} {H : Heap} {locs : List Loc} {ls : Array Slot} {cells slots : Nat} (X : gX p s m args c cX11_strength 1 RX11 (kR kTab kA)) (hC : lC C) {t : Nat} (ht : t < C.1.1) (hret : gRetIA p l e (rmL 1 0 0) s m args below meth c cX11_strength 0 0 (lΩ la C) (lP dC dI cg kA la iA C bs) Q r S1) (hcs : cells + 0 ≤ 0 ∧ slots + 0 ≤ 0) (hf : fZ11_strength_0 C t  M = some (r, S1)) (hP : (gF (lP dC dI cg kA la iA C bs) T0) M s H) (hS : va_S (Fr (lΩ la C) s.heap.size) s.heap H locs) (hl : lv_has ls 1 [(0, .ref (la (9 + t)))]) : W p l e (rmL 1 0 0) s m args below meth c H locs cells slots Q (F0 m 0 ls []) := by
  have hx := X.hx
  have hb := X.hb
  rw [fZ11_strength_0] at hf
  refine lv_aload_n hx hb dX11_strength_0 rfl (lv_at hl 0 rfl) ?_
  refine lr_get (k := 1) (fs := (lFc t M)) (v := .int (M.1 (65 + 12 * t + 7))) X hP (lEx_c hC ht) (lR_c (lC_c hC ht)) (rfl : vwCl[16]? = some (RX11, TX11, 7)) cinX11 (by decide) rfl rfl tw818 dX11_strength_1 ?_
  refine lv_aload_n hx hb dX11_strength_4 rfl (lv_at hl 0 rfl) ?_
  refine lr_get (k := 2) (fs := (lFc t M)) (v := .int (M.1 (65 + 12 * t + 9))) X hP (lEx_c hC ht) (lR_c (lC_c hC ht)) (rfl : vwCl[16]? = some (RX11, TX11, 7)) cinX11 (by decide) rfl rfl tw820 dX11_strength_5 ?_
  refine lv_iconst (v := 4) hx hb dX11_strength_8 (by decide) ?_
  refine lv_idiv hx hb dX11_strength_9 (by decide) ?_
  refine lv_isub hx hb dX11_strength_10 ?_
  refine lv_if_ge (tgt := 18) hx hb dX11_strength_11 (by decide) (fun c1 => ?_) (fun c1 => ?_)
  · exact kZ11_strength_18 X hC ht hret (by omega) (ifp c1 hf) hP hS (lv_sub hl [0] rfl)
  · exact kZ11_strength_14 X hC ht hret (by omega) (ifn c1 hf) hP hS (lv_sub hl [0] rfl)
theorem vZ11_strength {l : Launch} {dC : Nat → ClassId} {dI : Nat → Nat → Nat} {cg : Nat → ClassId} {kA : String → Nat → Nat} {la iA : Nat → Nat} {C : LC} {bs : Nat} (hC : lC C) {M S1 : XL} {r : Int32} {t : Nat} (ht : t < C.1.1) (hf : fZ11_strength C M t  = some (r, S1)) : gMetIA l yX11_strength cX11_strength 1 (some .int) 1 0 0 (lΩ la C) (lP dC dI cg kA la iA C bs) (kR kTab kA) [.ref (la (9 + t))] M r S1 := gEntryIA (ty := .int) (by decide) rfl rfl lOK0 (Nat.le_of_ble_eq_true rfl) (fun p e s m args below meth c Q ls X hP hS hret hl => 
  kZ11_strength_0 X hC ht hret ⟨Nat.le_of_ble_eq_true rfl, Nat.le_of_ble_eq_true rfl⟩ hf ⟨hP, trivial⟩ hS (lv_sub hl [0] rfl))
set_option maxRecDepth 10000 in
theorem kZ12_swearsIn_25 {S1 : XL} {M : XL} {H : Heap} {locs : List Loc} {ls : Array Slot} {cells slots : Nat} (X : gX p s m args c cX12_swearsIn 2 RX12 (kR kTab kA)) (hC : lC C) {a1 : Nat} (ha1 : a1 < C.1.1) (hret : gRetVA p l e (rmL 1 0 0) s m args below meth c cX12_swearsIn 0 0 (lΩ la C) (lP dC dI cg kA la iA C bs) Q S1) (hcs : cells + 0 ≤ 0 ∧ slots + 0 ≤ 0) (hf : fZ12_swearsIn_25 C a1  M = some S1) (hP : (gF (lP dC dI cg kA la iA C bs) T0) M s H) (hS : va_S (Fr (lΩ la C) s.heap.size) s.heap H locs) (hl : lv_has ls 2 [(0, .ref (la 0))]) : W p l e (rmL 1 0 0) s m args below meth c H locs cells slots Q (F0 m 25 ls []) := by
  have hx := X.hx
  have hb := X.hb
  rw [fZ12_swearsIn_25] at hf
  cases hf
  exact hret _ _ _ _ _ _ dX12_swearsIn_25 hP.1 hS (by omega) (by omega)
set_option maxRecDepth 10000 in
theorem kZ12_swearsIn_15 {S1 : XL} {M : XL} {H : Heap} {locs : List Loc} {ls : Array Slot} {cells slots : Nat} (X : gX p s m args c cX12_swearsIn 2 RX12 (kR kTab kA)) (hC : lC C) {a1 : Nat} (ha1 : a1 < C.1.1) (hret : gRetVA p l e (rmL 1 0 0) s m args below meth c cX12_swearsIn 0 0 (lΩ la C) (lP dC dI cg kA la iA C bs) Q S1) (hcs : cells + 0 ≤ 0 ∧ slots + 0 ≤ 0) (hf : fZ12_swearsIn_15 C a1  M = some S1) (hP : (gF (lP dC dI cg kA la iA C bs) T0) M s H) (hS : va_S (Fr (lΩ la C) s.heap.size) s.heap H locs) (hl : lv_has ls 2 [(0, .ref (la 0))]) : W p l e (rmL 1 0 0) s m args below meth c H locs cells slots Q (F0 m 15 ls []) := by
  have hx := X.hx
  have hb := X.hb
  rw [fZ12_swearsIn_15] at hf
  refine lv_aload_n hx hb dX12_swearsIn_15 rfl (lv_at hl 0 rfl) ?_
  refine lv_dup hx hb dX12_swearsIn_16 rfl ?_
  refine lr_get (k := 13) (fs := (lF0 la M)) (v := .int (M.1 12)) X hP (lEx_l (by decide)) lR_0 (rfl : vwCl[17]? = some (RX12, TX12, 15)) cinX12 (by decide) rfl rfl tw906 dX12_swearsIn_17 ?_
  refine lv_iconst (v := 1) hx hb dX12_swearsIn_20 (by decide) ?_
  refine lv_iadd hx hb dX12_swearsIn_21 ?_
  refine lr_put (k := 13) (fs := (lF0 la M)) (tyT := tyX12) (upd M.1 12 ((M.1 12) + 1), M.2) X T0_fs hP hS (lEx_l (by decide)) lR_0 rfl (fun p hp => lu0 (by decide) hp) (rfl : vwCl[17]? = some (RX12, TX12, 15)) cinX12 tyX12_ok nmX12 (by decide) rfl rfl rfl rfl (Nat.le_of_ble_eq_true rfl) tw906 dX12_swearsIn_22 (fun H locs hP hS => ?_)
  exact kZ12_swearsIn_25 X hC ha1 hret (by omega) hf hP hS (lv_sub hl [0] rfl)
set_option maxRecDepth 10000 in
theorem kZ12_swearsIn_5 {S1 : XL} {M : XL} {H : Heap} {locs : List Loc} {ls : Array Slot} {cells slots : Nat} (X : gX p s m args c cX12_swearsIn 2 RX12 (kR kTab kA)) (hC : lC C) {a1 : Nat} (ha1 : a1 < C.1.1) (hret : gRetVA p l e (rmL 1 0 0) s m args below meth c cX12_swearsIn 0 0 (lΩ la C) (lP dC dI cg kA la iA C bs) Q S1) (hcs : cells + 0 ≤ 0 ∧ slots + 0 ≤ 0) (hf : fZ12_swearsIn_5 C a1  M = some S1) (hP : (gF (lP dC dI cg kA la iA C bs) T0) M s H) (hS : va_S (Fr (lΩ la C) s.heap.size) s.heap H locs) (hl : lv_has ls 2 [(0, .ref (la 0)), (1, .ref (la (9 + a1)))]) : W p l e (rmL 1 0 0) s m args below meth c H locs cells slots Q (F0 m 5 ls []) := by
  have hx := X.hx
  have hb := X.hb
  rw [fZ12_swearsIn_5] at hf
  refine lv_aload_n hx hb dX12_swearsIn_5 rfl (lv_at hl 1 rfl) ?_
  refine lv_dup hx hb dX12_swearsIn_6 rfl ?_
  refine lr_getN (k := 4) (fs := (lFc a1 M)) (v := .int (M.1 (65 + 12 * a1 + 11))) X hP (lEx_c hC ha1) (lR_c (lC_c hC ha1)) (rfl : vwCl[16]? = some (RX11, TX11, 7)) cinX11 (by decide) rfl rfl xw825 dX12_swearsIn_7 ?_
  refine lv_iconst (v := 1) hx hb dX12_swearsIn_10 (by decide) ?_
  refine lv_iadd hx hb dX12_swearsIn_11 ?_
  refine lr_putN (k := 4) (fs := (lFc a1 M)) (tyT := tyX11) (upd M.1 (65 + 12 * a1 + 11) ((M.1 (65 + 12 * a1 + 11)) + 1), M.2) X T0_fs hP hS (lEx_c hC ha1) (lR_c (lC_c hC ha1)) (lc_4 (lC_c hC ha1)) (fun p hp => luc (lC_c hC ha1) (by decide) hp) (rfl : vwCl[16]? = some (RX11, TX11, 7)) cinX11 tyX11_ok nmX11 (by decide) rfl rfl rfl rfl (Nat.le_of_ble_eq_true rfl) xw825 dX12_swearsIn_12 (fun H locs hP hS => ?_)
  exact kZ12_swearsIn_15 X hC ha1 hret (by omega) hf hP hS (lv_sub hl [0] rfl)
set_option maxRecDepth 10000 in
theorem kZ12_swearsIn_0 {S1 : XL} {M : XL} {H : Heap} {locs : List Loc} {ls : Array Slot} {cells slots : Nat} (X : gX p s m args c cX12_swearsIn 2 RX12 (kR kTab kA)) (hC : lC C) {a1 : Nat} (ha1 : a1 < C.1.1) (hret : gRetVA p l e (rmL 1 0 0) s m args below meth c cX12_swearsIn 0 0 (lΩ la C) (lP dC dI cg kA la iA C bs) Q S1) (hcs : cells + 0 ≤ 0 ∧ slots + 0 ≤ 0) (hf : fZ12_swearsIn_0 C a1  M = some S1) (hP : (gF (lP dC dI cg kA la iA C bs) T0) M s H) (hS : va_S (Fr (lΩ la C) s.heap.size) s.heap H locs) (hl : lv_has ls 2 [(0, .ref (la 0)), (1, .ref (la (9 + a1)))]) : W p l e (rmL 1 0 0) s m args below meth c H locs cells slots Q (F0 m 0 ls []) := by
  have hx := X.hx
  have hb := X.hb
  rw [fZ12_swearsIn_0] at hf
  refine lv_aload_n hx hb dX12_swearsIn_0 rfl (lv_at hl 0 rfl) ?_
  refine lv_aload_n hx hb dX12_swearsIn_1 rfl (lv_at hl 1 rfl) ?_
  refine lr_put (k := 4) (fs := (lF0 la M)) (tyT := tyX12) (upd M.1 5 (nI a1), M.2) X T0_fs hP hS (lEx_l (by decide)) lR_0 (l0_sw (lC_c hC ha1)) (fun p hp => lu0 (by decide) hp) (rfl : vwCl[17]? = some (RX12, TX12, 15)) cinX12 tyX12_ok nmX12 (by decide) rfl rfl rfl rfl (Nat.le_of_ble_eq_true rfl) tw888 dX12_swearsIn_2 (fun H locs hP hS => ?_)
  exact kZ12_swearsIn_5 X hC ha1 hret (by omega) hf hP hS (lv_sub hl [0, 1] rfl)
theorem vZ12_swearsIn {l : Launch} {dC : Nat → ClassId} {dI : Nat → Nat → Nat} {cg : Nat → ClassId} {kA : String → Nat → Nat} {la iA : Nat → Nat} {C : LC} {bs : Nat} (hC : lC C) {M S1 : XL} {a1 : Nat} (ha1 : a1 < C.1.1) (hf : fZ12_swearsIn C M a1  = some S1) : gMetVA l yX12_swearsIn cX12_swearsIn 2 1 0 0 (lΩ la C) (lP dC dI cg kA la iA C bs) (kR kTab kA) [.ref (la 0), .ref (la (9 + a1))] M S1 := gEntryVA (by decide) lOK0 (Nat.le_of_ble_eq_true rfl) (fun p e s m args below meth c Q ls X hP hS hret hl => 
  kZ12_swearsIn_0 X hC ha1 hret ⟨Nat.le_of_ble_eq_true rfl, Nat.le_of_ble_eq_true rfl⟩ hf ⟨hP, trivial⟩ hS (lv_sub hl [0, 1] rfl))
set_option maxRecDepth 10000 in
theorem kZ12_eats_67 {S1 : XL} {M : XL} {H : Heap} {locs : List Loc} {ls : Array Slot} {cells slots : Nat} (X : gX p s m args c cX12_eats 4 RX12 (kR kTab kA)) (hC : lC C) {a1 : Nat} (ha1 : a1 < C.1.2.1) (hret : gRetVA p l e (rmL 4 0 0) s m args below meth c cX12_eats 0 0 (lΩ la C) (lP dC dI cg kA la iA C bs) Q S1) (hcs : cells + 0 ≤ 0 ∧ slots + 0 ≤ 0) (hf : fZ12_eats_67 C a1  M = some S1) (hP : (gF (lP dC dI cg kA la iA C bs) T0) M s H) (hS : va_S (Fr (lΩ la C) s.heap.size) s.heap H locs) (hl : lv_has ls 4 [(0, .ref (la 0))]) : W p l e (rmL 4 0 0) s m args below meth c H locs cells slots Q (F0 m 67 ls []) := by
  have hx := X.hx
  have hb := X.hb
  rw [fZ12_eats_67] at hf
  cases hf
  exact hret _ _ _ _ _ _ dX12_eats_67 hP.1 hS (by omega) (by omega)
set_option maxRecDepth 10000 in
theorem kZ12_eats_254 {S1 : XL} {M : XL} {H : Heap} {locs : List Loc} {ls : Array Slot} {cells slots : Nat} (X : gX p s m args c cX12_eats 4 RX12 (kR kTab kA)) (hC : lC C) {a1 : Nat} (ha1 : a1 < C.1.2.1) (hret : gRetVA p l e (rmL 4 0 0) s m args below meth c cX12_eats 0 0 (lΩ la C) (lP dC dI cg kA la iA C bs) Q S1) (hcs : cells + 0 ≤ 0 ∧ slots + 0 ≤ 0) (hf : fZ12_eats_254 C a1  M = some S1) (hP : (gF (lP dC dI cg kA la iA C bs) T0) M s H) (hS : va_S (Fr (lΩ la C) s.heap.size) s.heap H locs) (hl : lv_has ls 4 [(0, .ref (la 0))]) : W p l e (rmL 4 0 0) s m args below meth c H locs cells slots Q (F0 m 254 ls []) := by
  have hx := X.hx
  have hb := X.hb
  rw [fZ12_eats_254] at hf
  cases hf
  exact hret _ _ _ _ _ _ dX12_eats_254 hP.1 hS (by omega) (by omega)
set_option maxRecDepth 10000 in
theorem kZ12_eats_251 {S1 : XL} {K202 : XL → Nat → Option (XL)} {M : XL} {z2 : Nat} {H : Heap} {locs : List Loc} {ls : Array Slot} {cells slots : Nat} (X : gX p s m args c cX12_eats 4 RX12 (kR kTab kA)) (hC : lC C) {a1 : Nat} (ha1 : a1 < C.1.2.1) (hret : gRetVA p l e (rmL 4 0 0) s m args below meth c cX12_eats 0 0 (lΩ la C) (lP dC dI cg kA la iA C bs) Q S1) (hK202 : ∀ (M : XL) (z2 : Nat) (H : Heap) (locs : List Loc) (ls : Array Slot), K202 M z2 = some S1 → (gF (lP dC dI cg kA la iA C bs) T0) M s H → va_S (Fr (lΩ la C) s.heap.size) s.heap H locs → lv_has ls 4 [(0, .ref (la 0)), (1, .ref (la (13 + a1))), (2, va_rf (zA la z2))] → W p l e (rmL 4 0 0) s m args below meth c H locs cells slots Q (F0 m 202 ls [])) (hcs : cells + 0 ≤ 0 ∧ slots + 0 ≤ 0) (hf : fZ12_eats_251 C a1 K202  M z2 = some S1) (hP : (gF (lP dC dI cg kA la iA C bs) T0) M s H) (hS : va_S (Fr (lΩ la C) s.heap.size) s.heap H locs) (hl : lv_has ls 4 [(0, .ref (la 0)), (1, .ref (la (13 + a1))), (2, va_rf (zA la z2))]) : W p l e (rmL 4 0 0) s m args below meth c H locs cells slots Q (F0 m 251 ls []) := by
  have hx := X.hx
  have hb := X.hb
  rw [fZ12_eats_251] at hf
  refine lv_goto (tgt := 202) hx hb dX12_eats_251 (by decide) ?_
  exact hK202 _ z2 _ _ _ hf hP hS (lv_sub hl [0, 1, 2] rfl)
set_option maxRecDepth 10000 in
theorem kZ12_eats_241 {S1 : XL} {K202 : XL → Nat → Option (XL)} {M : XL} {z2 : Nat} {H : Heap} {locs : List Loc} {ls : Array Slot} {cells slots : Nat} (X : gX p s m args c cX12_eats 4 RX12 (kR kTab kA)) (hC : lC C) {a1 : Nat} (ha1 : a1 < C.1.2.1) (hret : gRetVA p l e (rmL 4 0 0) s m args below meth c cX12_eats 0 0 (lΩ la C) (lP dC dI cg kA la iA C bs) Q S1) (hK202 : ∀ (M : XL) (z2 : Nat) (H : Heap) (locs : List Loc) (ls : Array Slot), K202 M z2 = some S1 → (gF (lP dC dI cg kA la iA C bs) T0) M s H → va_S (Fr (lΩ la C) s.heap.size) s.heap H locs → lv_has ls 4 [(0, .ref (la 0)), (1, .ref (la (13 + a1))), (2, va_rf (zA la z2))] → W p l e (rmL 4 0 0) s m args below meth c H locs cells slots Q (F0 m 202 ls [])) (hcs : cells + 0 ≤ 0 ∧ slots + 0 ≤ 0) (hf : fZ12_eats_241 C a1 K202  M z2 = some S1) (hP : (gF (lP dC dI cg kA la iA C bs) T0) M s H) (hS : va_S (Fr (lΩ la C) s.heap.size) s.heap H locs) (hl : lv_has ls 4 [(0, .ref (la 0)), (1, .ref (la (13 + a1))), (2, va_rf (zA la z2))]) : W p l e (rmL 4 0 0) s m args below meth c H locs cells slots Q (F0 m 241 ls []) := by
  have hx := X.hx
  have hb := X.hb
  rw [fZ12_eats_241] at hf
  refine lv_aload_n hx hb dX12_eats_241 rfl (lv_at hl 1 rfl) ?_
  refine lv_dup hx hb dX12_eats_242 rfl ?_
  refine lr_getN (k := 2) (fs := (lFs a1 M)) (v := .int (M.1 (161 + 12 * a1 + 8))) X hP (lEx_s ha1) lR_s (rfl : vwCl[18]? = some (RX13, TX13, 5)) cinX13 (by decide) rfl rfl xw955 dX12_eats_243 ?_
  refine lv_iconst (v := 1) hx hb dX12_eats_246 (by decide) ?_
  refine lv_isub hx hb dX12_eats_247 ?_
  refine lr_putN (k := 2) (fs := (lFs a1 M)) (tyT := tyX13) (upd M.1 (161 + 12 * a1 + 8) ((M.1 (161 + 12 * a1 + 8)) - 1), M.2) X T0_fs hP hS (lEx_s ha1) lR_s ls_2 (fun p hp => lus (by decide) hp) (rfl : vwCl[18]? = some (RX13, TX13, 5)) cinX13 tyX13_ok nmX13 (by decide) rfl rfl rfl rfl (Nat.le_of_ble_eq_true rfl) xw955 dX12_eats_248 (fun H locs hP hS => ?_)
  exact kZ12_eats_251 X hC ha1 hret hK202 (by omega) hf hP hS (lv_sub hl [0, 1, 2] rfl)
set_option maxRecDepth 10000 in
theorem kZ12_eats_231 {S1 : XL} {K202 : XL → Nat → Option (XL)} {M : XL} {z2 : Nat} {H : Heap} {locs : List Loc} {ls : Array Slot} {cells slots : Nat} (X : gX p s m args c cX12_eats 4 RX12 (kR kTab kA)) (hC : lC C) {a1 : Nat} (ha1 : a1 < C.1.2.1) (hret : gRetVA p l e (rmL 4 0 0) s m args below meth c cX12_eats 0 0 (lΩ la C) (lP dC dI cg kA la iA C bs) Q S1) (hK202 : ∀ (M : XL) (z2 : Nat) (H : Heap) (locs : List Loc) (ls : Array Slot), K202 M z2 = some S1 → (gF (lP dC dI cg kA la iA C bs) T0) M s H → va_S (Fr (lΩ la C) s.heap.size) s.heap H locs → lv_has ls 4 [(0, .ref (la 0)), (1, .ref (la (13 + a1))), (2, va_rf (zA la z2))] → W p l e (rmL 4 0 0) s m args below meth c H locs cells slots Q (F0 m 202 ls [])) (hcs : cells + 0 ≤ 0 ∧ slots + 0 ≤ 0) (hf : fZ12_eats_231 C a1 K202  M z2 = some S1) (hP : (gF (lP dC dI cg kA la iA C bs) T0) M s H) (hS : va_S (Fr (lΩ la C) s.heap.size) s.heap H locs) (hl : lv_has ls 4 [(0, .ref (la 0)), (1, .ref (la (13 + a1))), (2, va_rf (zA la z2))]) : W p l e (rmL 4 0 0) s m args below meth c H locs cells slots Q (F0 m 231 ls []) := by
  have hx := X.hx
  have hb := X.hb
  rw [fZ12_eats_231] at hf
  refine lv_aload_n hx hb dX12_eats_231 rfl (lv_at hl 0 rfl) ?_
  refine lv_dup hx hb dX12_eats_232 rfl ?_
  refine lr_get (k := 12) (fs := (lF0 la M)) (v := .int (M.1 11)) X hP (lEx_l (by decide)) lR_0 (rfl : vwCl[17]? = some (RX12, TX12, 15)) cinX12 (by decide) rfl rfl tw904 dX12_eats_233 ?_
  refine lv_iconst (v := 1) hx hb dX12_eats_236 (by decide) ?_
  refine lv_iadd hx hb dX12_eats_237 ?_
  refine lr_put (k := 12) (fs := (lF0 la M)) (tyT := tyX12) (upd M.1 11 ((M.1 11) + 1), M.2) X T0_fs hP hS (lEx_l (by decide)) lR_0 rfl (fun p hp => lu0 (by decide) hp) (rfl : vwCl[17]? = some (RX12, TX12, 15)) cinX12 tyX12_ok nmX12 (by decide) rfl rfl rfl rfl (Nat.le_of_ble_eq_true rfl) tw904 dX12_eats_238 (fun H locs hP hS => ?_)
  exact kZ12_eats_241 X hC ha1 hret hK202 (by omega) hf hP hS (lv_sub hl [0, 1, 2] rfl)
set_option maxRecDepth 10000 in
theorem kZ12_eats_228 {S1 : XL} {K202 : XL → Nat → Option (XL)} {M : XL} {z2 : Nat} {H : Heap} {locs : List Loc} {ls : Array Slot} {cells slots : Nat} (X : gX p s m args c cX12_eats 4 RX12 (kR kTab kA)) (hC : lC C) {a1 : Nat} (ha1 : a1 < C.1.2.1) (hret : gRetVA p l e (rmL 4 0 0) s m args below meth c cX12_eats 0 0 (lΩ la C) (lP dC dI cg kA la iA C bs) Q S1) (hK202 : ∀ (M : XL) (z2 : Nat) (H : Heap) (locs : List Loc) (ls : Array Slot), K202 M z2 = some S1 → (gF (lP dC dI cg kA la iA C bs) T0) M s H → va_S (Fr (lΩ la C) s.heap.size) s.heap H locs → lv_has ls 4 [(0, .ref (la 0)), (1, .ref (la (13 + a1))), (2, va_rf (zA la z2))] → W p l e (rmL 4 0 0) s m args below meth c H locs cells slots Q (F0 m 202 ls [])) (hcs : cells + 0 ≤ 0 ∧ slots + 0 ≤ 0) (hf : fZ12_eats_228 C a1 K202  M z2 = some S1) (hP : (gF (lP dC dI cg kA la iA C bs) T0) M s H) (hS : va_S (Fr (lΩ la C) s.heap.size) s.heap H locs) (hl : lv_has ls 4 [(0, .ref (la 0)), (1, .ref (la (13 + a1))), (2, va_rf (zA la z2))]) : W p l e (rmL 4 0 0) s m args below meth c H locs cells slots Q (F0 m 228 ls []) := by
  have hx := X.hx
  have hb := X.hb
  rw [fZ12_eats_228] at hf
  refine lv_goto (tgt := 241) hx hb dX12_eats_228 (by decide) ?_
  exact kZ12_eats_241 X hC ha1 hret hK202 (by omega) hf hP hS (lv_sub hl [0, 1, 2] rfl)
set_option maxRecDepth 10000 in
theorem kZ12_eats_218 {S1 : XL} {K202 : XL → Nat → Option (XL)} {M : XL} {z2 : Nat} {H : Heap} {locs : List Loc} {ls : Array Slot} {cells slots : Nat} (X : gX p s m args c cX12_eats 4 RX12 (kR kTab kA)) (hC : lC C) {a1 : Nat} (ha1 : a1 < C.1.2.1) (hret : gRetVA p l e (rmL 4 0 0) s m args below meth c cX12_eats 0 0 (lΩ la C) (lP dC dI cg kA la iA C bs) Q S1) (hK202 : ∀ (M : XL) (z2 : Nat) (H : Heap) (locs : List Loc) (ls : Array Slot), K202 M z2 = some S1 → (gF (lP dC dI cg kA la iA C bs) T0) M s H → va_S (Fr (lΩ la C) s.heap.size) s.heap H locs → lv_has ls 4 [(0, .ref (la 0)), (1, .ref (la (13 + a1))), (2, va_rf (zA la z2))] → W p l e (rmL 4 0 0) s m args below meth c H locs cells slots Q (F0 m 202 ls [])) (hcs : cells + 0 ≤ 0 ∧ slots + 0 ≤ 0) (hf : fZ12_eats_218 C a1 K202  M z2 = some S1) (hP : (gF (lP dC dI cg kA la iA C bs) T0) M s H) (hS : va_S (Fr (lΩ la C) s.heap.size) s.heap H locs) (hl : lv_has ls 4 [(0, .ref (la 0)), (1, .ref (la (13 + a1))), (2, va_rf (zA la z2))]) : W p l e (rmL 4 0 0) s m args below meth c H locs cells slots Q (F0 m 218 ls []) := by
  have hx := X.hx
  have hb := X.hb
  rw [fZ12_eats_218] at hf
  refine lz_aload_n hx hb dX12_eats_218 rfl (lv_at hl 2 rfl) ?_
  obtain ⟨g1, hf⟩ := gd hf
  rw [z_ref g1.1]
  refine lv_dup hx hb dX12_eats_219 rfl ?_
  refine lr_getN (k := 2) (fs := (lFs (z2 - 1) M)) (v := .int (M.1 (161 + 12 * (z2 - 1) + 8))) X hP (lEx_s g1.2) lR_s (rfl : vwCl[18]? = some (RX13, TX13, 5)) cinX13 (by decide) rfl rfl xw955 dX12_eats_220 ?_
  refine lv_iconst (v := 1) hx hb dX12_eats_223 (by decide) ?_
  refine lv_iadd hx hb dX12_eats_224 ?_
  refine lr_putN (k := 2) (fs := (lFs (z2 - 1) M)) (tyT := tyX13) (upd M.1 (161 + 12 * (z2 - 1) + 8) ((M.1 (161 + 12 * (z2 - 1) + 8)) + 1), M.2) X T0_fs hP hS (lEx_s g1.2) lR_s ls_2 (fun p hp => lus (by decide) hp) (rfl : vwCl[18]? = some (RX13, TX13, 5)) cinX13 tyX13_ok nmX13 (by decide) rfl rfl rfl rfl (Nat.le_of_ble_eq_true rfl) xw955 dX12_eats_225 (fun H locs hP hS => ?_)
  exact kZ12_eats_228 X hC ha1 hret hK202 (by omega) hf hP hS (lv_sub hl [0, 1, 2] rfl)
set_option maxRecDepth 10000 in
theorem kZ12_eats_209 {S1 : XL} {K202 : XL → Nat → Option (XL)} {M : XL} {z2 : Nat} {H : Heap} {locs : List Loc} {ls : Array Slot} {cells slots : Nat} (X : gX p s m args c cX12_eats 4 RX12 (kR kTab kA)) (hC : lC C) {a1 : Nat} (ha1 : a1 < C.1.2.1) (hret : gRetVA p l e (rmL 4 0 0) s m args below meth c cX12_eats 0 0 (lΩ la C) (lP dC dI cg kA la iA C bs) Q S1) (hK202 : ∀ (M : XL) (z2 : Nat) (H : Heap) (locs : List Loc) (ls : Array Slot), K202 M z2 = some S1 → (gF (lP dC dI cg kA la iA C bs) T0) M s H → va_S (Fr (lΩ la C) s.heap.size) s.heap H locs → lv_has ls 4 [(0, .ref (la 0)), (1, .ref (la (13 + a1))), (2, va_rf (zA la z2))] → W p l e (rmL 4 0 0) s m args below meth c H locs cells slots Q (F0 m 202 ls [])) (hcs : cells + 0 ≤ 0 ∧ slots + 0 ≤ 0) (hf : fZ12_eats_209 C a1 K202  M z2 = some S1) (hP : (gF (lP dC dI cg kA la iA C bs) T0) M s H) (hS : va_S (Fr (lΩ la C) s.heap.size) s.heap H locs) (hl : lv_has ls 4 [(0, .ref (la 0)), (1, .ref (la (13 + a1))), (2, va_rf (zA la z2))]) : W p l e (rmL 4 0 0) s m args below meth c H locs cells slots Q (F0 m 209 ls []) := by
  have hx := X.hx
  have hb := X.hb
  rw [fZ12_eats_209] at hf
  refine lz_aload_n hx hb dX12_eats_209 rfl (lv_at hl 2 rfl) ?_
  obtain ⟨g1, hf⟩ := gd hf
  rw [z_ref g1.1]
  refine lr_getN (k := 2) (fs := (lFs (z2 - 1) M)) (v := .int (M.1 (161 + 12 * (z2 - 1) + 8))) X hP (lEx_s g1.2) lR_s (rfl : vwCl[18]? = some (RX13, TX13, 5)) cinX13 (by decide) rfl rfl xw955 dX12_eats_210 ?_
  refine lv_bipush (v := 99) hx hb dX12_eats_213 (by decide) ?_
  refine lv_icmp_ge (tgt := 231) hx hb dX12_eats_215 (by decide) (fun c1 => ?_) (fun c1 => ?_)
  · exact kZ12_eats_231 X hC ha1 hret hK202 (by omega) (ifp c1 hf) hP hS (lv_sub hl [0, 1, 2] rfl)
  · exact kZ12_eats_218 X hC ha1 hret hK202 (by omega) (ifn c1 hf) hP hS (lv_sub hl [0, 1, 2] rfl)
set_option maxRecDepth 10000 in
theorem kZ12_eats_202 {S1 : XL} {cells slots : Nat} (X : gX p s m args c cX12_eats 4 RX12 (kR kTab kA)) (hC : lC C) {a1 : Nat} (ha1 : a1 < C.1.2.1) (hret : gRetVA p l e (rmL 4 0 0) s m args below meth c cX12_eats 0 0 (lΩ la C) (lP dC dI cg kA la iA C bs) Q S1) (hcs : cells + 0 ≤ 0 ∧ slots + 0 ≤ 0) : ∀ (n : Nat) (M : XL) (z2 : Nat) (H : Heap) (locs : List Loc) (ls : Array Slot), fZ12_eats_202 C a1  n M z2 = some S1 → (gF (lP dC dI cg kA la iA C bs) T0) M s H → va_S (Fr (lΩ la C) s.heap.size) s.heap H locs → lv_has ls 4 [(0, .ref (la 0)), (1, .ref (la (13 + a1))), (2, va_rf (zA la z2))] → W p l e (rmL 4 0 0) s m args below meth c H locs cells slots Q (F0 m 202 ls []) := by
  intro n
  induction n with
  | zero => intro M z2 H locs ls hf; cases hf
  | succ k ih =>
    intro M z2 H locs ls hf hP hS hl
    have hx := X.hx
    have hb := X.hb
    rw [fZ12_eats_202] at hf
    try dsimp only at hf
    refine lv_aload_n hx hb dX12_eats_202 rfl (lv_at hl 1 rfl) ?_
    refine lr_getN (k := 2) (fs := (lFs a1 M)) (v := .int (M.1 (161 + 12 * a1 + 8))) X hP (lEx_s ha1) lR_s (rfl : vwCl[18]? = some (RX13, TX13, 5)) cinX13 (by decide) rfl rfl xw955 dX12_eats_203 ?_
    refine lv_if_le (tgt := 254) hx hb dX12_eats_206 (by decide) (fun c1 => ?_) (fun c1 => ?_)
    · exact kZ12_eats_254 X hC ha1 hret (by omega) (ifp c1 hf) hP hS (lv_sub hl [0] rfl)
    · exact kZ12_eats_209 X hC ha1 hret ih (by omega) (ifn c1 hf) hP hS (lv_sub hl [0, 1, 2] rfl)
set_option maxRecDepth 10000 in
theorem kZ12_eats_201 {S1 : XL} {M : XL} {H : Heap} {locs : List Loc} {ls : Array Slot} {cells slots : Nat} (X : gX p s m args c cX12_eats 4 RX12 (kR kTab kA)) (hC : lC C) {a1 : Nat} (ha1 : a1 < C.1.2.1) (hret : gRetVA p l e (rmL 4 0 0) s m args below meth c cX12_eats 0 0 (lΩ la C) (lP dC dI cg kA la iA C bs) Q S1) (hcs : cells + 0 ≤ 0 ∧ slots + 0 ≤ 0) (hf : fZ12_eats_201 C a1  M = some S1) (hP : (gF (lP dC dI cg kA la iA C bs) T0) M s H) (hS : va_S (Fr (lΩ la C) s.heap.size) s.heap H locs) (hl : lv_has ls 4 [(0, .ref (la 0))]) : W p l e (rmL 4 0 0) s m args below meth c H locs cells slots Q (F0 m 201 ls []) := by
  have hx := X.hx
  have hb := X.hb
  rw [fZ12_eats_201] at hf
  cases hf
  exact hret _ _ _ _ _ _ dX12_eats_201 hP.1 hS (by omega) (by omega)
set_option maxRecDepth 10000 in
theorem kZ12_eats_191 {S1 : XL} {M : XL} {x3 : Int32} {H : Heap} {locs : List Loc} {ls : Array Slot} {cells slots : Nat} (X : gX p s m args c cX12_eats 4 RX12 (kR kTab kA)) (hC : lC C) {a1 : Nat} (ha1 : a1 < C.1.2.1) (hret : gRetVA p l e (rmL 4 0 0) s m args below meth c cX12_eats 0 0 (lΩ la C) (lP dC dI cg kA la iA C bs) Q S1) (hcs : cells + 0 ≤ 0 ∧ slots + 0 ≤ 0) (hf : fZ12_eats_191 C a1  M x3 = some S1) (hP : (gF (lP dC dI cg kA la iA C bs) T0) M s H) (hS : va_S (Fr (lΩ la C) s.heap.size) s.heap H locs) (hl : lv_has ls 4 [(0, .ref (la 0)), (3, .int x3)]) : W p l e (rmL 4 0 0) s m args below meth c H locs cells slots Q (F0 m 191 ls []) := by
  have hx := X.hx
  have hb := X.hb
  rw [fZ12_eats_191] at hf
  refine lv_aload_n hx hb dX12_eats_191 rfl (lv_at hl 0 rfl) ?_
  refine lv_dup hx hb dX12_eats_192 rfl ?_
  refine lr_get (k := 12) (fs := (lF0 la M)) (v := .int (M.1 11)) X hP (lEx_l (by decide)) lR_0 (rfl : vwCl[17]? = some (RX12, TX12, 15)) cinX12 (by decide) rfl rfl tw904 dX12_eats_193 ?_
  refine lv_iload_n hx hb dX12_eats_196 rfl (lv_at hl 1 rfl) ?_
  refine lv_iadd hx hb dX12_eats_197 ?_
  refine lr_put (k := 12) (fs := (lF0 la M)) (tyT := tyX12) (upd M.1 11 ((M.1 11) + x3), M.2) X T0_fs hP hS (lEx_l (by decide)) lR_0 rfl (fun p hp => lu0 (by decide) hp) (rfl : vwCl[17]? = some (RX12, TX12, 15)) cinX12 tyX12_ok nmX12 (by decide) rfl rfl rfl rfl (Nat.le_of_ble_eq_true rfl) tw904 dX12_eats_198 (fun H locs hP hS => ?_)
  exact kZ12_eats_201 X hC ha1 hret (by omega) hf hP hS (lv_sub hl [0] rfl)
set_option maxRecDepth 10000 in
theorem kZ12_eats_169 {S1 : XL} {M : XL} {H : Heap} {locs : List Loc} {ls : Array Slot} {cells slots : Nat} (X : gX p s m args c cX12_eats 4 RX12 (kR kTab kA)) (hC : lC C) {a1 : Nat} (ha1 : a1 < C.1.2.1) (hret : gRetVA p l e (rmL 4 0 0) s m args below meth c cX12_eats 0 0 (lΩ la C) (lP dC dI cg kA la iA C bs) Q S1) (hcs : cells + 0 ≤ 0 ∧ slots + 0 ≤ 0) (hf : fZ12_eats_169 C a1  M = some S1) (hP : (gF (lP dC dI cg kA la iA C bs) T0) M s H) (hS : va_S (Fr (lΩ la C) s.heap.size) s.heap H locs) (hl : lv_has ls 4 [(0, .ref (la 0)), (1, .ref (la (13 + a1)))]) : W p l e (rmL 4 0 0) s m args below meth c H locs cells slots Q (F0 m 169 ls []) := by
  have hx := X.hx
  have hb := X.hb
  rw [fZ12_eats_169] at hf
  refine lv_aload_n hx hb dX12_eats_169 rfl (lv_at hl 1 rfl) ?_
  refine lr_getN (k := 2) (fs := (lFs a1 M)) (v := .int (M.1 (161 + 12 * a1 + 8))) X hP (lEx_s ha1) lR_s (rfl : vwCl[18]? = some (RX13, TX13, 5)) cinX13 (by decide) rfl rfl xw955 dX12_eats_170 ?_
  refine lv_aload_n hx hb dX12_eats_173 rfl (lv_at hl 1 rfl) ?_
  refine lr_getN (k := 2) (fs := (lFs a1 M)) (v := .int (M.1 (161 + 12 * a1 + 8))) X hP (lEx_s ha1) lR_s (rfl : vwCl[18]? = some (RX13, TX13, 5)) cinX13 (by decide) rfl rfl xw955 dX12_eats_174 ?_
  refine lv_iconst (v := 2) hx hb dX12_eats_177 (by decide) ?_
  refine lv_idiv hx hb dX12_eats_178 (by decide) ?_
  refine lv_isub hx hb dX12_eats_179 ?_
  refine lv_istore_n (lv' := [(3, .int ((M.1 (161 + 12 * a1 + 8)) - ((M.1 (161 + 12 * a1 + 8)) / 2))), (0, .ref (la 0)), (1, .ref (la (13 + a1)))]) hx hb dX12_eats_180 rfl hl (by decide) rfl (fun ls hl => ?_)
  refine lv_aload_n hx hb dX12_eats_181 rfl (lv_at hl 2 rfl) ?_
  refine lv_dup hx hb dX12_eats_182 rfl ?_
  refine lr_getN (k := 2) (fs := (lFs a1 M)) (v := .int (M.1 (161 + 12 * a1 + 8))) X hP (lEx_s ha1) lR_s (rfl : vwCl[18]? = some (RX13, TX13, 5)) cinX13 (by decide) rfl rfl xw955 dX12_eats_183 ?_
  refine lv_iload_n hx hb dX12_eats_186 rfl (lv_at hl 0 rfl) ?_
  refine lv_isub hx hb dX12_eats_187 ?_
  refine lr_putN (k := 2) (fs := (lFs a1 M)) (tyT := tyX13) (upd M.1 (161 + 12 * a1 + 8) ((M.1 (161 + 12 * a1 + 8)) - ((M.1 (161 + 12 * a1 + 8)) - ((M.1 (161 + 12 * a1 + 8)) / 2))), M.2) X T0_fs hP hS (lEx_s ha1) lR_s ls_2 (fun p hp => lus (by decide) hp) (rfl : vwCl[18]? = some (RX13, TX13, 5)) cinX13 tyX13_ok nmX13 (by decide) rfl rfl rfl rfl (Nat.le_of_ble_eq_true rfl) xw955 dX12_eats_188 (fun H locs hP hS => ?_)
  exact kZ12_eats_191 X hC ha1 hret (by omega) hf hP hS (lv_sub hl [1, 0] rfl)
set_option maxRecDepth 10000 in
theorem kZ12_eats_165 {S1 : XL} {M : XL} {z2 : Nat} {H : Heap} {locs : List Loc} {ls : Array Slot} {cells slots : Nat} (X : gX p s m args c cX12_eats 4 RX12 (kR kTab kA)) (hC : lC C) {a1 : Nat} (ha1 : a1 < C.1.2.1) (hret : gRetVA p l e (rmL 4 0 0) s m args below meth c cX12_eats 0 0 (lΩ la C) (lP dC dI cg kA la iA C bs) Q S1) (hcs : cells + 0 ≤ 0 ∧ slots + 0 ≤ 0) (hf : fZ12_eats_165 C a1  M z2 = some S1) (hP : (gF (lP dC dI cg kA la iA C bs) T0) M s H) (hS : va_S (Fr (lΩ la C) s.heap.size) s.heap H locs) (hl : lv_has ls 4 [(0, .ref (la 0)), (1, .ref (la (13 + a1))), (2, va_rf (zA la z2))]) : W p l e (rmL 4 0 0) s m args below meth c H locs cells slots Q (F0 m 165 ls []) := by
  have hx := X.hx
  have hb := X.hb
  rw [fZ12_eats_165] at hf
  refine lz_aload_n hx hb dX12_eats_165 rfl (lv_at hl 2 rfl) ?_
  by_cases c1 : z2 = 0
  · rw [z_null c1]
    refine lv_ifnonnullN hx hb dX12_eats_166 ?_
    exact kZ12_eats_169 X hC ha1 hret (by omega) (ifp c1 hf) hP hS (lv_sub hl [0, 1] rfl)
  · rw [z_ref c1]
    refine lv_ifnonnull (tgt := 202) hx hb dX12_eats_166 (by decide) ?_
    exact kZ12_eats_202 X hC ha1 hret (by omega) FU _ z2 _ _ _ (ifn c1 hf) hP hS (lv_sub hl [0, 1, 2] rfl)
set_option maxRecDepth 10000 in
theorem kZ12_eats_159 {S1 : XL} {K72 : XL → Nat → Int32 → Option (XL)} {M : XL} {z2 : Nat} {x3 : Int32} {H : Heap} {locs : List Loc} {ls : Array Slot} {cells slots : Nat} (X : gX p s m args c cX12_eats 4 RX12 (kR kTab kA)) (hC : lC C) {a1 : Nat} (ha1 : a1 < C.1.2.1) (hret : gRetVA p l e (rmL 4 0 0) s m args below meth c cX12_eats 0 0 (lΩ la C) (lP dC dI cg kA la iA C bs) Q S1) (hK72 : ∀ (M : XL) (z2 : Nat) (x3 : Int32) (H : Heap) (locs : List Loc) (ls : Array Slot), K72 M z2 x3 = some S1 → (gF (lP dC dI cg kA la iA C bs) T0) M s H → va_S (Fr (lΩ la C) s.heap.size) s.heap H locs → lv_has ls 4 [(0, .ref (la 0)), (1, .ref (la (13 + a1))), (2, va_rf (zA la z2)), (3, .int x3)] → W p l e (rmL 4 0 0) s m args below meth c H locs cells slots Q (F0 m 72 ls [])) (hcs : cells + 0 ≤ 0 ∧ slots + 0 ≤ 0) (hf : fZ12_eats_159 C a1 K72  M z2 x3 = some S1) (hP : (gF (lP dC dI cg kA la iA C bs) T0) M s H) (hS : va_S (Fr (lΩ la C) s.heap.size) s.heap H locs) (hl : lv_has ls 4 [(0, .ref (la 0)), (1, .ref (la (13 + a1))), (2, va_rf (zA la z2)), (3, .int x3)]) : W p l e (rmL 4 0 0) s m args below meth c H locs cells slots Q (F0 m 159 ls []) := by
  have hx := X.hx
  have hb := X.hb
  rw [fZ12_eats_159] at hf
  refine lv_iinc (v := (x3 + 1)) (lv' := [(3, .int (x3 + 1)), (0, .ref (la 0)), (1, .ref (la (13 + a1))), (2, va_rf (zA la z2))]) hx hb dX12_eats_159 hl (k := 3) rfl (by rfl) (by decide) (by cases z2 <;> rfl) (fun ls hl => ?_)
  refine lv_goto (tgt := 72) hx hb dX12_eats_162 (by decide) ?_
  exact hK72 _ z2 (x3 + 1) _ _ _ hf hP hS (lv_sub hl [1, 2, 3, 0] rfl)
set_option maxRecDepth 10000 in
theorem kZ12_eats_130 {S1 : XL} {K72 : XL → Nat → Int32 → Option (XL)} {M : XL} {x3 : Int32} {H : Heap} {locs : List Loc} {ls : Array Slot} {cells slots : Nat} (X : gX p s m args c cX12_eats 4 RX12 (kR kTab kA)) (hC : lC C) {a1 : Nat} (ha1 : a1 < C.1.2.1) (hret : gRetVA p l e (rmL 4 0 0) s m args below meth c cX12_eats 0 0 (lΩ la C) (lP dC dI cg kA la iA C bs) Q S1) (hK72 : ∀ (M : XL) (z2 : Nat) (x3 : Int32) (H : Heap) (locs : List Loc) (ls : Array Slot), K72 M z2 x3 = some S1 → (gF (lP dC dI cg kA la iA C bs) T0) M s H → va_S (Fr (lΩ la C) s.heap.size) s.heap H locs → lv_has ls 4 [(0, .ref (la 0)), (1, .ref (la (13 + a1))), (2, va_rf (zA la z2)), (3, .int x3)] → W p l e (rmL 4 0 0) s m args below meth c H locs cells slots Q (F0 m 72 ls [])) (hcs : cells + 0 ≤ 0 ∧ slots + 0 ≤ 0) (hf : fZ12_eats_130 C a1 K72  M x3 = some S1) (hP : (gF (lP dC dI cg kA la iA C bs) T0) M s H) (hS : va_S (Fr (lΩ la C) s.heap.size) s.heap H locs) (hl : lv_has ls 4 [(0, .ref (la 0)), (1, .ref (la (13 + a1))), (3, .int x3)]) : W p l e (rmL 4 0 0) s m args below meth c H locs cells slots Q (F0 m 130 ls []) := by
  have hx := X.hx
  have hb := X.hb
  rw [fZ12_eats_130] at hf
  refine lv_aload_n hx hb dX12_eats_130 rfl (lv_at hl 0 rfl) ?_
  refine lr_get (k := 2) (fs := (lF0 la M)) (v := .ref (la 3)) X hP (lEx_l (by decide)) lR_0 (rfl : vwCl[17]? = some (RX12, TX12, 15)) cinX12 (by decide) rfl rfl tw884 dX12_eats_131 ?_
  refine lv_aload_n hx hb dX12_eats_134 rfl (lv_at hl 1 rfl) ?_
  refine lr_getN (k := 0) (fs := (lFs a1 M)) (v := .int (nI a1)) X hP (lEx_s ha1) lR_s (rfl : vwCl[18]? = some (RX13, TX13, 5)) cinX13 (by decide) rfl rfl xw951 dX12_eats_135 ?_
  refine lv_iload_n hx hb dX12_eats_138 rfl (lv_at hl 2 rfl) ?_
  refine lv_iadd hx hb dX12_eats_139 ?_
  refine lv_aload_n hx hb dX12_eats_140 rfl (lv_at hl 0 rfl) ?_
  refine lr_get (k := 2) (fs := (lF0 la M)) (v := .ref (la 3)) X hP (lEx_l (by decide)) lR_0 (rfl : vwCl[17]? = some (RX12, TX12, 15)) cinX12 (by decide) rfl rfl tw884 dX12_eats_141 ?_
  refine lr_size (b := 3) X rfl hP (by decide) tw1401 (by decide) hl.1 (Nat.le_of_ble_eq_true rfl) ⟨by omega, by omega⟩ dX12_eats_144 ?_
  obtain ⟨g1, hf⟩ := gd hf
  refine lv_irem hx hb dX12_eats_149 g1 ?_
  obtain ⟨g2, hf⟩ := gd hf
  refine lr_lget (b := 3) (q := (la (13 + (((nI a1) + x3) - ((nI a1) + x3) / (nI (lNum C 3)) * (nI (lNum C 3))).toNatClampNeg))) X rfl hC hP (by decide) g2 (lFa_3 (gIn_lt g2)) tw1403 (by decide) hl.1 (Nat.le_of_ble_eq_true rfl) ⟨by omega, by omega⟩ dX12_eats_150 ?_
  refine lr_cast X hP (lEx_s (gIn_lt g2)) lR_s (rfl : vwCl[18]? = some (RX13, TX13, 5)) tw1395 dX12_eats_155 ?_
  refine lv_astore_n (lv' := [(2, .ref (la (13 + (((nI a1) + x3) - ((nI a1) + x3) / (nI (lNum C 3)) * (nI (lNum C 3))).toNatClampNeg))), (0, .ref (la 0)), (1, .ref (la (13 + a1))), (3, .int x3)]) hx hb dX12_eats_158 rfl hl (by decide) rfl (fun ls hl => ?_)
  exact kZ12_eats_159 X hC ha1 hret hK72 (by omega) hf hP hS (lv_sub hl [1, 2, 0, 3] rfl)
set_option maxRecDepth 10000 in
theorem kZ12_eats_96 {S1 : XL} {K72 : XL → Nat → Int32 → Option (XL)} {M : XL} {z2 : Nat} {x3 : Int32} {H : Heap} {locs : List Loc} {ls : Array Slot} {cells slots : Nat} (X : gX p s m args c cX12_eats 4 RX12 (kR kTab kA)) (hC : lC C) {a1 : Nat} (ha1 : a1 < C.1.2.1) (hret : gRetVA p l e (rmL 4 0 0) s m args below meth c cX12_eats 0 0 (lΩ la C) (lP dC dI cg kA la iA C bs) Q S1) (hK72 : ∀ (M : XL) (z2 : Nat) (x3 : Int32) (H : Heap) (locs : List Loc) (ls : Array Slot), K72 M z2 x3 = some S1 → (gF (lP dC dI cg kA la iA C bs) T0) M s H → va_S (Fr (lΩ la C) s.heap.size) s.heap H locs → lv_has ls 4 [(0, .ref (la 0)), (1, .ref (la (13 + a1))), (2, va_rf (zA la z2)), (3, .int x3)] → W p l e (rmL 4 0 0) s m args below meth c H locs cells slots Q (F0 m 72 ls [])) (hcs : cells + 0 ≤ 0 ∧ slots + 0 ≤ 0) (hf : fZ12_eats_96 C a1 K72  M z2 x3 = some S1) (hP : (gF (lP dC dI cg kA la iA C bs) T0) M s H) (hS : va_S (Fr (lΩ la C) s.heap.size) s.heap H locs) (hl : lv_has ls 4 [(0, .ref (la 0)), (1, .ref (la (13 + a1))), (2, va_rf (zA la z2)), (3, .int x3)]) : W p l e (rmL 4 0 0) s m args below meth c H locs cells slots Q (F0 m 96 ls []) := by
  have hx := X.hx
  have hb := X.hb
  rw [fZ12_eats_96] at hf
  refine lv_aload_n hx hb dX12_eats_96 rfl (lv_at hl 0 rfl) ?_
  refine lr_get (k := 2) (fs := (lF0 la M)) (v := .ref (la 3)) X hP (lEx_l (by decide)) lR_0 (rfl : vwCl[17]? = some (RX12, TX12, 15)) cinX12 (by decide) rfl rfl tw884 dX12_eats_97 ?_
  refine lv_aload_n hx hb dX12_eats_100 rfl (lv_at hl 1 rfl) ?_
  refine lr_getN (k := 0) (fs := (lFs a1 M)) (v := .int (nI a1)) X hP (lEx_s ha1) lR_s (rfl : vwCl[18]? = some (RX13, TX13, 5)) cinX13 (by decide) rfl rfl xw951 dX12_eats_101 ?_
  refine lv_iload_n hx hb dX12_eats_104 rfl (lv_at hl 3 rfl) ?_
  refine lv_iadd hx hb dX12_eats_105 ?_
  refine lv_aload_n hx hb dX12_eats_106 rfl (lv_at hl 0 rfl) ?_
  refine lr_get (k := 2) (fs := (lF0 la M)) (v := .ref (la 3)) X hP (lEx_l (by decide)) lR_0 (rfl : vwCl[17]? = some (RX12, TX12, 15)) cinX12 (by decide) rfl rfl tw884 dX12_eats_107 ?_
  refine lr_size (b := 3) X rfl hP (by decide) tw1401 (by decide) hl.1 (Nat.le_of_ble_eq_true rfl) ⟨by omega, by omega⟩ dX12_eats_110 ?_
  obtain ⟨g1, hf⟩ := gd hf
  refine lv_irem hx hb dX12_eats_115 g1 ?_
  obtain ⟨g2, hf⟩ := gd hf
  refine lr_lget (b := 3) (q := (la (13 + (((nI a1) + x3) - ((nI a1) + x3) / (nI (lNum C 3)) * (nI (lNum C 3))).toNatClampNeg))) X rfl hC hP (by decide) g2 (lFa_3 (gIn_lt g2)) tw1403 (by decide) hl.1 (Nat.le_of_ble_eq_true rfl) ⟨by omega, by omega⟩ dX12_eats_116 ?_
  refine lr_cast X hP (lEx_s (gIn_lt g2)) lR_s (rfl : vwCl[18]? = some (RX13, TX13, 5)) tw1395 dX12_eats_121 ?_
  refine lr_getN (k := 4) (fs := (lFs (((nI a1) + x3) - ((nI a1) + x3) / (nI (lNum C 3)) * (nI (lNum C 3))).toNatClampNeg M)) (v := .int (M.1 (161 + 12 * (((nI a1) + x3) - ((nI a1) + x3) / (nI (lNum C 3)) * (nI (lNum C 3))).toNatClampNeg + 9))) X hP (lEx_s (gIn_lt g2)) lR_s (rfl : vwCl[18]? = some (RX13, TX13, 5)) cinX13 (by decide) rfl rfl xw959 dX12_eats_124 ?_
  refine lv_if_eq (tgt := 159) hx hb dX12_eats_127 (by decide) (fun c1 => ?_) (fun c1 => ?_)
  · exact kZ12_eats_159 X hC ha1 hret hK72 (by omega) (ifp c1 hf) hP hS (lv_sub hl [0, 1, 2, 3] rfl)
  · exact kZ12_eats_130 X hC ha1 hret hK72 (by omega) (ifn c1 hf) hP hS (lv_sub hl [0, 1, 3] rfl)
set_option maxRecDepth 10000 in
theorem kZ12_eats_92 {S1 : XL} {K72 : XL → Nat → Int32 → Option (XL)} {M : XL} {z2 : Nat} {x3 : Int32} {H : Heap} {locs : List Loc} {ls : Array Slot} {cells slots : Nat} (X : gX p s m args c cX12_eats 4 RX12 (kR kTab kA)) (hC : lC C) {a1 : Nat} (ha1 : a1 < C.1.2.1) (hret : gRetVA p l e (rmL 4 0 0) s m args below meth c cX12_eats 0 0 (lΩ la C) (lP dC dI cg kA la iA C bs) Q S1) (hK72 : ∀ (M : XL) (z2 : Nat) (x3 : Int32) (H : Heap) (locs : List Loc) (ls : Array Slot), K72 M z2 x3 = some S1 → (gF (lP dC dI cg kA la iA C bs) T0) M s H → va_S (Fr (lΩ la C) s.heap.size) s.heap H locs → lv_has ls 4 [(0, .ref (la 0)), (1, .ref (la (13 + a1))), (2, va_rf (zA la z2)), (3, .int x3)] → W p l e (rmL 4 0 0) s m args below meth c H locs cells slots Q (F0 m 72 ls [])) (hcs : cells + 0 ≤ 0 ∧ slots + 0 ≤ 0) (hf : fZ12_eats_92 C a1 K72  M z2 x3 = some S1) (hP : (gF (lP dC dI cg kA la iA C bs) T0) M s H) (hS : va_S (Fr (lΩ la C) s.heap.size) s.heap H locs) (hl : lv_has ls 4 [(0, .ref (la 0)), (1, .ref (la (13 + a1))), (2, va_rf (zA la z2)), (3, .int x3)]) : W p l e (rmL 4 0 0) s m args below meth c H locs cells slots Q (F0 m 92 ls []) := by
  have hx := X.hx
  have hb := X.hb
  rw [fZ12_eats_92] at hf
  refine lz_aload_n hx hb dX12_eats_92 rfl (lv_at hl 2 rfl) ?_
  by_cases c1 : z2 = 0
  · rw [z_null c1]
    refine lv_ifnonnullN hx hb dX12_eats_93 ?_
    exact kZ12_eats_96 X hC ha1 hret hK72 (by omega) (ifp c1 hf) hP hS (lv_sub hl [0, 1, 2, 3] rfl)
  · rw [z_ref c1]
    refine lv_ifnonnull (tgt := 165) hx hb dX12_eats_93 (by decide) ?_
    exact kZ12_eats_165 X hC ha1 hret (by omega) (ifn c1 hf) hP hS (lv_sub hl [0, 1, 2] rfl)
set_option maxRecDepth 10000 in
theorem kZ12_eats_85 {S1 : XL} {K72 : XL → Nat → Int32 → Option (XL)} {M : XL} {z2 : Nat} {x3 : Int32} {H : Heap} {locs : List Loc} {ls : Array Slot} {cells slots : Nat} (X : gX p s m args c cX12_eats 4 RX12 (kR kTab kA)) (hC : lC C) {a1 : Nat} (ha1 : a1 < C.1.2.1) (hret : gRetVA p l e (rmL 4 0 0) s m args below meth c cX12_eats 0 0 (lΩ la C) (lP dC dI cg kA la iA C bs) Q S1) (hK72 : ∀ (M : XL) (z2 : Nat) (x3 : Int32) (H : Heap) (locs : List Loc) (ls : Array Slot), K72 M z2 x3 = some S1 → (gF (lP dC dI cg kA la iA C bs) T0) M s H → va_S (Fr (lΩ la C) s.heap.size) s.heap H locs → lv_has ls 4 [(0, .ref (la 0)), (1, .ref (la (13 + a1))), (2, va_rf (zA la z2)), (3, .int x3)] → W p l e (rmL 4 0 0) s m args below meth c H locs cells slots Q (F0 m 72 ls [])) (hcs : cells + 0 ≤ 0 ∧ slots + 0 ≤ 0) (hf : fZ12_eats_85 C a1 K72  M z2 x3 = some S1) (hP : (gF (lP dC dI cg kA la iA C bs) T0) M s H) (hS : va_S (Fr (lΩ la C) s.heap.size) s.heap H locs) (hl : lv_has ls 4 [(0, .ref (la 0)), (1, .ref (la (13 + a1))), (2, va_rf (zA la z2)), (3, .int x3)]) : W p l e (rmL 4 0 0) s m args below meth c H locs cells slots Q (F0 m 85 ls []) := by
  have hx := X.hx
  have hb := X.hb
  rw [fZ12_eats_85] at hf
  refine lv_aload_n hx hb dX12_eats_85 rfl (lv_at hl 1 rfl) ?_
  refine lr_getN (k := 4) (fs := (lFs a1 M)) (v := .int (M.1 (161 + 12 * a1 + 9))) X hP (lEx_s ha1) lR_s (rfl : vwCl[18]? = some (RX13, TX13, 5)) cinX13 (by decide) rfl rfl xw959 dX12_eats_86 ?_
  refine lv_if_eq (tgt := 165) hx hb dX12_eats_89 (by decide) (fun c1 => ?_) (fun c1 => ?_)
  · exact kZ12_eats_165 X hC ha1 hret (by omega) (ifp c1 hf) hP hS (lv_sub hl [0, 1, 2] rfl)
  · exact kZ12_eats_92 X hC ha1 hret hK72 (by omega) (ifn c1 hf) hP hS (lv_sub hl [0, 1, 2, 3] rfl)
set_option maxRecDepth 10000 in
theorem kZ12_eats_72 {S1 : XL} {cells slots : Nat} (X : gX p s m args c cX12_eats 4 RX12 (kR kTab kA)) (hC : lC C) {a1 : Nat} (ha1 : a1 < C.1.2.1) (hret : gRetVA p l e (rmL 4 0 0) s m args below meth c cX12_eats 0 0 (lΩ la C) (lP dC dI cg kA la iA C bs) Q S1) (hcs : cells + 0 ≤ 0 ∧ slots + 0 ≤ 0) : ∀ (n : Nat) (M : XL) (z2 : Nat) (x3 : Int32) (H : Heap) (locs : List Loc) (ls : Array Slot), fZ12_eats_72 C a1  n M z2 x3 = some S1 → (gF (lP dC dI cg kA la iA C bs) T0) M s H → va_S (Fr (lΩ la C) s.heap.size) s.heap H locs → lv_has ls 4 [(0, .ref (la 0)), (1, .ref (la (13 + a1))), (2, va_rf (zA la z2)), (3, .int x3)] → W p l e (rmL 4 0 0) s m args below meth c H locs cells slots Q (F0 m 72 ls []) := by
  intro n
  induction n with
  | zero => intro M z2 x3 H locs ls hf; cases hf
  | succ k ih =>
    intro M z2 x3 H locs ls hf hP hS hl
    have hx := X.hx
    have hb := X.hb
    rw [fZ12_eats_72] at hf
    try dsimp only at hf
    refine lv_iload_n hx hb dX12_eats_72 rfl (lv_at hl 3 rfl) ?_
    refine lv_aload_n hx hb dX12_eats_73 rfl (lv_at hl 0 rfl) ?_
    refine lr_get (k := 2) (fs := (lF0 la M)) (v := .ref (la 3)) X hP (lEx_l (by decide)) lR_0 (rfl : vwCl[17]? = some (RX12, TX12, 15)) cinX12 (by decide) rfl rfl tw884 dX12_eats_74 ?_
    refine lr_size (b := 3) X rfl hP (by decide) tw1401 (by decide) hl.1 (Nat.le_of_ble_eq_true rfl) ⟨by omega, by omega⟩ dX12_eats_77 ?_
    refine lv_icmp_ge (tgt := 165) hx hb dX12_eats_82 (by decide) (fun c1 => ?_) (fun c1 => ?_)
    · exact kZ12_eats_165 X hC ha1 hret (by omega) (ifp c1 hf) hP hS (lv_sub hl [0, 1, 2] rfl)
    · exact kZ12_eats_85 X hC ha1 hret ih (by omega) (ifn c1 hf) hP hS (lv_sub hl [0, 1, 2, 3] rfl)
set_option maxRecDepth 10000 in
theorem kZ12_eats_68 {S1 : XL} {M : XL} {H : Heap} {locs : List Loc} {ls : Array Slot} {cells slots : Nat} (X : gX p s m args c cX12_eats 4 RX12 (kR kTab kA)) (hC : lC C) {a1 : Nat} (ha1 : a1 < C.1.2.1) (hret : gRetVA p l e (rmL 4 0 0) s m args below meth c cX12_eats 0 0 (lΩ la C) (lP dC dI cg kA la iA C bs) Q S1) (hcs : cells + 0 ≤ 0 ∧ slots + 0 ≤ 0) (hf : fZ12_eats_68 C a1  M = some S1) (hP : (gF (lP dC dI cg kA la iA C bs) T0) M s H) (hS : va_S (Fr (lΩ la C) s.heap.size) s.heap H locs) (hl : lv_has ls 4 [(0, .ref (la 0)), (1, .ref (la (13 + a1)))]) : W p l e (rmL 4 0 0) s m args below meth c H locs cells slots Q (F0 m 68 ls []) := by
  have hx := X.hx
  have hb := X.hb
  rw [fZ12_eats_68] at hf
  refine lv_null hx hb dX12_eats_68 ?_
  refine lv_astore_nN (lv' := [(2, .null), (0, .ref (la 0)), (1, .ref (la (13 + a1)))]) hx hb dX12_eats_69 rfl hl (by decide) rfl (fun ls hl => ?_)
  refine lv_iconst (v := 1) hx hb dX12_eats_70 (by decide) ?_
  refine lv_istore_n (lv' := [(3, .int 1), (2, .null), (0, .ref (la 0)), (1, .ref (la (13 + a1)))]) hx hb dX12_eats_71 rfl hl (by decide) rfl (fun ls hl => ?_)
  exact kZ12_eats_72 X hC ha1 hret (by omega) FU _ 0 1 _ _ _ hf hP hS (lv_sub hl [2, 3, 1, 0] rfl)
set_option maxRecDepth 10000 in
theorem kZ12_eats_60 {S1 : XL} {M : XL} {H : Heap} {locs : List Loc} {ls : Array Slot} {cells slots : Nat} (X : gX p s m args c cX12_eats 4 RX12 (kR kTab kA)) (hC : lC C) {a1 : Nat} (ha1 : a1 < C.1.2.1) (hret : gRetVA p l e (rmL 4 0 0) s m args below meth c cX12_eats 0 0 (lΩ la C) (lP dC dI cg kA la iA C bs) Q S1) (hcs : cells + 0 ≤ 0 ∧ slots + 0 ≤ 0) (hf : fZ12_eats_60 C a1  M = some S1) (hP : (gF (lP dC dI cg kA la iA C bs) T0) M s H) (hS : va_S (Fr (lΩ la C) s.heap.size) s.heap H locs) (hl : lv_has ls 4 [(0, .ref (la 0)), (1, .ref (la (13 + a1)))]) : W p l e (rmL 4 0 0) s m args below meth c H locs cells slots Q (F0 m 60 ls []) := by
  have hx := X.hx
  have hb := X.hb
  rw [fZ12_eats_60] at hf
  refine lv_aload_n hx hb dX12_eats_60 rfl (lv_at hl 1 rfl) ?_
  refine lr_getN (k := 1) (fs := (lFs a1 M)) (v := .int (M.1 (161 + 12 * a1 + 7))) X hP (lEx_s ha1) lR_s (rfl : vwCl[18]? = some (RX13, TX13, 5)) cinX13 (by decide) rfl rfl xw953 dX12_eats_61 ?_
  refine lv_if_le (tgt := 68) hx hb dX12_eats_64 (by decide) (fun c1 => ?_) (fun c1 => ?_)
  · exact kZ12_eats_68 X hC ha1 hret (by omega) (ifp c1 hf) hP hS (lv_sub hl [0, 1] rfl)
  · exact kZ12_eats_67 X hC ha1 hret (by omega) (ifn c1 hf) hP hS (lv_sub hl [0] rfl)
set_option maxRecDepth 10000 in
theorem kZ12_eats_53 {S1 : XL} {M : XL} {H : Heap} {locs : List Loc} {ls : Array Slot} {cells slots : Nat} (X : gX p s m args c cX12_eats 4 RX12 (kR kTab kA)) (hC : lC C) {a1 : Nat} (ha1 : a1 < C.1.2.1) (hret : gRetVA p l e (rmL 4 0 0) s m args below meth c cX12_eats 0 0 (lΩ la C) (lP dC dI cg kA la iA C bs) Q S1) (hcs : cells + 0 ≤ 0 ∧ slots + 0 ≤ 0) (hf : fZ12_eats_53 C a1  M = some S1) (hP : (gF (lP dC dI cg kA la iA C bs) T0) M s H) (hS : va_S (Fr (lΩ la C) s.heap.size) s.heap H locs) (hl : lv_has ls 4 [(0, .ref (la 0)), (1, .ref (la (13 + a1)))]) : W p l e (rmL 4 0 0) s m args below meth c H locs cells slots Q (F0 m 53 ls []) := by
  have hx := X.hx
  have hb := X.hb
  rw [fZ12_eats_53] at hf
  refine lv_aload_n hx hb dX12_eats_53 rfl (lv_at hl 1 rfl) ?_
  refine lr_getN (k := 2) (fs := (lFs a1 M)) (v := .int (M.1 (161 + 12 * a1 + 8))) X hP (lEx_s ha1) lR_s (rfl : vwCl[18]? = some (RX13, TX13, 5)) cinX13 (by decide) rfl rfl xw955 dX12_eats_54 ?_
  refine lv_if_eq (tgt := 67) hx hb dX12_eats_57 (by decide) (fun c1 => ?_) (fun c1 => ?_)
  · exact kZ12_eats_67 X hC ha1 hret (by omega) (ifp c1 hf) hP hS (lv_sub hl [0] rfl)
  · exact kZ12_eats_60 X hC ha1 hret (by omega) (ifn c1 hf) hP hS (lv_sub hl [0, 1] rfl)
set_option maxRecDepth 10000 in
theorem kZ12_eats_47 {S1 : XL} {K2 : XL → Int32 → Option (XL)} {M : XL} {x2 : Int32} {H : Heap} {locs : List Loc} {ls : Array Slot} {cells slots : Nat} (X : gX p s m args c cX12_eats 4 RX12 (kR kTab kA)) (hC : lC C) {a1 : Nat} (ha1 : a1 < C.1.2.1) (hret : gRetVA p l e (rmL 4 0 0) s m args below meth c cX12_eats 0 0 (lΩ la C) (lP dC dI cg kA la iA C bs) Q S1) (hK2 : ∀ (M : XL) (x2 : Int32) (H : Heap) (locs : List Loc) (ls : Array Slot), K2 M x2 = some S1 → (gF (lP dC dI cg kA la iA C bs) T0) M s H → va_S (Fr (lΩ la C) s.heap.size) s.heap H locs → lv_has ls 4 [(0, .ref (la 0)), (1, .ref (la (13 + a1))), (2, .int x2)] → W p l e (rmL 4 0 0) s m args below meth c H locs cells slots Q (F0 m 2 ls [])) (hcs : cells + 0 ≤ 0 ∧ slots + 0 ≤ 0) (hf : fZ12_eats_47 C a1 K2  M x2 = some S1) (hP : (gF (lP dC dI cg kA la iA C bs) T0) M s H) (hS : va_S (Fr (lΩ la C) s.heap.size) s.heap H locs) (hl : lv_has ls 4 [(0, .ref (la 0)), (1, .ref (la (13 + a1))), (2, .int x2)]) : W p l e (rmL 4 0 0) s m args below meth c H locs cells slots Q (F0 m 47 ls []) := by
  have hx := X.hx
  have hb := X.hb
  rw [fZ12_eats_47] at hf
  refine lv_iinc (v := (x2 + 1)) (lv' := [(2, .int (x2 + 1)), (0, .ref (la 0)), (1, .ref (la (13 + a1)))]) hx hb dX12_eats_47 hl (k := 2) rfl (by rfl) (by decide) rfl (fun ls hl => ?_)
  refine lv_goto (tgt := 2) hx hb dX12_eats_50 (by decide) ?_
  exact hK2 _ (x2 + 1) _ _ _ hf hP hS (lv_sub hl [1, 2, 0] rfl)
set_option maxRecDepth 10000 in
theorem kZ12_eats_37 {S1 : XL} {K2 : XL → Int32 → Option (XL)} {M : XL} {x2 : Int32} {H : Heap} {locs : List Loc} {ls : Array Slot} {cells slots : Nat} (X : gX p s m args c cX12_eats 4 RX12 (kR kTab kA)) (hC : lC C) {a1 : Nat} (ha1 : a1 < C.1.2.1) (hret : gRetVA p l e (rmL 4 0 0) s m args below meth c cX12_eats 0 0 (lΩ la C) (lP dC dI cg kA la iA C bs) Q S1) (hK2 : ∀ (M : XL) (x2 : Int32) (H : Heap) (locs : List Loc) (ls : Array Slot), K2 M x2 = some S1 → (gF (lP dC dI cg kA la iA C bs) T0) M s H → va_S (Fr (lΩ la C) s.heap.size) s.heap H locs → lv_has ls 4 [(0, .ref (la 0)), (1, .ref (la (13 + a1))), (2, .int x2)] → W p l e (rmL 4 0 0) s m args below meth c H locs cells slots Q (F0 m 2 ls [])) (hcs : cells + 0 ≤ 0 ∧ slots + 0 ≤ 0) (hf : fZ12_eats_37 C a1 K2  M x2 = some S1) (hP : (gF (lP dC dI cg kA la iA C bs) T0) M s H) (hS : va_S (Fr (lΩ la C) s.heap.size) s.heap H locs) (hl : lv_has ls 4 [(0, .ref (la 0)), (1, .ref (la (13 + a1))), (2, .int x2)]) : W p l e (rmL 4 0 0) s m args below meth c H locs cells slots Q (F0 m 37 ls []) := by
  have hx := X.hx
  have hb := X.hb
  rw [fZ12_eats_37] at hf
  refine lv_aload_n hx hb dX12_eats_37 rfl (lv_at hl 0 rfl) ?_
  refine lv_dup hx hb dX12_eats_38 rfl ?_
  refine lr_get (k := 10) (fs := (lF0 la M)) (v := .int (M.1 9)) X hP (lEx_l (by decide)) lR_0 (rfl : vwCl[17]? = some (RX12, TX12, 15)) cinX12 (by decide) rfl rfl tw900 dX12_eats_39 ?_
  refine lv_iconst (v := 1) hx hb dX12_eats_42 (by decide) ?_
  refine lv_iadd hx hb dX12_eats_43 ?_
  refine lr_put (k := 10) (fs := (lF0 la M)) (tyT := tyX12) (upd M.1 9 ((M.1 9) + 1), M.2) X T0_fs hP hS (lEx_l (by decide)) lR_0 rfl (fun p hp => lu0 (by decide) hp) (rfl : vwCl[17]? = some (RX12, TX12, 15)) cinX12 tyX12_ok nmX12 (by decide) rfl rfl rfl rfl (Nat.le_of_ble_eq_true rfl) tw900 dX12_eats_44 (fun H locs hP hS => ?_)
  exact kZ12_eats_47 X hC ha1 hret hK2 (by omega) hf hP hS (lv_sub hl [0, 1, 2] rfl)
set_option maxRecDepth 10000 in
theorem kZ12_eats_27 {S1 : XL} {K2 : XL → Int32 → Option (XL)} {M : XL} {x2 : Int32} {H : Heap} {locs : List Loc} {ls : Array Slot} {cells slots : Nat} (X : gX p s m args c cX12_eats 4 RX12 (kR kTab kA)) (hC : lC C) {a1 : Nat} (ha1 : a1 < C.1.2.1) (hret : gRetVA p l e (rmL 4 0 0) s m args below meth c cX12_eats 0 0 (lΩ la C) (lP dC dI cg kA la iA C bs) Q S1) (hK2 : ∀ (M : XL) (x2 : Int32) (H : Heap) (locs : List Loc) (ls : Array Slot), K2 M x2 = some S1 → (gF (lP dC dI cg kA la iA C bs) T0) M s H → va_S (Fr (lΩ la C) s.heap.size) s.heap H locs → lv_has ls 4 [(0, .ref (la 0)), (1, .ref (la (13 + a1))), (2, .int x2)] → W p l e (rmL 4 0 0) s m args below meth c H locs cells slots Q (F0 m 2 ls [])) (hcs : cells + 0 ≤ 0 ∧ slots + 0 ≤ 0) (hf : fZ12_eats_27 C a1 K2  M x2 = some S1) (hP : (gF (lP dC dI cg kA la iA C bs) T0) M s H) (hS : va_S (Fr (lΩ la C) s.heap.size) s.heap H locs) (hl : lv_has ls 4 [(0, .ref (la 0)), (1, .ref (la (13 + a1))), (2, .int x2)]) : W p l e (rmL 4 0 0) s m args below meth c H locs cells slots Q (F0 m 27 ls []) := by
  have hx := X.hx
  have hb := X.hb
  rw [fZ12_eats_27] at hf
  refine lv_aload_n hx hb dX12_eats_27 rfl (lv_at hl 1 rfl) ?_
  refine lv_dup hx hb dX12_eats_28 rfl ?_
  refine lr_getN (k := 3) (fs := (lFs a1 M)) (v := .int (M.1 (161 + 12 * a1 + 10))) X hP (lEx_s ha1) lR_s (rfl : vwCl[18]? = some (RX13, TX13, 5)) cinX13 (by decide) rfl rfl xw957 dX12_eats_29 ?_
  refine lv_iconst (v := 1) hx hb dX12_eats_32 (by decide) ?_
  refine lv_iadd hx hb dX12_eats_33 ?_
  refine lr_putN (k := 3) (fs := (lFs a1 M)) (tyT := tyX13) (upd M.1 (161 + 12 * a1 + 10) ((M.1 (161 + 12 * a1 + 10)) + 1), M.2) X T0_fs hP hS (lEx_s ha1) lR_s ls_3 (fun p hp => lus (by decide) hp) (rfl : vwCl[18]? = some (RX13, TX13, 5)) cinX13 tyX13_ok nmX13 (by decide) rfl rfl rfl rfl (Nat.le_of_ble_eq_true rfl) xw957 dX12_eats_34 (fun H locs hP hS => ?_)
  exact kZ12_eats_37 X hC ha1 hret hK2 (by omega) hf hP hS (lv_sub hl [0, 1, 2] rfl)
set_option maxRecDepth 10000 in
theorem kZ12_eats_17 {S1 : XL} {K2 : XL → Int32 → Option (XL)} {M : XL} {x2 : Int32} {H : Heap} {locs : List Loc} {ls : Array Slot} {cells slots : Nat} (X : gX p s m args c cX12_eats 4 RX12 (kR kTab kA)) (hC : lC C) {a1 : Nat} (ha1 : a1 < C.1.2.1) (hret : gRetVA p l e (rmL 4 0 0) s m args below meth c cX12_eats 0 0 (lΩ la C) (lP dC dI cg kA la iA C bs) Q S1) (hK2 : ∀ (M : XL) (x2 : Int32) (H : Heap) (locs : List Loc) (ls : Array Slot), K2 M x2 = some S1 → (gF (lP dC dI cg kA la iA C bs) T0) M s H → va_S (Fr (lΩ la C) s.heap.size) s.heap H locs → lv_has ls 4 [(0, .ref (la 0)), (1, .ref (la (13 + a1))), (2, .int x2)] → W p l e (rmL 4 0 0) s m args below meth c H locs cells slots Q (F0 m 2 ls [])) (hcs : cells + 0 ≤ 0 ∧ slots + 0 ≤ 0) (hf : fZ12_eats_17 C a1 K2  M x2 = some S1) (hP : (gF (lP dC dI cg kA la iA C bs) T0) M s H) (hS : va_S (Fr (lΩ la C) s.heap.size) s.heap H locs) (hl : lv_has ls 4 [(0, .ref (la 0)), (1, .ref (la (13 + a1))), (2, .int x2)]) : W p l e (rmL 4 0 0) s m args below meth c H locs cells slots Q (F0 m 17 ls []) := by
  have hx := X.hx
  have hb := X.hb
  rw [fZ12_eats_17] at hf
  refine lv_aload_n hx hb dX12_eats_17 rfl (lv_at hl 1 rfl) ?_
  refine lv_dup hx hb dX12_eats_18 rfl ?_
  refine lr_getN (k := 1) (fs := (lFs a1 M)) (v := .int (M.1 (161 + 12 * a1 + 7))) X hP (lEx_s ha1) lR_s (rfl : vwCl[18]? = some (RX13, TX13, 5)) cinX13 (by decide) rfl rfl xw953 dX12_eats_19 ?_
  refine lv_iconst (v := 1) hx hb dX12_eats_22 (by decide) ?_
  refine lv_isub hx hb dX12_eats_23 ?_
  refine lr_putN (k := 1) (fs := (lFs a1 M)) (tyT := tyX13) (upd M.1 (161 + 12 * a1 + 7) ((M.1 (161 + 12 * a1 + 7)) - 1), M.2) X T0_fs hP hS (lEx_s ha1) lR_s ls_1 (fun p hp => lus (by decide) hp) (rfl : vwCl[18]? = some (RX13, TX13, 5)) cinX13 tyX13_ok nmX13 (by decide) rfl rfl rfl rfl (Nat.le_of_ble_eq_true rfl) xw953 dX12_eats_24 (fun H locs hP hS => ?_)
  exact kZ12_eats_27 X hC ha1 hret hK2 (by omega) hf hP hS (lv_sub hl [0, 1, 2] rfl)
set_option maxRecDepth 10000 in
theorem kZ12_eats_10 {S1 : XL} {K2 : XL → Int32 → Option (XL)} {M : XL} {x2 : Int32} {H : Heap} {locs : List Loc} {ls : Array Slot} {cells slots : Nat} (X : gX p s m args c cX12_eats 4 RX12 (kR kTab kA)) (hC : lC C) {a1 : Nat} (ha1 : a1 < C.1.2.1) (hret : gRetVA p l e (rmL 4 0 0) s m args below meth c cX12_eats 0 0 (lΩ la C) (lP dC dI cg kA la iA C bs) Q S1) (hK2 : ∀ (M : XL) (x2 : Int32) (H : Heap) (locs : List Loc) (ls : Array Slot), K2 M x2 = some S1 → (gF (lP dC dI cg kA la iA C bs) T0) M s H → va_S (Fr (lΩ la C) s.heap.size) s.heap H locs → lv_has ls 4 [(0, .ref (la 0)), (1, .ref (la (13 + a1))), (2, .int x2)] → W p l e (rmL 4 0 0) s m args below meth c H locs cells slots Q (F0 m 2 ls [])) (hcs : cells + 0 ≤ 0 ∧ slots + 0 ≤ 0) (hf : fZ12_eats_10 C a1 K2  M x2 = some S1) (hP : (gF (lP dC dI cg kA la iA C bs) T0) M s H) (hS : va_S (Fr (lΩ la C) s.heap.size) s.heap H locs) (hl : lv_has ls 4 [(0, .ref (la 0)), (1, .ref (la (13 + a1))), (2, .int x2)]) : W p l e (rmL 4 0 0) s m args below meth c H locs cells slots Q (F0 m 10 ls []) := by
  have hx := X.hx
  have hb := X.hb
  rw [fZ12_eats_10] at hf
  refine lv_aload_n hx hb dX12_eats_10 rfl (lv_at hl 1 rfl) ?_
  refine lr_getN (k := 1) (fs := (lFs a1 M)) (v := .int (M.1 (161 + 12 * a1 + 7))) X hP (lEx_s ha1) lR_s (rfl : vwCl[18]? = some (RX13, TX13, 5)) cinX13 (by decide) rfl rfl xw953 dX12_eats_11 ?_
  refine lv_if_le (tgt := 53) hx hb dX12_eats_14 (by decide) (fun c1 => ?_) (fun c1 => ?_)
  · exact kZ12_eats_53 X hC ha1 hret (by omega) (ifp c1 hf) hP hS (lv_sub hl [0, 1] rfl)
  · exact kZ12_eats_17 X hC ha1 hret hK2 (by omega) (ifn c1 hf) hP hS (lv_sub hl [0, 1, 2] rfl)
set_option maxRecDepth 10000 in
theorem kZ12_eats_2 {S1 : XL} {cells slots : Nat} (X : gX p s m args c cX12_eats 4 RX12 (kR kTab kA)) (hC : lC C) {a1 : Nat} (ha1 : a1 < C.1.2.1) (hret : gRetVA p l e (rmL 4 0 0) s m args below meth c cX12_eats 0 0 (lΩ la C) (lP dC dI cg kA la iA C bs) Q S1) (hcs : cells + 0 ≤ 0 ∧ slots + 0 ≤ 0) : ∀ (n : Nat) (M : XL) (x2 : Int32) (H : Heap) (locs : List Loc) (ls : Array Slot), fZ12_eats_2 C a1  n M x2 = some S1 → (gF (lP dC dI cg kA la iA C bs) T0) M s H → va_S (Fr (lΩ la C) s.heap.size) s.heap H locs → lv_has ls 4 [(0, .ref (la 0)), (1, .ref (la (13 + a1))), (2, .int x2)] → W p l e (rmL 4 0 0) s m args below meth c H locs cells slots Q (F0 m 2 ls []) := by
  intro n
  induction n with
  | zero => intro M x2 H locs ls hf; cases hf
  | succ k ih =>
    intro M x2 H locs ls hf hP hS hl
    have hx := X.hx
    have hb := X.hb
    rw [fZ12_eats_2] at hf
    try dsimp only at hf
    refine lv_iload_n hx hb dX12_eats_2 rfl (lv_at hl 2 rfl) ?_
    refine lv_aload_n hx hb dX12_eats_3 rfl (lv_at hl 1 rfl) ?_
    refine lr_getN (k := 2) (fs := (lFs a1 M)) (v := .int (M.1 (161 + 12 * a1 + 8))) X hP (lEx_s ha1) lR_s (rfl : vwCl[18]? = some (RX13, TX13, 5)) cinX13 (by decide) rfl rfl xw955 dX12_eats_4 ?_
    refine lv_icmp_ge (tgt := 53) hx hb dX12_eats_7 (by decide) (fun c1 => ?_) (fun c1 => ?_)
    · exact kZ12_eats_53 X hC ha1 hret (by omega) (ifp c1 hf) hP hS (lv_sub hl [0, 1] rfl)
    · exact kZ12_eats_10 X hC ha1 hret ih (by omega) (ifn c1 hf) hP hS (lv_sub hl [0, 1, 2] rfl)
set_option maxRecDepth 10000 in
theorem kZ12_eats_0 {S1 : XL} {M : XL} {H : Heap} {locs : List Loc} {ls : Array Slot} {cells slots : Nat} (X : gX p s m args c cX12_eats 4 RX12 (kR kTab kA)) (hC : lC C) {a1 : Nat} (ha1 : a1 < C.1.2.1) (hret : gRetVA p l e (rmL 4 0 0) s m args below meth c cX12_eats 0 0 (lΩ la C) (lP dC dI cg kA la iA C bs) Q S1) (hcs : cells + 0 ≤ 0 ∧ slots + 0 ≤ 0) (hf : fZ12_eats_0 C a1  M = some S1) (hP : (gF (lP dC dI cg kA la iA C bs) T0) M s H) (hS : va_S (Fr (lΩ la C) s.heap.size) s.heap H locs) (hl : lv_has ls 4 [(0, .ref (la 0)), (1, .ref (la (13 + a1)))]) : W p l e (rmL 4 0 0) s m args below meth c H locs cells slots Q (F0 m 0 ls []) := by
  have hx := X.hx
  have hb := X.hb
  rw [fZ12_eats_0] at hf
  refine lv_iconst (v := 0) hx hb dX12_eats_0 (by decide) ?_
  refine lv_istore_n (lv' := [(2, .int 0), (0, .ref (la 0)), (1, .ref (la (13 + a1)))]) hx hb dX12_eats_1 rfl hl (by decide) rfl (fun ls hl => ?_)
  exact kZ12_eats_2 X hC ha1 hret (by omega) FU _ 0 _ _ _ hf hP hS (lv_sub hl [1, 2, 0] rfl)
theorem vZ12_eats {l : Launch} {dC : Nat → ClassId} {dI : Nat → Nat → Nat} {cg : Nat → ClassId} {kA : String → Nat → Nat} {la iA : Nat → Nat} {C : LC} {bs : Nat} (hC : lC C) {M S1 : XL} {a1 : Nat} (ha1 : a1 < C.1.2.1) (hf : fZ12_eats C M a1  = some S1) : gMetVA l yX12_eats cX12_eats 4 4 0 0 (lΩ la C) (lP dC dI cg kA la iA C bs) (kR kTab kA) [.ref (la 0), .ref (la (13 + a1))] M S1 := gEntryVA (by decide) lOK0 (Nat.le_of_ble_eq_true rfl) (fun p e s m args below meth c Q ls X hP hS hret hl => 
  kZ12_eats_0 X hC ha1 hret ⟨Nat.le_of_ble_eq_true rfl, Nat.le_of_ble_eq_true rfl⟩ hf ⟨hP, trivial⟩ hS (lv_sub hl [0, 1] rfl))
set_option maxRecDepth 10000 in
theorem kZ12_hunts_76 {S1 : XL} {M : XL} {H : Heap} {locs : List Loc} {ls : Array Slot} {cells slots : Nat} (X : gX p s m args c cX12_hunts 4 RX12 (kR kTab kA)) (hC : lC C) (hret : gRetVA p l e (rmL 4 1 4) s m args below meth c cX12_hunts 1 4 (lΩ la C) (lP dC dI cg kA la iA C bs) Q S1) (hcs : cells + 0 ≤ 1 ∧ slots + 0 ≤ 4) (hf : fZ12_hunts_76 C  M = some S1) (hP : (gF (lP dC dI cg kA la iA C bs) T0) M s H) (hS : va_S (Fr (lΩ la C) s.heap.size) s.heap H locs) (hl : lv_has ls 4 [(0, .ref (la 0))]) : W p l e (rmL 4 1 4) s m args below meth c H locs cells slots Q (F0 m 76 ls []) := by
  have hx := X.hx
  have hb := X.hb
  rw [fZ12_hunts_76] at hf
  cases hf
  exact hret _ _ _ _ _ _ dX12_hunts_76 hP.1 hS (by omega) (by omega)
set_option maxRecDepth 10000 in
theorem kZ12_hunts_172 {S1 : XL} {M : XL} {H : Heap} {locs : List Loc} {ls : Array Slot} {cells slots : Nat} (X : gX p s m args c cX12_hunts 4 RX12 (kR kTab kA)) (hC : lC C) (hret : gRetVA p l e (rmL 4 1 4) s m args below meth c cX12_hunts 1 4 (lΩ la C) (lP dC dI cg kA la iA C bs) Q S1) (hcs : cells + 0 ≤ 1 ∧ slots + 0 ≤ 4) (hf : fZ12_hunts_172 C  M = some S1) (hP : (gF (lP dC dI cg kA la iA C bs) T0) M s H) (hS : va_S (Fr (lΩ la C) s.heap.size) s.heap H locs) (hl : lv_has ls 4 [(0, .ref (la 0))]) : W p l e (rmL 4 1 4) s m args below meth c H locs cells slots Q (F0 m 172 ls []) := by
  have hx := X.hx
  have hb := X.hb
  rw [fZ12_hunts_172] at hf
  cases hf
  exact hret _ _ _ _ _ _ dX12_hunts_172 hP.1 hS (by omega) (by omega)
set_option maxRecDepth 10000 in
theorem kZ12_hunts_164 {S1 : XL} {M : XL} {H : Heap} {locs : List Loc} {ls : Array Slot} {cells slots : Nat} (X : gX p s m args c cX12_hunts 4 RX12 (kR kTab kA)) (hC : lC C) (hret : gRetVA p l e (rmL 4 1 4) s m args below meth c cX12_hunts 1 4 (lΩ la C) (lP dC dI cg kA la iA C bs) Q S1) (hcs : cells + 0 ≤ 1 ∧ slots + 0 ≤ 4) (hf : fZ12_hunts_164 C  M = some S1) (hP : (gF (lP dC dI cg kA la iA C bs) T0) M s H) (hS : va_S (Fr (lΩ la C) s.heap.size) s.heap H locs) (hl : lv_has ls 4 [(0, .ref (la 0))]) : W p l e (rmL 4 1 4) s m args below meth c H locs cells slots Q (F0 m 164 ls []) := by
  have hx := X.hx
  have hb := X.hb
  rw [fZ12_hunts_164] at hf
  refine lv_aload_n hx hb dX12_hunts_164 rfl (lv_at hl 0 rfl) ?_
  refine lr_get (k := 4) (fs := (lF0 la M)) (v := va_rf (swA la (M.1 5))) X hP (lEx_l (by decide)) lR_0 (rfl : vwCl[17]? = some (RX12, TX12, 15)) cinX12 (by decide) rfl rfl tw888 dX12_hunts_165 ?_
  refine lv_iconst (v := 1) hx hb dX12_hunts_168 (by decide) ?_
  obtain ⟨g1, hf⟩ := gd hf
  rw [sw_ref g1.1]
  refine lr_putN (k := 6) (fs := (lFc (M.1 5).toNatClampNeg M)) (tyT := tyX11) (M.1, upd M.2 ((M.1 5).toNatClampNeg) 1) X T0_fs hP hS (lEx_c hC g1.2) (lR_c (lC_c hC g1.2)) (lc_6 (lC_c hC g1.2)) (fun p hp => luh (lC_c hC g1.2) hp) (rfl : vwCl[16]? = some (RX11, TX11, 7)) cinX11 tyX11_ok nmX11 (by decide) rfl rfl (by decide +kernel) (by decide +kernel) (Nat.le_of_ble_eq_true rfl) xw829 dX12_hunts_169 (fun H locs hP hS => ?_)
  exact kZ12_hunts_172 X hC hret (by omega) hf hP hS (lv_sub hl [0] rfl)
set_option maxRecDepth 10000 in
theorem kZ12_hunts_151 {S1 : XL} {M : XL} {H : Heap} {locs : List Loc} {ls : Array Slot} {cells slots : Nat} (X : gX p s m args c cX12_hunts 4 RX12 (kR kTab kA)) (hC : lC C) (hret : gRetVA p l e (rmL 4 1 4) s m args below meth c cX12_hunts 1 4 (lΩ la C) (lP dC dI cg kA la iA C bs) Q S1) (hcs : cells + 0 ≤ 1 ∧ slots + 0 ≤ 4) (hf : fZ12_hunts_151 C  M = some S1) (hP : (gF (lP dC dI cg kA la iA C bs) T0) M s H) (hS : va_S (Fr (lΩ la C) s.heap.size) s.heap H locs) (hl : lv_has ls 4 [(0, .ref (la 0))]) : W p l e (rmL 4 1 4) s m args below meth c H locs cells slots Q (F0 m 151 ls []) := by
  have hx := X.hx
  have hb := X.hb
  rw [fZ12_hunts_151] at hf
  refine lv_aload_n hx hb dX12_hunts_151 rfl (lv_at hl 0 rfl) ?_
  refine lr_get (k := 4) (fs := (lF0 la M)) (v := va_rf (swA la (M.1 5))) X hP (lEx_l (by decide)) lR_0 (rfl : vwCl[17]? = some (RX12, TX12, 15)) cinX12 (by decide) rfl rfl tw888 dX12_hunts_152 ?_
  obtain ⟨g1, hf⟩ := gd hf
  rw [sw_ref g1.1]
  refine lv_dup hx hb dX12_hunts_155 rfl ?_
  refine lr_getN (k := 2) (fs := (lFc (M.1 5).toNatClampNeg M)) (v := .int (M.1 (65 + 12 * (M.1 5).toNatClampNeg + 9))) X hP (lEx_c hC g1.2) (lR_c (lC_c hC g1.2)) (rfl : vwCl[16]? = some (RX11, TX11, 7)) cinX11 (by decide) rfl rfl xw821 dX12_hunts_156 ?_
  refine lv_iconst (v := 1) hx hb dX12_hunts_159 (by decide) ?_
  refine lv_iadd hx hb dX12_hunts_160 ?_
  refine lr_putN (k := 2) (fs := (lFc (M.1 5).toNatClampNeg M)) (tyT := tyX11) (upd M.1 (65 + 12 * (M.1 5).toNatClampNeg + 9) ((M.1 (65 + 12 * (M.1 5).toNatClampNeg + 9)) + 1), M.2) X T0_fs hP hS (lEx_c hC g1.2) (lR_c (lC_c hC g1.2)) (lc_2 (lC_c hC g1.2)) (fun p hp => luc (lC_c hC g1.2) (by decide) hp) (rfl : vwCl[16]? = some (RX11, TX11, 7)) cinX11 tyX11_ok nmX11 (by decide) rfl rfl rfl rfl (Nat.le_of_ble_eq_true rfl) xw821 dX12_hunts_161 (fun H locs hP hS => ?_)
  exact kZ12_hunts_164 X hC hret (by omega) hf hP hS (lv_sub hl [0] rfl)
set_option maxRecDepth 10000 in
theorem kZ12_hunts_139 {S1 : XL} {M : XL} {H : Heap} {locs : List Loc} {ls : Array Slot} {cells slots : Nat} (X : gX p s m args c cX12_hunts 4 RX12 (kR kTab kA)) (hC : lC C) (hret : gRetVA p l e (rmL 4 1 4) s m args below meth c cX12_hunts 1 4 (lΩ la C) (lP dC dI cg kA la iA C bs) Q S1) (hcs : cells + 0 ≤ 1 ∧ slots + 0 ≤ 4) (hf : fZ12_hunts_139 C  M = some S1) (hP : (gF (lP dC dI cg kA la iA C bs) T0) M s H) (hS : va_S (Fr (lΩ la C) s.heap.size) s.heap H locs) (hl : lv_has ls 4 [(0, .ref (la 0))]) : W p l e (rmL 4 1 4) s m args below meth c H locs cells slots Q (F0 m 139 ls []) := by
  have hx := X.hx
  have hb := X.hb
  rw [fZ12_hunts_139] at hf
  refine lv_aload_n hx hb dX12_hunts_139 rfl (lv_at hl 0 rfl) ?_
  refine lr_get (k := 4) (fs := (lF0 la M)) (v := va_rf (swA la (M.1 5))) X hP (lEx_l (by decide)) lR_0 (rfl : vwCl[17]? = some (RX12, TX12, 15)) cinX12 (by decide) rfl rfl tw888 dX12_hunts_140 ?_
  obtain ⟨g1, hf⟩ := gd hf
  rw [sw_ref g1.1]
  refine lr_getN (k := 2) (fs := (lFc (M.1 5).toNatClampNeg M)) (v := .int (M.1 (65 + 12 * (M.1 5).toNatClampNeg + 9))) X hP (lEx_c hC g1.2) (lR_c (lC_c hC g1.2)) (rfl : vwCl[16]? = some (RX11, TX11, 7)) cinX11 (by decide) rfl rfl xw821 dX12_hunts_143 ?_
  refine lv_bipush (v := 20) hx hb dX12_hunts_146 (by decide) ?_
  refine lv_icmp_ge (tgt := 164) hx hb dX12_hunts_148 (by decide) (fun c1 => ?_) (fun c1 => ?_)
  · exact kZ12_hunts_164 X hC hret (by omega) (ifp c1 hf) hP hS (lv_sub hl [0] rfl)
  · exact kZ12_hunts_151 X hC hret (by omega) (ifn c1 hf) hP hS (lv_sub hl [0] rfl)
set_option maxRecDepth 10000 in
theorem kZ12_hunts_129 {S1 : XL} {M : XL} {x2 : Int32} {H : Heap} {locs : List Loc} {ls : Array Slot} {cells slots : Nat} (X : gX p s m args c cX12_hunts 4 RX12 (kR kTab kA)) (hC : lC C) (hret : gRetVA p l e (rmL 4 1 4) s m args below meth c cX12_hunts 1 4 (lΩ la C) (lP dC dI cg kA la iA C bs) Q S1) (hcs : cells + 0 ≤ 1 ∧ slots + 0 ≤ 4) (hf : fZ12_hunts_129 C  M x2 = some S1) (hP : (gF (lP dC dI cg kA la iA C bs) T0) M s H) (hS : va_S (Fr (lΩ la C) s.heap.size) s.heap H locs) (hl : lv_has ls 4 [(0, .ref (la 0)), (2, .int x2)]) : W p l e (rmL 4 1 4) s m args below meth c H locs cells slots Q (F0 m 129 ls []) := by
  have hx := X.hx
  have hb := X.hb
  rw [fZ12_hunts_129] at hf
  refine lv_aload_n hx hb dX12_hunts_129 rfl (lv_at hl 0 rfl) ?_
  refine lv_dup hx hb dX12_hunts_130 rfl ?_
  refine lr_get (k := 9) (fs := (lF0 la M)) (v := .int (M.1 8)) X hP (lEx_l (by decide)) lR_0 (rfl : vwCl[17]? = some (RX12, TX12, 15)) cinX12 (by decide) rfl rfl tw898 dX12_hunts_131 ?_
  refine lv_iload_n hx hb dX12_hunts_134 rfl (lv_at hl 1 rfl) ?_
  refine lv_iadd hx hb dX12_hunts_135 ?_
  refine lr_put (k := 9) (fs := (lF0 la M)) (tyT := tyX12) (upd M.1 8 ((M.1 8) + x2), M.2) X T0_fs hP hS (lEx_l (by decide)) lR_0 rfl (fun p hp => lu0 (by decide) hp) (rfl : vwCl[17]? = some (RX12, TX12, 15)) cinX12 tyX12_ok nmX12 (by decide) rfl rfl rfl rfl (Nat.le_of_ble_eq_true rfl) tw898 dX12_hunts_136 (fun H locs hP hS => ?_)
  exact kZ12_hunts_139 X hC hret (by omega) hf hP hS (lv_sub hl [0] rfl)
set_option maxRecDepth 10000 in
theorem kZ12_hunts_116 {S1 : XL} {M : XL} {x2 : Int32} {H : Heap} {locs : List Loc} {ls : Array Slot} {cells slots : Nat} (X : gX p s m args c cX12_hunts 4 RX12 (kR kTab kA)) (hC : lC C) (hret : gRetVA p l e (rmL 4 1 4) s m args below meth c cX12_hunts 1 4 (lΩ la C) (lP dC dI cg kA la iA C bs) Q S1) (hcs : cells + 0 ≤ 1 ∧ slots + 0 ≤ 4) (hf : fZ12_hunts_116 C  M x2 = some S1) (hP : (gF (lP dC dI cg kA la iA C bs) T0) M s H) (hS : va_S (Fr (lΩ la C) s.heap.size) s.heap H locs) (hl : lv_has ls 4 [(0, .ref (la 0)), (2, .int x2)]) : W p l e (rmL 4 1 4) s m args below meth c H locs cells slots Q (F0 m 116 ls []) := by
  have hx := X.hx
  have hb := X.hb
  rw [fZ12_hunts_116] at hf
  refine lv_aload_n hx hb dX12_hunts_116 rfl (lv_at hl 0 rfl) ?_
  refine lr_get (k := 4) (fs := (lF0 la M)) (v := va_rf (swA la (M.1 5))) X hP (lEx_l (by decide)) lR_0 (rfl : vwCl[17]? = some (RX12, TX12, 15)) cinX12 (by decide) rfl rfl tw888 dX12_hunts_117 ?_
  obtain ⟨g1, hf⟩ := gd hf
  rw [sw_ref g1.1]
  refine lv_dup hx hb dX12_hunts_120 rfl ?_
  refine lr_getN (k := 3) (fs := (lFc (M.1 5).toNatClampNeg M)) (v := .int (M.1 (65 + 12 * (M.1 5).toNatClampNeg + 10))) X hP (lEx_c hC g1.2) (lR_c (lC_c hC g1.2)) (rfl : vwCl[16]? = some (RX11, TX11, 7)) cinX11 (by decide) rfl rfl xw823 dX12_hunts_121 ?_
  refine lv_iload_n hx hb dX12_hunts_124 rfl (lv_at hl 1 rfl) ?_
  refine lv_iadd hx hb dX12_hunts_125 ?_
  refine lr_putN (k := 3) (fs := (lFc (M.1 5).toNatClampNeg M)) (tyT := tyX11) (upd M.1 (65 + 12 * (M.1 5).toNatClampNeg + 10) ((M.1 (65 + 12 * (M.1 5).toNatClampNeg + 10)) + x2), M.2) X T0_fs hP hS (lEx_c hC g1.2) (lR_c (lC_c hC g1.2)) (lc_3 (lC_c hC g1.2)) (fun p hp => luc (lC_c hC g1.2) (by decide) hp) (rfl : vwCl[16]? = some (RX11, TX11, 7)) cinX11 tyX11_ok nmX11 (by decide) rfl rfl rfl rfl (Nat.le_of_ble_eq_true rfl) xw823 dX12_hunts_126 (fun H locs hP hS => ?_)
  exact kZ12_hunts_129 X hC hret (by omega) hf hP hS (lv_sub hl [0, 1] rfl)
set_option maxRecDepth 10000 in
theorem kZ12_hunts_105 {S1 : XL} {M : XL} {z1 : Nat} {s0 : Int32} {H : Heap} {locs : List Loc} {ls : Array Slot} {cells slots : Nat} (X : gX p s m args c cX12_hunts 4 RX12 (kR kTab kA)) (hC : lC C) (hret : gRetVA p l e (rmL 4 1 4) s m args below meth c cX12_hunts 1 4 (lΩ la C) (lP dC dI cg kA la iA C bs) Q S1) (hcs : cells + 0 ≤ 1 ∧ slots + 0 ≤ 4) (hf : fZ12_hunts_105 C  M z1 s0 = some S1) (hP : (gF (lP dC dI cg kA la iA C bs) T0) M s H) (hS : va_S (Fr (lΩ la C) s.heap.size) s.heap H locs) (hl : lv_has ls 4 [(0, .ref (la 0)), (1, va_rf (zA la z1))]) : W p l e (rmL 4 1 4) s m args below meth c H locs cells slots Q (F0 m 105 ls [.int s0]) := by
  have hx := X.hx
  have hb := X.hb
  rw [fZ12_hunts_105] at hf
  refine lv_istore_n (lv' := [(2, .int s0), (0, .ref (la 0)), (1, va_rf (zA la z1))]) hx hb dX12_hunts_105 rfl hl (by decide) (by cases z1 <;> rfl) (fun ls hl => ?_)
  refine lz_aload_n hx hb dX12_hunts_106 rfl (lv_at hl 2 rfl) ?_
  obtain ⟨g1, hf⟩ := gd hf
  rw [z_ref g1.1]
  refine lv_dup hx hb dX12_hunts_107 rfl ?_
  refine lr_getN (k := 2) (fs := (lFs (z1 - 1) M)) (v := .int (M.1 (161 + 12 * (z1 - 1) + 8))) X hP (lEx_s g1.2) lR_s (rfl : vwCl[18]? = some (RX13, TX13, 5)) cinX13 (by decide) rfl rfl xw955 dX12_hunts_108 ?_
  refine lv_iload_n hx hb dX12_hunts_111 rfl (lv_at hl 0 rfl) ?_
  refine lv_isub hx hb dX12_hunts_112 ?_
  refine lr_putN (k := 2) (fs := (lFs (z1 - 1) M)) (tyT := tyX13) (upd M.1 (161 + 12 * (z1 - 1) + 8) ((M.1 (161 + 12 * (z1 - 1) + 8)) - s0), M.2) X T0_fs hP hS (lEx_s g1.2) lR_s ls_2 (fun p hp => lus (by decide) hp) (rfl : vwCl[18]? = some (RX13, TX13, 5)) cinX13 tyX13_ok nmX13 (by decide) rfl rfl rfl rfl (Nat.le_of_ble_eq_true rfl) xw955 dX12_hunts_113 (fun H locs hP hS => ?_)
  exact kZ12_hunts_116 X hC hret (by omega) hf hP hS (lv_sub hl [1, 0] rfl)
set_option maxRecDepth 10000 in
theorem kZ12_hunts_101 {S1 : XL} {M : XL} {z1 : Nat} {H : Heap} {locs : List Loc} {ls : Array Slot} {cells slots : Nat} (X : gX p s m args c cX12_hunts 4 RX12 (kR kTab kA)) (hC : lC C) (hret : gRetVA p l e (rmL 4 1 4) s m args below meth c cX12_hunts 1 4 (lΩ la C) (lP dC dI cg kA la iA C bs) Q S1) (hcs : cells + 0 ≤ 1 ∧ slots + 0 ≤ 4) (hf : fZ12_hunts_101 C  M z1 = some S1) (hP : (gF (lP dC dI cg kA la iA C bs) T0) M s H) (hS : va_S (Fr (lΩ la C) s.heap.size) s.heap H locs) (hl : lv_has ls 4 [(0, .ref (la 0)), (1, va_rf (zA la z1))]) : W p l e (rmL 4 1 4) s m args below meth c H locs cells slots Q (F0 m 101 ls []) := by
  have hx := X.hx
  have hb := X.hb
  rw [fZ12_hunts_101] at hf
  refine lz_aload_n hx hb dX12_hunts_101 rfl (lv_at hl 1 rfl) ?_
  obtain ⟨g1, hf⟩ := gd hf
  rw [z_ref g1.1]
  refine lr_getN (k := 2) (fs := (lFs (z1 - 1) M)) (v := .int (M.1 (161 + 12 * (z1 - 1) + 8))) X hP (lEx_s g1.2) lR_s (rfl : vwCl[18]? = some (RX13, TX13, 5)) cinX13 (by decide) rfl rfl xw955 dX12_hunts_102 ?_
  exact kZ12_hunts_105 X hC hret (by omega) hf hP hS (lv_sub hl [0, 1] rfl)
set_option maxRecDepth 10000 in
theorem kZ12_hunts_98 {S1 : XL} {M : XL} {z1 : Nat} {s0 : Int32} {H : Heap} {locs : List Loc} {ls : Array Slot} {cells slots : Nat} (X : gX p s m args c cX12_hunts 4 RX12 (kR kTab kA)) (hC : lC C) (hret : gRetVA p l e (rmL 4 1 4) s m args below meth c cX12_hunts 1 4 (lΩ la C) (lP dC dI cg kA la iA C bs) Q S1) (hcs : cells + 0 ≤ 1 ∧ slots + 0 ≤ 4) (hf : fZ12_hunts_98 C  M z1 s0 = some S1) (hP : (gF (lP dC dI cg kA la iA C bs) T0) M s H) (hS : va_S (Fr (lΩ la C) s.heap.size) s.heap H locs) (hl : lv_has ls 4 [(0, .ref (la 0)), (1, va_rf (zA la z1))]) : W p l e (rmL 4 1 4) s m args below meth c H locs cells slots Q (F0 m 98 ls [.int s0]) := by
  have hx := X.hx
  have hb := X.hb
  rw [fZ12_hunts_98] at hf
  refine lv_goto (tgt := 105) hx hb dX12_hunts_98 (by decide) ?_
  exact kZ12_hunts_105 X hC hret (by omega) hf hP hS (lv_sub hl [0, 1] rfl)
set_option maxRecDepth 10000 in
theorem kZ12_hunts_91 {S1 : XL} {M : XL} {z1 : Nat} {H : Heap} {locs : List Loc} {ls : Array Slot} {cells slots : Nat} (X : gX p s m args c cX12_hunts 4 RX12 (kR kTab kA)) (hC : lC C) (hret : gRetVA p l e (rmL 4 1 4) s m args below meth c cX12_hunts 1 4 (lΩ la C) (lP dC dI cg kA la iA C bs) Q S1) (hcs : cells + 0 ≤ 1 ∧ slots + 0 ≤ 4) (hf : fZ12_hunts_91 C  M z1 = some S1) (hP : (gF (lP dC dI cg kA la iA C bs) T0) M s H) (hS : va_S (Fr (lΩ la C) s.heap.size) s.heap H locs) (hl : lv_has ls 4 [(0, .ref (la 0)), (1, va_rf (zA la z1))]) : W p l e (rmL 4 1 4) s m args below meth c H locs cells slots Q (F0 m 91 ls []) := by
  have hx := X.hx
  have hb := X.hb
  rw [fZ12_hunts_91] at hf
  refine lv_aload_n hx hb dX12_hunts_91 rfl (lv_at hl 0 rfl) ?_
  refine lr_get (k := 4) (fs := (lF0 la M)) (v := va_rf (swA la (M.1 5))) X hP (lEx_l (by decide)) lR_0 (rfl : vwCl[17]? = some (RX12, TX12, 15)) cinX12 (by decide) rfl rfl tw888 dX12_hunts_92 ?_
  obtain ⟨g1, hf⟩ := gd hf
  rw [sw_ref g1.1]
  obtain ⟨q, hc, hf⟩ := bd hf
  refine gCallWI X (lOK T0_fs) (((vZ11_strength hC g1.2 hc)).lift T0_fs) (cw_V 0 X g5_RX12_X11_strength hd5_X11_strength ⟨by decide, by decide⟩) rfl hP hS (Fr_le hS.1) (lr_rec hP (lEx_c hC g1.2) (lR_c (lC_c hC g1.2)) (rfl : vwCl[16]? = some (RX11, TX11, 7))) hl.1 (Nat.le_of_ble_eq_true rfl) ⟨by show _ + 0 ≤ 1; omega, by show _ + 0 ≤ 4; omega⟩ dX12_hunts_95 (As := []) (rest := []) rfl (fun H locs hP hS => ?_)
  exact kZ12_hunts_98 X hC hret (by omega) hf hP hS (lv_sub hl [0, 1] rfl)
set_option maxRecDepth 10000 in
theorem kZ12_hunts_84 {S1 : XL} {M : XL} {z1 : Nat} {s0 : Int32} {H : Heap} {locs : List Loc} {ls : Array Slot} {cells slots : Nat} (X : gX p s m args c cX12_hunts 4 RX12 (kR kTab kA)) (hC : lC C) (hret : gRetVA p l e (rmL 4 1 4) s m args below meth c cX12_hunts 1 4 (lΩ la C) (lP dC dI cg kA la iA C bs) Q S1) (hcs : cells + 0 ≤ 1 ∧ slots + 0 ≤ 4) (hf : fZ12_hunts_84 C  M z1 s0 = some S1) (hP : (gF (lP dC dI cg kA la iA C bs) T0) M s H) (hS : va_S (Fr (lΩ la C) s.heap.size) s.heap H locs) (hl : lv_has ls 4 [(0, .ref (la 0)), (1, va_rf (zA la z1))]) : W p l e (rmL 4 1 4) s m args below meth c H locs cells slots Q (F0 m 84 ls [.int s0]) := by
  have hx := X.hx
  have hb := X.hb
  rw [fZ12_hunts_84] at hf
  refine lz_aload_n hx hb dX12_hunts_84 rfl (lv_at hl 1 rfl) ?_
  obtain ⟨g1, hf⟩ := gd hf
  rw [z_ref g1.1]
  refine lr_getN (k := 2) (fs := (lFs (z1 - 1) M)) (v := .int (M.1 (161 + 12 * (z1 - 1) + 8))) X hP (lEx_s g1.2) lR_s (rfl : vwCl[18]? = some (RX13, TX13, 5)) cinX13 (by decide) rfl rfl xw955 dX12_hunts_85 ?_
  refine lv_icmp_ge (tgt := 101) hx hb dX12_hunts_88 (by decide) (fun c1 => ?_) (fun c1 => ?_)
  · exact kZ12_hunts_101 X hC hret (by omega) (ifp c1 hf) hP hS (lv_sub hl [0, 1] rfl)
  · exact kZ12_hunts_91 X hC hret (by omega) (ifn c1 hf) hP hS (lv_sub hl [0, 1] rfl)
set_option maxRecDepth 10000 in
theorem kZ12_hunts_77 {S1 : XL} {M : XL} {z1 : Nat} {H : Heap} {locs : List Loc} {ls : Array Slot} {cells slots : Nat} (X : gX p s m args c cX12_hunts 4 RX12 (kR kTab kA)) (hC : lC C) (hret : gRetVA p l e (rmL 4 1 4) s m args below meth c cX12_hunts 1 4 (lΩ la C) (lP dC dI cg kA la iA C bs) Q S1) (hcs : cells + 0 ≤ 1 ∧ slots + 0 ≤ 4) (hf : fZ12_hunts_77 C  M z1 = some S1) (hP : (gF (lP dC dI cg kA la iA C bs) T0) M s H) (hS : va_S (Fr (lΩ la C) s.heap.size) s.heap H locs) (hl : lv_has ls 4 [(0, .ref (la 0)), (1, va_rf (zA la z1))]) : W p l e (rmL 4 1 4) s m args below meth c H locs cells slots Q (F0 m 77 ls []) := by
  have hx := X.hx
  have hb := X.hb
  rw [fZ12_hunts_77] at hf
  refine lv_aload_n hx hb dX12_hunts_77 rfl (lv_at hl 0 rfl) ?_
  refine lr_get (k := 4) (fs := (lF0 la M)) (v := va_rf (swA la (M.1 5))) X hP (lEx_l (by decide)) lR_0 (rfl : vwCl[17]? = some (RX12, TX12, 15)) cinX12 (by decide) rfl rfl tw888 dX12_hunts_78 ?_
  obtain ⟨g1, hf⟩ := gd hf
  rw [sw_ref g1.1]
  obtain ⟨q, hc, hf⟩ := bd hf
  refine gCallWI X (lOK T0_fs) (((vZ11_strength hC g1.2 hc)).lift T0_fs) (cw_V 0 X g5_RX12_X11_strength hd5_X11_strength ⟨by decide, by decide⟩) rfl hP hS (Fr_le hS.1) (lr_rec hP (lEx_c hC g1.2) (lR_c (lC_c hC g1.2)) (rfl : vwCl[16]? = some (RX11, TX11, 7))) hl.1 (Nat.le_of_ble_eq_true rfl) ⟨by show _ + 0 ≤ 1; omega, by show _ + 0 ≤ 4; omega⟩ dX12_hunts_81 (As := []) (rest := []) rfl (fun H locs hP hS => ?_)
  exact kZ12_hunts_84 X hC hret (by omega) hf hP hS (lv_sub hl [0, 1] rfl)
set_option maxRecDepth 10000 in
theorem kZ12_hunts_72 {S1 : XL} {M : XL} {z1 : Nat} {H : Heap} {locs : List Loc} {ls : Array Slot} {cells slots : Nat} (X : gX p s m args c cX12_hunts 4 RX12 (kR kTab kA)) (hC : lC C) (hret : gRetVA p l e (rmL 4 1 4) s m args below meth c cX12_hunts 1 4 (lΩ la C) (lP dC dI cg kA la iA C bs) Q S1) (hcs : cells + 0 ≤ 1 ∧ slots + 0 ≤ 4) (hf : fZ12_hunts_72 C  M z1 = some S1) (hP : (gF (lP dC dI cg kA la iA C bs) T0) M s H) (hS : va_S (Fr (lΩ la C) s.heap.size) s.heap H locs) (hl : lv_has ls 4 [(0, .ref (la 0)), (1, va_rf (zA la z1))]) : W p l e (rmL 4 1 4) s m args below meth c H locs cells slots Q (F0 m 72 ls []) := by
  have hx := X.hx
  have hb := X.hb
  rw [fZ12_hunts_72] at hf
  refine lz_aload_n hx hb dX12_hunts_72 rfl (lv_at hl 1 rfl) ?_
  by_cases c1 : z1 = 0
  · rw [z_null c1]
    refine lv_ifnonnullN hx hb dX12_hunts_73 ?_
    exact kZ12_hunts_76 X hC hret (by omega) (ifp c1 hf) hP hS (lv_sub hl [0] rfl)
  · rw [z_ref c1]
    refine lv_ifnonnull (tgt := 77) hx hb dX12_hunts_73 (by decide) ?_
    exact kZ12_hunts_77 X hC hret (by omega) (ifn c1 hf) hP hS (lv_sub hl [0, 1] rfl)
set_option maxRecDepth 10000 in
theorem kZ12_hunts_65 {S1 : XL} {M : XL} {z1 : Nat} {H : Heap} {locs : List Loc} {ls : Array Slot} {cells slots : Nat} (X : gX p s m args c cX12_hunts 4 RX12 (kR kTab kA)) (hC : lC C) (hret : gRetVA p l e (rmL 4 1 4) s m args below meth c cX12_hunts 1 4 (lΩ la C) (lP dC dI cg kA la iA C bs) Q S1) (hcs : cells + 0 ≤ 1 ∧ slots + 0 ≤ 4) (hf : fZ12_hunts_65 C  M z1 = some S1) (hP : (gF (lP dC dI cg kA la iA C bs) T0) M s H) (hS : va_S (Fr (lΩ la C) s.heap.size) s.heap H locs) (hl : lv_has ls 4 [(0, .ref (la 0)), (1, va_rf (zA la z1))]) : W p l e (rmL 4 1 4) s m args below meth c H locs cells slots Q (F0 m 65 ls []) := by
  have hx := X.hx
  have hb := X.hb
  rw [fZ12_hunts_65] at hf
  refine lv_aload_n hx hb dX12_hunts_65 rfl (lv_at hl 0 rfl) ?_
  refine lr_get (k := 4) (fs := (lF0 la M)) (v := va_rf (swA la (M.1 5))) X hP (lEx_l (by decide)) lR_0 (rfl : vwCl[17]? = some (RX12, TX12, 15)) cinX12 (by decide) rfl rfl tw888 dX12_hunts_66 ?_
  by_cases c1 : (M.1 5) = -1
  · rw [sw_null c1]
    refine lv_ifnullN (tgt := 76) hx hb dX12_hunts_69 (by decide) ?_
    exact kZ12_hunts_76 X hC hret (by omega) (ifp c1 hf) hP hS (lv_sub hl [0] rfl)
  · rw [sw_ref c1]
    refine lv_ifnull hx hb dX12_hunts_69 ?_
    exact kZ12_hunts_72 X hC hret (by omega) (ifn c1 hf) hP hS (lv_sub hl [0, 1] rfl)
set_option maxRecDepth 10000 in
theorem kZ12_hunts_62 {S1 : XL} {K12 : XL → Nat → Nat → Option (XL)} {M : XL} {z1 : Nat} {ic : Nat} {H : Heap} {locs : List Loc} {ls : Array Slot} {cells slots : Nat} (X : gX p s m args c cX12_hunts 4 RX12 (kR kTab kA)) (hC : lC C) {ai : Nat} (hai : itOK la C bs s.heap.size ai) (hret : gRetVA p l e (rmL 4 1 4) s m args below meth c cX12_hunts 1 4 (lΩ la C) (lP dC dI cg kA la iA C bs) Q S1) (hK12 : ∀ (M : XL) (z1 : Nat) (ic : Nat) (H : Heap) (locs : List Loc) (ls : Array Slot), K12 M z1 ic = some S1 → (ic ≤ lNum C 3) → (gF (lP dC dI cg kA la iA C bs) (itF dC dI ai (la 3) (lNum C 3) ic)) M s H → va_S (Fr (lΩ la C) s.heap.size) s.heap H locs → lv_has ls 4 [(0, .ref (la 0)), (1, va_rf (zA la z1)), (2, .ref ai)] → W p l e (rmL 4 1 4) s m args below meth c H locs cells slots Q (F0 m 12 ls [])) (hcs : cells + 0 ≤ 1 ∧ slots + 0 ≤ 4) (hf : fZ12_hunts_62 C K12  M z1 ic = some S1) (hic : ic ≤ lNum C 3) (hP : (gF (lP dC dI cg kA la iA C bs) (itF dC dI ai (la 3) (lNum C 3) ic)) M s H) (hS : va_S (Fr (lΩ la C) s.heap.size) s.heap H locs) (hl : lv_has ls 4 [(0, .ref (la 0)), (1, va_rf (zA la z1)), (2, .ref ai)]) : W p l e (rmL 4 1 4) s m args below meth c H locs cells slots Q (F0 m 62 ls []) := by
  have hx := X.hx
  have hb := X.hb
  rw [fZ12_hunts_62] at hf
  refine lv_goto (tgt := 12) hx hb dX12_hunts_62 (by decide) ?_
  exact hK12 _ z1 ic _ _ _ hf hic hP hS (lv_sub hl [0, 1, 2] rfl)
set_option maxRecDepth 10000 in
theorem kZ12_hunts_60 {S1 : XL} {K12 : XL → Nat → Nat → Option (XL)} {M : XL} {ic : Nat} {p3 : Nat} {H : Heap} {locs : List Loc} {ls : Array Slot} {cells slots : Nat} (X : gX p s m args c cX12_hunts 4 RX12 (kR kTab kA)) (hC : lC C) {ai : Nat} (hai : itOK la C bs s.heap.size ai) (hret : gRetVA p l e (rmL 4 1 4) s m args below meth c cX12_hunts 1 4 (lΩ la C) (lP dC dI cg kA la iA C bs) Q S1) (hK12 : ∀ (M : XL) (z1 : Nat) (ic : Nat) (H : Heap) (locs : List Loc) (ls : Array Slot), K12 M z1 ic = some S1 → (ic ≤ lNum C 3) → (gF (lP dC dI cg kA la iA C bs) (itF dC dI ai (la 3) (lNum C 3) ic)) M s H → va_S (Fr (lΩ la C) s.heap.size) s.heap H locs → lv_has ls 4 [(0, .ref (la 0)), (1, va_rf (zA la z1)), (2, .ref ai)] → W p l e (rmL 4 1 4) s m args below meth c H locs cells slots Q (F0 m 12 ls [])) (hcs : cells + 0 ≤ 1 ∧ slots + 0 ≤ 4) (hf : fZ12_hunts_60 C K12  M ic p3 = some S1) (hic : ic ≤ lNum C 3) (hp3 : p3 < C.1.2.1) (hP : (gF (lP dC dI cg kA la iA C bs) (itF dC dI ai (la 3) (lNum C 3) ic)) M s H) (hS : va_S (Fr (lΩ la C) s.heap.size) s.heap H locs) (hl : lv_has ls 4 [(0, .ref (la 0)), (2, .ref ai), (3, .ref (la (13 + p3)))]) : W p l e (rmL 4 1 4) s m args below meth c H locs cells slots Q (F0 m 60 ls []) := by
  have hx := X.hx
  have hb := X.hb
  rw [fZ12_hunts_60] at hf
  refine lv_aload_n hx hb dX12_hunts_60 rfl (lv_at hl 2 rfl) ?_
  refine lv_astore_n (lv' := [(1, .ref (la (13 + p3))), (0, .ref (la 0)), (2, .ref ai), (3, .ref (la (13 + p3)))]) hx hb dX12_hunts_61 rfl hl (by decide) rfl (fun ls hl => ?_)
  exact kZ12_hunts_62 X hC hai hret hK12 (by omega) hf hic hP hS (lv_sub hl [1, 0, 2] rfl)
set_option maxRecDepth 10000 in
theorem kZ12_hunts_49 {S1 : XL} {K12 : XL → Nat → Nat → Option (XL)} {M : XL} {z1 : Nat} {ic : Nat} {p3 : Nat} {H : Heap} {locs : List Loc} {ls : Array Slot} {cells slots : Nat} (X : gX p s m args c cX12_hunts 4 RX12 (kR kTab kA)) (hC : lC C) {ai : Nat} (hai : itOK la C bs s.heap.size ai) (hret : gRetVA p l e (rmL 4 1 4) s m args below meth c cX12_hunts 1 4 (lΩ la C) (lP dC dI cg kA la iA C bs) Q S1) (hK12 : ∀ (M : XL) (z1 : Nat) (ic : Nat) (H : Heap) (locs : List Loc) (ls : Array Slot), K12 M z1 ic = some S1 → (ic ≤ lNum C 3) → (gF (lP dC dI cg kA la iA C bs) (itF dC dI ai (la 3) (lNum C 3) ic)) M s H → va_S (Fr (lΩ la C) s.heap.size) s.heap H locs → lv_has ls 4 [(0, .ref (la 0)), (1, va_rf (zA la z1)), (2, .ref ai)] → W p l e (rmL 4 1 4) s m args below meth c H locs cells slots Q (F0 m 12 ls [])) (hcs : cells + 0 ≤ 1 ∧ slots + 0 ≤ 4) (hf : fZ12_hunts_49 C K12  M z1 ic p3 = some S1) (hic : ic ≤ lNum C 3) (hp3 : p3 < C.1.2.1) (hP : (gF (lP dC dI cg kA la iA C bs) (itF dC dI ai (la 3) (lNum C 3) ic)) M s H) (hS : va_S (Fr (lΩ la C) s.heap.size) s.heap H locs) (hl : lv_has ls 4 [(0, .ref (la 0)), (1, va_rf (zA la z1)), (2, .ref ai), (3, .ref (la (13 + p3)))]) : W p l e (rmL 4 1 4) s m args below meth c H locs cells slots Q (F0 m 49 ls []) := by
  have hx := X.hx
  have hb := X.hb
  rw [fZ12_hunts_49] at hf
  refine lv_aload_n hx hb dX12_hunts_49 rfl (lv_at hl 3 rfl) ?_
  refine lr_getN (k := 2) (fs := (lFs p3 M)) (v := .int (M.1 (161 + 12 * p3 + 8))) X hP (lEx_s hp3) lR_s (rfl : vwCl[18]? = some (RX13, TX13, 5)) cinX13 (by decide) rfl rfl xw955 dX12_hunts_50 ?_
  refine lz_aload_n hx hb dX12_hunts_53 rfl (lv_at hl 1 rfl) ?_
  obtain ⟨g1, hf⟩ := gd hf
  rw [z_ref g1.1]
  refine lr_getN (k := 2) (fs := (lFs (z1 - 1) M)) (v := .int (M.1 (161 + 12 * (z1 - 1) + 8))) X hP (lEx_s g1.2) lR_s (rfl : vwCl[18]? = some (RX13, TX13, 5)) cinX13 (by decide) rfl rfl xw955 dX12_hunts_54 ?_
  refine lv_icmp_le (tgt := 62) hx hb dX12_hunts_57 (by decide) (fun c1 => ?_) (fun c1 => ?_)
  · exact kZ12_hunts_62 X hC hai hret hK12 (by omega) (ifp c1 hf) hic hP hS (lv_sub hl [0, 1, 2] rfl)
  · exact kZ12_hunts_60 X hC hai hret hK12 (by omega) (ifn c1 hf) hic hp3 hP hS (lv_sub hl [0, 2, 3] rfl)
set_option maxRecDepth 10000 in
theorem kZ12_hunts_45 {S1 : XL} {K12 : XL → Nat → Nat → Option (XL)} {M : XL} {z1 : Nat} {ic : Nat} {p3 : Nat} {H : Heap} {locs : List Loc} {ls : Array Slot} {cells slots : Nat} (X : gX p s m args c cX12_hunts 4 RX12 (kR kTab kA)) (hC : lC C) {ai : Nat} (hai : itOK la C bs s.heap.size ai) (hret : gRetVA p l e (rmL 4 1 4) s m args below meth c cX12_hunts 1 4 (lΩ la C) (lP dC dI cg kA la iA C bs) Q S1) (hK12 : ∀ (M : XL) (z1 : Nat) (ic : Nat) (H : Heap) (locs : List Loc) (ls : Array Slot), K12 M z1 ic = some S1 → (ic ≤ lNum C 3) → (gF (lP dC dI cg kA la iA C bs) (itF dC dI ai (la 3) (lNum C 3) ic)) M s H → va_S (Fr (lΩ la C) s.heap.size) s.heap H locs → lv_has ls 4 [(0, .ref (la 0)), (1, va_rf (zA la z1)), (2, .ref ai)] → W p l e (rmL 4 1 4) s m args below meth c H locs cells slots Q (F0 m 12 ls [])) (hcs : cells + 0 ≤ 1 ∧ slots + 0 ≤ 4) (hf : fZ12_hunts_45 C K12  M z1 ic p3 = some S1) (hic : ic ≤ lNum C 3) (hp3 : p3 < C.1.2.1) (hP : (gF (lP dC dI cg kA la iA C bs) (itF dC dI ai (la 3) (lNum C 3) ic)) M s H) (hS : va_S (Fr (lΩ la C) s.heap.size) s.heap H locs) (hl : lv_has ls 4 [(0, .ref (la 0)), (1, va_rf (zA la z1)), (2, .ref ai), (3, .ref (la (13 + p3)))]) : W p l e (rmL 4 1 4) s m args below meth c H locs cells slots Q (F0 m 45 ls []) := by
  have hx := X.hx
  have hb := X.hb
  rw [fZ12_hunts_45] at hf
  refine lz_aload_n hx hb dX12_hunts_45 rfl (lv_at hl 1 rfl) ?_
  by_cases c1 : z1 = 0
  · rw [z_null c1]
    refine lv_ifnullN (tgt := 60) hx hb dX12_hunts_46 (by decide) ?_
    exact kZ12_hunts_60 X hC hai hret hK12 (by omega) (ifp c1 hf) hic hp3 hP hS (lv_sub hl [0, 2, 3] rfl)
  · rw [z_ref c1]
    refine lv_ifnull hx hb dX12_hunts_46 ?_
    exact kZ12_hunts_49 X hC hai hret hK12 (by omega) (ifn c1 hf) hic hp3 hP hS (lv_sub hl [0, 1, 2, 3] rfl)
set_option maxRecDepth 10000 in
theorem kZ12_hunts_38 {S1 : XL} {K12 : XL → Nat → Nat → Option (XL)} {M : XL} {z1 : Nat} {ic : Nat} {p3 : Nat} {H : Heap} {locs : List Loc} {ls : Array Slot} {cells slots : Nat} (X : gX p s m args c cX12_hunts 4 RX12 (kR kTab kA)) (hC : lC C) {ai : Nat} (hai : itOK la C bs s.heap.size ai) (hret : gRetVA p l e (rmL 4 1 4) s m args below meth c cX12_hunts 1 4 (lΩ la C) (lP dC dI cg kA la iA C bs) Q S1) (hK12 : ∀ (M : XL) (z1 : Nat) (ic : Nat) (H : Heap) (locs : List Loc) (ls : Array Slot), K12 M z1 ic = some S1 → (ic ≤ lNum C 3) → (gF (lP dC dI cg kA la iA C bs) (itF dC dI ai (la 3) (lNum C 3) ic)) M s H → va_S (Fr (lΩ la C) s.heap.size) s.heap H locs → lv_has ls 4 [(0, .ref (la 0)), (1, va_rf (zA la z1)), (2, .ref ai)] → W p l e (rmL 4 1 4) s m args below meth c H locs cells slots Q (F0 m 12 ls [])) (hcs : cells + 0 ≤ 1 ∧ slots + 0 ≤ 4) (hf : fZ12_hunts_38 C K12  M z1 ic p3 = some S1) (hic : ic ≤ lNum C 3) (hp3 : p3 < C.1.2.1) (hP : (gF (lP dC dI cg kA la iA C bs) (itF dC dI ai (la 3) (lNum C 3) ic)) M s H) (hS : va_S (Fr (lΩ la C) s.heap.size) s.heap H locs) (hl : lv_has ls 4 [(0, .ref (la 0)), (1, va_rf (zA la z1)), (2, .ref ai), (3, .ref (la (13 + p3)))]) : W p l e (rmL 4 1 4) s m args below meth c H locs cells slots Q (F0 m 38 ls []) := by
  have hx := X.hx
  have hb := X.hb
  rw [fZ12_hunts_38] at hf
  refine lv_aload_n hx hb dX12_hunts_38 rfl (lv_at hl 3 rfl) ?_
  refine lr_getN (k := 2) (fs := (lFs p3 M)) (v := .int (M.1 (161 + 12 * p3 + 8))) X hP (lEx_s hp3) lR_s (rfl : vwCl[18]? = some (RX13, TX13, 5)) cinX13 (by decide) rfl rfl xw955 dX12_hunts_39 ?_
  refine lv_if_le (tgt := 62) hx hb dX12_hunts_42 (by decide) (fun c1 => ?_) (fun c1 => ?_)
  · exact kZ12_hunts_62 X hC hai hret hK12 (by omega) (ifp c1 hf) hic hP hS (lv_sub hl [0, 1, 2] rfl)
  · exact kZ12_hunts_45 X hC hai hret hK12 (by omega) (ifn c1 hf) hic hp3 hP hS (lv_sub hl [0, 1, 2, 3] rfl)
set_option maxRecDepth 10000 in
theorem kZ12_hunts_27 {S1 : XL} {K12 : XL → Nat → Nat → Option (XL)} {M : XL} {z1 : Nat} {ic : Nat} {ps0 : Nat} {H : Heap} {locs : List Loc} {ls : Array Slot} {cells slots : Nat} (X : gX p s m args c cX12_hunts 4 RX12 (kR kTab kA)) (hC : lC C) {ai : Nat} (hai : itOK la C bs s.heap.size ai) (hret : gRetVA p l e (rmL 4 1 4) s m args below meth c cX12_hunts 1 4 (lΩ la C) (lP dC dI cg kA la iA C bs) Q S1) (hK12 : ∀ (M : XL) (z1 : Nat) (ic : Nat) (H : Heap) (locs : List Loc) (ls : Array Slot), K12 M z1 ic = some S1 → (ic ≤ lNum C 3) → (gF (lP dC dI cg kA la iA C bs) (itF dC dI ai (la 3) (lNum C 3) ic)) M s H → va_S (Fr (lΩ la C) s.heap.size) s.heap H locs → lv_has ls 4 [(0, .ref (la 0)), (1, va_rf (zA la z1)), (2, .ref ai)] → W p l e (rmL 4 1 4) s m args below meth c H locs cells slots Q (F0 m 12 ls [])) (hcs : cells + 0 ≤ 1 ∧ slots + 0 ≤ 4) (hf : fZ12_hunts_27 C K12  M z1 ic ps0 = some S1) (hic : ic ≤ lNum C 3) (hps0 : ps0 < C.1.2.1) (hP : (gF (lP dC dI cg kA la iA C bs) (itF dC dI ai (la 3) (lNum C 3) ic)) M s H) (hS : va_S (Fr (lΩ la C) s.heap.size) s.heap H locs) (hl : lv_has ls 4 [(0, .ref (la 0)), (1, va_rf (zA la z1)), (2, .ref ai)]) : W p l e (rmL 4 1 4) s m args below meth c H locs cells slots Q (F0 m 27 ls [.ref (la (13 + ps0))]) := by
  have hx := X.hx
  have hb := X.hb
  rw [fZ12_hunts_27] at hf
  refine lr_cast X hP (lEx_s hps0) lR_s (rfl : vwCl[18]? = some (RX13, TX13, 5)) tw1395 dX12_hunts_27 ?_
  refine lv_astore_n (lv' := [(3, .ref (la (13 + ps0))), (0, .ref (la 0)), (1, va_rf (zA la z1)), (2, .ref ai)]) hx hb dX12_hunts_30 rfl hl (by decide) (by cases z1 <;> rfl) (fun ls hl => ?_)
  refine lv_aload_n hx hb dX12_hunts_31 rfl (lv_at hl 0 rfl) ?_
  refine lr_getN (k := 4) (fs := (lFs ps0 M)) (v := .int (M.1 (161 + 12 * ps0 + 9))) X hP (lEx_s hps0) lR_s (rfl : vwCl[18]? = some (RX13, TX13, 5)) cinX13 (by decide) rfl rfl xw959 dX12_hunts_32 ?_
  refine lv_if_eq (tgt := 62) hx hb dX12_hunts_35 (by decide) (fun c1 => ?_) (fun c1 => ?_)
  · exact kZ12_hunts_62 X hC hai hret hK12 (by omega) (ifp c1 hf) hic hP hS (lv_sub hl [1, 2, 3] rfl)
  · exact kZ12_hunts_38 X hC hai hret hK12 (by omega) (ifn c1 hf) hic hps0 hP hS (lv_sub hl [1, 2, 3, 0] rfl)
set_option maxRecDepth 10000 in
theorem kZ12_hunts_21 {S1 : XL} {K12 : XL → Nat → Nat → Option (XL)} {M : XL} {z1 : Nat} {ic : Nat} {H : Heap} {locs : List Loc} {ls : Array Slot} {cells slots : Nat} (X : gX p s m args c cX12_hunts 4 RX12 (kR kTab kA)) (hC : lC C) {ai : Nat} (hai : itOK la C bs s.heap.size ai) (hret : gRetVA p l e (rmL 4 1 4) s m args below meth c cX12_hunts 1 4 (lΩ la C) (lP dC dI cg kA la iA C bs) Q S1) (hK12 : ∀ (M : XL) (z1 : Nat) (ic : Nat) (H : Heap) (locs : List Loc) (ls : Array Slot), K12 M z1 ic = some S1 → (ic ≤ lNum C 3) → (gF (lP dC dI cg kA la iA C bs) (itF dC dI ai (la 3) (lNum C 3) ic)) M s H → va_S (Fr (lΩ la C) s.heap.size) s.heap H locs → lv_has ls 4 [(0, .ref (la 0)), (1, va_rf (zA la z1)), (2, .ref ai)] → W p l e (rmL 4 1 4) s m args below meth c H locs cells slots Q (F0 m 12 ls [])) (hcs : cells + 0 ≤ 1 ∧ slots + 0 ≤ 4) (hf : fZ12_hunts_21 C K12  M z1 ic = some S1) (hic : ic ≤ lNum C 3) (hP : (gF (lP dC dI cg kA la iA C bs) (itF dC dI ai (la 3) (lNum C 3) ic)) M s H) (hS : va_S (Fr (lΩ la C) s.heap.size) s.heap H locs) (hl : lv_has ls 4 [(0, .ref (la 0)), (1, va_rf (zA la z1)), (2, .ref ai)]) : W p l e (rmL 4 1 4) s m args below meth c H locs cells slots Q (F0 m 21 ls []) := by
  have hx := X.hx
  have hb := X.hb
  rw [fZ12_hunts_21] at hf
  refine lv_aload_n hx hb dX12_hunts_21 rfl (lv_at hl 2 rfl) ?_
  obtain ⟨g1, hf⟩ := gd hf
  refine lr_next (b := 3) (q := (la (13 + ic))) X hC hai hP hS (fun q z => Or.inr z) (by decide) g1 (lFa_3 g1) tw1394 ⟨by decide, by decide⟩ hl.1 (Nat.le_of_ble_eq_true rfl) ⟨by show _ ≤ 1; omega, by show _ ≤ 4; omega⟩ dX12_hunts_22 (fun H locs hP hS => ?_)
  exact kZ12_hunts_27 X hC hai hret hK12 (by omega) hf (Nat.succ_le_of_lt g1) g1 hP hS (lv_sub hl [0, 1, 2] rfl)
set_option maxRecDepth 10000 in
theorem kZ12_hunts_12 {S1 : XL} {cells slots : Nat} (X : gX p s m args c cX12_hunts 4 RX12 (kR kTab kA)) (hC : lC C) {ai : Nat} (hai : itOK la C bs s.heap.size ai) (hret : gRetVA p l e (rmL 4 1 4) s m args below meth c cX12_hunts 1 4 (lΩ la C) (lP dC dI cg kA la iA C bs) Q S1) (hcs : cells + 0 ≤ 1 ∧ slots + 0 ≤ 4) : ∀ (n : Nat) (M : XL) (z1 : Nat) (ic : Nat) (H : Heap) (locs : List Loc) (ls : Array Slot), fZ12_hunts_12 C  n M z1 ic = some S1 → (ic ≤ lNum C 3) → (gF (lP dC dI cg kA la iA C bs) (itF dC dI ai (la 3) (lNum C 3) ic)) M s H → va_S (Fr (lΩ la C) s.heap.size) s.heap H locs → lv_has ls 4 [(0, .ref (la 0)), (1, va_rf (zA la z1)), (2, .ref ai)] → W p l e (rmL 4 1 4) s m args below meth c H locs cells slots Q (F0 m 12 ls []) := by
  intro n
  induction n with
  | zero => intro M z1 ic H locs ls hf; cases hf
  | succ k ih =>
    intro M z1 ic H locs ls hf hic hP hS hl
    have hx := X.hx
    have hb := X.hb
    rw [fZ12_hunts_12] at hf
    try dsimp only at hf
    refine lv_aload_n hx hb dX12_hunts_12 rfl (lv_at hl 2 rfl) ?_
    refine lr_hasNext (b := 3) X rfl hC hP (by decide) hic tw1392 (by decide) hl.1 (Nat.le_of_ble_eq_true rfl) ⟨by omega, by omega⟩ dX12_hunts_13 ?_
    refine lv_if_eq (tgt := 65) hx hb dX12_hunts_18 (by decide) (fun c1 => ?_) (fun c1 => ?_)
    · exact kZ12_hunts_65 X hC hret (by omega) (ifp (hn_0 c1) hf) ⟨hP.1, trivial⟩ hS (lv_sub hl [0, 1] rfl)
    · exact kZ12_hunts_21 X hC hai hret ih (by omega) (ifn (hn_1 c1) hf) hic hP hS (lv_sub hl [0, 1, 2] rfl)
set_option maxRecDepth 10000 in
theorem kZ12_hunts_11 {S1 : XL} {M : XL} {z1 : Nat} {ic : Nat} {H : Heap} {locs : List Loc} {ls : Array Slot} {cells slots : Nat} (X : gX p s m args c cX12_hunts 4 RX12 (kR kTab kA)) (hC : lC C) {ai : Nat} (hai : itOK la C bs s.heap.size ai) (hret : gRetVA p l e (rmL 4 1 4) s m args below meth c cX12_hunts 1 4 (lΩ la C) (lP dC dI cg kA la iA C bs) Q S1) (hcs : cells + 0 ≤ 1 ∧ slots + 0 ≤ 4) (hf : fZ12_hunts_11 C  M z1 ic = some S1) (hic : ic ≤ lNum C 3) (hP : (gF (lP dC dI cg kA la iA C bs) (itF dC dI ai (la 3) (lNum C 3) ic)) M s H) (hS : va_S (Fr (lΩ la C) s.heap.size) s.heap H locs) (hl : lv_has ls 4 [(0, .ref (la 0)), (1, va_rf (zA la z1))]) : W p l e (rmL 4 1 4) s m args below meth c H locs cells slots Q (F0 m 11 ls [.ref ai]) := by
  have hx := X.hx
  have hb := X.hb
  rw [fZ12_hunts_11] at hf
  refine lv_astore_n (lv' := [(2, .ref ai), (0, .ref (la 0)), (1, va_rf (zA la z1))]) hx hb dX12_hunts_11 rfl hl (by decide) (by cases z1 <;> rfl) (fun ls hl => ?_)
  exact kZ12_hunts_12 X hC hai hret (by omega) FU _ z1 ic _ _ _ hf hic hP hS (lv_sub hl [1, 2, 0] rfl)
set_option maxRecDepth 10000 in
theorem kZ12_hunts_0 {S1 : XL} {M : XL} {H : Heap} {locs : List Loc} {ls : Array Slot} {cells slots : Nat} (X : gX p s m args c cX12_hunts 4 RX12 (kR kTab kA)) (hC : lC C) (hret : gRetVA p l e (rmL 4 1 4) s m args below meth c cX12_hunts 1 4 (lΩ la C) (lP dC dI cg kA la iA C bs) Q S1) (hcs : cells + 1 ≤ 1 ∧ slots + 4 ≤ 4) (hf : fZ12_hunts_0 C  M = some S1) (hP : (gF (lP dC dI cg kA la iA C bs) T0) M s H) (hS : va_S (Fr (lΩ la C) s.heap.size) s.heap H locs) (hl : lv_has ls 4 [(0, .ref (la 0))]) : W p l e (rmL 4 1 4) s m args below meth c H locs cells slots Q (F0 m 0 ls []) := by
  have hx := X.hx
  have hb := X.hb
  rw [fZ12_hunts_0] at hf
  refine lv_null hx hb dX12_hunts_0 ?_
  refine lv_astore_nN (lv' := [(1, .null), (0, .ref (la 0))]) hx hb dX12_hunts_1 rfl hl (by decide) rfl (fun ls hl => ?_)
  refine lv_aload_n hx hb dX12_hunts_2 rfl (lv_at hl 1 rfl) ?_
  refine lr_get (k := 2) (fs := (lF0 la M)) (v := .ref (la 3)) X hP (lEx_l (by decide)) lR_0 (rfl : vwCl[17]? = some (RX12, TX12, 15)) cinX12 (by decide) rfl rfl tw884 dX12_hunts_3 ?_
  refine lr_iter (b := 3) X hP hS (fun q z => Or.inr z) (by decide) tw1390 ⟨by decide, by decide⟩ hl.1 (Nat.le_of_ble_eq_true rfl) ⟨by show _ + 1 ≤ 1; omega, by show _ + 4 ≤ 4; omega⟩ dX12_hunts_6 (fun H locs ai hai hP hS => ?_)
  exact kZ12_hunts_11 X hC hai hret (by omega) hf (Nat.zero_le _) hP hS (lv_sub hl [1, 0] rfl)
theorem vZ12_hunts {l : Launch} {dC : Nat → ClassId} {dI : Nat → Nat → Nat} {cg : Nat → ClassId} {kA : String → Nat → Nat} {la iA : Nat → Nat} {C : LC} {bs : Nat} (hC : lC C) {M S1 : XL} (hf : fZ12_hunts C M  = some S1) : gMetVA l yX12_hunts cX12_hunts 4 4 1 4 (lΩ la C) (lP dC dI cg kA la iA C bs) (kR kTab kA) [.ref (la 0)] M S1 := gEntryVA (by decide) lOK0 (Nat.le_of_ble_eq_true rfl) (fun p e s m args below meth c Q ls X hP hS hret hl => 
  kZ12_hunts_0 X hC hret ⟨Nat.le_of_ble_eq_true rfl, Nat.le_of_ble_eq_true rfl⟩ hf ⟨hP, trivial⟩ hS (lv_sub hl [0] rfl))
set_option maxRecDepth 10000 in
theorem kZ12_changes_134 {S1 : XL} {M : XL} {H : Heap} {locs : List Loc} {ls : Array Slot} {cells slots : Nat} (X : gX p s m args c cX12_changes 2 RX12 (kR kTab kA)) (hC : lC C) (hret : gRetVA p l e (rmL 4 0 0) s m args below meth c cX12_changes 0 0 (lΩ la C) (lP dC dI cg kA la iA C bs) Q S1) (hcs : cells + 0 ≤ 0 ∧ slots + 0 ≤ 0) (hf : fZ12_changes_134 C  M = some S1) (hP : (gF (lP dC dI cg kA la iA C bs) T0) M s H) (hS : va_S (Fr (lΩ la C) s.heap.size) s.heap H locs) (hl : lv_has ls 2 [(0, .ref (la 0))]) : W p l e (rmL 4 0 0) s m args below meth c H locs cells slots Q (F0 m 134 ls []) := by
  have hx := X.hx
  have hb := X.hb
  rw [fZ12_changes_134] at hf
  cases hf
  exact hret _ _ _ _ _ _ dX12_changes_134 hP.1 hS (by omega) (by omega)
set_option maxRecDepth 10000 in
theorem kZ12_changes_124 {S1 : XL} {M : XL} {H : Heap} {locs : List Loc} {ls : Array Slot} {cells slots : Nat} (X : gX p s m args c cX12_changes 2 RX12 (kR kTab kA)) (hC : lC C) (hret : gRetVA p l e (rmL 4 0 0) s m args below meth c cX12_changes 0 0 (lΩ la C) (lP dC dI cg kA la iA C bs) Q S1) (hcs : cells + 0 ≤ 0 ∧ slots + 0 ≤ 0) (hf : fZ12_changes_124 C  M = some S1) (hP : (gF (lP dC dI cg kA la iA C bs) T0) M s H) (hS : va_S (Fr (lΩ la C) s.heap.size) s.heap H locs) (hl : lv_has ls 2 [(0, .ref (la 0))]) : W p l e (rmL 4 0 0) s m args below meth c H locs cells slots Q (F0 m 124 ls []) := by
  have hx := X.hx
  have hb := X.hb
  rw [fZ12_changes_124] at hf
  refine lv_aload_n hx hb dX12_changes_124 rfl (lv_at hl 0 rfl) ?_
  refine lv_dup hx hb dX12_changes_125 rfl ?_
  refine lr_get (k := 14) (fs := (lF0 la M)) (v := .int (M.1 13)) X hP (lEx_l (by decide)) lR_0 (rfl : vwCl[17]? = some (RX12, TX12, 15)) cinX12 (by decide) rfl rfl tw908 dX12_changes_126 ?_
  refine lv_iconst (v := 1) hx hb dX12_changes_129 (by decide) ?_
  refine lv_iadd hx hb dX12_changes_130 ?_
  refine lr_put (k := 14) (fs := (lF0 la M)) (tyT := tyX12) (upd M.1 13 ((M.1 13) + 1), M.2) X T0_fs hP hS (lEx_l (by decide)) lR_0 rfl (fun p hp => lu0 (by decide) hp) (rfl : vwCl[17]? = some (RX12, TX12, 15)) cinX12 tyX12_ok nmX12 (by decide) rfl rfl rfl rfl (Nat.le_of_ble_eq_true rfl) tw908 dX12_changes_131 (fun H locs hP hS => ?_)
  exact kZ12_changes_134 X hC hret (by omega) hf hP hS (lv_sub hl [0] rfl)
set_option maxRecDepth 10000 in
theorem kZ12_changes_119 {S1 : XL} {M : XL} {H : Heap} {locs : List Loc} {ls : Array Slot} {cells slots : Nat} (X : gX p s m args c cX12_changes 2 RX12 (kR kTab kA)) (hC : lC C) (hret : gRetVA p l e (rmL 4 0 0) s m args below meth c cX12_changes 0 0 (lΩ la C) (lP dC dI cg kA la iA C bs) Q S1) (hcs : cells + 0 ≤ 0 ∧ slots + 0 ≤ 0) (hf : fZ12_changes_119 C  M = some S1) (hP : (gF (lP dC dI cg kA la iA C bs) T0) M s H) (hS : va_S (Fr (lΩ la C) s.heap.size) s.heap H locs) (hl : lv_has ls 2 [(0, .ref (la 0))]) : W p l e (rmL 4 0 0) s m args below meth c H locs cells slots Q (F0 m 119 ls []) := by
  have hx := X.hx
  have hb := X.hb
  rw [fZ12_changes_119] at hf
  refine lv_aload_n hx hb dX12_changes_119 rfl (lv_at hl 0 rfl) ?_
  refine lv_null hx hb dX12_changes_120 ?_
  refine lr_put (k := 4) (fs := (lF0 la M)) (tyT := tyX12) (upd M.1 5 (-1), M.2) X T0_fs hP hS (lEx_l (by decide)) lR_0 l0_sn (fun p hp => lu0 (by decide) hp) (rfl : vwCl[17]? = some (RX12, TX12, 15)) cinX12 tyX12_ok nmX12 (by decide) rfl rfl rfl rfl (Nat.le_of_ble_eq_true rfl) tw888 dX12_changes_121 (fun H locs hP hS => ?_)
  exact kZ12_changes_124 X hC hret (by omega) hf hP hS (lv_sub hl [0] rfl)
set_option maxRecDepth 10000 in
theorem kZ12_changes_116 {S1 : XL} {M : XL} {H : Heap} {locs : List Loc} {ls : Array Slot} {cells slots : Nat} (X : gX p s m args c cX12_changes 2 RX12 (kR kTab kA)) (hC : lC C) (hret : gRetVA p l e (rmL 4 0 0) s m args below meth c cX12_changes 0 0 (lΩ la C) (lP dC dI cg kA la iA C bs) Q S1) (hcs : cells + 0 ≤ 0 ∧ slots + 0 ≤ 0) (hf : fZ12_changes_116 C  M = some S1) (hP : (gF (lP dC dI cg kA la iA C bs) T0) M s H) (hS : va_S (Fr (lΩ la C) s.heap.size) s.heap H locs) (hl : lv_has ls 2 [(0, .ref (la 0))]) : W p l e (rmL 4 0 0) s m args below meth c H locs cells slots Q (F0 m 116 ls []) := by
  have hx := X.hx
  have hb := X.hb
  rw [fZ12_changes_116] at hf
  refine lv_goto (tgt := 134) hx hb dX12_changes_116 (by decide) ?_
  exact kZ12_changes_134 X hC hret (by omega) hf hP hS (lv_sub hl [0] rfl)
set_option maxRecDepth 10000 in
theorem kZ12_changes_111 {S1 : XL} {M : XL} {p1 : Nat} {H : Heap} {locs : List Loc} {ls : Array Slot} {cells slots : Nat} (X : gX p s m args c cX12_changes 2 RX12 (kR kTab kA)) (hC : lC C) (hret : gRetVA p l e (rmL 4 0 0) s m args below meth c cX12_changes 0 0 (lΩ la C) (lP dC dI cg kA la iA C bs) Q S1) (hcs : cells + 0 ≤ 0 ∧ slots + 0 ≤ 0) (hf : fZ12_changes_111 C  M p1 = some S1) (hp1 : p1 < C.1.1) (hP : (gF (lP dC dI cg kA la iA C bs) T0) M s H) (hS : va_S (Fr (lΩ la C) s.heap.size) s.heap H locs) (hl : lv_has ls 2 [(0, .ref (la 0)), (1, .ref (la (9 + p1)))]) : W p l e (rmL 4 0 0) s m args below meth c H locs cells slots Q (F0 m 111 ls []) := by
  have hx := X.hx
  have hb := X.hb
  rw [fZ12_changes_111] at hf
  refine lv_aload_n hx hb dX12_changes_111 rfl (lv_at hl 0 rfl) ?_
  refine lv_aload_n hx hb dX12_changes_112 rfl (lv_at hl 1 rfl) ?_
  obtain ⟨q, hc, hf⟩ := bd hf
  refine gCallWV X (lOK T0_fs) (((vZ12_swearsIn hC hp1 hc)).lift T0_fs) (cw_V 1 X g5_RX12_X12_swearsIn hd5_X12_swearsIn ⟨by decide, by decide⟩) rfl hP hS (Fr_le hS.1) (lr_rec hP (lEx_l (by decide)) lR_0 (rfl : vwCl[17]? = some (RX12, TX12, 15))) hl.1 (Nat.le_of_ble_eq_true rfl) ⟨by show _ + 0 ≤ 0; omega, by show _ + 0 ≤ 0; omega⟩ dX12_changes_113 (As := [.ref (la (9 + p1))]) (rest := []) rfl (fun H locs hP hS => ?_)
  exact kZ12_changes_116 X hC hret (by omega) hf hP hS (lv_sub hl [0] rfl)
set_option maxRecDepth 10000 in
theorem kZ12_changes_97 {S1 : XL} {M : XL} {p1 : Nat} {H : Heap} {locs : List Loc} {ls : Array Slot} {cells slots : Nat} (X : gX p s m args c cX12_changes 2 RX12 (kR kTab kA)) (hC : lC C) (hret : gRetVA p l e (rmL 4 0 0) s m args below meth c cX12_changes 0 0 (lΩ la C) (lP dC dI cg kA la iA C bs) Q S1) (hcs : cells + 0 ≤ 0 ∧ slots + 0 ≤ 0) (hf : fZ12_changes_97 C  M p1 = some S1) (hp1 : p1 < C.1.1) (hP : (gF (lP dC dI cg kA la iA C bs) T0) M s H) (hS : va_S (Fr (lΩ la C) s.heap.size) s.heap H locs) (hl : lv_has ls 2 [(0, .ref (la 0)), (1, .ref (la (9 + p1)))]) : W p l e (rmL 4 0 0) s m args below meth c H locs cells slots Q (F0 m 97 ls []) := by
  have hx := X.hx
  have hb := X.hb
  rw [fZ12_changes_97] at hf
  refine lv_aload_n hx hb dX12_changes_97 rfl (lv_at hl 1 rfl) ?_
  refine lr_getN (k := 5) (fs := (lFc p1 M)) (v := .int (M.2 (4 + p1))) X hP (lEx_c hC hp1) (lR_c (lC_c hC hp1)) (rfl : vwCl[16]? = some (RX11, TX11, 7)) cinX11 (by decide) rfl rfl xw827 dX12_changes_98 ?_
  refine lv_aload_n hx hb dX12_changes_101 rfl (lv_at hl 0 rfl) ?_
  refine lr_get (k := 4) (fs := (lF0 la M)) (v := va_rf (swA la (M.1 5))) X hP (lEx_l (by decide)) lR_0 (rfl : vwCl[17]? = some (RX12, TX12, 15)) cinX12 (by decide) rfl rfl tw888 dX12_changes_102 ?_
  obtain ⟨g1, hf⟩ := gd hf
  rw [sw_ref g1.1]
  refine lr_getN (k := 5) (fs := (lFc (M.1 5).toNatClampNeg M)) (v := .int (M.2 (4 + (M.1 5).toNatClampNeg))) X hP (lEx_c hC g1.2) (lR_c (lC_c hC g1.2)) (rfl : vwCl[16]? = some (RX11, TX11, 7)) cinX11 (by decide) rfl rfl xw827 dX12_changes_105 ?_
  refine lv_icmp_eq (tgt := 119) hx hb dX12_changes_108 (by decide) (fun c1 => ?_) (fun c1 => ?_)
  · exact kZ12_changes_119 X hC hret (by omega) (ifp c1 hf) hP hS (lv_sub hl [0] rfl)
  · exact kZ12_changes_111 X hC hret (by omega) (ifn c1 hf) hp1 hP hS (lv_sub hl [0, 1] rfl)
set_option maxRecDepth 10000 in
theorem kZ12_changes_89 {S1 : XL} {M : XL} {p1 : Nat} {H : Heap} {locs : List Loc} {ls : Array Slot} {cells slots : Nat} (X : gX p s m args c cX12_changes 2 RX12 (kR kTab kA)) (hC : lC C) (hret : gRetVA p l e (rmL 4 0 0) s m args below meth c cX12_changes 0 0 (lΩ la C) (lP dC dI cg kA la iA C bs) Q S1) (hcs : cells + 0 ≤ 0 ∧ slots + 0 ≤ 0) (hf : fZ12_changes_89 C  M p1 = some S1) (hp1 : p1 < C.1.1) (hP : (gF (lP dC dI cg kA la iA C bs) T0) M s H) (hS : va_S (Fr (lΩ la C) s.heap.size) s.heap H locs) (hl : lv_has ls 2 [(0, .ref (la 0)), (1, .ref (la (9 + p1)))]) : W p l e (rmL 4 0 0) s m args below meth c H locs cells slots Q (F0 m 89 ls []) := by
  have hx := X.hx
  have hb := X.hb
  rw [fZ12_changes_89] at hf
  refine lv_aload_n hx hb dX12_changes_89 rfl (lv_at hl 1 rfl) ?_
  refine lv_aload_n hx hb dX12_changes_90 rfl (lv_at hl 0 rfl) ?_
  refine lr_get (k := 4) (fs := (lF0 la M)) (v := va_rf (swA la (M.1 5))) X hP (lEx_l (by decide)) lR_0 (rfl : vwCl[17]? = some (RX12, TX12, 15)) cinX12 (by decide) rfl rfl tw888 dX12_changes_91 ?_
  obtain ⟨g1, hf⟩ := gd hf
  refine lv_acmp_eq (rx := some (la (9 + p1))) (ry := swA la (M.1 5)) (tgt := 111) hx hb dX12_changes_94 (by decide) (fun c1 => ?_) (fun c1 => ?_)
  · exact kZ12_changes_111 X hC hret (by omega) (ifp ((sw_acmp hP.1.2.2.1 (lEx_c hC hp1) g1.1 (lEx_c hC g1.2)).mp c1) hf) hp1 hP hS (lv_sub hl [0, 1] rfl)
  · exact kZ12_changes_97 X hC hret (by omega) (ifn (fun z => c1 ((sw_acmp hP.1.2.2.1 (lEx_c hC hp1) g1.1 (lEx_c hC g1.2)).mpr z)) hf) hp1 hP hS (lv_sub hl [0, 1] rfl)
set_option maxRecDepth 10000 in
theorem kZ12_changes_80 {S1 : XL} {M : XL} {p1 : Nat} {H : Heap} {locs : List Loc} {ls : Array Slot} {cells slots : Nat} (X : gX p s m args c cX12_changes 2 RX12 (kR kTab kA)) (hC : lC C) (hret : gRetVA p l e (rmL 4 0 0) s m args below meth c cX12_changes 0 0 (lΩ la C) (lP dC dI cg kA la iA C bs) Q S1) (hcs : cells + 0 ≤ 0 ∧ slots + 0 ≤ 0) (hf : fZ12_changes_80 C  M p1 = some S1) (hp1 : p1 < C.1.1) (hP : (gF (lP dC dI cg kA la iA C bs) T0) M s H) (hS : va_S (Fr (lΩ la C) s.heap.size) s.heap H locs) (hl : lv_has ls 2 [(0, .ref (la 0)), (1, .ref (la (9 + p1)))]) : W p l e (rmL 4 0 0) s m args below meth c H locs cells slots Q (F0 m 80 ls []) := by
  have hx := X.hx
  have hb := X.hb
  rw [fZ12_changes_80] at hf
  refine lv_aload_n hx hb dX12_changes_80 rfl (lv_at hl 1 rfl) ?_
  refine lr_getN (k := 2) (fs := (lFc p1 M)) (v := .int (M.1 (65 + 12 * p1 + 9))) X hP (lEx_c hC hp1) (lR_c (lC_c hC hp1)) (rfl : vwCl[16]? = some (RX11, TX11, 7)) cinX11 (by decide) rfl rfl xw821 dX12_changes_81 ?_
  refine lv_bipush (v := 12) hx hb dX12_changes_84 (by decide) ?_
  refine lv_icmp_ge (tgt := 119) hx hb dX12_changes_86 (by decide) (fun c1 => ?_) (fun c1 => ?_)
  · exact kZ12_changes_119 X hC hret (by omega) (ifp c1 hf) hP hS (lv_sub hl [0] rfl)
  · exact kZ12_changes_89 X hC hret (by omega) (ifn c1 hf) hp1 hP hS (lv_sub hl [0, 1] rfl)
set_option maxRecDepth 10000 in
theorem kZ12_changes_79 {S1 : XL} {M : XL} {H : Heap} {locs : List Loc} {ls : Array Slot} {cells slots : Nat} (X : gX p s m args c cX12_changes 2 RX12 (kR kTab kA)) (hC : lC C) (hret : gRetVA p l e (rmL 4 0 0) s m args below meth c cX12_changes 0 0 (lΩ la C) (lP dC dI cg kA la iA C bs) Q S1) (hcs : cells + 0 ≤ 0 ∧ slots + 0 ≤ 0) (hf : fZ12_changes_79 C  M = some S1) (hP : (gF (lP dC dI cg kA la iA C bs) T0) M s H) (hS : va_S (Fr (lΩ la C) s.heap.size) s.heap H locs) (hl : lv_has ls 2 [(0, .ref (la 0))]) : W p l e (rmL 4 0 0) s m args below meth c H locs cells slots Q (F0 m 79 ls []) := by
  have hx := X.hx
  have hb := X.hb
  rw [fZ12_changes_79] at hf
  cases hf
  exact hret _ _ _ _ _ _ dX12_changes_79 hP.1 hS (by omega) (by omega)
set_option maxRecDepth 10000 in
theorem kZ12_changes_55 {S1 : XL} {M : XL} {H : Heap} {locs : List Loc} {ls : Array Slot} {cells slots : Nat} (X : gX p s m args c cX12_changes 2 RX12 (kR kTab kA)) (hC : lC C) (hret : gRetVA p l e (rmL 4 0 0) s m args below meth c cX12_changes 0 0 (lΩ la C) (lP dC dI cg kA la iA C bs) Q S1) (hcs : cells + 0 ≤ 0 ∧ slots + 0 ≤ 0) (hf : fZ12_changes_55 C  M = some S1) (hP : (gF (lP dC dI cg kA la iA C bs) T0) M s H) (hS : va_S (Fr (lΩ la C) s.heap.size) s.heap H locs) (hl : lv_has ls 2 [(0, .ref (la 0))]) : W p l e (rmL 4 0 0) s m args below meth c H locs cells slots Q (F0 m 55 ls []) := by
  have hx := X.hx
  have hb := X.hb
  rw [fZ12_changes_55] at hf
  refine lv_aload_n hx hb dX12_changes_55 rfl (lv_at hl 0 rfl) ?_
  refine lr_get (k := 1) (fs := (lF0 la M)) (v := .ref (la 2)) X hP (lEx_l (by decide)) lR_0 (rfl : vwCl[17]? = some (RX12, TX12, 15)) cinX12 (by decide) rfl rfl tw882 dX12_changes_56 ?_
  refine lv_aload_n hx hb dX12_changes_59 rfl (lv_at hl 0 rfl) ?_
  refine lr_get (k := 7) (fs := (lF0 la M)) (v := .int (M.1 6)) X hP (lEx_l (by decide)) lR_0 (rfl : vwCl[17]? = some (RX12, TX12, 15)) cinX12 (by decide) rfl rfl tw894 dX12_changes_60 ?_
  obtain ⟨g1, hf⟩ := gd hf
  refine lr_lget (b := 2) (q := (la (9 + (C.2.1 (M.1 6).toNatClampNeg)))) X rfl hC hP (by decide) g1 (lFa_2 (gIn_lt g1)) tw1403 (by decide) hl.1 (Nat.le_of_ble_eq_true rfl) ⟨by omega, by omega⟩ dX12_changes_63 ?_
  refine lr_cast X hP (lEx_c hC (hC.2.2.2 _ (gIn_lt g1)).1) (lR_c (lC_c hC (hC.2.2.2 _ (gIn_lt g1)).1)) (rfl : vwCl[16]? = some (RX11, TX11, 7)) tw1404 dX12_changes_68 ?_
  refine lv_astore_n (lv' := [(1, .ref (la (9 + (C.2.1 (M.1 6).toNatClampNeg)))), (0, .ref (la 0))]) hx hb dX12_changes_71 rfl hl (by decide) rfl (fun ls hl => ?_)
  refine lv_aload_n hx hb dX12_changes_72 rfl (lv_at hl 1 rfl) ?_
  refine lr_get (k := 4) (fs := (lF0 la M)) (v := va_rf (swA la (M.1 5))) X hP (lEx_l (by decide)) lR_0 (rfl : vwCl[17]? = some (RX12, TX12, 15)) cinX12 (by decide) rfl rfl tw888 dX12_changes_73 ?_
  by_cases c1 : (M.1 5) = -1
  · rw [sw_null c1]
    refine lv_ifnonnullN hx hb dX12_changes_76 ?_
    exact kZ12_changes_79 X hC hret (by omega) (ifp c1 hf) hP hS (lv_sub hl [1] rfl)
  · rw [sw_ref c1]
    refine lv_ifnonnull (tgt := 80) hx hb dX12_changes_76 (by decide) ?_
    exact kZ12_changes_80 X hC hret (by omega) (ifn c1 hf) ((hC.2.2.2 _ (gIn_lt g1)).1) hP hS (lv_sub hl [1, 0] rfl)
set_option maxRecDepth 10000 in
theorem kZ12_changes_32 {S1 : XL} {M : XL} {H : Heap} {locs : List Loc} {ls : Array Slot} {cells slots : Nat} (X : gX p s m args c cX12_changes 2 RX12 (kR kTab kA)) (hC : lC C) (hret : gRetVA p l e (rmL 4 0 0) s m args below meth c cX12_changes 0 0 (lΩ la C) (lP dC dI cg kA la iA C bs) Q S1) (hcs : cells + 0 ≤ 0 ∧ slots + 0 ≤ 0) (hf : fZ12_changes_32 C  M = some S1) (hP : (gF (lP dC dI cg kA la iA C bs) T0) M s H) (hS : va_S (Fr (lΩ la C) s.heap.size) s.heap H locs) (hl : lv_has ls 2 [(0, .ref (la 0))]) : W p l e (rmL 4 0 0) s m args below meth c H locs cells slots Q (F0 m 32 ls []) := by
  have hx := X.hx
  have hb := X.hb
  rw [fZ12_changes_32] at hf
  refine lv_aload_n hx hb dX12_changes_32 rfl (lv_at hl 0 rfl) ?_
  refine lv_aload_n hx hb dX12_changes_33 rfl (lv_at hl 0 rfl) ?_
  refine lr_get (k := 3) (fs := (lF0 la M)) (v := .ref (la 4)) X hP (lEx_l (by decide)) lR_0 (rfl : vwCl[17]? = some (RX12, TX12, 15)) cinX12 (by decide) rfl rfl tw886 dX12_changes_34 ?_
  refine lv_aload_n hx hb dX12_changes_37 rfl (lv_at hl 0 rfl) ?_
  refine lr_get (k := 7) (fs := (lF0 la M)) (v := .int (M.1 6)) X hP (lEx_l (by decide)) lR_0 (rfl : vwCl[17]? = some (RX12, TX12, 15)) cinX12 (by decide) rfl rfl tw894 dX12_changes_38 ?_
  obtain ⟨g1, hf⟩ := gd hf
  refine lr_lget (b := 4) (q := (iA (C.2.2 (M.1 6).toNatClampNeg))) X rfl hC hP (by decide) g1 (lFa_4 (gIn_lt g1)) tw1403 (by decide) hl.1 (Nat.le_of_ble_eq_true rfl) ⟨by omega, by omega⟩ dX12_changes_41 ?_
  refine lr_castI X hP (hC.2.2.2 _ (gIn_lt g1)).2 tw1414 dX12_changes_46 ?_
  refine lr_intValue X rfl hP (hC.2.2.2 _ (gIn_lt g1)).2 tw1415 (by decide) hl.1 (Nat.le_of_ble_eq_true rfl) ⟨by omega, by omega⟩ dX12_changes_49 ?_
  refine lr_put (k := 8) (fs := (lF0 la M)) (tyT := tyX12) (upd M.1 7 (nI (C.2.2 (M.1 6).toNatClampNeg)), M.2) X T0_fs hP hS (lEx_l (by decide)) lR_0 rfl (fun p hp => lu0 (by decide) hp) (rfl : vwCl[17]? = some (RX12, TX12, 15)) cinX12 tyX12_ok nmX12 (by decide) rfl rfl rfl rfl (Nat.le_of_ble_eq_true rfl) tw896 dX12_changes_52 (fun H locs hP hS => ?_)
  exact kZ12_changes_55 X hC hret (by omega) hf hP hS (lv_sub hl [0] rfl)
set_option maxRecDepth 10000 in
theorem kZ12_changes_29 {S1 : XL} {M : XL} {s0 : Int32} {H : Heap} {locs : List Loc} {ls : Array Slot} {cells slots : Nat} (X : gX p s m args c cX12_changes 2 RX12 (kR kTab kA)) (hC : lC C) (hret : gRetVA p l e (rmL 4 0 0) s m args below meth c cX12_changes 0 0 (lΩ la C) (lP dC dI cg kA la iA C bs) Q S1) (hcs : cells + 0 ≤ 0 ∧ slots + 0 ≤ 0) (hf : fZ12_changes_29 C  M s0 = some S1) (hP : (gF (lP dC dI cg kA la iA C bs) T0) M s H) (hS : va_S (Fr (lΩ la C) s.heap.size) s.heap H locs) (hl : lv_has ls 2 [(0, .ref (la 0))]) : W p l e (rmL 4 0 0) s m args below meth c H locs cells slots Q (F0 m 29 ls [.int s0, .ref (la 0)]) := by
  have hx := X.hx
  have hb := X.hb
  rw [fZ12_changes_29] at hf
  refine lr_put (k := 7) (fs := (lF0 la M)) (tyT := tyX12) (upd M.1 6 s0, M.2) X T0_fs hP hS (lEx_l (by decide)) lR_0 rfl (fun p hp => lu0 (by decide) hp) (rfl : vwCl[17]? = some (RX12, TX12, 15)) cinX12 tyX12_ok nmX12 (by decide) rfl rfl rfl rfl (Nat.le_of_ble_eq_true rfl) tw894 dX12_changes_29 (fun H locs hP hS => ?_)
  exact kZ12_changes_32 X hC hret (by omega) hf hP hS (lv_sub hl [0] rfl)
set_option maxRecDepth 10000 in
theorem kZ12_changes_23 {S1 : XL} {M : XL} {H : Heap} {locs : List Loc} {ls : Array Slot} {cells slots : Nat} (X : gX p s m args c cX12_changes 2 RX12 (kR kTab kA)) (hC : lC C) (hret : gRetVA p l e (rmL 4 0 0) s m args below meth c cX12_changes 0 0 (lΩ la C) (lP dC dI cg kA la iA C bs) Q S1) (hcs : cells + 0 ≤ 0 ∧ slots + 0 ≤ 0) (hf : fZ12_changes_23 C  M = some S1) (hP : (gF (lP dC dI cg kA la iA C bs) T0) M s H) (hS : va_S (Fr (lΩ la C) s.heap.size) s.heap H locs) (hl : lv_has ls 2 [(0, .ref (la 0))]) : W p l e (rmL 4 0 0) s m args below meth c H locs cells slots Q (F0 m 23 ls [.ref (la 0)]) := by
  have hx := X.hx
  have hb := X.hb
  rw [fZ12_changes_23] at hf
  refine lv_aload_n hx hb dX12_changes_23 rfl (lv_at hl 0 rfl) ?_
  refine lr_get (k := 7) (fs := (lF0 la M)) (v := .int (M.1 6)) X hP (lEx_l (by decide)) lR_0 (rfl : vwCl[17]? = some (RX12, TX12, 15)) cinX12 (by decide) rfl rfl tw894 dX12_changes_24 ?_
  refine lv_iconst (v := 1) hx hb dX12_changes_27 (by decide) ?_
  refine lv_iadd hx hb dX12_changes_28 ?_
  exact kZ12_changes_29 X hC hret (by omega) hf hP hS (lv_sub hl [0] rfl)
set_option maxRecDepth 10000 in
theorem kZ12_changes_19 {S1 : XL} {M : XL} {H : Heap} {locs : List Loc} {ls : Array Slot} {cells slots : Nat} (X : gX p s m args c cX12_changes 2 RX12 (kR kTab kA)) (hC : lC C) (hret : gRetVA p l e (rmL 4 0 0) s m args below meth c cX12_changes 0 0 (lΩ la C) (lP dC dI cg kA la iA C bs) Q S1) (hcs : cells + 0 ≤ 0 ∧ slots + 0 ≤ 0) (hf : fZ12_changes_19 C  M = some S1) (hP : (gF (lP dC dI cg kA la iA C bs) T0) M s H) (hS : va_S (Fr (lΩ la C) s.heap.size) s.heap H locs) (hl : lv_has ls 2 [(0, .ref (la 0))]) : W p l e (rmL 4 0 0) s m args below meth c H locs cells slots Q (F0 m 19 ls [.ref (la 0)]) := by
  have hx := X.hx
  have hb := X.hb
  rw [fZ12_changes_19] at hf
  refine lv_iconst (v := 0) hx hb dX12_changes_19 (by decide) ?_
  refine lv_goto (tgt := 29) hx hb dX12_changes_20 (by decide) ?_
  exact kZ12_changes_29 X hC hret (by omega) hf hP hS (lv_sub hl [0] rfl)
set_option maxRecDepth 10000 in
theorem kZ12_changes_0 {S1 : XL} {M : XL} {H : Heap} {locs : List Loc} {ls : Array Slot} {cells slots : Nat} (X : gX p s m args c cX12_changes 2 RX12 (kR kTab kA)) (hC : lC C) (hret : gRetVA p l e (rmL 4 0 0) s m args below meth c cX12_changes 0 0 (lΩ la C) (lP dC dI cg kA la iA C bs) Q S1) (hcs : cells + 0 ≤ 0 ∧ slots + 0 ≤ 0) (hf : fZ12_changes_0 C  M = some S1) (hP : (gF (lP dC dI cg kA la iA C bs) T0) M s H) (hS : va_S (Fr (lΩ la C) s.heap.size) s.heap H locs) (hl : lv_has ls 2 [(0, .ref (la 0))]) : W p l e (rmL 4 0 0) s m args below meth c H locs cells slots Q (F0 m 0 ls []) := by
  have hx := X.hx
  have hb := X.hb
  rw [fZ12_changes_0] at hf
  refine lv_aload_n hx hb dX12_changes_0 rfl (lv_at hl 0 rfl) ?_
  refine lv_aload_n hx hb dX12_changes_1 rfl (lv_at hl 0 rfl) ?_
  refine lr_get (k := 7) (fs := (lF0 la M)) (v := .int (M.1 6)) X hP (lEx_l (by decide)) lR_0 (rfl : vwCl[17]? = some (RX12, TX12, 15)) cinX12 (by decide) rfl rfl tw894 dX12_changes_2 ?_
  refine lv_iconst (v := 1) hx hb dX12_changes_5 (by decide) ?_
  refine lv_iadd hx hb dX12_changes_6 ?_
  refine lv_aload_n hx hb dX12_changes_7 rfl (lv_at hl 0 rfl) ?_
  refine lr_get (k := 1) (fs := (lF0 la M)) (v := .ref (la 2)) X hP (lEx_l (by decide)) lR_0 (rfl : vwCl[17]? = some (RX12, TX12, 15)) cinX12 (by decide) rfl rfl tw882 dX12_changes_8 ?_
  refine lr_size (b := 2) X rfl hP (by decide) tw1401 (by decide) hl.1 (Nat.le_of_ble_eq_true rfl) ⟨by omega, by omega⟩ dX12_changes_11 ?_
  refine lv_icmp_ne (tgt := 23) hx hb dX12_changes_16 (by decide) (fun c1 => ?_) (fun c1 => ?_)
  · exact kZ12_changes_23 X hC hret (by omega) (ifn c1 hf) hP hS (lv_sub hl [0] rfl)
  · exact kZ12_changes_19 X hC hret (by omega) (ifp c1 hf) hP hS (lv_sub hl [0] rfl)
theorem vZ12_changes {l : Launch} {dC : Nat → ClassId} {dI : Nat → Nat → Nat} {cg : Nat → ClassId} {kA : String → Nat → Nat} {la iA : Nat → Nat} {C : LC} {bs : Nat} (hC : lC C) {M S1 : XL} (hf : fZ12_changes C M  = some S1) : gMetVA l yX12_changes cX12_changes 2 4 0 0 (lΩ la C) (lP dC dI cg kA la iA C bs) (kR kTab kA) [.ref (la 0)] M S1 := gEntryVA (by decide) lOK0 (Nat.le_of_ble_eq_true rfl) (fun p e s m args below meth c Q ls X hP hS hret hl => 
  kZ12_changes_0 X hC hret ⟨Nat.le_of_ble_eq_true rfl, Nat.le_of_ble_eq_true rfl⟩ hf ⟨hP, trivial⟩ hS (lv_sub hl [0] rfl))
set_option maxRecDepth 10000 in
theorem kZ12_hour_384 {S1 : XL} {M : XL} {H : Heap} {locs : List Loc} {ls : Array Slot} {cells slots : Nat} (X : gX p s m args c cX12_hour 4 RX12 (kR kTab kA)) (hC : lC C) (hret : gRetVA p l e (rmL 5 6 24) s m args below meth c cX12_hour 6 24 (lΩ la C) (lP dC dI cg kA la iA C bs) Q S1) (hcs : cells + 0 ≤ 6 ∧ slots + 0 ≤ 24) (hf : fZ12_hour_384 C  M = some S1) (hP : (gF (lP dC dI cg kA la iA C bs) T0) M s H) (hS : va_S (Fr (lΩ la C) s.heap.size) s.heap H locs) (hl : lv_has ls 4 [(0, .ref (la 0))]) : W p l e (rmL 5 6 24) s m args below meth c H locs cells slots Q (F0 m 384 ls []) := by
  have hx := X.hx
  have hb := X.hb
  rw [fZ12_hour_384] at hf
  cases hf
  exact hret _ _ _ _ _ _ dX12_hour_384 hP.1 hS (by omega) (by omega)
set_option maxRecDepth 10000 in
theorem kZ12_hour_364 {S1 : XL} {M : XL} {H : Heap} {locs : List Loc} {ls : Array Slot} {cells slots : Nat} (X : gX p s m args c cX12_hour 4 RX12 (kR kTab kA)) (hC : lC C) (hret : gRetVA p l e (rmL 5 6 24) s m args below meth c cX12_hour 6 24 (lΩ la C) (lP dC dI cg kA la iA C bs) Q S1) (hcs : cells + 0 ≤ 6 ∧ slots + 0 ≤ 24) (hf : fZ12_hour_364 C  M = some S1) (hP : (gF (lP dC dI cg kA la iA C bs) T0) M s H) (hS : va_S (Fr (lΩ la C) s.heap.size) s.heap H locs) (hl : lv_has ls 4 [(0, .ref (la 0))]) : W p l e (rmL 5 6 24) s m args below meth c H locs cells slots Q (F0 m 364 ls []) := by
  have hx := X.hx
  have hb := X.hb
  rw [fZ12_hour_364] at hf
  refine lv_aload_n hx hb dX12_hour_364 rfl (lv_at hl 0 rfl) ?_
  refine lv_aload_n hx hb dX12_hour_365 rfl (lv_at hl 0 rfl) ?_
  refine lr_get (k := 1) (fs := (lF0 la M)) (v := .ref (la 2)) X hP (lEx_l (by decide)) lR_0 (rfl : vwCl[17]? = some (RX12, TX12, 15)) cinX12 (by decide) rfl rfl tw882 dX12_hour_366 ?_
  refine lv_aload_n hx hb dX12_hour_369 rfl (lv_at hl 0 rfl) ?_
  refine lr_get (k := 7) (fs := (lF0 la M)) (v := .int (M.1 6)) X hP (lEx_l (by decide)) lR_0 (rfl : vwCl[17]? = some (RX12, TX12, 15)) cinX12 (by decide) rfl rfl tw894 dX12_hour_370 ?_
  obtain ⟨g1, hf⟩ := gd hf
  refine lr_lget (b := 2) (q := (la (9 + (C.2.1 (M.1 6).toNatClampNeg)))) X rfl hC hP (by decide) g1 (lFa_2 (gIn_lt g1)) tw1403 (by decide) hl.1 (Nat.le_of_ble_eq_true rfl) ⟨by omega, by omega⟩ dX12_hour_373 ?_
  refine lr_cast X hP (lEx_c hC (hC.2.2.2 _ (gIn_lt g1)).1) (lR_c (lC_c hC (hC.2.2.2 _ (gIn_lt g1)).1)) (rfl : vwCl[16]? = some (RX11, TX11, 7)) tw1404 dX12_hour_378 ?_
  obtain ⟨q, hc, hf⟩ := bd hf
  refine gCallWV X (lOK T0_fs) (((vZ12_swearsIn hC (hC.2.2.2 _ (gIn_lt g1)).1 hc)).lift T0_fs) (cw_V 1 X g5_RX12_X12_swearsIn hd5_X12_swearsIn ⟨by decide, by decide⟩) rfl hP hS (Fr_le hS.1) (lr_rec hP (lEx_l (by decide)) lR_0 (rfl : vwCl[17]? = some (RX12, TX12, 15))) hl.1 (Nat.le_of_ble_eq_true rfl) ⟨by show _ + 0 ≤ 6; omega, by show _ + 0 ≤ 24; omega⟩ dX12_hour_381 (As := [.ref (la (9 + (C.2.1 (M.1 6).toNatClampNeg)))]) (rest := []) rfl (fun H locs hP hS => ?_)
  exact kZ12_hour_384 X hC hret (by omega) hf hP hS (lv_sub hl [0] rfl)
set_option maxRecDepth 10000 in
theorem kZ12_hour_340 {S1 : XL} {M : XL} {H : Heap} {locs : List Loc} {ls : Array Slot} {cells slots : Nat} (X : gX p s m args c cX12_hour 4 RX12 (kR kTab kA)) (hC : lC C) (hret : gRetVA p l e (rmL 5 6 24) s m args below meth c cX12_hour 6 24 (lΩ la C) (lP dC dI cg kA la iA C bs) Q S1) (hcs : cells + 0 ≤ 6 ∧ slots + 0 ≤ 24) (hf : fZ12_hour_340 C  M = some S1) (hP : (gF (lP dC dI cg kA la iA C bs) T0) M s H) (hS : va_S (Fr (lΩ la C) s.heap.size) s.heap H locs) (hl : lv_has ls 4 [(0, .ref (la 0))]) : W p l e (rmL 5 6 24) s m args below meth c H locs cells slots Q (F0 m 340 ls []) := by
  have hx := X.hx
  have hb := X.hb
  rw [fZ12_hour_340] at hf
  refine lv_aload_n hx hb dX12_hour_340 rfl (lv_at hl 0 rfl) ?_
  refine lr_get (k := 1) (fs := (lF0 la M)) (v := .ref (la 2)) X hP (lEx_l (by decide)) lR_0 (rfl : vwCl[17]? = some (RX12, TX12, 15)) cinX12 (by decide) rfl rfl tw882 dX12_hour_341 ?_
  refine lv_aload_n hx hb dX12_hour_344 rfl (lv_at hl 0 rfl) ?_
  refine lr_get (k := 7) (fs := (lF0 la M)) (v := .int (M.1 6)) X hP (lEx_l (by decide)) lR_0 (rfl : vwCl[17]? = some (RX12, TX12, 15)) cinX12 (by decide) rfl rfl tw894 dX12_hour_345 ?_
  obtain ⟨g1, hf⟩ := gd hf
  refine lr_lget (b := 2) (q := (la (9 + (C.2.1 (M.1 6).toNatClampNeg)))) X rfl hC hP (by decide) g1 (lFa_2 (gIn_lt g1)) tw1403 (by decide) hl.1 (Nat.le_of_ble_eq_true rfl) ⟨by omega, by omega⟩ dX12_hour_348 ?_
  refine lr_cast X hP (lEx_c hC (hC.2.2.2 _ (gIn_lt g1)).1) (lR_c (lC_c hC (hC.2.2.2 _ (gIn_lt g1)).1)) (rfl : vwCl[16]? = some (RX11, TX11, 7)) tw1404 dX12_hour_353 ?_
  refine lr_getN (k := 2) (fs := (lFc (C.2.1 (M.1 6).toNatClampNeg) M)) (v := .int (M.1 (65 + 12 * (C.2.1 (M.1 6).toNatClampNeg) + 9))) X hP (lEx_c hC (hC.2.2.2 _ (gIn_lt g1)).1) (lR_c (lC_c hC (hC.2.2.2 _ (gIn_lt g1)).1)) (rfl : vwCl[16]? = some (RX11, TX11, 7)) cinX11 (by decide) rfl rfl xw821 dX12_hour_356 ?_
  refine lv_bipush (v := 12) hx hb dX12_hour_359 (by decide) ?_
  refine lv_icmp_ge (tgt := 384) hx hb dX12_hour_361 (by decide) (fun c1 => ?_) (fun c1 => ?_)
  · exact kZ12_hour_384 X hC hret (by omega) (ifp c1 hf) hP hS (lv_sub hl [0] rfl)
  · exact kZ12_hour_364 X hC hret (by omega) (ifn c1 hf) hP hS (lv_sub hl [0] rfl)
set_option maxRecDepth 10000 in
theorem kZ12_hour_333 {S1 : XL} {M : XL} {H : Heap} {locs : List Loc} {ls : Array Slot} {cells slots : Nat} (X : gX p s m args c cX12_hour 4 RX12 (kR kTab kA)) (hC : lC C) (hret : gRetVA p l e (rmL 5 6 24) s m args below meth c cX12_hour 6 24 (lΩ la C) (lP dC dI cg kA la iA C bs) Q S1) (hcs : cells + 0 ≤ 6 ∧ slots + 0 ≤ 24) (hf : fZ12_hour_333 C  M = some S1) (hP : (gF (lP dC dI cg kA la iA C bs) T0) M s H) (hS : va_S (Fr (lΩ la C) s.heap.size) s.heap H locs) (hl : lv_has ls 4 [(0, .ref (la 0))]) : W p l e (rmL 5 6 24) s m args below meth c H locs cells slots Q (F0 m 333 ls []) := by
  have hx := X.hx
  have hb := X.hb
  rw [fZ12_hour_333] at hf
  refine lv_aload_n hx hb dX12_hour_333 rfl (lv_at hl 0 rfl) ?_
  refine lr_get (k := 4) (fs := (lF0 la M)) (v := va_rf (swA la (M.1 5))) X hP (lEx_l (by decide)) lR_0 (rfl : vwCl[17]? = some (RX12, TX12, 15)) cinX12 (by decide) rfl rfl tw888 dX12_hour_334 ?_
  by_cases c1 : (M.1 5) = -1
  · rw [sw_null c1]
    refine lv_ifnonnullN hx hb dX12_hour_337 ?_
    exact kZ12_hour_340 X hC hret (by omega) (ifp c1 hf) hP hS (lv_sub hl [0] rfl)
  · rw [sw_ref c1]
    refine lv_ifnonnull (tgt := 384) hx hb dX12_hour_337 (by decide) ?_
    exact kZ12_hour_384 X hC hret (by omega) (ifn c1 hf) hP hS (lv_sub hl [0] rfl)
set_option maxRecDepth 10000 in
theorem kZ12_hour_330 {S1 : XL} {K283 : XL → Nat → Option (XL)} {M : XL} {ic : Nat} {H : Heap} {locs : List Loc} {ls : Array Slot} {cells slots : Nat} (X : gX p s m args c cX12_hour 4 RX12 (kR kTab kA)) (hC : lC C) {ai : Nat} (hai : itOK la C bs s.heap.size ai) (hret : gRetVA p l e (rmL 5 6 24) s m args below meth c cX12_hour 6 24 (lΩ la C) (lP dC dI cg kA la iA C bs) Q S1) (hK283 : ∀ (M : XL) (ic : Nat) (H : Heap) (locs : List Loc) (ls : Array Slot), K283 M ic = some S1 → (ic ≤ lNum C 1) → (gF (lP dC dI cg kA la iA C bs) (itF dC dI ai (la 1) (lNum C 1) ic)) M s H → va_S (Fr (lΩ la C) s.heap.size) s.heap H locs → lv_has ls 4 [(0, .ref (la 0)), (1, .ref ai)] → W p l e (rmL 5 6 24) s m args below meth c H locs cells slots Q (F0 m 283 ls [])) (hcs : cells + 0 ≤ 6 ∧ slots + 0 ≤ 24) (hf : fZ12_hour_330 C K283  M ic = some S1) (hic : ic ≤ lNum C 1) (hP : (gF (lP dC dI cg kA la iA C bs) (itF dC dI ai (la 1) (lNum C 1) ic)) M s H) (hS : va_S (Fr (lΩ la C) s.heap.size) s.heap H locs) (hl : lv_has ls 4 [(0, .ref (la 0)), (1, .ref ai)]) : W p l e (rmL 5 6 24) s m args below meth c H locs cells slots Q (F0 m 330 ls []) := by
  have hx := X.hx
  have hb := X.hb
  rw [fZ12_hour_330] at hf
  refine lv_goto (tgt := 283) hx hb dX12_hour_330 (by decide) ?_
  exact hK283 _ ic _ _ _ hf hic hP hS (lv_sub hl [0, 1] rfl)
set_option maxRecDepth 10000 in
theorem kZ12_hour_327 {S1 : XL} {K283 : XL → Nat → Option (XL)} {M : XL} {ic : Nat} {ps1 : Nat} {s0 : Int32} {H : Heap} {locs : List Loc} {ls : Array Slot} {cells slots : Nat} (X : gX p s m args c cX12_hour 4 RX12 (kR kTab kA)) (hC : lC C) {ai : Nat} (hai : itOK la C bs s.heap.size ai) (hret : gRetVA p l e (rmL 5 6 24) s m args below meth c cX12_hour 6 24 (lΩ la C) (lP dC dI cg kA la iA C bs) Q S1) (hK283 : ∀ (M : XL) (ic : Nat) (H : Heap) (locs : List Loc) (ls : Array Slot), K283 M ic = some S1 → (ic ≤ lNum C 1) → (gF (lP dC dI cg kA la iA C bs) (itF dC dI ai (la 1) (lNum C 1) ic)) M s H → va_S (Fr (lΩ la C) s.heap.size) s.heap H locs → lv_has ls 4 [(0, .ref (la 0)), (1, .ref ai)] → W p l e (rmL 5 6 24) s m args below meth c H locs cells slots Q (F0 m 283 ls [])) (hcs : cells + 0 ≤ 6 ∧ slots + 0 ≤ 24) (hf : fZ12_hour_327 C K283  M ic ps1 s0 = some S1) (hic : ic ≤ lNum C 1) (hps1 : ps1 < C.1.1) (hP : (gF (lP dC dI cg kA la iA C bs) (itF dC dI ai (la 1) (lNum C 1) ic)) M s H) (hS : va_S (Fr (lΩ la C) s.heap.size) s.heap H locs) (hl : lv_has ls 4 [(0, .ref (la 0)), (1, .ref ai)]) : W p l e (rmL 5 6 24) s m args below meth c H locs cells slots Q (F0 m 327 ls [.int s0, .ref (la (9 + ps1))]) := by
  have hx := X.hx
  have hb := X.hb
  rw [fZ12_hour_327] at hf
  refine lr_putN (k := 2) (fs := (lFc ps1 M)) (tyT := tyX11) (upd M.1 (65 + 12 * ps1 + 9) s0, M.2) X (itF_fs hai) hP hS (lEx_c hC hps1) (lR_c (lC_c hC hps1)) (lc_2 (lC_c hC hps1)) (fun p hp => luc (lC_c hC hps1) (by decide) hp) (rfl : vwCl[16]? = some (RX11, TX11, 7)) cinX11 tyX11_ok nmX11 (by decide) rfl rfl rfl rfl (Nat.le_of_ble_eq_true rfl) xw821 dX12_hour_327 (fun H locs hP hS => ?_)
  exact kZ12_hour_330 X hC hai hret hK283 (by omega) hf hic hP hS (lv_sub hl [0, 1] rfl)
set_option maxRecDepth 10000 in
theorem kZ12_hour_318 {S1 : XL} {K283 : XL → Nat → Option (XL)} {M : XL} {ic : Nat} {p2 : Nat} {ps0 : Nat} {H : Heap} {locs : List Loc} {ls : Array Slot} {cells slots : Nat} (X : gX p s m args c cX12_hour 4 RX12 (kR kTab kA)) (hC : lC C) {ai : Nat} (hai : itOK la C bs s.heap.size ai) (hret : gRetVA p l e (rmL 5 6 24) s m args below meth c cX12_hour 6 24 (lΩ la C) (lP dC dI cg kA la iA C bs) Q S1) (hK283 : ∀ (M : XL) (ic : Nat) (H : Heap) (locs : List Loc) (ls : Array Slot), K283 M ic = some S1 → (ic ≤ lNum C 1) → (gF (lP dC dI cg kA la iA C bs) (itF dC dI ai (la 1) (lNum C 1) ic)) M s H → va_S (Fr (lΩ la C) s.heap.size) s.heap H locs → lv_has ls 4 [(0, .ref (la 0)), (1, .ref ai)] → W p l e (rmL 5 6 24) s m args below meth c H locs cells slots Q (F0 m 283 ls [])) (hcs : cells + 0 ≤ 6 ∧ slots + 0 ≤ 24) (hf : fZ12_hour_318 C K283  M ic p2 ps0 = some S1) (hic : ic ≤ lNum C 1) (hp2 : p2 < C.1.1) (hps0 : ps0 < C.1.1) (hP : (gF (lP dC dI cg kA la iA C bs) (itF dC dI ai (la 1) (lNum C 1) ic)) M s H) (hS : va_S (Fr (lΩ la C) s.heap.size) s.heap H locs) (hl : lv_has ls 4 [(0, .ref (la 0)), (1, .ref ai), (2, .ref (la (9 + p2)))]) : W p l e (rmL 5 6 24) s m args below meth c H locs cells slots Q (F0 m 318 ls [.ref (la (9 + ps0))]) := by
  have hx := X.hx
  have hb := X.hb
  rw [fZ12_hour_318] at hf
  refine lv_aload_n hx hb dX12_hour_318 rfl (lv_at hl 2 rfl) ?_
  refine lr_getN (k := 2) (fs := (lFc p2 M)) (v := .int (M.1 (65 + 12 * p2 + 9))) X hP (lEx_c hC hp2) (lR_c (lC_c hC hp2)) (rfl : vwCl[16]? = some (RX11, TX11, 7)) cinX11 (by decide) rfl rfl xw821 dX12_hour_319 ?_
  refine lv_aload_n hx hb dX12_hour_322 rfl (lv_at hl 0 rfl) ?_
  refine lr_get (k := 6) (fs := (lF0 la M)) (v := .int (M.1 4)) X hP (lEx_l (by decide)) lR_0 (rfl : vwCl[17]? = some (RX12, TX12, 15)) cinX12 (by decide) rfl rfl tw893 dX12_hour_323 ?_
  refine lv_isub hx hb dX12_hour_326 ?_
  exact kZ12_hour_327 X hC hai hret hK283 (by omega) hf hic hps0 hP hS (lv_sub hl [0, 1] rfl)
set_option maxRecDepth 10000 in
theorem kZ12_hour_314 {S1 : XL} {K283 : XL → Nat → Option (XL)} {M : XL} {ic : Nat} {ps0 : Nat} {H : Heap} {locs : List Loc} {ls : Array Slot} {cells slots : Nat} (X : gX p s m args c cX12_hour 4 RX12 (kR kTab kA)) (hC : lC C) {ai : Nat} (hai : itOK la C bs s.heap.size ai) (hret : gRetVA p l e (rmL 5 6 24) s m args below meth c cX12_hour 6 24 (lΩ la C) (lP dC dI cg kA la iA C bs) Q S1) (hK283 : ∀ (M : XL) (ic : Nat) (H : Heap) (locs : List Loc) (ls : Array Slot), K283 M ic = some S1 → (ic ≤ lNum C 1) → (gF (lP dC dI cg kA la iA C bs) (itF dC dI ai (la 1) (lNum C 1) ic)) M s H → va_S (Fr (lΩ la C) s.heap.size) s.heap H locs → lv_has ls 4 [(0, .ref (la 0)), (1, .ref ai)] → W p l e (rmL 5 6 24) s m args below meth c H locs cells slots Q (F0 m 283 ls [])) (hcs : cells + 0 ≤ 6 ∧ slots + 0 ≤ 24) (hf : fZ12_hour_314 C K283  M ic ps0 = some S1) (hic : ic ≤ lNum C 1) (hps0 : ps0 < C.1.1) (hP : (gF (lP dC dI cg kA la iA C bs) (itF dC dI ai (la 1) (lNum C 1) ic)) M s H) (hS : va_S (Fr (lΩ la C) s.heap.size) s.heap H locs) (hl : lv_has ls 4 [(0, .ref (la 0)), (1, .ref ai)]) : W p l e (rmL 5 6 24) s m args below meth c H locs cells slots Q (F0 m 314 ls [.ref (la (9 + ps0))]) := by
  have hx := X.hx
  have hb := X.hb
  rw [fZ12_hour_314] at hf
  refine lv_iconst (v := 0) hx hb dX12_hour_314 (by decide) ?_
  refine lv_goto (tgt := 327) hx hb dX12_hour_315 (by decide) ?_
  exact kZ12_hour_327 X hC hai hret hK283 (by omega) hf hic hps0 hP hS (lv_sub hl [0, 1] rfl)
set_option maxRecDepth 10000 in
theorem kZ12_hour_298 {S1 : XL} {K283 : XL → Nat → Option (XL)} {M : XL} {ic : Nat} {ps0 : Nat} {H : Heap} {locs : List Loc} {ls : Array Slot} {cells slots : Nat} (X : gX p s m args c cX12_hour 4 RX12 (kR kTab kA)) (hC : lC C) {ai : Nat} (hai : itOK la C bs s.heap.size ai) (hret : gRetVA p l e (rmL 5 6 24) s m args below meth c cX12_hour 6 24 (lΩ la C) (lP dC dI cg kA la iA C bs) Q S1) (hK283 : ∀ (M : XL) (ic : Nat) (H : Heap) (locs : List Loc) (ls : Array Slot), K283 M ic = some S1 → (ic ≤ lNum C 1) → (gF (lP dC dI cg kA la iA C bs) (itF dC dI ai (la 1) (lNum C 1) ic)) M s H → va_S (Fr (lΩ la C) s.heap.size) s.heap H locs → lv_has ls 4 [(0, .ref (la 0)), (1, .ref ai)] → W p l e (rmL 5 6 24) s m args below meth c H locs cells slots Q (F0 m 283 ls [])) (hcs : cells + 0 ≤ 6 ∧ slots + 0 ≤ 24) (hf : fZ12_hour_298 C K283  M ic ps0 = some S1) (hic : ic ≤ lNum C 1) (hps0 : ps0 < C.1.1) (hP : (gF (lP dC dI cg kA la iA C bs) (itF dC dI ai (la 1) (lNum C 1) ic)) M s H) (hS : va_S (Fr (lΩ la C) s.heap.size) s.heap H locs) (hl : lv_has ls 4 [(0, .ref (la 0)), (1, .ref ai)]) : W p l e (rmL 5 6 24) s m args below meth c H locs cells slots Q (F0 m 298 ls [.ref (la (9 + ps0))]) := by
  have hx := X.hx
  have hb := X.hb
  rw [fZ12_hour_298] at hf
  refine lr_cast X hP (lEx_c hC hps0) (lR_c (lC_c hC hps0)) (rfl : vwCl[16]? = some (RX11, TX11, 7)) tw1404 dX12_hour_298 ?_
  refine lv_astore_n (lv' := [(2, .ref (la (9 + ps0))), (0, .ref (la 0)), (1, .ref ai)]) hx hb dX12_hour_301 rfl hl (by decide) rfl (fun ls hl => ?_)
  refine lv_aload_n hx hb dX12_hour_302 rfl (lv_at hl 0 rfl) ?_
  refine lv_aload_n hx hb dX12_hour_303 rfl (lv_at hl 0 rfl) ?_
  refine lr_getN (k := 2) (fs := (lFc ps0 M)) (v := .int (M.1 (65 + 12 * ps0 + 9))) X hP (lEx_c hC hps0) (lR_c (lC_c hC hps0)) (rfl : vwCl[16]? = some (RX11, TX11, 7)) cinX11 (by decide) rfl rfl xw821 dX12_hour_304 ?_
  refine lv_aload_n hx hb dX12_hour_307 rfl (lv_at hl 1 rfl) ?_
  refine lr_get (k := 6) (fs := (lF0 la M)) (v := .int (M.1 4)) X hP (lEx_l (by decide)) lR_0 (rfl : vwCl[17]? = some (RX12, TX12, 15)) cinX12 (by decide) rfl rfl tw893 dX12_hour_308 ?_
  refine lv_icmp_ge (tgt := 318) hx hb dX12_hour_311 (by decide) (fun c1 => ?_) (fun c1 => ?_)
  · exact kZ12_hour_318 X hC hai hret hK283 (by omega) (ifp c1 hf) hic hps0 hps0 hP hS (lv_sub hl [1, 2, 0] rfl)
  · exact kZ12_hour_314 X hC hai hret hK283 (by omega) (ifn c1 hf) hic hps0 hP hS (lv_sub hl [1, 2] rfl)
set_option maxRecDepth 10000 in
theorem kZ12_hour_292 {S1 : XL} {K283 : XL → Nat → Option (XL)} {M : XL} {ic : Nat} {H : Heap} {locs : List Loc} {ls : Array Slot} {cells slots : Nat} (X : gX p s m args c cX12_hour 4 RX12 (kR kTab kA)) (hC : lC C) {ai : Nat} (hai : itOK la C bs s.heap.size ai) (hret : gRetVA p l e (rmL 5 6 24) s m args below meth c cX12_hour 6 24 (lΩ la C) (lP dC dI cg kA la iA C bs) Q S1) (hK283 : ∀ (M : XL) (ic : Nat) (H : Heap) (locs : List Loc) (ls : Array Slot), K283 M ic = some S1 → (ic ≤ lNum C 1) → (gF (lP dC dI cg kA la iA C bs) (itF dC dI ai (la 1) (lNum C 1) ic)) M s H → va_S (Fr (lΩ la C) s.heap.size) s.heap H locs → lv_has ls 4 [(0, .ref (la 0)), (1, .ref ai)] → W p l e (rmL 5 6 24) s m args below meth c H locs cells slots Q (F0 m 283 ls [])) (hcs : cells + 0 ≤ 6 ∧ slots + 0 ≤ 24) (hf : fZ12_hour_292 C K283  M ic = some S1) (hic : ic ≤ lNum C 1) (hP : (gF (lP dC dI cg kA la iA C bs) (itF dC dI ai (la 1) (lNum C 1) ic)) M s H) (hS : va_S (Fr (lΩ la C) s.heap.size) s.heap H locs) (hl : lv_has ls 4 [(0, .ref (la 0)), (1, .ref ai)]) : W p l e (rmL 5 6 24) s m args below meth c H locs cells slots Q (F0 m 292 ls []) := by
  have hx := X.hx
  have hb := X.hb
  rw [fZ12_hour_292] at hf
  refine lv_aload_n hx hb dX12_hour_292 rfl (lv_at hl 1 rfl) ?_
  obtain ⟨g1, hf⟩ := gd hf
  refine lr_next (b := 1) (q := (la (9 + ic))) X hC hai hP hS (fun q z => Or.inr z) (by decide) g1 (lFa_1 g1) tw1394 ⟨by decide, by decide⟩ hl.1 (Nat.le_of_ble_eq_true rfl) ⟨by show _ ≤ 6; omega, by show _ ≤ 24; omega⟩ dX12_hour_293 (fun H locs hP hS => ?_)
  exact kZ12_hour_298 X hC hai hret hK283 (by omega) hf (Nat.succ_le_of_lt g1) g1 hP hS (lv_sub hl [0, 1] rfl)
set_option maxRecDepth 10000 in
theorem kZ12_hour_283 {S1 : XL} {cells slots : Nat} (X : gX p s m args c cX12_hour 4 RX12 (kR kTab kA)) (hC : lC C) {ai : Nat} (hai : itOK la C bs s.heap.size ai) (hret : gRetVA p l e (rmL 5 6 24) s m args below meth c cX12_hour 6 24 (lΩ la C) (lP dC dI cg kA la iA C bs) Q S1) (hcs : cells + 0 ≤ 6 ∧ slots + 0 ≤ 24) : ∀ (n : Nat) (M : XL) (ic : Nat) (H : Heap) (locs : List Loc) (ls : Array Slot), fZ12_hour_283 C  n M ic = some S1 → (ic ≤ lNum C 1) → (gF (lP dC dI cg kA la iA C bs) (itF dC dI ai (la 1) (lNum C 1) ic)) M s H → va_S (Fr (lΩ la C) s.heap.size) s.heap H locs → lv_has ls 4 [(0, .ref (la 0)), (1, .ref ai)] → W p l e (rmL 5 6 24) s m args below meth c H locs cells slots Q (F0 m 283 ls []) := by
  intro n
  induction n with
  | zero => intro M ic H locs ls hf; cases hf
  | succ k ih =>
    intro M ic H locs ls hf hic hP hS hl
    have hx := X.hx
    have hb := X.hb
    rw [fZ12_hour_283] at hf
    try dsimp only at hf
    refine lv_aload_n hx hb dX12_hour_283 rfl (lv_at hl 1 rfl) ?_
    refine lr_hasNext (b := 1) X rfl hC hP (by decide) hic tw1392 (by decide) hl.1 (Nat.le_of_ble_eq_true rfl) ⟨by omega, by omega⟩ dX12_hour_284 ?_
    refine lv_if_eq (tgt := 333) hx hb dX12_hour_289 (by decide) (fun c1 => ?_) (fun c1 => ?_)
    · exact kZ12_hour_333 X hC hret (by omega) (ifp (hn_0 c1) hf) ⟨hP.1, trivial⟩ hS (lv_sub hl [0] rfl)
    · exact kZ12_hour_292 X hC hai hret ih (by omega) (ifn (hn_1 c1) hf) hic hP hS (lv_sub hl [0, 1] rfl)
set_option maxRecDepth 10000 in
theorem kZ12_hour_282 {S1 : XL} {M : XL} {ic : Nat} {H : Heap} {locs : List Loc} {ls : Array Slot} {cells slots : Nat} (X : gX p s m args c cX12_hour 4 RX12 (kR kTab kA)) (hC : lC C) {ai : Nat} (hai : itOK la C bs s.heap.size ai) (hret : gRetVA p l e (rmL 5 6 24) s m args below meth c cX12_hour 6 24 (lΩ la C) (lP dC dI cg kA la iA C bs) Q S1) (hcs : cells + 0 ≤ 6 ∧ slots + 0 ≤ 24) (hf : fZ12_hour_282 C  M ic = some S1) (hic : ic ≤ lNum C 1) (hP : (gF (lP dC dI cg kA la iA C bs) (itF dC dI ai (la 1) (lNum C 1) ic)) M s H) (hS : va_S (Fr (lΩ la C) s.heap.size) s.heap H locs) (hl : lv_has ls 4 [(0, .ref (la 0))]) : W p l e (rmL 5 6 24) s m args below meth c H locs cells slots Q (F0 m 282 ls [.ref ai]) := by
  have hx := X.hx
  have hb := X.hb
  rw [fZ12_hour_282] at hf
  refine lv_astore_n (lv' := [(1, .ref ai), (0, .ref (la 0))]) hx hb dX12_hour_282 rfl hl (by decide) rfl (fun ls hl => ?_)
  exact kZ12_hour_283 X hC hai hret (by omega) FU _ ic _ _ _ hf hic hP hS (lv_sub hl [1, 0] rfl)
set_option maxRecDepth 10000 in
theorem kZ12_hour_273 {S1 : XL} {M : XL} {H : Heap} {locs : List Loc} {ls : Array Slot} {cells slots : Nat} (X : gX p s m args c cX12_hour 4 RX12 (kR kTab kA)) (hC : lC C) (hret : gRetVA p l e (rmL 5 6 24) s m args below meth c cX12_hour 6 24 (lΩ la C) (lP dC dI cg kA la iA C bs) Q S1) (hcs : cells + 1 ≤ 6 ∧ slots + 4 ≤ 24) (hf : fZ12_hour_273 C  M = some S1) (hP : (gF (lP dC dI cg kA la iA C bs) T0) M s H) (hS : va_S (Fr (lΩ la C) s.heap.size) s.heap H locs) (hl : lv_has ls 4 [(0, .ref (la 0))]) : W p l e (rmL 5 6 24) s m args below meth c H locs cells slots Q (F0 m 273 ls []) := by
  have hx := X.hx
  have hb := X.hb
  rw [fZ12_hour_273] at hf
  refine lv_aload_n hx hb dX12_hour_273 rfl (lv_at hl 0 rfl) ?_
  refine lr_get (k := 0) (fs := (lF0 la M)) (v := .ref (la 1)) X hP (lEx_l (by decide)) lR_0 (rfl : vwCl[17]? = some (RX12, TX12, 15)) cinX12 (by decide) rfl rfl tw880 dX12_hour_274 ?_
  refine lr_iter (b := 1) X hP hS (fun q z => Or.inr z) (by decide) tw1390 ⟨by decide, by decide⟩ hl.1 (Nat.le_of_ble_eq_true rfl) ⟨by show _ + 1 ≤ 6; omega, by show _ + 4 ≤ 24; omega⟩ dX12_hour_277 (fun H locs ai hai hP hS => ?_)
  exact kZ12_hour_282 X hC hai hret (by omega) hf (Nat.zero_le _) hP hS (lv_sub hl [0] rfl)
set_option maxRecDepth 10000 in
theorem kZ12_hour_272 {S1 : XL} {M : XL} {H : Heap} {locs : List Loc} {ls : Array Slot} {cells slots : Nat} (X : gX p s m args c cX12_hour 4 RX12 (kR kTab kA)) (hC : lC C) (hret : gRetVA p l e (rmL 5 6 24) s m args below meth c cX12_hour 6 24 (lΩ la C) (lP dC dI cg kA la iA C bs) Q S1) (hcs : cells + 0 ≤ 6 ∧ slots + 0 ≤ 24) (hf : fZ12_hour_272 C  M = some S1) (hP : (gF (lP dC dI cg kA la iA C bs) T0) M s H) (hS : va_S (Fr (lΩ la C) s.heap.size) s.heap H locs) (hl : lv_has ls 4 [(0, .ref (la 0))]) : W p l e (rmL 5 6 24) s m args below meth c H locs cells slots Q (F0 m 272 ls []) := by
  have hx := X.hx
  have hb := X.hb
  rw [fZ12_hour_272] at hf
  cases hf
  exact hret _ _ _ _ _ _ dX12_hour_272 hP.1 hS (by omega) (by omega)
set_option maxRecDepth 10000 in
theorem kZ12_hour_260 {S1 : XL} {M : XL} {H : Heap} {locs : List Loc} {ls : Array Slot} {cells slots : Nat} (X : gX p s m args c cX12_hour 4 RX12 (kR kTab kA)) (hC : lC C) (hret : gRetVA p l e (rmL 5 6 24) s m args below meth c cX12_hour 6 24 (lΩ la C) (lP dC dI cg kA la iA C bs) Q S1) (hcs : cells + 1 ≤ 6 ∧ slots + 4 ≤ 24) (hf : fZ12_hour_260 C  M = some S1) (hP : (gF (lP dC dI cg kA la iA C bs) T0) M s H) (hS : va_S (Fr (lΩ la C) s.heap.size) s.heap H locs) (hl : lv_has ls 4 [(0, .ref (la 0))]) : W p l e (rmL 5 6 24) s m args below meth c H locs cells slots Q (F0 m 260 ls []) := by
  have hx := X.hx
  have hb := X.hb
  rw [fZ12_hour_260] at hf
  refine lv_aload_n hx hb dX12_hour_260 rfl (lv_at hl 0 rfl) ?_
  refine lr_get (k := 5) (fs := (lF0 la M)) (v := .int (M.1 3)) X hP (lEx_l (by decide)) lR_0 (rfl : vwCl[17]? = some (RX12, TX12, 15)) cinX12 (by decide) rfl rfl tw891 dX12_hour_261 ?_
  refine lv_bipush (v := 24) hx hb dX12_hour_264 (by decide) ?_
  refine lv_irem hx hb dX12_hour_266 (by decide) ?_
  refine lv_bipush (v := 6) hx hb dX12_hour_267 (by decide) ?_
  refine lv_icmp_eq (tgt := 273) hx hb dX12_hour_269 (by decide) (fun c1 => ?_) (fun c1 => ?_)
  · exact kZ12_hour_273 X hC hret (by omega) (ifp c1 hf) hP hS (lv_sub hl [0] rfl)
  · exact kZ12_hour_272 X hC hret (by omega) (ifn c1 hf) hP hS (lv_sub hl [0] rfl)
set_option maxRecDepth 10000 in
theorem kZ12_hour_256 {S1 : XL} {M : XL} {H : Heap} {locs : List Loc} {ls : Array Slot} {cells slots : Nat} (X : gX p s m args c cX12_hour 4 RX12 (kR kTab kA)) (hC : lC C) (hret : gRetVA p l e (rmL 5 6 24) s m args below meth c cX12_hour 6 24 (lΩ la C) (lP dC dI cg kA la iA C bs) Q S1) (hcs : cells + 1 ≤ 6 ∧ slots + 4 ≤ 24) (hf : fZ12_hour_256 C  M = some S1) (hP : (gF (lP dC dI cg kA la iA C bs) T0) M s H) (hS : va_S (Fr (lΩ la C) s.heap.size) s.heap H locs) (hl : lv_has ls 4 [(0, .ref (la 0))]) : W p l e (rmL 5 6 24) s m args below meth c H locs cells slots Q (F0 m 256 ls []) := by
  have hx := X.hx
  have hb := X.hb
  rw [fZ12_hour_256] at hf
  refine lv_aload_n hx hb dX12_hour_256 rfl (lv_at hl 0 rfl) ?_
  obtain ⟨q, hc, hf⟩ := bd hf
  refine gCallWV X (lOK T0_fs) (((vZ12_changes hC hc)).lift T0_fs) (cw_V 0 X g5_RX12_X12_changes hd5_X12_changes ⟨by decide, by decide⟩) rfl hP hS (Fr_le hS.1) (lr_rec hP (lEx_l (by decide)) lR_0 (rfl : vwCl[17]? = some (RX12, TX12, 15))) hl.1 (Nat.le_of_ble_eq_true rfl) ⟨by show _ + 0 ≤ 6; omega, by show _ + 0 ≤ 24; omega⟩ dX12_hour_257 (As := []) (rest := []) rfl (fun H locs hP hS => ?_)
  exact kZ12_hour_260 X hC hret (by omega) hf hP hS (lv_sub hl [0] rfl)
set_option maxRecDepth 10000 in
theorem kZ12_hour_249 {S1 : XL} {M : XL} {H : Heap} {locs : List Loc} {ls : Array Slot} {cells slots : Nat} (X : gX p s m args c cX12_hour 4 RX12 (kR kTab kA)) (hC : lC C) (hret : gRetVA p l e (rmL 5 6 24) s m args below meth c cX12_hour 6 24 (lΩ la C) (lP dC dI cg kA la iA C bs) Q S1) (hcs : cells + 1 ≤ 6 ∧ slots + 4 ≤ 24) (hf : fZ12_hour_249 C  M = some S1) (hP : (gF (lP dC dI cg kA la iA C bs) T0) M s H) (hS : va_S (Fr (lΩ la C) s.heap.size) s.heap H locs) (hl : lv_has ls 4 [(0, .ref (la 0))]) : W p l e (rmL 5 6 24) s m args below meth c H locs cells slots Q (F0 m 249 ls []) := by
  have hx := X.hx
  have hb := X.hb
  rw [fZ12_hour_249] at hf
  refine lv_aload_n hx hb dX12_hour_249 rfl (lv_at hl 0 rfl) ?_
  refine lr_get (k := 8) (fs := (lF0 la M)) (v := .int (M.1 7)) X hP (lEx_l (by decide)) lR_0 (rfl : vwCl[17]? = some (RX12, TX12, 15)) cinX12 (by decide) rfl rfl tw896 dX12_hour_250 ?_
  refine lv_if_ne (tgt := 260) hx hb dX12_hour_253 (by decide) (fun c1 => ?_) (fun c1 => ?_)
  · exact kZ12_hour_260 X hC hret (by omega) (ifn c1 hf) hP hS (lv_sub hl [0] rfl)
  · exact kZ12_hour_256 X hC hret (by omega) (ifp c1 hf) hP hS (lv_sub hl [0] rfl)
set_option maxRecDepth 10000 in
theorem kZ12_hour_239 {S1 : XL} {M : XL} {H : Heap} {locs : List Loc} {ls : Array Slot} {cells slots : Nat} (X : gX p s m args c cX12_hour 4 RX12 (kR kTab kA)) (hC : lC C) (hret : gRetVA p l e (rmL 5 6 24) s m args below meth c cX12_hour 6 24 (lΩ la C) (lP dC dI cg kA la iA C bs) Q S1) (hcs : cells + 1 ≤ 6 ∧ slots + 4 ≤ 24) (hf : fZ12_hour_239 C  M = some S1) (hP : (gF (lP dC dI cg kA la iA C bs) T0) M s H) (hS : va_S (Fr (lΩ la C) s.heap.size) s.heap H locs) (hl : lv_has ls 4 [(0, .ref (la 0))]) : W p l e (rmL 5 6 24) s m args below meth c H locs cells slots Q (F0 m 239 ls []) := by
  have hx := X.hx
  have hb := X.hb
  rw [fZ12_hour_239] at hf
  refine lv_aload_n hx hb dX12_hour_239 rfl (lv_at hl 0 rfl) ?_
  refine lv_dup hx hb dX12_hour_240 rfl ?_
  refine lr_get (k := 8) (fs := (lF0 la M)) (v := .int (M.1 7)) X hP (lEx_l (by decide)) lR_0 (rfl : vwCl[17]? = some (RX12, TX12, 15)) cinX12 (by decide) rfl rfl tw896 dX12_hour_241 ?_
  refine lv_iconst (v := 1) hx hb dX12_hour_244 (by decide) ?_
  refine lv_isub hx hb dX12_hour_245 ?_
  refine lr_put (k := 8) (fs := (lF0 la M)) (tyT := tyX12) (upd M.1 7 ((M.1 7) - 1), M.2) X T0_fs hP hS (lEx_l (by decide)) lR_0 rfl (fun p hp => lu0 (by decide) hp) (rfl : vwCl[17]? = some (RX12, TX12, 15)) cinX12 tyX12_ok nmX12 (by decide) rfl rfl rfl rfl (Nat.le_of_ble_eq_true rfl) tw896 dX12_hour_246 (fun H locs hP hS => ?_)
  exact kZ12_hour_249 X hC hret (by omega) hf hP hS (lv_sub hl [0] rfl)
set_option maxRecDepth 10000 in
theorem kZ12_hour_236 {S1 : XL} {K193 : XL → Nat → Option (XL)} {M : XL} {ic : Nat} {H : Heap} {locs : List Loc} {ls : Array Slot} {cells slots : Nat} (X : gX p s m args c cX12_hour 4 RX12 (kR kTab kA)) (hC : lC C) {ai : Nat} (hai : itOK la C bs s.heap.size ai) (hret : gRetVA p l e (rmL 5 6 24) s m args below meth c cX12_hour 6 24 (lΩ la C) (lP dC dI cg kA la iA C bs) Q S1) (hK193 : ∀ (M : XL) (ic : Nat) (H : Heap) (locs : List Loc) (ls : Array Slot), K193 M ic = some S1 → (ic ≤ lNum C 1) → (gF (lP dC dI cg kA la iA C bs) (itF dC dI ai (la 1) (lNum C 1) ic)) M s H → va_S (Fr (lΩ la C) s.heap.size) s.heap H locs → lv_has ls 4 [(0, .ref (la 0)), (1, .ref ai)] → W p l e (rmL 5 6 24) s m args below meth c H locs cells slots Q (F0 m 193 ls [])) (hcs : cells + 0 ≤ 6 ∧ slots + 0 ≤ 24) (hf : fZ12_hour_236 C K193  M ic = some S1) (hic : ic ≤ lNum C 1) (hP : (gF (lP dC dI cg kA la iA C bs) (itF dC dI ai (la 1) (lNum C 1) ic)) M s H) (hS : va_S (Fr (lΩ la C) s.heap.size) s.heap H locs) (hl : lv_has ls 4 [(0, .ref (la 0)), (1, .ref ai)]) : W p l e (rmL 5 6 24) s m args below meth c H locs cells slots Q (F0 m 236 ls []) := by
  have hx := X.hx
  have hb := X.hb
  rw [fZ12_hour_236] at hf
  refine lv_goto (tgt := 193) hx hb dX12_hour_236 (by decide) ?_
  exact hK193 _ ic _ _ _ hf hic hP hS (lv_sub hl [0, 1] rfl)
set_option maxRecDepth 10000 in
theorem kZ12_hour_226 {S1 : XL} {K193 : XL → Nat → Option (XL)} {M : XL} {ic : Nat} {p2 : Nat} {H : Heap} {locs : List Loc} {ls : Array Slot} {cells slots : Nat} (X : gX p s m args c cX12_hour 4 RX12 (kR kTab kA)) (hC : lC C) {ai : Nat} (hai : itOK la C bs s.heap.size ai) (hret : gRetVA p l e (rmL 5 6 24) s m args below meth c cX12_hour 6 24 (lΩ la C) (lP dC dI cg kA la iA C bs) Q S1) (hK193 : ∀ (M : XL) (ic : Nat) (H : Heap) (locs : List Loc) (ls : Array Slot), K193 M ic = some S1 → (ic ≤ lNum C 1) → (gF (lP dC dI cg kA la iA C bs) (itF dC dI ai (la 1) (lNum C 1) ic)) M s H → va_S (Fr (lΩ la C) s.heap.size) s.heap H locs → lv_has ls 4 [(0, .ref (la 0)), (1, .ref ai)] → W p l e (rmL 5 6 24) s m args below meth c H locs cells slots Q (F0 m 193 ls [])) (hcs : cells + 0 ≤ 6 ∧ slots + 0 ≤ 24) (hf : fZ12_hour_226 C K193  M ic p2 = some S1) (hic : ic ≤ lNum C 1) (hp2 : p2 < C.1.1) (hP : (gF (lP dC dI cg kA la iA C bs) (itF dC dI ai (la 1) (lNum C 1) ic)) M s H) (hS : va_S (Fr (lΩ la C) s.heap.size) s.heap H locs) (hl : lv_has ls 4 [(0, .ref (la 0)), (1, .ref ai), (2, .ref (la (9 + p2)))]) : W p l e (rmL 5 6 24) s m args below meth c H locs cells slots Q (F0 m 226 ls []) := by
  have hx := X.hx
  have hb := X.hb
  rw [fZ12_hour_226] at hf
  refine lv_aload_n hx hb dX12_hour_226 rfl (lv_at hl 2 rfl) ?_
  refine lv_dup hx hb dX12_hour_227 rfl ?_
  refine lr_getN (k := 2) (fs := (lFc p2 M)) (v := .int (M.1 (65 + 12 * p2 + 9))) X hP (lEx_c hC hp2) (lR_c (lC_c hC hp2)) (rfl : vwCl[16]? = some (RX11, TX11, 7)) cinX11 (by decide) rfl rfl xw821 dX12_hour_228 ?_
  refine lv_iconst (v := 1) hx hb dX12_hour_231 (by decide) ?_
  refine lv_isub hx hb dX12_hour_232 ?_
  refine lr_putN (k := 2) (fs := (lFc p2 M)) (tyT := tyX11) (upd M.1 (65 + 12 * p2 + 9) ((M.1 (65 + 12 * p2 + 9)) - 1), M.2) X (itF_fs hai) hP hS (lEx_c hC hp2) (lR_c (lC_c hC hp2)) (lc_2 (lC_c hC hp2)) (fun p hp => luc (lC_c hC hp2) (by decide) hp) (rfl : vwCl[16]? = some (RX11, TX11, 7)) cinX11 tyX11_ok nmX11 (by decide) rfl rfl rfl rfl (Nat.le_of_ble_eq_true rfl) xw821 dX12_hour_233 (fun H locs hP hS => ?_)
  exact kZ12_hour_236 X hC hai hret hK193 (by omega) hf hic hP hS (lv_sub hl [0, 1] rfl)
set_option maxRecDepth 10000 in
theorem kZ12_hour_219 {S1 : XL} {K193 : XL → Nat → Option (XL)} {M : XL} {ic : Nat} {p2 : Nat} {H : Heap} {locs : List Loc} {ls : Array Slot} {cells slots : Nat} (X : gX p s m args c cX12_hour 4 RX12 (kR kTab kA)) (hC : lC C) {ai : Nat} (hai : itOK la C bs s.heap.size ai) (hret : gRetVA p l e (rmL 5 6 24) s m args below meth c cX12_hour 6 24 (lΩ la C) (lP dC dI cg kA la iA C bs) Q S1) (hK193 : ∀ (M : XL) (ic : Nat) (H : Heap) (locs : List Loc) (ls : Array Slot), K193 M ic = some S1 → (ic ≤ lNum C 1) → (gF (lP dC dI cg kA la iA C bs) (itF dC dI ai (la 1) (lNum C 1) ic)) M s H → va_S (Fr (lΩ la C) s.heap.size) s.heap H locs → lv_has ls 4 [(0, .ref (la 0)), (1, .ref ai)] → W p l e (rmL 5 6 24) s m args below meth c H locs cells slots Q (F0 m 193 ls [])) (hcs : cells + 0 ≤ 6 ∧ slots + 0 ≤ 24) (hf : fZ12_hour_219 C K193  M ic p2 = some S1) (hic : ic ≤ lNum C 1) (hp2 : p2 < C.1.1) (hP : (gF (lP dC dI cg kA la iA C bs) (itF dC dI ai (la 1) (lNum C 1) ic)) M s H) (hS : va_S (Fr (lΩ la C) s.heap.size) s.heap H locs) (hl : lv_has ls 4 [(0, .ref (la 0)), (1, .ref ai), (2, .ref (la (9 + p2)))]) : W p l e (rmL 5 6 24) s m args below meth c H locs cells slots Q (F0 m 219 ls []) := by
  have hx := X.hx
  have hb := X.hb
  rw [fZ12_hour_219] at hf
  refine lv_aload_n hx hb dX12_hour_219 rfl (lv_at hl 2 rfl) ?_
  refine lr_getN (k := 2) (fs := (lFc p2 M)) (v := .int (M.1 (65 + 12 * p2 + 9))) X hP (lEx_c hC hp2) (lR_c (lC_c hC hp2)) (rfl : vwCl[16]? = some (RX11, TX11, 7)) cinX11 (by decide) rfl rfl xw821 dX12_hour_220 ?_
  refine lv_if_le (tgt := 236) hx hb dX12_hour_223 (by decide) (fun c1 => ?_) (fun c1 => ?_)
  · exact kZ12_hour_236 X hC hai hret hK193 (by omega) (ifp c1 hf) hic hP hS (lv_sub hl [0, 1] rfl)
  · exact kZ12_hour_226 X hC hai hret hK193 (by omega) (ifn c1 hf) hic hp2 hP hS (lv_sub hl [0, 1, 2] rfl)
set_option maxRecDepth 10000 in
theorem kZ12_hour_208 {S1 : XL} {K193 : XL → Nat → Option (XL)} {M : XL} {ic : Nat} {ps0 : Nat} {H : Heap} {locs : List Loc} {ls : Array Slot} {cells slots : Nat} (X : gX p s m args c cX12_hour 4 RX12 (kR kTab kA)) (hC : lC C) {ai : Nat} (hai : itOK la C bs s.heap.size ai) (hret : gRetVA p l e (rmL 5 6 24) s m args below meth c cX12_hour 6 24 (lΩ la C) (lP dC dI cg kA la iA C bs) Q S1) (hK193 : ∀ (M : XL) (ic : Nat) (H : Heap) (locs : List Loc) (ls : Array Slot), K193 M ic = some S1 → (ic ≤ lNum C 1) → (gF (lP dC dI cg kA la iA C bs) (itF dC dI ai (la 1) (lNum C 1) ic)) M s H → va_S (Fr (lΩ la C) s.heap.size) s.heap H locs → lv_has ls 4 [(0, .ref (la 0)), (1, .ref ai)] → W p l e (rmL 5 6 24) s m args below meth c H locs cells slots Q (F0 m 193 ls [])) (hcs : cells + 0 ≤ 6 ∧ slots + 0 ≤ 24) (hf : fZ12_hour_208 C K193  M ic ps0 = some S1) (hic : ic ≤ lNum C 1) (hps0 : ps0 < C.1.1) (hP : (gF (lP dC dI cg kA la iA C bs) (itF dC dI ai (la 1) (lNum C 1) ic)) M s H) (hS : va_S (Fr (lΩ la C) s.heap.size) s.heap H locs) (hl : lv_has ls 4 [(0, .ref (la 0)), (1, .ref ai)]) : W p l e (rmL 5 6 24) s m args below meth c H locs cells slots Q (F0 m 208 ls [.ref (la (9 + ps0))]) := by
  have hx := X.hx
  have hb := X.hb
  rw [fZ12_hour_208] at hf
  refine lr_cast X hP (lEx_c hC hps0) (lR_c (lC_c hC hps0)) (rfl : vwCl[16]? = some (RX11, TX11, 7)) tw1404 dX12_hour_208 ?_
  refine lv_astore_n (lv' := [(2, .ref (la (9 + ps0))), (0, .ref (la 0)), (1, .ref ai)]) hx hb dX12_hour_211 rfl hl (by decide) rfl (fun ls hl => ?_)
  refine lv_aload_n hx hb dX12_hour_212 rfl (lv_at hl 0 rfl) ?_
  refine lr_getN (k := 6) (fs := (lFc ps0 M)) (v := .int (M.2 ps0)) X hP (lEx_c hC hps0) (lR_c (lC_c hC hps0)) (rfl : vwCl[16]? = some (RX11, TX11, 7)) cinX11 (by decide) rfl rfl xw829 dX12_hour_213 ?_
  refine lv_if_ne (tgt := 236) hx hb dX12_hour_216 (by decide) (fun c1 => ?_) (fun c1 => ?_)
  · exact kZ12_hour_236 X hC hai hret hK193 (by omega) (ifn c1 hf) hic hP hS (lv_sub hl [1, 2] rfl)
  · exact kZ12_hour_219 X hC hai hret hK193 (by omega) (ifp c1 hf) hic hps0 hP hS (lv_sub hl [1, 2, 0] rfl)
set_option maxRecDepth 10000 in
theorem kZ12_hour_202 {S1 : XL} {K193 : XL → Nat → Option (XL)} {M : XL} {ic : Nat} {H : Heap} {locs : List Loc} {ls : Array Slot} {cells slots : Nat} (X : gX p s m args c cX12_hour 4 RX12 (kR kTab kA)) (hC : lC C) {ai : Nat} (hai : itOK la C bs s.heap.size ai) (hret : gRetVA p l e (rmL 5 6 24) s m args below meth c cX12_hour 6 24 (lΩ la C) (lP dC dI cg kA la iA C bs) Q S1) (hK193 : ∀ (M : XL) (ic : Nat) (H : Heap) (locs : List Loc) (ls : Array Slot), K193 M ic = some S1 → (ic ≤ lNum C 1) → (gF (lP dC dI cg kA la iA C bs) (itF dC dI ai (la 1) (lNum C 1) ic)) M s H → va_S (Fr (lΩ la C) s.heap.size) s.heap H locs → lv_has ls 4 [(0, .ref (la 0)), (1, .ref ai)] → W p l e (rmL 5 6 24) s m args below meth c H locs cells slots Q (F0 m 193 ls [])) (hcs : cells + 0 ≤ 6 ∧ slots + 0 ≤ 24) (hf : fZ12_hour_202 C K193  M ic = some S1) (hic : ic ≤ lNum C 1) (hP : (gF (lP dC dI cg kA la iA C bs) (itF dC dI ai (la 1) (lNum C 1) ic)) M s H) (hS : va_S (Fr (lΩ la C) s.heap.size) s.heap H locs) (hl : lv_has ls 4 [(0, .ref (la 0)), (1, .ref ai)]) : W p l e (rmL 5 6 24) s m args below meth c H locs cells slots Q (F0 m 202 ls []) := by
  have hx := X.hx
  have hb := X.hb
  rw [fZ12_hour_202] at hf
  refine lv_aload_n hx hb dX12_hour_202 rfl (lv_at hl 1 rfl) ?_
  obtain ⟨g1, hf⟩ := gd hf
  refine lr_next (b := 1) (q := (la (9 + ic))) X hC hai hP hS (fun q z => Or.inr z) (by decide) g1 (lFa_1 g1) tw1394 ⟨by decide, by decide⟩ hl.1 (Nat.le_of_ble_eq_true rfl) ⟨by show _ ≤ 6; omega, by show _ ≤ 24; omega⟩ dX12_hour_203 (fun H locs hP hS => ?_)
  exact kZ12_hour_208 X hC hai hret hK193 (by omega) hf (Nat.succ_le_of_lt g1) g1 hP hS (lv_sub hl [0, 1] rfl)
set_option maxRecDepth 10000 in
theorem kZ12_hour_193 {S1 : XL} {cells slots : Nat} (X : gX p s m args c cX12_hour 4 RX12 (kR kTab kA)) (hC : lC C) {ai : Nat} (hai : itOK la C bs s.heap.size ai) (hret : gRetVA p l e (rmL 5 6 24) s m args below meth c cX12_hour 6 24 (lΩ la C) (lP dC dI cg kA la iA C bs) Q S1) (hcs : cells + 1 ≤ 6 ∧ slots + 4 ≤ 24) : ∀ (n : Nat) (M : XL) (ic : Nat) (H : Heap) (locs : List Loc) (ls : Array Slot), fZ12_hour_193 C  n M ic = some S1 → (ic ≤ lNum C 1) → (gF (lP dC dI cg kA la iA C bs) (itF dC dI ai (la 1) (lNum C 1) ic)) M s H → va_S (Fr (lΩ la C) s.heap.size) s.heap H locs → lv_has ls 4 [(0, .ref (la 0)), (1, .ref ai)] → W p l e (rmL 5 6 24) s m args below meth c H locs cells slots Q (F0 m 193 ls []) := by
  intro n
  induction n with
  | zero => intro M ic H locs ls hf; cases hf
  | succ k ih =>
    intro M ic H locs ls hf hic hP hS hl
    have hx := X.hx
    have hb := X.hb
    rw [fZ12_hour_193] at hf
    try dsimp only at hf
    refine lv_aload_n hx hb dX12_hour_193 rfl (lv_at hl 1 rfl) ?_
    refine lr_hasNext (b := 1) X rfl hC hP (by decide) hic tw1392 (by decide) hl.1 (Nat.le_of_ble_eq_true rfl) ⟨by omega, by omega⟩ dX12_hour_194 ?_
    refine lv_if_eq (tgt := 239) hx hb dX12_hour_199 (by decide) (fun c1 => ?_) (fun c1 => ?_)
    · exact kZ12_hour_239 X hC hret (by omega) (ifp (hn_0 c1) hf) ⟨hP.1, trivial⟩ hS (lv_sub hl [0] rfl)
    · exact kZ12_hour_202 X hC hai hret ih (by omega) (ifn (hn_1 c1) hf) hic hP hS (lv_sub hl [0, 1] rfl)
set_option maxRecDepth 10000 in
theorem kZ12_hour_192 {S1 : XL} {M : XL} {ic : Nat} {H : Heap} {locs : List Loc} {ls : Array Slot} {cells slots : Nat} (X : gX p s m args c cX12_hour 4 RX12 (kR kTab kA)) (hC : lC C) {ai : Nat} (hai : itOK la C bs s.heap.size ai) (hret : gRetVA p l e (rmL 5 6 24) s m args below meth c cX12_hour 6 24 (lΩ la C) (lP dC dI cg kA la iA C bs) Q S1) (hcs : cells + 1 ≤ 6 ∧ slots + 4 ≤ 24) (hf : fZ12_hour_192 C  M ic = some S1) (hic : ic ≤ lNum C 1) (hP : (gF (lP dC dI cg kA la iA C bs) (itF dC dI ai (la 1) (lNum C 1) ic)) M s H) (hS : va_S (Fr (lΩ la C) s.heap.size) s.heap H locs) (hl : lv_has ls 4 [(0, .ref (la 0))]) : W p l e (rmL 5 6 24) s m args below meth c H locs cells slots Q (F0 m 192 ls [.ref ai]) := by
  have hx := X.hx
  have hb := X.hb
  rw [fZ12_hour_192] at hf
  refine lv_astore_n (lv' := [(1, .ref ai), (0, .ref (la 0))]) hx hb dX12_hour_192 rfl hl (by decide) rfl (fun ls hl => ?_)
  exact kZ12_hour_193 X hC hai hret (by omega) FU _ ic _ _ _ hf hic hP hS (lv_sub hl [1, 0] rfl)
set_option maxRecDepth 10000 in
theorem kZ12_hour_183 {S1 : XL} {M : XL} {H : Heap} {locs : List Loc} {ls : Array Slot} {cells slots : Nat} (X : gX p s m args c cX12_hour 4 RX12 (kR kTab kA)) (hC : lC C) (hret : gRetVA p l e (rmL 5 6 24) s m args below meth c cX12_hour 6 24 (lΩ la C) (lP dC dI cg kA la iA C bs) Q S1) (hcs : cells + 2 ≤ 6 ∧ slots + 8 ≤ 24) (hf : fZ12_hour_183 C  M = some S1) (hP : (gF (lP dC dI cg kA la iA C bs) T0) M s H) (hS : va_S (Fr (lΩ la C) s.heap.size) s.heap H locs) (hl : lv_has ls 4 [(0, .ref (la 0))]) : W p l e (rmL 5 6 24) s m args below meth c H locs cells slots Q (F0 m 183 ls []) := by
  have hx := X.hx
  have hb := X.hb
  rw [fZ12_hour_183] at hf
  refine lv_aload_n hx hb dX12_hour_183 rfl (lv_at hl 0 rfl) ?_
  refine lr_get (k := 0) (fs := (lF0 la M)) (v := .ref (la 1)) X hP (lEx_l (by decide)) lR_0 (rfl : vwCl[17]? = some (RX12, TX12, 15)) cinX12 (by decide) rfl rfl tw880 dX12_hour_184 ?_
  refine lr_iter (b := 1) X hP hS (fun q z => Or.inr z) (by decide) tw1390 ⟨by decide, by decide⟩ hl.1 (Nat.le_of_ble_eq_true rfl) ⟨by show _ + 1 ≤ 6; omega, by show _ + 4 ≤ 24; omega⟩ dX12_hour_187 (fun H locs ai hai hP hS => ?_)
  exact kZ12_hour_192 X hC hai hret (by omega) hf (Nat.zero_le _) hP hS (lv_sub hl [0] rfl)
set_option maxRecDepth 10000 in
theorem kZ12_hour_179 {S1 : XL} {M : XL} {H : Heap} {locs : List Loc} {ls : Array Slot} {cells slots : Nat} (X : gX p s m args c cX12_hour 4 RX12 (kR kTab kA)) (hC : lC C) (hret : gRetVA p l e (rmL 5 6 24) s m args below meth c cX12_hour 6 24 (lΩ la C) (lP dC dI cg kA la iA C bs) Q S1) (hcs : cells + 3 ≤ 6 ∧ slots + 12 ≤ 24) (hf : fZ12_hour_179 C  M = some S1) (hP : (gF (lP dC dI cg kA la iA C bs) T0) M s H) (hS : va_S (Fr (lΩ la C) s.heap.size) s.heap H locs) (hl : lv_has ls 4 [(0, .ref (la 0))]) : W p l e (rmL 5 6 24) s m args below meth c H locs cells slots Q (F0 m 179 ls []) := by
  have hx := X.hx
  have hb := X.hb
  rw [fZ12_hour_179] at hf
  refine lv_aload_n hx hb dX12_hour_179 rfl (lv_at hl 0 rfl) ?_
  obtain ⟨q, hc, hf⟩ := bd hf
  refine gCallWV X (lOK T0_fs) (((vZ12_hunts hC hc)).lift T0_fs) (cw_V 0 X g5_RX12_X12_hunts hd5_X12_hunts ⟨by decide, by decide⟩) rfl hP hS (Fr_le hS.1) (lr_rec hP (lEx_l (by decide)) lR_0 (rfl : vwCl[17]? = some (RX12, TX12, 15))) hl.1 (Nat.le_of_ble_eq_true rfl) ⟨by show _ + 1 ≤ 6; omega, by show _ + 4 ≤ 24; omega⟩ dX12_hour_180 (As := []) (rest := []) rfl (fun H locs hP hS => ?_)
  exact kZ12_hour_183 X hC hret (by omega) hf hP hS (lv_sub hl [0] rfl)
set_option maxRecDepth 10000 in
theorem kZ12_hour_176 {S1 : XL} {K152 : XL → Nat → Option (XL)} {M : XL} {ic : Nat} {H : Heap} {locs : List Loc} {ls : Array Slot} {cells slots : Nat} (X : gX p s m args c cX12_hour 4 RX12 (kR kTab kA)) (hC : lC C) {ai : Nat} (hai : itOK la C bs s.heap.size ai) (hret : gRetVA p l e (rmL 5 6 24) s m args below meth c cX12_hour 6 24 (lΩ la C) (lP dC dI cg kA la iA C bs) Q S1) (hK152 : ∀ (M : XL) (ic : Nat) (H : Heap) (locs : List Loc) (ls : Array Slot), K152 M ic = some S1 → (ic ≤ lNum C 1) → (gF (lP dC dI cg kA la iA C bs) (itF dC dI ai (la 1) (lNum C 1) ic)) M s H → va_S (Fr (lΩ la C) s.heap.size) s.heap H locs → lv_has ls 4 [(0, .ref (la 0)), (1, .ref ai)] → W p l e (rmL 5 6 24) s m args below meth c H locs cells slots Q (F0 m 152 ls [])) (hcs : cells + 0 ≤ 6 ∧ slots + 0 ≤ 24) (hf : fZ12_hour_176 C K152  M ic = some S1) (hic : ic ≤ lNum C 1) (hP : (gF (lP dC dI cg kA la iA C bs) (itF dC dI ai (la 1) (lNum C 1) ic)) M s H) (hS : va_S (Fr (lΩ la C) s.heap.size) s.heap H locs) (hl : lv_has ls 4 [(0, .ref (la 0)), (1, .ref ai)]) : W p l e (rmL 5 6 24) s m args below meth c H locs cells slots Q (F0 m 176 ls []) := by
  have hx := X.hx
  have hb := X.hb
  rw [fZ12_hour_176] at hf
  refine lv_goto (tgt := 152) hx hb dX12_hour_176 (by decide) ?_
  exact hK152 _ ic _ _ _ hf hic hP hS (lv_sub hl [0, 1] rfl)
set_option maxRecDepth 10000 in
theorem kZ12_hour_167 {S1 : XL} {K152 : XL → Nat → Option (XL)} {M : XL} {ic : Nat} {ps0 : Nat} {H : Heap} {locs : List Loc} {ls : Array Slot} {cells slots : Nat} (X : gX p s m args c cX12_hour 4 RX12 (kR kTab kA)) (hC : lC C) {ai : Nat} (hai : itOK la C bs s.heap.size ai) (hret : gRetVA p l e (rmL 5 6 24) s m args below meth c cX12_hour 6 24 (lΩ la C) (lP dC dI cg kA la iA C bs) Q S1) (hK152 : ∀ (M : XL) (ic : Nat) (H : Heap) (locs : List Loc) (ls : Array Slot), K152 M ic = some S1 → (ic ≤ lNum C 1) → (gF (lP dC dI cg kA la iA C bs) (itF dC dI ai (la 1) (lNum C 1) ic)) M s H → va_S (Fr (lΩ la C) s.heap.size) s.heap H locs → lv_has ls 4 [(0, .ref (la 0)), (1, .ref ai)] → W p l e (rmL 5 6 24) s m args below meth c H locs cells slots Q (F0 m 152 ls [])) (hcs : cells + 0 ≤ 6 ∧ slots + 0 ≤ 24) (hf : fZ12_hour_167 C K152  M ic ps0 = some S1) (hic : ic ≤ lNum C 1) (hps0 : ps0 < C.1.1) (hP : (gF (lP dC dI cg kA la iA C bs) (itF dC dI ai (la 1) (lNum C 1) ic)) M s H) (hS : va_S (Fr (lΩ la C) s.heap.size) s.heap H locs) (hl : lv_has ls 4 [(0, .ref (la 0)), (1, .ref ai)]) : W p l e (rmL 5 6 24) s m args below meth c H locs cells slots Q (F0 m 167 ls [.ref (la (9 + ps0))]) := by
  have hx := X.hx
  have hb := X.hb
  rw [fZ12_hour_167] at hf
  refine lr_cast X hP (lEx_c hC hps0) (lR_c (lC_c hC hps0)) (rfl : vwCl[16]? = some (RX11, TX11, 7)) tw1404 dX12_hour_167 ?_
  refine lv_astore_n (lv' := [(2, .ref (la (9 + ps0))), (0, .ref (la 0)), (1, .ref ai)]) hx hb dX12_hour_170 rfl hl (by decide) rfl (fun ls hl => ?_)
  refine lv_aload_n hx hb dX12_hour_171 rfl (lv_at hl 0 rfl) ?_
  refine lv_iconst (v := 0) hx hb dX12_hour_172 (by decide) ?_
  refine lr_putN (k := 6) (fs := (lFc ps0 M)) (tyT := tyX11) (M.1, upd M.2 ps0 0) X (itF_fs hai) hP hS (lEx_c hC hps0) (lR_c (lC_c hC hps0)) (lc_6 (lC_c hC hps0)) (fun p hp => luh (lC_c hC hps0) hp) (rfl : vwCl[16]? = some (RX11, TX11, 7)) cinX11 tyX11_ok nmX11 (by decide) rfl rfl (by decide +kernel) (by decide +kernel) (Nat.le_of_ble_eq_true rfl) xw829 dX12_hour_173 (fun H locs hP hS => ?_)
  exact kZ12_hour_176 X hC hai hret hK152 (by omega) hf hic hP hS (lv_sub hl [1, 2] rfl)
set_option maxRecDepth 10000 in
theorem kZ12_hour_161 {S1 : XL} {K152 : XL → Nat → Option (XL)} {M : XL} {ic : Nat} {H : Heap} {locs : List Loc} {ls : Array Slot} {cells slots : Nat} (X : gX p s m args c cX12_hour 4 RX12 (kR kTab kA)) (hC : lC C) {ai : Nat} (hai : itOK la C bs s.heap.size ai) (hret : gRetVA p l e (rmL 5 6 24) s m args below meth c cX12_hour 6 24 (lΩ la C) (lP dC dI cg kA la iA C bs) Q S1) (hK152 : ∀ (M : XL) (ic : Nat) (H : Heap) (locs : List Loc) (ls : Array Slot), K152 M ic = some S1 → (ic ≤ lNum C 1) → (gF (lP dC dI cg kA la iA C bs) (itF dC dI ai (la 1) (lNum C 1) ic)) M s H → va_S (Fr (lΩ la C) s.heap.size) s.heap H locs → lv_has ls 4 [(0, .ref (la 0)), (1, .ref ai)] → W p l e (rmL 5 6 24) s m args below meth c H locs cells slots Q (F0 m 152 ls [])) (hcs : cells + 0 ≤ 6 ∧ slots + 0 ≤ 24) (hf : fZ12_hour_161 C K152  M ic = some S1) (hic : ic ≤ lNum C 1) (hP : (gF (lP dC dI cg kA la iA C bs) (itF dC dI ai (la 1) (lNum C 1) ic)) M s H) (hS : va_S (Fr (lΩ la C) s.heap.size) s.heap H locs) (hl : lv_has ls 4 [(0, .ref (la 0)), (1, .ref ai)]) : W p l e (rmL 5 6 24) s m args below meth c H locs cells slots Q (F0 m 161 ls []) := by
  have hx := X.hx
  have hb := X.hb
  rw [fZ12_hour_161] at hf
  refine lv_aload_n hx hb dX12_hour_161 rfl (lv_at hl 1 rfl) ?_
  obtain ⟨g1, hf⟩ := gd hf
  refine lr_next (b := 1) (q := (la (9 + ic))) X hC hai hP hS (fun q z => Or.inr z) (by decide) g1 (lFa_1 g1) tw1394 ⟨by decide, by decide⟩ hl.1 (Nat.le_of_ble_eq_true rfl) ⟨by show _ ≤ 6; omega, by show _ ≤ 24; omega⟩ dX12_hour_162 (fun H locs hP hS => ?_)
  exact kZ12_hour_167 X hC hai hret hK152 (by omega) hf (Nat.succ_le_of_lt g1) g1 hP hS (lv_sub hl [0, 1] rfl)
set_option maxRecDepth 10000 in
theorem kZ12_hour_152 {S1 : XL} {cells slots : Nat} (X : gX p s m args c cX12_hour 4 RX12 (kR kTab kA)) (hC : lC C) {ai : Nat} (hai : itOK la C bs s.heap.size ai) (hret : gRetVA p l e (rmL 5 6 24) s m args below meth c cX12_hour 6 24 (lΩ la C) (lP dC dI cg kA la iA C bs) Q S1) (hcs : cells + 3 ≤ 6 ∧ slots + 12 ≤ 24) : ∀ (n : Nat) (M : XL) (ic : Nat) (H : Heap) (locs : List Loc) (ls : Array Slot), fZ12_hour_152 C  n M ic = some S1 → (ic ≤ lNum C 1) → (gF (lP dC dI cg kA la iA C bs) (itF dC dI ai (la 1) (lNum C 1) ic)) M s H → va_S (Fr (lΩ la C) s.heap.size) s.heap H locs → lv_has ls 4 [(0, .ref (la 0)), (1, .ref ai)] → W p l e (rmL 5 6 24) s m args below meth c H locs cells slots Q (F0 m 152 ls []) := by
  intro n
  induction n with
  | zero => intro M ic H locs ls hf; cases hf
  | succ k ih =>
    intro M ic H locs ls hf hic hP hS hl
    have hx := X.hx
    have hb := X.hb
    rw [fZ12_hour_152] at hf
    try dsimp only at hf
    refine lv_aload_n hx hb dX12_hour_152 rfl (lv_at hl 1 rfl) ?_
    refine lr_hasNext (b := 1) X rfl hC hP (by decide) hic tw1392 (by decide) hl.1 (Nat.le_of_ble_eq_true rfl) ⟨by omega, by omega⟩ dX12_hour_153 ?_
    refine lv_if_eq (tgt := 179) hx hb dX12_hour_158 (by decide) (fun c1 => ?_) (fun c1 => ?_)
    · exact kZ12_hour_179 X hC hret (by omega) (ifp (hn_0 c1) hf) ⟨hP.1, trivial⟩ hS (lv_sub hl [0] rfl)
    · exact kZ12_hour_161 X hC hai hret ih (by omega) (ifn (hn_1 c1) hf) hic hP hS (lv_sub hl [0, 1] rfl)
set_option maxRecDepth 10000 in
theorem kZ12_hour_151 {S1 : XL} {M : XL} {ic : Nat} {H : Heap} {locs : List Loc} {ls : Array Slot} {cells slots : Nat} (X : gX p s m args c cX12_hour 4 RX12 (kR kTab kA)) (hC : lC C) {ai : Nat} (hai : itOK la C bs s.heap.size ai) (hret : gRetVA p l e (rmL 5 6 24) s m args below meth c cX12_hour 6 24 (lΩ la C) (lP dC dI cg kA la iA C bs) Q S1) (hcs : cells + 3 ≤ 6 ∧ slots + 12 ≤ 24) (hf : fZ12_hour_151 C  M ic = some S1) (hic : ic ≤ lNum C 1) (hP : (gF (lP dC dI cg kA la iA C bs) (itF dC dI ai (la 1) (lNum C 1) ic)) M s H) (hS : va_S (Fr (lΩ la C) s.heap.size) s.heap H locs) (hl : lv_has ls 4 [(0, .ref (la 0))]) : W p l e (rmL 5 6 24) s m args below meth c H locs cells slots Q (F0 m 151 ls [.ref ai]) := by
  have hx := X.hx
  have hb := X.hb
  rw [fZ12_hour_151] at hf
  refine lv_astore_n (lv' := [(1, .ref ai), (0, .ref (la 0))]) hx hb dX12_hour_151 rfl hl (by decide) rfl (fun ls hl => ?_)
  exact kZ12_hour_152 X hC hai hret (by omega) FU _ ic _ _ _ hf hic hP hS (lv_sub hl [1, 0] rfl)
set_option maxRecDepth 10000 in
theorem kZ12_hour_142 {S1 : XL} {M : XL} {H : Heap} {locs : List Loc} {ls : Array Slot} {cells slots : Nat} (X : gX p s m args c cX12_hour 4 RX12 (kR kTab kA)) (hC : lC C) (hret : gRetVA p l e (rmL 5 6 24) s m args below meth c cX12_hour 6 24 (lΩ la C) (lP dC dI cg kA la iA C bs) Q S1) (hcs : cells + 4 ≤ 6 ∧ slots + 16 ≤ 24) (hf : fZ12_hour_142 C  M = some S1) (hP : (gF (lP dC dI cg kA la iA C bs) T0) M s H) (hS : va_S (Fr (lΩ la C) s.heap.size) s.heap H locs) (hl : lv_has ls 4 [(0, .ref (la 0))]) : W p l e (rmL 5 6 24) s m args below meth c H locs cells slots Q (F0 m 142 ls []) := by
  have hx := X.hx
  have hb := X.hb
  rw [fZ12_hour_142] at hf
  refine lv_aload_n hx hb dX12_hour_142 rfl (lv_at hl 0 rfl) ?_
  refine lr_get (k := 0) (fs := (lF0 la M)) (v := .ref (la 1)) X hP (lEx_l (by decide)) lR_0 (rfl : vwCl[17]? = some (RX12, TX12, 15)) cinX12 (by decide) rfl rfl tw880 dX12_hour_143 ?_
  refine lr_iter (b := 1) X hP hS (fun q z => Or.inr z) (by decide) tw1390 ⟨by decide, by decide⟩ hl.1 (Nat.le_of_ble_eq_true rfl) ⟨by show _ + 1 ≤ 6; omega, by show _ + 4 ≤ 24; omega⟩ dX12_hour_146 (fun H locs ai hai hP hS => ?_)
  exact kZ12_hour_151 X hC hai hret (by omega) hf (Nat.zero_le _) hP hS (lv_sub hl [0] rfl)
set_option maxRecDepth 10000 in
theorem kZ12_hour_139 {S1 : XL} {K67 : XL → Nat → Option (XL)} {M : XL} {ic : Nat} {H : Heap} {locs : List Loc} {ls : Array Slot} {cells slots : Nat} (X : gX p s m args c cX12_hour 4 RX12 (kR kTab kA)) (hC : lC C) {ai : Nat} (hai : itOK la C bs s.heap.size ai) (hret : gRetVA p l e (rmL 5 6 24) s m args below meth c cX12_hour 6 24 (lΩ la C) (lP dC dI cg kA la iA C bs) Q S1) (hK67 : ∀ (M : XL) (ic : Nat) (H : Heap) (locs : List Loc) (ls : Array Slot), K67 M ic = some S1 → (ic ≤ lNum C 3) → (gF (lP dC dI cg kA la iA C bs) (itF dC dI ai (la 3) (lNum C 3) ic)) M s H → va_S (Fr (lΩ la C) s.heap.size) s.heap H locs → lv_has ls 4 [(0, .ref (la 0)), (1, .ref ai)] → W p l e (rmL 5 6 24) s m args below meth c H locs cells slots Q (F0 m 67 ls [])) (hcs : cells + 0 ≤ 6 ∧ slots + 0 ≤ 24) (hf : fZ12_hour_139 C K67  M ic = some S1) (hic : ic ≤ lNum C 3) (hP : (gF (lP dC dI cg kA la iA C bs) (itF dC dI ai (la 3) (lNum C 3) ic)) M s H) (hS : va_S (Fr (lΩ la C) s.heap.size) s.heap H locs) (hl : lv_has ls 4 [(0, .ref (la 0)), (1, .ref ai)]) : W p l e (rmL 5 6 24) s m args below meth c H locs cells slots Q (F0 m 139 ls []) := by
  have hx := X.hx
  have hb := X.hb
  rw [fZ12_hour_139] at hf
  refine lv_goto (tgt := 67) hx hb dX12_hour_139 (by decide) ?_
  exact hK67 _ ic _ _ _ hf hic hP hS (lv_sub hl [0, 1] rfl)
set_option maxRecDepth 10000 in
theorem kZ12_hour_129 {S1 : XL} {K67 : XL → Nat → Option (XL)} {M : XL} {ic : Nat} {x3 : Int32} {H : Heap} {locs : List Loc} {ls : Array Slot} {cells slots : Nat} (X : gX p s m args c cX12_hour 4 RX12 (kR kTab kA)) (hC : lC C) {ai : Nat} (hai : itOK la C bs s.heap.size ai) (hret : gRetVA p l e (rmL 5 6 24) s m args below meth c cX12_hour 6 24 (lΩ la C) (lP dC dI cg kA la iA C bs) Q S1) (hK67 : ∀ (M : XL) (ic : Nat) (H : Heap) (locs : List Loc) (ls : Array Slot), K67 M ic = some S1 → (ic ≤ lNum C 3) → (gF (lP dC dI cg kA la iA C bs) (itF dC dI ai (la 3) (lNum C 3) ic)) M s H → va_S (Fr (lΩ la C) s.heap.size) s.heap H locs → lv_has ls 4 [(0, .ref (la 0)), (1, .ref ai)] → W p l e (rmL 5 6 24) s m args below meth c H locs cells slots Q (F0 m 67 ls [])) (hcs : cells + 0 ≤ 6 ∧ slots + 0 ≤ 24) (hf : fZ12_hour_129 C K67  M ic x3 = some S1) (hic : ic ≤ lNum C 3) (hP : (gF (lP dC dI cg kA la iA C bs) (itF dC dI ai (la 3) (lNum C 3) ic)) M s H) (hS : va_S (Fr (lΩ la C) s.heap.size) s.heap H locs) (hl : lv_has ls 4 [(0, .ref (la 0)), (1, .ref ai), (3, .int x3)]) : W p l e (rmL 5 6 24) s m args below meth c H locs cells slots Q (F0 m 129 ls []) := by
  have hx := X.hx
  have hb := X.hb
  rw [fZ12_hour_129] at hf
  refine lv_aload_n hx hb dX12_hour_129 rfl (lv_at hl 0 rfl) ?_
  refine lv_dup hx hb dX12_hour_130 rfl ?_
  refine lr_get (k := 11) (fs := (lF0 la M)) (v := .int (M.1 10)) X hP (lEx_l (by decide)) lR_0 (rfl : vwCl[17]? = some (RX12, TX12, 15)) cinX12 (by decide) rfl rfl tw903 dX12_hour_131 ?_
  refine lv_iload_n hx hb dX12_hour_134 rfl (lv_at hl 2 rfl) ?_
  refine lv_iadd hx hb dX12_hour_135 ?_
  refine lr_put (k := 11) (fs := (lF0 la M)) (tyT := tyX12) (upd M.1 10 ((M.1 10) + x3), M.2) X (itF_fs hai) hP hS (lEx_l (by decide)) lR_0 rfl (fun p hp => lu0 (by decide) hp) (rfl : vwCl[17]? = some (RX12, TX12, 15)) cinX12 tyX12_ok nmX12 (by decide) rfl rfl rfl rfl (Nat.le_of_ble_eq_true rfl) tw903 dX12_hour_136 (fun H locs hP hS => ?_)
  exact kZ12_hour_139 X hC hai hret hK67 (by omega) hf hic hP hS (lv_sub hl [0, 1] rfl)
set_option maxRecDepth 10000 in
theorem kZ12_hour_118 {S1 : XL} {K67 : XL → Nat → Option (XL)} {M : XL} {ic : Nat} {p2 : Nat} {s0 : Int32} {H : Heap} {locs : List Loc} {ls : Array Slot} {cells slots : Nat} (X : gX p s m args c cX12_hour 4 RX12 (kR kTab kA)) (hC : lC C) {ai : Nat} (hai : itOK la C bs s.heap.size ai) (hret : gRetVA p l e (rmL 5 6 24) s m args below meth c cX12_hour 6 24 (lΩ la C) (lP dC dI cg kA la iA C bs) Q S1) (hK67 : ∀ (M : XL) (ic : Nat) (H : Heap) (locs : List Loc) (ls : Array Slot), K67 M ic = some S1 → (ic ≤ lNum C 3) → (gF (lP dC dI cg kA la iA C bs) (itF dC dI ai (la 3) (lNum C 3) ic)) M s H → va_S (Fr (lΩ la C) s.heap.size) s.heap H locs → lv_has ls 4 [(0, .ref (la 0)), (1, .ref ai)] → W p l e (rmL 5 6 24) s m args below meth c H locs cells slots Q (F0 m 67 ls [])) (hcs : cells + 0 ≤ 6 ∧ slots + 0 ≤ 24) (hf : fZ12_hour_118 C K67  M ic p2 s0 = some S1) (hic : ic ≤ lNum C 3) (hp2 : p2 < C.1.2.1) (hP : (gF (lP dC dI cg kA la iA C bs) (itF dC dI ai (la 3) (lNum C 3) ic)) M s H) (hS : va_S (Fr (lΩ la C) s.heap.size) s.heap H locs) (hl : lv_has ls 4 [(0, .ref (la 0)), (1, .ref ai), (2, .ref (la (13 + p2)))]) : W p l e (rmL 5 6 24) s m args below meth c H locs cells slots Q (F0 m 118 ls [.int s0]) := by
  have hx := X.hx
  have hb := X.hb
  rw [fZ12_hour_118] at hf
  refine lv_istore_n (lv' := [(3, .int s0), (0, .ref (la 0)), (1, .ref ai), (2, .ref (la (13 + p2)))]) hx hb dX12_hour_118 rfl hl (by decide) rfl (fun ls hl => ?_)
  refine lv_aload_n hx hb dX12_hour_119 rfl (lv_at hl 3 rfl) ?_
  refine lv_dup hx hb dX12_hour_120 rfl ?_
  refine lr_getN (k := 2) (fs := (lFs p2 M)) (v := .int (M.1 (161 + 12 * p2 + 8))) X hP (lEx_s hp2) lR_s (rfl : vwCl[18]? = some (RX13, TX13, 5)) cinX13 (by decide) rfl rfl xw955 dX12_hour_121 ?_
  refine lv_iload_n hx hb dX12_hour_124 rfl (lv_at hl 0 rfl) ?_
  refine lv_iadd hx hb dX12_hour_125 ?_
  refine lr_putN (k := 2) (fs := (lFs p2 M)) (tyT := tyX13) (upd M.1 (161 + 12 * p2 + 8) ((M.1 (161 + 12 * p2 + 8)) + s0), M.2) X (itF_fs hai) hP hS (lEx_s hp2) lR_s ls_2 (fun p hp => lus (by decide) hp) (rfl : vwCl[18]? = some (RX13, TX13, 5)) cinX13 tyX13_ok nmX13 (by decide) rfl rfl rfl rfl (Nat.le_of_ble_eq_true rfl) xw955 dX12_hour_126 (fun H locs hP hS => ?_)
  exact kZ12_hour_129 X hC hai hret hK67 (by omega) hf hic hP hS (lv_sub hl [1, 2, 0] rfl)
set_option maxRecDepth 10000 in
theorem kZ12_hour_111 {S1 : XL} {K67 : XL → Nat → Option (XL)} {M : XL} {ic : Nat} {p2 : Nat} {H : Heap} {locs : List Loc} {ls : Array Slot} {cells slots : Nat} (X : gX p s m args c cX12_hour 4 RX12 (kR kTab kA)) (hC : lC C) {ai : Nat} (hai : itOK la C bs s.heap.size ai) (hret : gRetVA p l e (rmL 5 6 24) s m args below meth c cX12_hour 6 24 (lΩ la C) (lP dC dI cg kA la iA C bs) Q S1) (hK67 : ∀ (M : XL) (ic : Nat) (H : Heap) (locs : List Loc) (ls : Array Slot), K67 M ic = some S1 → (ic ≤ lNum C 3) → (gF (lP dC dI cg kA la iA C bs) (itF dC dI ai (la 3) (lNum C 3) ic)) M s H → va_S (Fr (lΩ la C) s.heap.size) s.heap H locs → lv_has ls 4 [(0, .ref (la 0)), (1, .ref ai)] → W p l e (rmL 5 6 24) s m args below meth c H locs cells slots Q (F0 m 67 ls [])) (hcs : cells + 0 ≤ 6 ∧ slots + 0 ≤ 24) (hf : fZ12_hour_111 C K67  M ic p2 = some S1) (hic : ic ≤ lNum C 3) (hp2 : p2 < C.1.2.1) (hP : (gF (lP dC dI cg kA la iA C bs) (itF dC dI ai (la 3) (lNum C 3) ic)) M s H) (hS : va_S (Fr (lΩ la C) s.heap.size) s.heap H locs) (hl : lv_has ls 4 [(0, .ref (la 0)), (1, .ref ai), (2, .ref (la (13 + p2)))]) : W p l e (rmL 5 6 24) s m args below meth c H locs cells slots Q (F0 m 111 ls []) := by
  have hx := X.hx
  have hb := X.hb
  rw [fZ12_hour_111] at hf
  refine lv_bipush (v := 99) hx hb dX12_hour_111 (by decide) ?_
  refine lv_aload_n hx hb dX12_hour_113 rfl (lv_at hl 2 rfl) ?_
  refine lr_getN (k := 2) (fs := (lFs p2 M)) (v := .int (M.1 (161 + 12 * p2 + 8))) X hP (lEx_s hp2) lR_s (rfl : vwCl[18]? = some (RX13, TX13, 5)) cinX13 (by decide) rfl rfl xw955 dX12_hour_114 ?_
  refine lv_isub hx hb dX12_hour_117 ?_
  exact kZ12_hour_118 X hC hai hret hK67 (by omega) hf hic hp2 hP hS (lv_sub hl [0, 1, 2] rfl)
set_option maxRecDepth 10000 in
theorem kZ12_hour_102 {S1 : XL} {K67 : XL → Nat → Option (XL)} {M : XL} {ic : Nat} {p2 : Nat} {H : Heap} {locs : List Loc} {ls : Array Slot} {cells slots : Nat} (X : gX p s m args c cX12_hour 4 RX12 (kR kTab kA)) (hC : lC C) {ai : Nat} (hai : itOK la C bs s.heap.size ai) (hret : gRetVA p l e (rmL 5 6 24) s m args below meth c cX12_hour 6 24 (lΩ la C) (lP dC dI cg kA la iA C bs) Q S1) (hK67 : ∀ (M : XL) (ic : Nat) (H : Heap) (locs : List Loc) (ls : Array Slot), K67 M ic = some S1 → (ic ≤ lNum C 3) → (gF (lP dC dI cg kA la iA C bs) (itF dC dI ai (la 3) (lNum C 3) ic)) M s H → va_S (Fr (lΩ la C) s.heap.size) s.heap H locs → lv_has ls 4 [(0, .ref (la 0)), (1, .ref ai)] → W p l e (rmL 5 6 24) s m args below meth c H locs cells slots Q (F0 m 67 ls [])) (hcs : cells + 0 ≤ 6 ∧ slots + 0 ≤ 24) (hf : fZ12_hour_102 C K67  M ic p2 = some S1) (hic : ic ≤ lNum C 3) (hp2 : p2 < C.1.2.1) (hP : (gF (lP dC dI cg kA la iA C bs) (itF dC dI ai (la 3) (lNum C 3) ic)) M s H) (hS : va_S (Fr (lΩ la C) s.heap.size) s.heap H locs) (hl : lv_has ls 4 [(0, .ref (la 0)), (1, .ref ai), (2, .ref (la (13 + p2)))]) : W p l e (rmL 5 6 24) s m args below meth c H locs cells slots Q (F0 m 102 ls []) := by
  have hx := X.hx
  have hb := X.hb
  rw [fZ12_hour_102] at hf
  refine lv_aload_n hx hb dX12_hour_102 rfl (lv_at hl 2 rfl) ?_
  refine lr_getN (k := 2) (fs := (lFs p2 M)) (v := .int (M.1 (161 + 12 * p2 + 8))) X hP (lEx_s hp2) lR_s (rfl : vwCl[18]? = some (RX13, TX13, 5)) cinX13 (by decide) rfl rfl xw955 dX12_hour_103 ?_
  refine lv_iconst (v := 2) hx hb dX12_hour_106 (by decide) ?_
  refine lv_idiv hx hb dX12_hour_107 (by decide) ?_
  refine lv_goto (tgt := 118) hx hb dX12_hour_108 (by decide) ?_
  exact kZ12_hour_118 X hC hai hret hK67 (by omega) hf hic hp2 hP hS (lv_sub hl [0, 1, 2] rfl)
set_option maxRecDepth 10000 in
theorem kZ12_hour_82 {S1 : XL} {K67 : XL → Nat → Option (XL)} {M : XL} {ic : Nat} {ps0 : Nat} {H : Heap} {locs : List Loc} {ls : Array Slot} {cells slots : Nat} (X : gX p s m args c cX12_hour 4 RX12 (kR kTab kA)) (hC : lC C) {ai : Nat} (hai : itOK la C bs s.heap.size ai) (hret : gRetVA p l e (rmL 5 6 24) s m args below meth c cX12_hour 6 24 (lΩ la C) (lP dC dI cg kA la iA C bs) Q S1) (hK67 : ∀ (M : XL) (ic : Nat) (H : Heap) (locs : List Loc) (ls : Array Slot), K67 M ic = some S1 → (ic ≤ lNum C 3) → (gF (lP dC dI cg kA la iA C bs) (itF dC dI ai (la 3) (lNum C 3) ic)) M s H → va_S (Fr (lΩ la C) s.heap.size) s.heap H locs → lv_has ls 4 [(0, .ref (la 0)), (1, .ref ai)] → W p l e (rmL 5 6 24) s m args below meth c H locs cells slots Q (F0 m 67 ls [])) (hcs : cells + 0 ≤ 6 ∧ slots + 0 ≤ 24) (hf : fZ12_hour_82 C K67  M ic ps0 = some S1) (hic : ic ≤ lNum C 3) (hps0 : ps0 < C.1.2.1) (hP : (gF (lP dC dI cg kA la iA C bs) (itF dC dI ai (la 3) (lNum C 3) ic)) M s H) (hS : va_S (Fr (lΩ la C) s.heap.size) s.heap H locs) (hl : lv_has ls 4 [(0, .ref (la 0)), (1, .ref ai)]) : W p l e (rmL 5 6 24) s m args below meth c H locs cells slots Q (F0 m 82 ls [.ref (la (13 + ps0))]) := by
  have hx := X.hx
  have hb := X.hb
  rw [fZ12_hour_82] at hf
  refine lr_cast X hP (lEx_s hps0) lR_s (rfl : vwCl[18]? = some (RX13, TX13, 5)) tw1395 dX12_hour_82 ?_
  refine lv_astore_n (lv' := [(2, .ref (la (13 + ps0))), (0, .ref (la 0)), (1, .ref ai)]) hx hb dX12_hour_85 rfl hl (by decide) rfl (fun ls hl => ?_)
  refine lv_aload_n hx hb dX12_hour_86 rfl (lv_at hl 0 rfl) ?_
  refine lr_getN (k := 2) (fs := (lFs ps0 M)) (v := .int (M.1 (161 + 12 * ps0 + 8))) X hP (lEx_s hps0) lR_s (rfl : vwCl[18]? = some (RX13, TX13, 5)) cinX13 (by decide) rfl rfl xw955 dX12_hour_87 ?_
  refine lv_iconst (v := 2) hx hb dX12_hour_90 (by decide) ?_
  refine lv_idiv hx hb dX12_hour_91 (by decide) ?_
  refine lv_bipush (v := 99) hx hb dX12_hour_92 (by decide) ?_
  refine lv_aload_n hx hb dX12_hour_94 rfl (lv_at hl 0 rfl) ?_
  refine lr_getN (k := 2) (fs := (lFs ps0 M)) (v := .int (M.1 (161 + 12 * ps0 + 8))) X hP (lEx_s hps0) lR_s (rfl : vwCl[18]? = some (RX13, TX13, 5)) cinX13 (by decide) rfl rfl xw955 dX12_hour_95 ?_
  refine lv_isub hx hb dX12_hour_98 ?_
  refine lv_icmp_ge (tgt := 111) hx hb dX12_hour_99 (by decide) (fun c1 => ?_) (fun c1 => ?_)
  · exact kZ12_hour_111 X hC hai hret hK67 (by omega) (ifp c1 hf) hic hps0 hP hS (lv_sub hl [1, 2, 0] rfl)
  · exact kZ12_hour_102 X hC hai hret hK67 (by omega) (ifn c1 hf) hic hps0 hP hS (lv_sub hl [1, 2, 0] rfl)
set_option maxRecDepth 10000 in
theorem kZ12_hour_76 {S1 : XL} {K67 : XL → Nat → Option (XL)} {M : XL} {ic : Nat} {H : Heap} {locs : List Loc} {ls : Array Slot} {cells slots : Nat} (X : gX p s m args c cX12_hour 4 RX12 (kR kTab kA)) (hC : lC C) {ai : Nat} (hai : itOK la C bs s.heap.size ai) (hret : gRetVA p l e (rmL 5 6 24) s m args below meth c cX12_hour 6 24 (lΩ la C) (lP dC dI cg kA la iA C bs) Q S1) (hK67 : ∀ (M : XL) (ic : Nat) (H : Heap) (locs : List Loc) (ls : Array Slot), K67 M ic = some S1 → (ic ≤ lNum C 3) → (gF (lP dC dI cg kA la iA C bs) (itF dC dI ai (la 3) (lNum C 3) ic)) M s H → va_S (Fr (lΩ la C) s.heap.size) s.heap H locs → lv_has ls 4 [(0, .ref (la 0)), (1, .ref ai)] → W p l e (rmL 5 6 24) s m args below meth c H locs cells slots Q (F0 m 67 ls [])) (hcs : cells + 0 ≤ 6 ∧ slots + 0 ≤ 24) (hf : fZ12_hour_76 C K67  M ic = some S1) (hic : ic ≤ lNum C 3) (hP : (gF (lP dC dI cg kA la iA C bs) (itF dC dI ai (la 3) (lNum C 3) ic)) M s H) (hS : va_S (Fr (lΩ la C) s.heap.size) s.heap H locs) (hl : lv_has ls 4 [(0, .ref (la 0)), (1, .ref ai)]) : W p l e (rmL 5 6 24) s m args below meth c H locs cells slots Q (F0 m 76 ls []) := by
  have hx := X.hx
  have hb := X.hb
  rw [fZ12_hour_76] at hf
  refine lv_aload_n hx hb dX12_hour_76 rfl (lv_at hl 1 rfl) ?_
  obtain ⟨g1, hf⟩ := gd hf
  refine lr_next (b := 3) (q := (la (13 + ic))) X hC hai hP hS (fun q z => Or.inr z) (by decide) g1 (lFa_3 g1) tw1394 ⟨by decide, by decide⟩ hl.1 (Nat.le_of_ble_eq_true rfl) ⟨by show _ ≤ 6; omega, by show _ ≤ 24; omega⟩ dX12_hour_77 (fun H locs hP hS => ?_)
  exact kZ12_hour_82 X hC hai hret hK67 (by omega) hf (Nat.succ_le_of_lt g1) g1 hP hS (lv_sub hl [0, 1] rfl)
set_option maxRecDepth 10000 in
theorem kZ12_hour_67 {S1 : XL} {cells slots : Nat} (X : gX p s m args c cX12_hour 4 RX12 (kR kTab kA)) (hC : lC C) {ai : Nat} (hai : itOK la C bs s.heap.size ai) (hret : gRetVA p l e (rmL 5 6 24) s m args below meth c cX12_hour 6 24 (lΩ la C) (lP dC dI cg kA la iA C bs) Q S1) (hcs : cells + 4 ≤ 6 ∧ slots + 16 ≤ 24) : ∀ (n : Nat) (M : XL) (ic : Nat) (H : Heap) (locs : List Loc) (ls : Array Slot), fZ12_hour_67 C  n M ic = some S1 → (ic ≤ lNum C 3) → (gF (lP dC dI cg kA la iA C bs) (itF dC dI ai (la 3) (lNum C 3) ic)) M s H → va_S (Fr (lΩ la C) s.heap.size) s.heap H locs → lv_has ls 4 [(0, .ref (la 0)), (1, .ref ai)] → W p l e (rmL 5 6 24) s m args below meth c H locs cells slots Q (F0 m 67 ls []) := by
  intro n
  induction n with
  | zero => intro M ic H locs ls hf; cases hf
  | succ k ih =>
    intro M ic H locs ls hf hic hP hS hl
    have hx := X.hx
    have hb := X.hb
    rw [fZ12_hour_67] at hf
    try dsimp only at hf
    refine lv_aload_n hx hb dX12_hour_67 rfl (lv_at hl 1 rfl) ?_
    refine lr_hasNext (b := 3) X rfl hC hP (by decide) hic tw1392 (by decide) hl.1 (Nat.le_of_ble_eq_true rfl) ⟨by omega, by omega⟩ dX12_hour_68 ?_
    refine lv_if_eq (tgt := 142) hx hb dX12_hour_73 (by decide) (fun c1 => ?_) (fun c1 => ?_)
    · exact kZ12_hour_142 X hC hret (by omega) (ifp (hn_0 c1) hf) ⟨hP.1, trivial⟩ hS (lv_sub hl [0] rfl)
    · exact kZ12_hour_76 X hC hai hret ih (by omega) (ifn (hn_1 c1) hf) hic hP hS (lv_sub hl [0, 1] rfl)
set_option maxRecDepth 10000 in
theorem kZ12_hour_66 {S1 : XL} {M : XL} {ic : Nat} {H : Heap} {locs : List Loc} {ls : Array Slot} {cells slots : Nat} (X : gX p s m args c cX12_hour 4 RX12 (kR kTab kA)) (hC : lC C) {ai : Nat} (hai : itOK la C bs s.heap.size ai) (hret : gRetVA p l e (rmL 5 6 24) s m args below meth c cX12_hour 6 24 (lΩ la C) (lP dC dI cg kA la iA C bs) Q S1) (hcs : cells + 4 ≤ 6 ∧ slots + 16 ≤ 24) (hf : fZ12_hour_66 C  M ic = some S1) (hic : ic ≤ lNum C 3) (hP : (gF (lP dC dI cg kA la iA C bs) (itF dC dI ai (la 3) (lNum C 3) ic)) M s H) (hS : va_S (Fr (lΩ la C) s.heap.size) s.heap H locs) (hl : lv_has ls 4 [(0, .ref (la 0))]) : W p l e (rmL 5 6 24) s m args below meth c H locs cells slots Q (F0 m 66 ls [.ref ai]) := by
  have hx := X.hx
  have hb := X.hb
  rw [fZ12_hour_66] at hf
  refine lv_astore_n (lv' := [(1, .ref ai), (0, .ref (la 0))]) hx hb dX12_hour_66 rfl hl (by decide) rfl (fun ls hl => ?_)
  exact kZ12_hour_67 X hC hai hret (by omega) FU _ ic _ _ _ hf hic hP hS (lv_sub hl [1, 0] rfl)
set_option maxRecDepth 10000 in
theorem kZ12_hour_57 {S1 : XL} {M : XL} {H : Heap} {locs : List Loc} {ls : Array Slot} {cells slots : Nat} (X : gX p s m args c cX12_hour 4 RX12 (kR kTab kA)) (hC : lC C) (hret : gRetVA p l e (rmL 5 6 24) s m args below meth c cX12_hour 6 24 (lΩ la C) (lP dC dI cg kA la iA C bs) Q S1) (hcs : cells + 5 ≤ 6 ∧ slots + 20 ≤ 24) (hf : fZ12_hour_57 C  M = some S1) (hP : (gF (lP dC dI cg kA la iA C bs) T0) M s H) (hS : va_S (Fr (lΩ la C) s.heap.size) s.heap H locs) (hl : lv_has ls 4 [(0, .ref (la 0))]) : W p l e (rmL 5 6 24) s m args below meth c H locs cells slots Q (F0 m 57 ls []) := by
  have hx := X.hx
  have hb := X.hb
  rw [fZ12_hour_57] at hf
  refine lv_aload_n hx hb dX12_hour_57 rfl (lv_at hl 0 rfl) ?_
  refine lr_get (k := 2) (fs := (lF0 la M)) (v := .ref (la 3)) X hP (lEx_l (by decide)) lR_0 (rfl : vwCl[17]? = some (RX12, TX12, 15)) cinX12 (by decide) rfl rfl tw884 dX12_hour_58 ?_
  refine lr_iter (b := 3) X hP hS (fun q z => Or.inr z) (by decide) tw1390 ⟨by decide, by decide⟩ hl.1 (Nat.le_of_ble_eq_true rfl) ⟨by show _ + 1 ≤ 6; omega, by show _ + 4 ≤ 24; omega⟩ dX12_hour_61 (fun H locs ai hai hP hS => ?_)
  exact kZ12_hour_66 X hC hai hret (by omega) hf (Nat.zero_le _) hP hS (lv_sub hl [0] rfl)
set_option maxRecDepth 10000 in
theorem kZ12_hour_47 {S1 : XL} {M : XL} {H : Heap} {locs : List Loc} {ls : Array Slot} {cells slots : Nat} (X : gX p s m args c cX12_hour 4 RX12 (kR kTab kA)) (hC : lC C) (hret : gRetVA p l e (rmL 5 6 24) s m args below meth c cX12_hour 6 24 (lΩ la C) (lP dC dI cg kA la iA C bs) Q S1) (hcs : cells + 5 ≤ 6 ∧ slots + 20 ≤ 24) (hf : fZ12_hour_47 C  M = some S1) (hP : (gF (lP dC dI cg kA la iA C bs) T0) M s H) (hS : va_S (Fr (lΩ la C) s.heap.size) s.heap H locs) (hl : lv_has ls 4 [(0, .ref (la 0))]) : W p l e (rmL 5 6 24) s m args below meth c H locs cells slots Q (F0 m 47 ls []) := by
  have hx := X.hx
  have hb := X.hb
  rw [fZ12_hour_47] at hf
  refine lv_aload_n hx hb dX12_hour_47 rfl (lv_at hl 0 rfl) ?_
  refine lr_get (k := 5) (fs := (lF0 la M)) (v := .int (M.1 3)) X hP (lEx_l (by decide)) lR_0 (rfl : vwCl[17]? = some (RX12, TX12, 15)) cinX12 (by decide) rfl rfl tw891 dX12_hour_48 ?_
  refine lv_bipush (v := 24) hx hb dX12_hour_51 (by decide) ?_
  refine lv_irem hx hb dX12_hour_53 (by decide) ?_
  refine lv_if_ne (tgt := 142) hx hb dX12_hour_54 (by decide) (fun c1 => ?_) (fun c1 => ?_)
  · exact kZ12_hour_142 X hC hret (by omega) (ifn c1 hf) hP hS (lv_sub hl [0] rfl)
  · exact kZ12_hour_57 X hC hret (by omega) (ifp c1 hf) hP hS (lv_sub hl [0] rfl)
set_option maxRecDepth 10000 in
theorem kZ12_hour_44 {S1 : XL} {K20 : XL → Nat → Option (XL)} {M : XL} {ic : Nat} {H : Heap} {locs : List Loc} {ls : Array Slot} {cells slots : Nat} (X : gX p s m args c cX12_hour 4 RX12 (kR kTab kA)) (hC : lC C) {ai : Nat} (hai : itOK la C bs s.heap.size ai) (hret : gRetVA p l e (rmL 5 6 24) s m args below meth c cX12_hour 6 24 (lΩ la C) (lP dC dI cg kA la iA C bs) Q S1) (hK20 : ∀ (M : XL) (ic : Nat) (H : Heap) (locs : List Loc) (ls : Array Slot), K20 M ic = some S1 → (ic ≤ lNum C 3) → (gF (lP dC dI cg kA la iA C bs) (itF dC dI ai (la 3) (lNum C 3) ic)) M s H → va_S (Fr (lΩ la C) s.heap.size) s.heap H locs → lv_has ls 4 [(0, .ref (la 0)), (1, .ref ai)] → W p l e (rmL 5 6 24) s m args below meth c H locs cells slots Q (F0 m 20 ls [])) (hcs : cells + 0 ≤ 6 ∧ slots + 0 ≤ 24) (hf : fZ12_hour_44 C K20  M ic = some S1) (hic : ic ≤ lNum C 3) (hP : (gF (lP dC dI cg kA la iA C bs) (itF dC dI ai (la 3) (lNum C 3) ic)) M s H) (hS : va_S (Fr (lΩ la C) s.heap.size) s.heap H locs) (hl : lv_has ls 4 [(0, .ref (la 0)), (1, .ref ai)]) : W p l e (rmL 5 6 24) s m args below meth c H locs cells slots Q (F0 m 44 ls []) := by
  have hx := X.hx
  have hb := X.hb
  rw [fZ12_hour_44] at hf
  refine lv_goto (tgt := 20) hx hb dX12_hour_44 (by decide) ?_
  exact hK20 _ ic _ _ _ hf hic hP hS (lv_sub hl [0, 1] rfl)
set_option maxRecDepth 10000 in
theorem kZ12_hour_35 {S1 : XL} {K20 : XL → Nat → Option (XL)} {M : XL} {ic : Nat} {ps0 : Nat} {H : Heap} {locs : List Loc} {ls : Array Slot} {cells slots : Nat} (X : gX p s m args c cX12_hour 4 RX12 (kR kTab kA)) (hC : lC C) {ai : Nat} (hai : itOK la C bs s.heap.size ai) (hret : gRetVA p l e (rmL 5 6 24) s m args below meth c cX12_hour 6 24 (lΩ la C) (lP dC dI cg kA la iA C bs) Q S1) (hK20 : ∀ (M : XL) (ic : Nat) (H : Heap) (locs : List Loc) (ls : Array Slot), K20 M ic = some S1 → (ic ≤ lNum C 3) → (gF (lP dC dI cg kA la iA C bs) (itF dC dI ai (la 3) (lNum C 3) ic)) M s H → va_S (Fr (lΩ la C) s.heap.size) s.heap H locs → lv_has ls 4 [(0, .ref (la 0)), (1, .ref ai)] → W p l e (rmL 5 6 24) s m args below meth c H locs cells slots Q (F0 m 20 ls [])) (hcs : cells + 0 ≤ 6 ∧ slots + 0 ≤ 24) (hf : fZ12_hour_35 C K20  M ic ps0 = some S1) (hic : ic ≤ lNum C 3) (hps0 : ps0 < C.1.2.1) (hP : (gF (lP dC dI cg kA la iA C bs) (itF dC dI ai (la 3) (lNum C 3) ic)) M s H) (hS : va_S (Fr (lΩ la C) s.heap.size) s.heap H locs) (hl : lv_has ls 4 [(0, .ref (la 0)), (1, .ref ai)]) : W p l e (rmL 5 6 24) s m args below meth c H locs cells slots Q (F0 m 35 ls [.ref (la (13 + ps0))]) := by
  have hx := X.hx
  have hb := X.hb
  rw [fZ12_hour_35] at hf
  refine lr_cast X hP (lEx_s hps0) lR_s (rfl : vwCl[18]? = some (RX13, TX13, 5)) tw1395 dX12_hour_35 ?_
  refine lv_astore_n (lv' := [(2, .ref (la (13 + ps0))), (0, .ref (la 0)), (1, .ref ai)]) hx hb dX12_hour_38 rfl hl (by decide) rfl (fun ls hl => ?_)
  refine lv_aload_n hx hb dX12_hour_39 rfl (lv_at hl 1 rfl) ?_
  refine lv_aload_n hx hb dX12_hour_40 rfl (lv_at hl 0 rfl) ?_
  obtain ⟨q, hc, hf⟩ := bd hf
  refine gCallWV X (lOK (itF_fs hai)) (((vZ12_eats hC hps0 hc)).lift (itF_fs hai)) (cw_V 1 X g5_RX12_X12_eats hd5_X12_eats ⟨by decide, by decide⟩) rfl hP hS (Fr_le hS.1) (lr_rec hP (lEx_l (by decide)) lR_0 (rfl : vwCl[17]? = some (RX12, TX12, 15))) hl.1 (Nat.le_of_ble_eq_true rfl) ⟨by show _ + 0 ≤ 6; omega, by show _ + 0 ≤ 24; omega⟩ dX12_hour_41 (As := [.ref (la (13 + ps0))]) (rest := []) rfl (fun H locs hP hS => ?_)
  exact kZ12_hour_44 X hC hai hret hK20 (by omega) hf hic hP hS (lv_sub hl [1, 2] rfl)
set_option maxRecDepth 10000 in
theorem kZ12_hour_29 {S1 : XL} {K20 : XL → Nat → Option (XL)} {M : XL} {ic : Nat} {H : Heap} {locs : List Loc} {ls : Array Slot} {cells slots : Nat} (X : gX p s m args c cX12_hour 4 RX12 (kR kTab kA)) (hC : lC C) {ai : Nat} (hai : itOK la C bs s.heap.size ai) (hret : gRetVA p l e (rmL 5 6 24) s m args below meth c cX12_hour 6 24 (lΩ la C) (lP dC dI cg kA la iA C bs) Q S1) (hK20 : ∀ (M : XL) (ic : Nat) (H : Heap) (locs : List Loc) (ls : Array Slot), K20 M ic = some S1 → (ic ≤ lNum C 3) → (gF (lP dC dI cg kA la iA C bs) (itF dC dI ai (la 3) (lNum C 3) ic)) M s H → va_S (Fr (lΩ la C) s.heap.size) s.heap H locs → lv_has ls 4 [(0, .ref (la 0)), (1, .ref ai)] → W p l e (rmL 5 6 24) s m args below meth c H locs cells slots Q (F0 m 20 ls [])) (hcs : cells + 0 ≤ 6 ∧ slots + 0 ≤ 24) (hf : fZ12_hour_29 C K20  M ic = some S1) (hic : ic ≤ lNum C 3) (hP : (gF (lP dC dI cg kA la iA C bs) (itF dC dI ai (la 3) (lNum C 3) ic)) M s H) (hS : va_S (Fr (lΩ la C) s.heap.size) s.heap H locs) (hl : lv_has ls 4 [(0, .ref (la 0)), (1, .ref ai)]) : W p l e (rmL 5 6 24) s m args below meth c H locs cells slots Q (F0 m 29 ls []) := by
  have hx := X.hx
  have hb := X.hb
  rw [fZ12_hour_29] at hf
  refine lv_aload_n hx hb dX12_hour_29 rfl (lv_at hl 1 rfl) ?_
  obtain ⟨g1, hf⟩ := gd hf
  refine lr_next (b := 3) (q := (la (13 + ic))) X hC hai hP hS (fun q z => Or.inr z) (by decide) g1 (lFa_3 g1) tw1394 ⟨by decide, by decide⟩ hl.1 (Nat.le_of_ble_eq_true rfl) ⟨by show _ ≤ 6; omega, by show _ ≤ 24; omega⟩ dX12_hour_30 (fun H locs hP hS => ?_)
  exact kZ12_hour_35 X hC hai hret hK20 (by omega) hf (Nat.succ_le_of_lt g1) g1 hP hS (lv_sub hl [0, 1] rfl)
set_option maxRecDepth 10000 in
theorem kZ12_hour_20 {S1 : XL} {cells slots : Nat} (X : gX p s m args c cX12_hour 4 RX12 (kR kTab kA)) (hC : lC C) {ai : Nat} (hai : itOK la C bs s.heap.size ai) (hret : gRetVA p l e (rmL 5 6 24) s m args below meth c cX12_hour 6 24 (lΩ la C) (lP dC dI cg kA la iA C bs) Q S1) (hcs : cells + 5 ≤ 6 ∧ slots + 20 ≤ 24) : ∀ (n : Nat) (M : XL) (ic : Nat) (H : Heap) (locs : List Loc) (ls : Array Slot), fZ12_hour_20 C  n M ic = some S1 → (ic ≤ lNum C 3) → (gF (lP dC dI cg kA la iA C bs) (itF dC dI ai (la 3) (lNum C 3) ic)) M s H → va_S (Fr (lΩ la C) s.heap.size) s.heap H locs → lv_has ls 4 [(0, .ref (la 0)), (1, .ref ai)] → W p l e (rmL 5 6 24) s m args below meth c H locs cells slots Q (F0 m 20 ls []) := by
  intro n
  induction n with
  | zero => intro M ic H locs ls hf; cases hf
  | succ k ih =>
    intro M ic H locs ls hf hic hP hS hl
    have hx := X.hx
    have hb := X.hb
    rw [fZ12_hour_20] at hf
    try dsimp only at hf
    refine lv_aload_n hx hb dX12_hour_20 rfl (lv_at hl 1 rfl) ?_
    refine lr_hasNext (b := 3) X rfl hC hP (by decide) hic tw1392 (by decide) hl.1 (Nat.le_of_ble_eq_true rfl) ⟨by omega, by omega⟩ dX12_hour_21 ?_
    refine lv_if_eq (tgt := 47) hx hb dX12_hour_26 (by decide) (fun c1 => ?_) (fun c1 => ?_)
    · exact kZ12_hour_47 X hC hret (by omega) (ifp (hn_0 c1) hf) ⟨hP.1, trivial⟩ hS (lv_sub hl [0] rfl)
    · exact kZ12_hour_29 X hC hai hret ih (by omega) (ifn (hn_1 c1) hf) hic hP hS (lv_sub hl [0, 1] rfl)
set_option maxRecDepth 10000 in
theorem kZ12_hour_19 {S1 : XL} {M : XL} {ic : Nat} {H : Heap} {locs : List Loc} {ls : Array Slot} {cells slots : Nat} (X : gX p s m args c cX12_hour 4 RX12 (kR kTab kA)) (hC : lC C) {ai : Nat} (hai : itOK la C bs s.heap.size ai) (hret : gRetVA p l e (rmL 5 6 24) s m args below meth c cX12_hour 6 24 (lΩ la C) (lP dC dI cg kA la iA C bs) Q S1) (hcs : cells + 5 ≤ 6 ∧ slots + 20 ≤ 24) (hf : fZ12_hour_19 C  M ic = some S1) (hic : ic ≤ lNum C 3) (hP : (gF (lP dC dI cg kA la iA C bs) (itF dC dI ai (la 3) (lNum C 3) ic)) M s H) (hS : va_S (Fr (lΩ la C) s.heap.size) s.heap H locs) (hl : lv_has ls 4 [(0, .ref (la 0))]) : W p l e (rmL 5 6 24) s m args below meth c H locs cells slots Q (F0 m 19 ls [.ref ai]) := by
  have hx := X.hx
  have hb := X.hb
  rw [fZ12_hour_19] at hf
  refine lv_astore_n (lv' := [(1, .ref ai), (0, .ref (la 0))]) hx hb dX12_hour_19 rfl hl (by decide) rfl (fun ls hl => ?_)
  exact kZ12_hour_20 X hC hai hret (by omega) FU _ ic _ _ _ hf hic hP hS (lv_sub hl [1, 0] rfl)
set_option maxRecDepth 10000 in
theorem kZ12_hour_10 {S1 : XL} {M : XL} {H : Heap} {locs : List Loc} {ls : Array Slot} {cells slots : Nat} (X : gX p s m args c cX12_hour 4 RX12 (kR kTab kA)) (hC : lC C) (hret : gRetVA p l e (rmL 5 6 24) s m args below meth c cX12_hour 6 24 (lΩ la C) (lP dC dI cg kA la iA C bs) Q S1) (hcs : cells + 6 ≤ 6 ∧ slots + 24 ≤ 24) (hf : fZ12_hour_10 C  M = some S1) (hP : (gF (lP dC dI cg kA la iA C bs) T0) M s H) (hS : va_S (Fr (lΩ la C) s.heap.size) s.heap H locs) (hl : lv_has ls 4 [(0, .ref (la 0))]) : W p l e (rmL 5 6 24) s m args below meth c H locs cells slots Q (F0 m 10 ls []) := by
  have hx := X.hx
  have hb := X.hb
  rw [fZ12_hour_10] at hf
  refine lv_aload_n hx hb dX12_hour_10 rfl (lv_at hl 0 rfl) ?_
  refine lr_get (k := 2) (fs := (lF0 la M)) (v := .ref (la 3)) X hP (lEx_l (by decide)) lR_0 (rfl : vwCl[17]? = some (RX12, TX12, 15)) cinX12 (by decide) rfl rfl tw884 dX12_hour_11 ?_
  refine lr_iter (b := 3) X hP hS (fun q z => Or.inr z) (by decide) tw1390 ⟨by decide, by decide⟩ hl.1 (Nat.le_of_ble_eq_true rfl) ⟨by show _ + 1 ≤ 6; omega, by show _ + 4 ≤ 24; omega⟩ dX12_hour_14 (fun H locs ai hai hP hS => ?_)
  exact kZ12_hour_19 X hC hai hret (by omega) hf (Nat.zero_le _) hP hS (lv_sub hl [0] rfl)
set_option maxRecDepth 10000 in
theorem kZ12_hour_0 {S1 : XL} {M : XL} {H : Heap} {locs : List Loc} {ls : Array Slot} {cells slots : Nat} (X : gX p s m args c cX12_hour 4 RX12 (kR kTab kA)) (hC : lC C) (hret : gRetVA p l e (rmL 5 6 24) s m args below meth c cX12_hour 6 24 (lΩ la C) (lP dC dI cg kA la iA C bs) Q S1) (hcs : cells + 6 ≤ 6 ∧ slots + 24 ≤ 24) (hf : fZ12_hour_0 C  M = some S1) (hP : (gF (lP dC dI cg kA la iA C bs) T0) M s H) (hS : va_S (Fr (lΩ la C) s.heap.size) s.heap H locs) (hl : lv_has ls 4 [(0, .ref (la 0))]) : W p l e (rmL 5 6 24) s m args below meth c H locs cells slots Q (F0 m 0 ls []) := by
  have hx := X.hx
  have hb := X.hb
  rw [fZ12_hour_0] at hf
  refine lv_aload_n hx hb dX12_hour_0 rfl (lv_at hl 0 rfl) ?_
  refine lv_dup hx hb dX12_hour_1 rfl ?_
  refine lr_get (k := 5) (fs := (lF0 la M)) (v := .int (M.1 3)) X hP (lEx_l (by decide)) lR_0 (rfl : vwCl[17]? = some (RX12, TX12, 15)) cinX12 (by decide) rfl rfl tw891 dX12_hour_2 ?_
  refine lv_iconst (v := 1) hx hb dX12_hour_5 (by decide) ?_
  refine lv_iadd hx hb dX12_hour_6 ?_
  refine lr_put (k := 5) (fs := (lF0 la M)) (tyT := tyX12) (upd M.1 3 ((M.1 3) + 1), M.2) X T0_fs hP hS (lEx_l (by decide)) lR_0 rfl (fun p hp => lu0 (by decide) hp) (rfl : vwCl[17]? = some (RX12, TX12, 15)) cinX12 tyX12_ok nmX12 (by decide) rfl rfl rfl rfl (Nat.le_of_ble_eq_true rfl) tw891 dX12_hour_7 (fun H locs hP hS => ?_)
  exact kZ12_hour_10 X hC hret (by omega) hf hP hS (lv_sub hl [0] rfl)
theorem vZ12_hour {l : Launch} {dC : Nat → ClassId} {dI : Nat → Nat → Nat} {cg : Nat → ClassId} {kA : String → Nat → Nat} {la iA : Nat → Nat} {C : LC} {bs : Nat} (hC : lC C) {M S1 : XL} (hf : fZ12_hour C M  = some S1) : gMetVA l yX12_hour cX12_hour 4 5 6 24 (lΩ la C) (lP dC dI cg kA la iA C bs) (kR kTab kA) [.ref (la 0)] M S1 := gEntryVA (by decide) lOK0 (Nat.le_of_ble_eq_true rfl) (fun p e s m args below meth c Q ls X hP hS hret hl => 
  kZ12_hour_0 X hC hret ⟨Nat.le_of_ble_eq_true rfl, Nat.le_of_ble_eq_true rfl⟩ hf ⟨hP, trivial⟩ hS (lv_sub hl [0] rfl))
end LGEN
