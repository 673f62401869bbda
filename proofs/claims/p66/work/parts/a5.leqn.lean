/-! the programs told of a pair -/
theorem eZ11_strength_29 {C : LC} {t : Nat} {w : Wd} {h : Nat → Int32} {s0 : Int32} : fZ11_strength_29 C t  (w, h) s0 = some (s0, (w, h)) := rfl
theorem eZ11_strength_18 {C : LC} {t : Nat} {w : Wd} {h : Nat → Int32} : fZ11_strength_18 C t  (w, h) = fZ11_strength_29 C t (w, h) ((w (65 + 12 * t + 7)) - ((w (65 + 12 * t + 9)) / 4)) := rfl
theorem eZ11_strength_14 {C : LC} {t : Nat} {w : Wd} {h : Nat → Int32} : fZ11_strength_14 C t  (w, h) = fZ11_strength_29 C t (w, h) 0 := rfl
theorem eZ11_strength_0 {C : LC} {t : Nat} {w : Wd} {h : Nat → Int32} : fZ11_strength_0 C t  (w, h) = if 0 ≤ ((w (65 + 12 * t + 7)) - ((w (65 + 12 * t + 9)) / 4)) then fZ11_strength_18 C t (w, h) else fZ11_strength_14 C t (w, h) := rfl
theorem eZ12_swearsIn_25 {C : LC} {a1 : Nat} {w : Wd} {h : Nat → Int32} : fZ12_swearsIn_25 C a1  (w, h) = some (w, h) := rfl
theorem eZ12_swearsIn_15 {C : LC} {a1 : Nat} {w : Wd} {h : Nat → Int32} : fZ12_swearsIn_15 C a1  (w, h) = fZ12_swearsIn_25 C a1 (upd w 12 ((w 12) + 1), h) := rfl
theorem eZ12_swearsIn_5 {C : LC} {a1 : Nat} {w : Wd} {h : Nat → Int32} : fZ12_swearsIn_5 C a1  (w, h) = fZ12_swearsIn_15 C a1 (upd w (65 + 12 * a1 + 11) ((w (65 + 12 * a1 + 11)) + 1), h) := rfl
theorem eZ12_swearsIn_0 {C : LC} {a1 : Nat} {w : Wd} {h : Nat → Int32} : fZ12_swearsIn_0 C a1  (w, h) = fZ12_swearsIn_5 C a1 (upd w 5 (nI a1), h) := rfl
theorem eZ12_eats_67 {C : LC} {a1 : Nat} {w : Wd} {h : Nat → Int32} : fZ12_eats_67 C a1  (w, h) = some (w, h) := rfl
theorem eZ12_eats_254 {C : LC} {a1 : Nat} {w : Wd} {h : Nat → Int32} : fZ12_eats_254 C a1  (w, h) = some (w, h) := rfl
theorem eZ12_eats_251 {C : LC} {a1 : Nat} {K202 : XL → Nat → Option (XL)} {w : Wd} {h : Nat → Int32} {z2 : Nat} : fZ12_eats_251 C a1 K202  (w, h) z2 = K202 (w, h) z2 := rfl
theorem eZ12_eats_241 {C : LC} {a1 : Nat} {K202 : XL → Nat → Option (XL)} {w : Wd} {h : Nat → Int32} {z2 : Nat} : fZ12_eats_241 C a1 K202  (w, h) z2 = fZ12_eats_251 C a1 K202 (upd w (161 + 12 * a1 + 8) ((w (161 + 12 * a1 + 8)) - 1), h) z2 := rfl
theorem eZ12_eats_231 {C : LC} {a1 : Nat} {K202 : XL → Nat → Option (XL)} {w : Wd} {h : Nat → Int32} {z2 : Nat} : fZ12_eats_231 C a1 K202  (w, h) z2 = fZ12_eats_241 C a1 K202 (upd w 11 ((w 11) + 1), h) z2 := rfl
theorem eZ12_eats_228 {C : LC} {a1 : Nat} {K202 : XL → Nat → Option (XL)} {w : Wd} {h : Nat → Int32} {z2 : Nat} : fZ12_eats_228 C a1 K202  (w, h) z2 = fZ12_eats_241 C a1 K202 (w, h) z2 := rfl
theorem eZ12_eats_218 {C : LC} {a1 : Nat} {K202 : XL → Nat → Option (XL)} {w : Wd} {h : Nat → Int32} {z2 : Nat} : fZ12_eats_218 C a1 K202  (w, h) z2 = if ¬ z2 = 0 ∧ z2 - 1 < C.1.2.1 then fZ12_eats_228 C a1 K202 (upd w (161 + 12 * (z2 - 1) + 8) ((w (161 + 12 * (z2 - 1) + 8)) + 1), h) z2 else none := rfl
theorem eZ12_eats_209 {C : LC} {a1 : Nat} {K202 : XL → Nat → Option (XL)} {w : Wd} {h : Nat → Int32} {z2 : Nat} : fZ12_eats_209 C a1 K202  (w, h) z2 = if ¬ z2 = 0 ∧ z2 - 1 < C.1.2.1 then if 99 ≤ (w (161 + 12 * (z2 - 1) + 8)) then fZ12_eats_231 C a1 K202 (w, h) z2 else fZ12_eats_218 C a1 K202 (w, h) z2 else none := rfl
theorem eZ12_eats_202 {C : LC} {a1 : Nat} {k : Nat} {w : Wd} {h : Nat → Int32} {z2 : Nat} : fZ12_eats_202 C a1  (k + 1) (w, h) z2 = if (w (161 + 12 * a1 + 8)) ≤ 0 then fZ12_eats_254 C a1 (w, h) else fZ12_eats_209 C a1 (fZ12_eats_202 C a1 k) (w, h) z2 := rfl
theorem eZ12_eats_201 {C : LC} {a1 : Nat} {w : Wd} {h : Nat → Int32} : fZ12_eats_201 C a1  (w, h) = some (w, h) := rfl
theorem eZ12_eats_191 {C : LC} {a1 : Nat} {w : Wd} {h : Nat → Int32} {x3 : Int32} : fZ12_eats_191 C a1  (w, h) x3 = fZ12_eats_201 C a1 (upd w 11 ((w 11) + x3), h) := rfl
theorem eZ12_eats_169 {C : LC} {a1 : Nat} {w : Wd} {h : Nat → Int32} : fZ12_eats_169 C a1  (w, h) = fZ12_eats_191 C a1 (upd w (161 + 12 * a1 + 8) ((w (161 + 12 * a1 + 8)) - ((w (161 + 12 * a1 + 8)) - ((w (161 + 12 * a1 + 8)) / 2))), h) ((w (161 + 12 * a1 + 8)) - ((w (161 + 12 * a1 + 8)) / 2)) := rfl
theorem eZ12_eats_165 {C : LC} {a1 : Nat} {w : Wd} {h : Nat → Int32} {z2 : Nat} : fZ12_eats_165 C a1  (w, h) z2 = if z2 = 0 then fZ12_eats_169 C a1 (w, h) else fZ12_eats_202 C a1 FU (w, h) z2 := rfl
theorem eZ12_eats_159 {C : LC} {a1 : Nat} {K72 : XL → Nat → Int32 → Option (XL)} {w : Wd} {h : Nat → Int32} {z2 : Nat} {x3 : Int32} : fZ12_eats_159 C a1 K72  (w, h) z2 x3 = K72 (w, h) z2 (x3 + 1) := rfl
theorem eZ12_eats_130 {C : LC} {a1 : Nat} {K72 : XL → Nat → Int32 → Option (XL)} {w : Wd} {h : Nat → Int32} {x3 : Int32} : fZ12_eats_130 C a1 K72  (w, h) x3 = if ¬ (nI (lNum C 3)) = 0 then if gIn (((nI a1) + x3) - ((nI a1) + x3) / (nI (lNum C 3)) * (nI (lNum C 3))) (lNum C 3) then fZ12_eats_159 C a1 K72 (w, h) ((((nI a1) + x3) - ((nI a1) + x3) / (nI (lNum C 3)) * (nI (lNum C 3))).toNatClampNeg + 1) x3 else none else none := rfl
theorem eZ12_eats_96 {C : LC} {a1 : Nat} {K72 : XL → Nat → Int32 → Option (XL)} {w : Wd} {h : Nat → Int32} {z2 : Nat} {x3 : Int32} : fZ12_eats_96 C a1 K72  (w, h) z2 x3 = if ¬ (nI (lNum C 3)) = 0 then if gIn (((nI a1) + x3) - ((nI a1) + x3) / (nI (lNum C 3)) * (nI (lNum C 3))) (lNum C 3) then if (w (161 + 12 * (((nI a1) + x3) - ((nI a1) + x3) / (nI (lNum C 3)) * (nI (lNum C 3))).toNatClampNeg + 9)) = 0 then fZ12_eats_159 C a1 K72 (w, h) z2 x3 else fZ12_eats_130 C a1 K72 (w, h) x3 else none else none := rfl
theorem eZ12_eats_92 {C : LC} {a1 : Nat} {K72 : XL → Nat → Int32 → Option (XL)} {w : Wd} {h : Nat → Int32} {z2 : Nat} {x3 : Int32} : fZ12_eats_92 C a1 K72  (w, h) z2 x3 = if z2 = 0 then fZ12_eats_96 C a1 K72 (w, h) z2 x3 else fZ12_eats_165 C a1 (w, h) z2 := rfl
theorem eZ12_eats_85 {C : LC} {a1 : Nat} {K72 : XL → Nat → Int32 → Option (XL)} {w : Wd} {h : Nat → Int32} {z2 : Nat} {x3 : Int32} : fZ12_eats_85 C a1 K72  (w, h) z2 x3 = if (w (161 + 12 * a1 + 9)) = 0 then fZ12_eats_165 C a1 (w, h) z2 else fZ12_eats_92 C a1 K72 (w, h) z2 x3 := rfl
theorem eZ12_eats_72 {C : LC} {a1 : Nat} {k : Nat} {w : Wd} {h : Nat → Int32} {z2 : Nat} {x3 : Int32} : fZ12_eats_72 C a1  (k + 1) (w, h) z2 x3 = if (nI (lNum C 3)) ≤ x3 then fZ12_eats_165 C a1 (w, h) z2 else fZ12_eats_85 C a1 (fZ12_eats_72 C a1 k) (w, h) z2 x3 := rfl
theorem eZ12_eats_68 {C : LC} {a1 : Nat} {w : Wd} {h : Nat → Int32} : fZ12_eats_68 C a1  (w, h) = fZ12_eats_72 C a1 FU (w, h) 0 1 := rfl
theorem eZ12_eats_60 {C : LC} {a1 : Nat} {w : Wd} {h : Nat → Int32} : fZ12_eats_60 C a1  (w, h) = if (w (161 + 12 * a1 + 7)) ≤ 0 then fZ12_eats_68 C a1 (w, h) else fZ12_eats_67 C a1 (w, h) := rfl
theorem eZ12_eats_53 {C : LC} {a1 : Nat} {w : Wd} {h : Nat → Int32} : fZ12_eats_53 C a1  (w, h) = if (w (161 + 12 * a1 + 8)) = 0 then fZ12_eats_67 C a1 (w, h) else fZ12_eats_60 C a1 (w, h) := rfl
theorem eZ12_eats_47 {C : LC} {a1 : Nat} {K2 : XL → Int32 → Option (XL)} {w : Wd} {h : Nat → Int32} {x2 : Int32} : fZ12_eats_47 C a1 K2  (w, h) x2 = K2 (w, h) (x2 + 1) := rfl
theorem eZ12_eats_37 {C : LC} {a1 : Nat} {K2 : XL → Int32 → Option (XL)} {w : Wd} {h : Nat → Int32} {x2 : Int32} : fZ12_eats_37 C a1 K2  (w, h) x2 = fZ12_eats_47 C a1 K2 (upd w 9 ((w 9) + 1), h) x2 := rfl
theorem eZ12_eats_27 {C : LC} {a1 : Nat} {K2 : XL → Int32 → Option (XL)} {w : Wd} {h : Nat → Int32} {x2 : Int32} : fZ12_eats_27 C a1 K2  (w, h) x2 = fZ12_eats_37 C a1 K2 (upd w (161 + 12 * a1 + 10) ((w (161 + 12 * a1 + 10)) + 1), h) x2 := rfl
theorem eZ12_eats_17 {C : LC} {a1 : Nat} {K2 : XL → Int32 → Option (XL)} {w : Wd} {h : Nat → Int32} {x2 : Int32} : fZ12_eats_17 C a1 K2  (w, h) x2 = fZ12_eats_27 C a1 K2 (upd w (161 + 12 * a1 + 7) ((w (161 + 12 * a1 + 7)) - 1), h) x2 := rfl
theorem eZ12_eats_10 {C : LC} {a1 : Nat} {K2 : XL → Int32 → Option (XL)} {w : Wd} {h : Nat → Int32} {x2 : Int32} : fZ12_eats_10 C a1 K2  (w, h) x2 = if (w (161 + 12 * a1 + 7)) ≤ 0 then fZ12_eats_53 C a1 (w, h) else fZ12_eats_17 C a1 K2 (w, h) x2 := rfl
theorem eZ12_eats_2 {C : LC} {a1 : Nat} {k : Nat} {w : Wd} {h : Nat → Int32} {x2 : Int32} : fZ12_eats_2 C a1  (k + 1) (w, h) x2 = if (w (161 + 12 * a1 + 8)) ≤ x2 then fZ12_eats_53 C a1 (w, h) else fZ12_eats_10 C a1 (fZ12_eats_2 C a1 k) (w, h) x2 := rfl
theorem eZ12_eats_0 {C : LC} {a1 : Nat} {w : Wd} {h : Nat → Int32} : fZ12_eats_0 C a1  (w, h) = fZ12_eats_2 C a1 FU (w, h) 0 := rfl
theorem eZ12_hunts_76 {C : LC} {w : Wd} {h : Nat → Int32} : fZ12_hunts_76 C  (w, h) = some (w, h) := rfl
theorem eZ12_hunts_172 {C : LC} {w : Wd} {h : Nat → Int32} : fZ12_hunts_172 C  (w, h) = some (w, h) := rfl
theorem eZ12_hunts_164 {C : LC} {w : Wd} {h : Nat → Int32} : fZ12_hunts_164 C  (w, h) = if ¬ (w 5) = -1 ∧ (w 5).toNatClampNeg < C.1.1 then fZ12_hunts_172 C (w, upd h ((w 5).toNatClampNeg) 1) else none := rfl
theorem eZ12_hunts_151 {C : LC} {w : Wd} {h : Nat → Int32} : fZ12_hunts_151 C  (w, h) = if ¬ (w 5) = -1 ∧ (w 5).toNatClampNeg < C.1.1 then fZ12_hunts_164 C (upd w (65 + 12 * (w 5).toNatClampNeg + 9) ((w (65 + 12 * (w 5).toNatClampNeg + 9)) + 1), h) else none := rfl
theorem eZ12_hunts_139 {C : LC} {w : Wd} {h : Nat → Int32} : fZ12_hunts_139 C  (w, h) = if ¬ (w 5) = -1 ∧ (w 5).toNatClampNeg < C.1.1 then if 20 ≤ (w (65 + 12 * (w 5).toNatClampNeg + 9)) then fZ12_hunts_164 C (w, h) else fZ12_hunts_151 C (w, h) else none := rfl
theorem eZ12_hunts_129 {C : LC} {w : Wd} {h : Nat → Int32} {x2 : Int32} : fZ12_hunts_129 C  (w, h) x2 = fZ12_hunts_139 C (upd w 8 ((w 8) + x2), h) := rfl
theorem eZ12_hunts_116 {C : LC} {w : Wd} {h : Nat → Int32} {x2 : Int32} : fZ12_hunts_116 C  (w, h) x2 = if ¬ (w 5) = -1 ∧ (w 5).toNatClampNeg < C.1.1 then fZ12_hunts_129 C (upd w (65 + 12 * (w 5).toNatClampNeg + 10) ((w (65 + 12 * (w 5).toNatClampNeg + 10)) + x2), h) x2 else none := rfl
theorem eZ12_hunts_105 {C : LC} {w : Wd} {h : Nat → Int32} {z1 : Nat} {s0 : Int32} : fZ12_hunts_105 C  (w, h) z1 s0 = if ¬ z1 = 0 ∧ z1 - 1 < C.1.2.1 then fZ12_hunts_116 C (upd w (161 + 12 * (z1 - 1) + 8) ((w (161 + 12 * (z1 - 1) + 8)) - s0), h) s0 else none := rfl
theorem eZ12_hunts_101 {C : LC} {w : Wd} {h : Nat → Int32} {z1 : Nat} : fZ12_hunts_101 C  (w, h) z1 = if ¬ z1 = 0 ∧ z1 - 1 < C.1.2.1 then fZ12_hunts_105 C (w, h) z1 (w (161 + 12 * (z1 - 1) + 8)) else none := rfl
theorem eZ12_hunts_98 {C : LC} {w : Wd} {h : Nat → Int32} {z1 : Nat} {s0 : Int32} : fZ12_hunts_98 C  (w, h) z1 s0 = fZ12_hunts_105 C (w, h) z1 s0 := rfl
theorem eZ12_hunts_91 {C : LC} {w : Wd} {h : Nat → Int32} {z1 : Nat} : fZ12_hunts_91 C  (w, h) z1 = if ¬ (w 5) = -1 ∧ (w 5).toNatClampNeg < C.1.1 then (fZ11_strength C (w, h) ((w 5).toNatClampNeg)).bind fun q => fZ12_hunts_98 C q.2 z1 q.1 else none := rfl
theorem eZ12_hunts_84 {C : LC} {w : Wd} {h : Nat → Int32} {z1 : Nat} {s0 : Int32} : fZ12_hunts_84 C  (w, h) z1 s0 = if ¬ z1 = 0 ∧ z1 - 1 < C.1.2.1 then if (w (161 + 12 * (z1 - 1) + 8)) ≤ s0 then fZ12_hunts_101 C (w, h) z1 else fZ12_hunts_91 C (w, h) z1 else none := rfl
theorem eZ12_hunts_77 {C : LC} {w : Wd} {h : Nat → Int32} {z1 : Nat} : fZ12_hunts_77 C  (w, h) z1 = if ¬ (w 5) = -1 ∧ (w 5).toNatClampNeg < C.1.1 then (fZ11_strength C (w, h) ((w 5).toNatClampNeg)).bind fun q => fZ12_hunts_84 C q.2 z1 q.1 else none := rfl
theorem eZ12_hunts_72 {C : LC} {w : Wd} {h : Nat → Int32} {z1 : Nat} : fZ12_hunts_72 C  (w, h) z1 = if z1 = 0 then fZ12_hunts_76 C (w, h) else fZ12_hunts_77 C (w, h) z1 := rfl
theorem eZ12_hunts_65 {C : LC} {w : Wd} {h : Nat → Int32} {z1 : Nat} : fZ12_hunts_65 C  (w, h) z1 = if (w 5) = -1 then fZ12_hunts_76 C (w, h) else fZ12_hunts_72 C (w, h) z1 := rfl
theorem eZ12_hunts_62 {C : LC} {K12 : XL → Nat → Nat → Option (XL)} {w : Wd} {h : Nat → Int32} {z1 : Nat} {ic : Nat} : fZ12_hunts_62 C K12  (w, h) z1 ic = K12 (w, h) z1 ic := rfl
theorem eZ12_hunts_60 {C : LC} {K12 : XL → Nat → Nat → Option (XL)} {w : Wd} {h : Nat → Int32} {ic : Nat} {p3 : Nat} : fZ12_hunts_60 C K12  (w, h) ic p3 = fZ12_hunts_62 C K12 (w, h) (p3 + 1) ic := rfl
theorem eZ12_hunts_49 {C : LC} {K12 : XL → Nat → Nat → Option (XL)} {w : Wd} {h : Nat → Int32} {z1 : Nat} {ic : Nat} {p3 : Nat} : fZ12_hunts_49 C K12  (w, h) z1 ic p3 = if ¬ z1 = 0 ∧ z1 - 1 < C.1.2.1 then if (w (161 + 12 * p3 + 8)) ≤ (w (161 + 12 * (z1 - 1) + 8)) then fZ12_hunts_62 C K12 (w, h) z1 ic else fZ12_hunts_60 C K12 (w, h) ic p3 else none := rfl
theorem eZ12_hunts_45 {C : LC} {K12 : XL → Nat → Nat → Option (XL)} {w : Wd} {h : Nat → Int32} {z1 : Nat} {ic : Nat} {p3 : Nat} : fZ12_hunts_45 C K12  (w, h) z1 ic p3 = if z1 = 0 then fZ12_hunts_60 C K12 (w, h) ic p3 else fZ12_hunts_49 C K12 (w, h) z1 ic p3 := rfl
theorem eZ12_hunts_38 {C : LC} {K12 : XL → Nat → Nat → Option (XL)} {w : Wd} {h : Nat → Int32} {z1 : Nat} {ic : Nat} {p3 : Nat} : fZ12_hunts_38 C K12  (w, h) z1 ic p3 = if (w (161 + 12 * p3 + 8)) ≤ 0 then fZ12_hunts_62 C K12 (w, h) z1 ic else fZ12_hunts_45 C K12 (w, h) z1 ic p3 := rfl
theorem eZ12_hunts_27 {C : LC} {K12 : XL → Nat → Nat → Option (XL)} {w : Wd} {h : Nat → Int32} {z1 : Nat} {ic : Nat} {ps0 : Nat} : fZ12_hunts_27 C K12  (w, h) z1 ic ps0 = if (w (161 + 12 * ps0 + 9)) = 0 then fZ12_hunts_62 C K12 (w, h) z1 ic else fZ12_hunts_38 C K12 (w, h) z1 ic ps0 := rfl
theorem eZ12_hunts_21 {C : LC} {K12 : XL → Nat → Nat → Option (XL)} {w : Wd} {h : Nat → Int32} {z1 : Nat} {ic : Nat} : fZ12_hunts_21 C K12  (w, h) z1 ic = if ic < lNum C 3 then fZ12_hunts_27 C K12 (w, h) z1 (ic + 1) ic else none := rfl
theorem eZ12_hunts_12 {C : LC} {k : Nat} {w : Wd} {h : Nat → Int32} {z1 : Nat} {ic : Nat} : fZ12_hunts_12 C  (k + 1) (w, h) z1 ic = if ic = lNum C 3 then fZ12_hunts_65 C (w, h) z1 else fZ12_hunts_21 C (fZ12_hunts_12 C k) (w, h) z1 ic := rfl
theorem eZ12_hunts_11 {C : LC} {w : Wd} {h : Nat → Int32} {z1 : Nat} {ic : Nat} : fZ12_hunts_11 C  (w, h) z1 ic = fZ12_hunts_12 C FU (w, h) z1 ic := rfl
theorem eZ12_hunts_0 {C : LC} {w : Wd} {h : Nat → Int32} : fZ12_hunts_0 C  (w, h) = fZ12_hunts_11 C (w, h) 0 0 := rfl
theorem eZ12_changes_134 {C : LC} {w : Wd} {h : Nat → Int32} : fZ12_changes_134 C  (w, h) = some (w, h) := rfl
theorem eZ12_changes_124 {C : LC} {w : Wd} {h : Nat → Int32} : fZ12_changes_124 C  (w, h) = fZ12_changes_134 C (upd w 13 ((w 13) + 1), h) := rfl
theorem eZ12_changes_119 {C : LC} {w : Wd} {h : Nat → Int32} : fZ12_changes_119 C  (w, h) = fZ12_changes_124 C (upd w 5 (-1), h) := rfl
theorem eZ12_changes_116 {C : LC} {w : Wd} {h : Nat → Int32} : fZ12_changes_116 C  (w, h) = fZ12_changes_134 C (w, h) := rfl
theorem eZ12_changes_111 {C : LC} {w : Wd} {h : Nat → Int32} {p1 : Nat} : fZ12_changes_111 C  (w, h) p1 = (fZ12_swearsIn C (w, h) p1).bind fun q => fZ12_changes_116 C q := rfl
theorem eZ12_changes_97 {C : LC} {w : Wd} {h : Nat → Int32} {p1 : Nat} : fZ12_changes_97 C  (w, h) p1 = if ¬ (w 5) = -1 ∧ (w 5).toNatClampNeg < C.1.1 then if (h (4 + p1)) = (h (4 + (w 5).toNatClampNeg)) then fZ12_changes_119 C (w, h) else fZ12_changes_111 C (w, h) p1 else none := rfl
theorem eZ12_changes_89 {C : LC} {w : Wd} {h : Nat → Int32} {p1 : Nat} : fZ12_changes_89 C  (w, h) p1 = if ¬ (w 5) = -1 ∧ (w 5).toNatClampNeg < C.1.1 then if p1 = (w 5).toNatClampNeg then fZ12_changes_111 C (w, h) p1 else fZ12_changes_97 C (w, h) p1 else none := rfl
theorem eZ12_changes_80 {C : LC} {w : Wd} {h : Nat → Int32} {p1 : Nat} : fZ12_changes_80 C  (w, h) p1 = if 12 ≤ (w (65 + 12 * p1 + 9)) then fZ12_changes_119 C (w, h) else fZ12_changes_89 C (w, h) p1 := rfl
theorem eZ12_changes_79 {C : LC} {w : Wd} {h : Nat → Int32} : fZ12_changes_79 C  (w, h) = some (w, h) := rfl
theorem eZ12_changes_55 {C : LC} {w : Wd} {h : Nat → Int32} : fZ12_changes_55 C  (w, h) = if gIn (w 6) (lNum C 2) then if (w 5) = -1 then fZ12_changes_79 C (w, h) else fZ12_changes_80 C (w, h) (C.2.1 (w 6).toNatClampNeg) else none := rfl
theorem eZ12_changes_32 {C : LC} {w : Wd} {h : Nat → Int32} : fZ12_changes_32 C  (w, h) = if gIn (w 6) (lNum C 4) then fZ12_changes_55 C (upd w 7 (nI (C.2.2 (w 6).toNatClampNeg)), h) else none := rfl
theorem eZ12_changes_29 {C : LC} {w : Wd} {h : Nat → Int32} {s0 : Int32} : fZ12_changes_29 C  (w, h) s0 = fZ12_changes_32 C (upd w 6 s0, h) := rfl
theorem eZ12_changes_23 {C : LC} {w : Wd} {h : Nat → Int32} : fZ12_changes_23 C  (w, h) = fZ12_changes_29 C (w, h) ((w 6) + 1) := rfl
theorem eZ12_changes_19 {C : LC} {w : Wd} {h : Nat → Int32} : fZ12_changes_19 C  (w, h) = fZ12_changes_29 C (w, h) 0 := rfl
theorem eZ12_changes_0 {C : LC} {w : Wd} {h : Nat → Int32} : fZ12_changes_0 C  (w, h) = if ((w 6) + 1) = (nI (lNum C 2)) then fZ12_changes_19 C (w, h) else fZ12_changes_23 C (w, h) := rfl
theorem eZ12_hour_384 {C : LC} {w : Wd} {h : Nat → Int32} : fZ12_hour_384 C  (w, h) = some (w, h) := rfl
theorem eZ12_hour_364 {C : LC} {w : Wd} {h : Nat → Int32} : fZ12_hour_364 C  (w, h) = if gIn (w 6) (lNum C 2) then (fZ12_swearsIn C (w, h) (C.2.1 (w 6).toNatClampNeg)).bind fun q => fZ12_hour_384 C q else none := rfl
theorem eZ12_hour_340 {C : LC} {w : Wd} {h : Nat → Int32} : fZ12_hour_340 C  (w, h) = if gIn (w 6) (lNum C 2) then if 12 ≤ (w (65 + 12 * (C.2.1 (w 6).toNatClampNeg) + 9)) then fZ12_hour_384 C (w, h) else fZ12_hour_364 C (w, h) else none := rfl
theorem eZ12_hour_333 {C : LC} {w : Wd} {h : Nat → Int32} : fZ12_hour_333 C  (w, h) = if (w 5) = -1 then fZ12_hour_340 C (w, h) else fZ12_hour_384 C (w, h) := rfl
theorem eZ12_hour_330 {C : LC} {K283 : XL → Nat → Option (XL)} {w : Wd} {h : Nat → Int32} {ic : Nat} : fZ12_hour_330 C K283  (w, h) ic = K283 (w, h) ic := rfl
theorem eZ12_hour_327 {C : LC} {K283 : XL → Nat → Option (XL)} {w : Wd} {h : Nat → Int32} {ic : Nat} {ps1 : Nat} {s0 : Int32} : fZ12_hour_327 C K283  (w, h) ic ps1 s0 = fZ12_hour_330 C K283 (upd w (65 + 12 * ps1 + 9) s0, h) ic := rfl
theorem eZ12_hour_318 {C : LC} {K283 : XL → Nat → Option (XL)} {w : Wd} {h : Nat → Int32} {ic : Nat} {p2 : Nat} {ps0 : Nat} : fZ12_hour_318 C K283  (w, h) ic p2 ps0 = fZ12_hour_327 C K283 (w, h) ic ps0 ((w (65 + 12 * p2 + 9)) - (w 4)) := rfl
theorem eZ12_hour_314 {C : LC} {K283 : XL → Nat → Option (XL)} {w : Wd} {h : Nat → Int32} {ic : Nat} {ps0 : Nat} : fZ12_hour_314 C K283  (w, h) ic ps0 = fZ12_hour_327 C K283 (w, h) ic ps0 0 := rfl
theorem eZ12_hour_298 {C : LC} {K283 : XL → Nat → Option (XL)} {w : Wd} {h : Nat → Int32} {ic : Nat} {ps0 : Nat} : fZ12_hour_298 C K283  (w, h) ic ps0 = if (w 4) ≤ (w (65 + 12 * ps0 + 9)) then fZ12_hour_318 C K283 (w, h) ic ps0 ps0 else fZ12_hour_314 C K283 (w, h) ic ps0 := rfl
theorem eZ12_hour_292 {C : LC} {K283 : XL → Nat → Option (XL)} {w : Wd} {h : Nat → Int32} {ic : Nat} : fZ12_hour_292 C K283  (w, h) ic = if ic < lNum C 1 then fZ12_hour_298 C K283 (w, h) (ic + 1) ic else none := rfl
theorem eZ12_hour_283 {C : LC} {k : Nat} {w : Wd} {h : Nat → Int32} {ic : Nat} : fZ12_hour_283 C  (k + 1) (w, h) ic = if ic = lNum C 1 then fZ12_hour_333 C (w, h) else fZ12_hour_292 C (fZ12_hour_283 C k) (w, h) ic := rfl
theorem eZ12_hour_282 {C : LC} {w : Wd} {h : Nat → Int32} {ic : Nat} : fZ12_hour_282 C  (w, h) ic = fZ12_hour_283 C FU (w, h) ic := rfl
theorem eZ12_hour_273 {C : LC} {w : Wd} {h : Nat → Int32} : fZ12_hour_273 C  (w, h) = fZ12_hour_282 C (w, h) 0 := rfl
theorem eZ12_hour_272 {C : LC} {w : Wd} {h : Nat → Int32} : fZ12_hour_272 C  (w, h) = some (w, h) := rfl
theorem eZ12_hour_260 {C : LC} {w : Wd} {h : Nat → Int32} : fZ12_hour_260 C  (w, h) = if ((w 3) - (w 3) / 24 * 24) = 6 then fZ12_hour_273 C (w, h) else fZ12_hour_272 C (w, h) := rfl
theorem eZ12_hour_256 {C : LC} {w : Wd} {h : Nat → Int32} : fZ12_hour_256 C  (w, h) = (fZ12_changes C (w, h) ).bind fun q => fZ12_hour_260 C q := rfl
theorem eZ12_hour_249 {C : LC} {w : Wd} {h : Nat → Int32} : fZ12_hour_249 C  (w, h) = if (w 7) = 0 then fZ12_hour_256 C (w, h) else fZ12_hour_260 C (w, h) := rfl
theorem eZ12_hour_239 {C : LC} {w : Wd} {h : Nat → Int32} : fZ12_hour_239 C  (w, h) = fZ12_hour_249 C (upd w 7 ((w 7) - 1), h) := rfl
theorem eZ12_hour_236 {C : LC} {K193 : XL → Nat → Option (XL)} {w : Wd} {h : Nat → Int32} {ic : Nat} : fZ12_hour_236 C K193  (w, h) ic = K193 (w, h) ic := rfl
theorem eZ12_hour_226 {C : LC} {K193 : XL → Nat → Option (XL)} {w : Wd} {h : Nat → Int32} {ic : Nat} {p2 : Nat} : fZ12_hour_226 C K193  (w, h) ic p2 = fZ12_hour_236 C K193 (upd w (65 + 12 * p2 + 9) ((w (65 + 12 * p2 + 9)) - 1), h) ic := rfl
theorem eZ12_hour_219 {C : LC} {K193 : XL → Nat → Option (XL)} {w : Wd} {h : Nat → Int32} {ic : Nat} {p2 : Nat} : fZ12_hour_219 C K193  (w, h) ic p2 = if (w (65 + 12 * p2 + 9)) ≤ 0 then fZ12_hour_236 C K193 (w, h) ic else fZ12_hour_226 C K193 (w, h) ic p2 := rfl
theorem eZ12_hour_208 {C : LC} {K193 : XL → Nat → Option (XL)} {w : Wd} {h : Nat → Int32} {ic : Nat} {ps0 : Nat} : fZ12_hour_208 C K193  (w, h) ic ps0 = if (h ps0) = 0 then fZ12_hour_219 C K193 (w, h) ic ps0 else fZ12_hour_236 C K193 (w, h) ic := rfl
theorem eZ12_hour_202 {C : LC} {K193 : XL → Nat → Option (XL)} {w : Wd} {h : Nat → Int32} {ic : Nat} : fZ12_hour_202 C K193  (w, h) ic = if ic < lNum C 1 then fZ12_hour_208 C K193 (w, h) (ic + 1) ic else none := rfl
theorem eZ12_hour_193 {C : LC} {k : Nat} {w : Wd} {h : Nat → Int32} {ic : Nat} : fZ12_hour_193 C  (k + 1) (w, h) ic = if ic = lNum C 1 then fZ12_hour_239 C (w, h) else fZ12_hour_202 C (fZ12_hour_193 C k) (w, h) ic := rfl
theorem eZ12_hour_192 {C : LC} {w : Wd} {h : Nat → Int32} {ic : Nat} : fZ12_hour_192 C  (w, h) ic = fZ12_hour_193 C FU (w, h) ic := rfl
theorem eZ12_hour_183 {C : LC} {w : Wd} {h : Nat → Int32} : fZ12_hour_183 C  (w, h) = fZ12_hour_192 C (w, h) 0 := rfl
theorem eZ12_hour_179 {C : LC} {w : Wd} {h : Nat → Int32} : fZ12_hour_179 C  (w, h) = (fZ12_hunts C (w, h) ).bind fun q => fZ12_hour_183 C q := rfl
theorem eZ12_hour_176 {C : LC} {K152 : XL → Nat → Option (XL)} {w : Wd} {h : Nat → Int32} {ic : Nat} : fZ12_hour_176 C K152  (w, h) ic = K152 (w, h) ic := rfl
theorem eZ12_hour_167 {C : LC} {K152 : XL → Nat → Option (XL)} {w : Wd} {h : Nat → Int32} {ic : Nat} {ps0 : Nat} : fZ12_hour_167 C K152  (w, h) ic ps0 = fZ12_hour_176 C K152 (w, upd h ps0 0) ic := rfl
theorem eZ12_hour_161 {C : LC} {K152 : XL → Nat → Option (XL)} {w : Wd} {h : Nat → Int32} {ic : Nat} : fZ12_hour_161 C K152  (w, h) ic = if ic < lNum C 1 then fZ12_hour_167 C K152 (w, h) (ic + 1) ic else none := rfl
theorem eZ12_hour_152 {C : LC} {k : Nat} {w : Wd} {h : Nat → Int32} {ic : Nat} : fZ12_hour_152 C  (k + 1) (w, h) ic = if ic = lNum C 1 then fZ12_hour_179 C (w, h) else fZ12_hour_161 C (fZ12_hour_152 C k) (w, h) ic := rfl
theorem eZ12_hour_151 {C : LC} {w : Wd} {h : Nat → Int32} {ic : Nat} : fZ12_hour_151 C  (w, h) ic = fZ12_hour_152 C FU (w, h) ic := rfl
theorem eZ12_hour_142 {C : LC} {w : Wd} {h : Nat → Int32} : fZ12_hour_142 C  (w, h) = fZ12_hour_151 C (w, h) 0 := rfl
theorem eZ12_hour_139 {C : LC} {K67 : XL → Nat → Option (XL)} {w : Wd} {h : Nat → Int32} {ic : Nat} : fZ12_hour_139 C K67  (w, h) ic = K67 (w, h) ic := rfl
theorem eZ12_hour_129 {C : LC} {K67 : XL → Nat → Option (XL)} {w : Wd} {h : Nat → Int32} {ic : Nat} {x3 : Int32} : fZ12_hour_129 C K67  (w, h) ic x3 = fZ12_hour_139 C K67 (upd w 10 ((w 10) + x3), h) ic := rfl
theorem eZ12_hour_118 {C : LC} {K67 : XL → Nat → Option (XL)} {w : Wd} {h : Nat → Int32} {ic : Nat} {p2 : Nat} {s0 : Int32} : fZ12_hour_118 C K67  (w, h) ic p2 s0 = fZ12_hour_129 C K67 (upd w (161 + 12 * p2 + 8) ((w (161 + 12 * p2 + 8)) + s0), h) ic s0 := rfl
theorem eZ12_hour_111 {C : LC} {K67 : XL → Nat → Option (XL)} {w : Wd} {h : Nat → Int32} {ic : Nat} {p2 : Nat} : fZ12_hour_111 C K67  (w, h) ic p2 = fZ12_hour_118 C K67 (w, h) ic p2 (99 - (w (161 + 12 * p2 + 8))) := rfl
theorem eZ12_hour_102 {C : LC} {K67 : XL → Nat → Option (XL)} {w : Wd} {h : Nat → Int32} {ic : Nat} {p2 : Nat} : fZ12_hour_102 C K67  (w, h) ic p2 = fZ12_hour_118 C K67 (w, h) ic p2 ((w (161 + 12 * p2 + 8)) / 2) := rfl
theorem eZ12_hour_82 {C : LC} {K67 : XL → Nat → Option (XL)} {w : Wd} {h : Nat → Int32} {ic : Nat} {ps0 : Nat} : fZ12_hour_82 C K67  (w, h) ic ps0 = if (99 - (w (161 + 12 * ps0 + 8))) ≤ ((w (161 + 12 * ps0 + 8)) / 2) then fZ12_hour_111 C K67 (w, h) ic ps0 else fZ12_hour_102 C K67 (w, h) ic ps0 := rfl
theorem eZ12_hour_76 {C : LC} {K67 : XL → Nat → Option (XL)} {w : Wd} {h : Nat → Int32} {ic : Nat} : fZ12_hour_76 C K67  (w, h) ic = if ic < lNum C 3 then fZ12_hour_82 C K67 (w, h) (ic + 1) ic else none := rfl
theorem eZ12_hour_67 {C : LC} {k : Nat} {w : Wd} {h : Nat → Int32} {ic : Nat} : fZ12_hour_67 C  (k + 1) (w, h) ic = if ic = lNum C 3 then fZ12_hour_142 C (w, h) else fZ12_hour_76 C (fZ12_hour_67 C k) (w, h) ic := rfl
theorem eZ12_hour_66 {C : LC} {w : Wd} {h : Nat → Int32} {ic : Nat} : fZ12_hour_66 C  (w, h) ic = fZ12_hour_67 C FU (w, h) ic := rfl
theorem eZ12_hour_57 {C : LC} {w : Wd} {h : Nat → Int32} : fZ12_hour_57 C  (w, h) = fZ12_hour_66 C (w, h) 0 := rfl
theorem eZ12_hour_47 {C : LC} {w : Wd} {h : Nat → Int32} : fZ12_hour_47 C  (w, h) = if ((w 3) - (w 3) / 24 * 24) = 0 then fZ12_hour_57 C (w, h) else fZ12_hour_142 C (w, h) := rfl
theorem eZ12_hour_44 {C : LC} {K20 : XL → Nat → Option (XL)} {w : Wd} {h : Nat → Int32} {ic : Nat} : fZ12_hour_44 C K20  (w, h) ic = K20 (w, h) ic := rfl
theorem eZ12_hour_35 {C : LC} {K20 : XL → Nat → Option (XL)} {w : Wd} {h : Nat → Int32} {ic : Nat} {ps0 : Nat} : fZ12_hour_35 C K20  (w, h) ic ps0 = (fZ12_eats C (w, h) ps0).bind fun q => fZ12_hour_44 C K20 q ic := rfl
theorem eZ12_hour_29 {C : LC} {K20 : XL → Nat → Option (XL)} {w : Wd} {h : Nat → Int32} {ic : Nat} : fZ12_hour_29 C K20  (w, h) ic = if ic < lNum C 3 then fZ12_hour_35 C K20 (w, h) (ic + 1) ic else none := rfl
theorem eZ12_hour_20 {C : LC} {k : Nat} {w : Wd} {h : Nat → Int32} {ic : Nat} : fZ12_hour_20 C  (k + 1) (w, h) ic = if ic = lNum C 3 then fZ12_hour_47 C (w, h) else fZ12_hour_29 C (fZ12_hour_20 C k) (w, h) ic := rfl
theorem eZ12_hour_19 {C : LC} {w : Wd} {h : Nat → Int32} {ic : Nat} : fZ12_hour_19 C  (w, h) ic = fZ12_hour_20 C FU (w, h) ic := rfl
theorem eZ12_hour_10 {C : LC} {w : Wd} {h : Nat → Int32} : fZ12_hour_10 C  (w, h) = fZ12_hour_19 C (w, h) 0 := rfl
theorem eZ12_hour_0 {C : LC} {w : Wd} {h : Nat → Int32} : fZ12_hour_0 C  (w, h) = fZ12_hour_10 C (upd w 3 ((w 3) + 1), h) := rfl
