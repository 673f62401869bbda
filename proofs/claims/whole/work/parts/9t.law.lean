theorem tw0 : (Jvm.Cond.initialized "GranaryWatchLaw") ∈ TBG := tb_t 0 (by decide +kernel) (by decide +kernel)
theorem tw992 : (Jvm.Cond.methodLink "GranaryWatchLaw" (119 : Nat) ({ cls := "GranaryWatch", name := "appendInput", desc := "(IIIII)I" } : Jvm.MethodName)) ∈ TBG := tb_t 992 (by decide +kernel) (by decide +kernel)
theorem tw993 : (Jvm.Cond.instanceMethod ({ cls := "GranaryWatch", name := "appendInput", desc := "(IIIII)I" } : Jvm.MethodName)) ∈ TBG := tb_t 993 (by decide +kernel) (by decide +kernel)
theorem tw994 : (Jvm.Cond.selects "GranaryWatch" ({ cls := "GranaryWatch", name := "appendInput", desc := "(IIIII)I" } : Jvm.MethodName) ({ cls := "GranaryWatch", name := "appendInput", desc := "(IIIII)I" } : Jvm.MethodName)) ∈ TBG := tb_t 994 (by decide +kernel) (by decide +kernel)
theorem tw995 : (Jvm.Cond.code ({ cls := "GranaryWatch", name := "appendInput", desc := "(IIIII)I" } : Jvm.MethodName) prog_1_method_2_code (6 : Nat) (Option.some Jvm.ClassFile.FieldType.int)) ∈ TBG := tb_t 995 (by decide +kernel) (by decide +kernel)
theorem tw1000 : (Jvm.Cond.methodLink "GranaryWatchLaw" (124 : Nat) ({ cls := "GranaryWatch", name := "truncateInput", desc := "(I)Z" } : Jvm.MethodName)) ∈ TBG := tb_t 1000 (by decide +kernel) (by decide +kernel)
theorem tw1001 : (Jvm.Cond.instanceMethod ({ cls := "GranaryWatch", name := "truncateInput", desc := "(I)Z" } : Jvm.MethodName)) ∈ TBG := tb_t 1001 (by decide +kernel) (by decide +kernel)
theorem tw1002 : (Jvm.Cond.selects "GranaryWatch" ({ cls := "GranaryWatch", name := "truncateInput", desc := "(I)Z" } : Jvm.MethodName) ({ cls := "GranaryWatch", name := "truncateInput", desc := "(I)Z" } : Jvm.MethodName)) ∈ TBG := tb_t 1002 (by decide +kernel) (by decide +kernel)
theorem tw1003 : (Jvm.Cond.code ({ cls := "GranaryWatch", name := "truncateInput", desc := "(I)Z" } : Jvm.MethodName) prog_1_method_3_code (2 : Nat) (Option.some Jvm.ClassFile.FieldType.boolean)) ∈ TBG := tb_t 1003 (by decide +kernel) (by decide +kernel)
theorem tw1004 : (Jvm.Cond.methodLink "GranaryWatchLaw" (128 : Nat) ({ cls := "GranaryWatch", name := "loadGranary", desc := "()I" } : Jvm.MethodName)) ∈ TBG := tb_t 1004 (by decide +kernel) (by decide +kernel)
theorem tw1005 : (Jvm.Cond.instanceMethod ({ cls := "GranaryWatch", name := "loadGranary", desc := "()I" } : Jvm.MethodName)) ∈ TBG := tb_t 1005 (by decide +kernel) (by decide +kernel)
theorem tw1006 : (Jvm.Cond.selects "GranaryWatch" ({ cls := "GranaryWatch", name := "loadGranary", desc := "()I" } : Jvm.MethodName) ({ cls := "GranaryWatch", name := "loadGranary", desc := "()I" } : Jvm.MethodName)) ∈ TBG := tb_t 1006 (by decide +kernel) (by decide +kernel)
theorem tw1007 : (Jvm.Cond.code ({ cls := "GranaryWatch", name := "loadGranary", desc := "()I" } : Jvm.MethodName) prog_1_method_4_code (2 : Nat) (Option.some Jvm.ClassFile.FieldType.int)) ∈ TBG := tb_t 1007 (by decide +kernel) (by decide +kernel)
theorem tw1140 : (Jvm.Cond.methodLink "GranaryWatchLaw" (136 : Nat) ({ cls := "GranaryWatch", name := "errorCode", desc := "()I" } : Jvm.MethodName)) ∈ TBG := tb_t 1140 (by decide +kernel) (by decide +kernel)
theorem tw1141 : (Jvm.Cond.instanceMethod ({ cls := "GranaryWatch", name := "errorCode", desc := "()I" } : Jvm.MethodName)) ∈ TBG := tb_t 1141 (by decide +kernel) (by decide +kernel)
theorem tw1142 : (Jvm.Cond.selects "GranaryWatch" ({ cls := "GranaryWatch", name := "errorCode", desc := "()I" } : Jvm.MethodName) ({ cls := "GranaryWatch", name := "errorCode", desc := "()I" } : Jvm.MethodName)) ∈ TBG := tb_t 1142 (by decide +kernel) (by decide +kernel)
theorem tw1143 : (Jvm.Cond.code ({ cls := "GranaryWatch", name := "errorCode", desc := "()I" } : Jvm.MethodName) prog_1_method_6_code (1 : Nat) (Option.some Jvm.ClassFile.FieldType.int)) ∈ TBG := tb_t 1143 (by decide +kernel) (by decide +kernel)
theorem tw1265 : (Jvm.Cond.methodLink "GranaryWatchLaw" (303 : Nat) ({ cls := "GranaryWatch", name := "averageTiredness", desc := "()D" } : Jvm.MethodName)) ∈ TBG := tb_t 1265 (by decide +kernel) (by decide +kernel)
theorem tw1266 : (Jvm.Cond.instanceMethod ({ cls := "GranaryWatch", name := "averageTiredness", desc := "()D" } : Jvm.MethodName)) ∈ TBG := tb_t 1266 (by decide +kernel) (by decide +kernel)
theorem tw1267 : (Jvm.Cond.selects "GranaryWatch" ({ cls := "GranaryWatch", name := "averageTiredness", desc := "()D" } : Jvm.MethodName) ({ cls := "GranaryWatch", name := "averageTiredness", desc := "()D" } : Jvm.MethodName)) ∈ TBG := tb_t 1267 (by decide +kernel) (by decide +kernel)
theorem tw1268 : (Jvm.Cond.code ({ cls := "GranaryWatch", name := "averageTiredness", desc := "()D" } : Jvm.MethodName) prog_1_method_51_code (3 : Nat) (Option.some Jvm.ClassFile.FieldType.double)) ∈ TBG := tb_t 1268 (by decide +kernel) (by decide +kernel)
theorem tw1296 : (Jvm.Cond.methodLink "GranaryWatchLaw" (164 : Nat) ({ cls := "GranaryWatchLaw", name := "catNameByte", desc := "(LGranaryWatch;II[J)I" } : Jvm.MethodName)) ∈ TBG := tb_t 1296 (by decide +kernel) (by decide +kernel)
theorem tw1297 : (Jvm.Cond.static ({ cls := "GranaryWatchLaw", name := "catNameByte", desc := "(LGranaryWatch;II[J)I" } : Jvm.MethodName)) ∈ TBG := tb_t 1297 (by decide +kernel) (by decide +kernel)
theorem tw1298 : (Jvm.Cond.codeWith ({ cls := "GranaryWatchLaw", name := "catNameByte", desc := "(LGranaryWatch;II[J)I" } : Jvm.MethodName) method_3_code (5 : Nat) (Option.some Jvm.ClassFile.FieldType.int) [((0 : Nat), (10 : Nat), (13 : Nat), (13 : Nat))]) ∈ TBG := tb_t 1298 (by decide +kernel) (by decide +kernel)
theorem tw1338 : (Jvm.Cond.methodLink "GranaryWatchLaw" (176 : Nat) ({ cls := "GranaryWatchLaw", name := "speedOf", desc := "(LGranaryWatch;I[J)I" } : Jvm.MethodName)) ∈ TBG := tb_t 1338 (by decide +kernel) (by decide +kernel)
theorem tw1339 : (Jvm.Cond.static ({ cls := "GranaryWatchLaw", name := "speedOf", desc := "(LGranaryWatch;I[J)I" } : Jvm.MethodName)) ∈ TBG := tb_t 1339 (by decide +kernel) (by decide +kernel)
theorem tw1340 : (Jvm.Cond.codeWith ({ cls := "GranaryWatchLaw", name := "speedOf", desc := "(LGranaryWatch;I[J)I" } : Jvm.MethodName) method_5_code (4 : Nat) (Option.some Jvm.ClassFile.FieldType.int) [((0 : Nat), (9 : Nat), (12 : Nat), (13 : Nat))]) ∈ TBG := tb_t 1340 (by decide +kernel) (by decide +kernel)
theorem tw1402 : (Jvm.Cond.methodLink "GranaryWatchLaw" (204 : Nat) ({ cls := "GranaryWatchLaw", name := "eatenFrom", desc := "(LGranaryWatch;I[J)I" } : Jvm.MethodName)) ∈ TBG := tb_t 1402 (by decide +kernel) (by decide +kernel)
theorem tw1403 : (Jvm.Cond.static ({ cls := "GranaryWatchLaw", name := "eatenFrom", desc := "(LGranaryWatch;I[J)I" } : Jvm.MethodName)) ∈ TBG := tb_t 1403 (by decide +kernel) (by decide +kernel)
theorem tw1404 : (Jvm.Cond.codeWith ({ cls := "GranaryWatchLaw", name := "eatenFrom", desc := "(LGranaryWatch;I[J)I" } : Jvm.MethodName) method_14_code (4 : Nat) (Option.some Jvm.ClassFile.FieldType.int) [((0 : Nat), (9 : Nat), (12 : Nat), (13 : Nat))]) ∈ TBG := tb_t 1404 (by decide +kernel) (by decide +kernel)
theorem tw1495 : (Jvm.Cond.methodLink "GranaryWatchLaw" (308 : Nat) ({ cls := "GranaryWatchLaw", name := "shareOf", desc := "(LGranaryWatch;I[D)I" } : Jvm.MethodName)) ∈ TBG := tb_t 1495 (by decide +kernel) (by decide +kernel)
theorem tw1496 : (Jvm.Cond.static ({ cls := "GranaryWatchLaw", name := "shareOf", desc := "(LGranaryWatch;I[D)I" } : Jvm.MethodName)) ∈ TBG := tb_t 1496 (by decide +kernel) (by decide +kernel)
theorem tw1497 : (Jvm.Cond.codeWith ({ cls := "GranaryWatchLaw", name := "shareOf", desc := "(LGranaryWatch;I[D)I" } : Jvm.MethodName) method_24_code (4 : Nat) (Option.some Jvm.ClassFile.FieldType.int) [((0 : Nat), (9 : Nat), (12 : Nat), (13 : Nat))]) ∈ TBG := tb_t 1497 (by decide +kernel) (by decide +kernel)
theorem tw1502 : (Jvm.Cond.methodLink "GranaryWatchLaw" (312 : Nat) ({ cls := "GranaryWatchLaw", name := "letPass", desc := "(LGranaryWatch;I[J)I" } : Jvm.MethodName)) ∈ TBG := tb_t 1502 (by decide +kernel) (by decide +kernel)
theorem tw1503 : (Jvm.Cond.static ({ cls := "GranaryWatchLaw", name := "letPass", desc := "(LGranaryWatch;I[J)I" } : Jvm.MethodName)) ∈ TBG := tb_t 1503 (by decide +kernel) (by decide +kernel)
theorem tw1504 : (Jvm.Cond.codeWith ({ cls := "GranaryWatchLaw", name := "letPass", desc := "(LGranaryWatch;I[J)I" } : Jvm.MethodName) method_25_code (4 : Nat) (Option.some Jvm.ClassFile.FieldType.int) [((0 : Nat), (9 : Nat), (12 : Nat), (62 : Nat)), ((0 : Nat), (9 : Nat), (15 : Nat), (86 : Nat))]) ∈ TBG := tb_t 1504 (by decide +kernel) (by decide +kernel)
theorem tw1539 : (Jvm.Cond.methodLink "GranaryWatchLaw" (318 : Nat) ({ cls := "GranaryWatchLaw", name := "shutFlap", desc := "(LGranaryWatch;I[J)I" } : Jvm.MethodName)) ∈ TBG := tb_t 1539 (by decide +kernel) (by decide +kernel)
theorem tw1540 : (Jvm.Cond.static ({ cls := "GranaryWatchLaw", name := "shutFlap", desc := "(LGranaryWatch;I[J)I" } : Jvm.MethodName)) ∈ TBG := tb_t 1540 (by decide +kernel) (by decide +kernel)
theorem tw1541 : (Jvm.Cond.codeWith ({ cls := "GranaryWatchLaw", name := "shutFlap", desc := "(LGranaryWatch;I[J)I" } : Jvm.MethodName) method_27_code (4 : Nat) (Option.some Jvm.ClassFile.FieldType.int) [((0 : Nat), (9 : Nat), (12 : Nat), (13 : Nat)), ((0 : Nat), (9 : Nat), (15 : Nat), (86 : Nat))]) ∈ TBG := tb_t 1541 (by decide +kernel) (by decide +kernel)
theorem tw1567 : (Jvm.Cond.methodLink "GranaryWatchLaw" (331 : Nat) ({ cls := "GranaryWatchLaw", name := "setMilk", desc := "(LGranaryWatch;I[J)I" } : Jvm.MethodName)) ∈ TBG := tb_t 1567 (by decide +kernel) (by decide +kernel)
theorem tw1568 : (Jvm.Cond.static ({ cls := "GranaryWatchLaw", name := "setMilk", desc := "(LGranaryWatch;I[J)I" } : Jvm.MethodName)) ∈ TBG := tb_t 1568 (by decide +kernel) (by decide +kernel)
theorem tw1569 : (Jvm.Cond.codeWith ({ cls := "GranaryWatchLaw", name := "setMilk", desc := "(LGranaryWatch;I[J)I" } : Jvm.MethodName) method_31_code (4 : Nat) (Option.some Jvm.ClassFile.FieldType.int) [((0 : Nat), (9 : Nat), (12 : Nat), (62 : Nat))]) ∈ TBG := tb_t 1569 (by decide +kernel) (by decide +kernel)
theorem tw1599 : (Jvm.Cond.methodLink "GranaryWatchLaw" (349 : Nat) ({ cls := "GranaryWatchLaw", name := "restoreState", desc := "(LGranaryWatch;[J)I" } : Jvm.MethodName)) ∈ TBG := tb_t 1599 (by decide +kernel) (by decide +kernel)
theorem tw1600 : (Jvm.Cond.static ({ cls := "GranaryWatchLaw", name := "restoreState", desc := "(LGranaryWatch;[J)I" } : Jvm.MethodName)) ∈ TBG := tb_t 1600 (by decide +kernel) (by decide +kernel)
theorem tw1601 : (Jvm.Cond.codeWith ({ cls := "GranaryWatchLaw", name := "restoreState", desc := "(LGranaryWatch;[J)I" } : Jvm.MethodName) method_33_code (3 : Nat) (Option.some Jvm.ClassFile.FieldType.int) [((0 : Nat), (8 : Nat), (11 : Nat), (110 : Nat))]) ∈ TBG := tb_t 1601 (by decide +kernel) (by decide +kernel)
theorem tw1741 : (Jvm.Cond.methodLink "GranaryWatchLaw" (170 : Nat) ({ cls := "GranaryWatchModel", name := "thrown", desc := "()I" } : Jvm.MethodName)) ∈ TBG := tb_t 1741 (by decide +kernel) (by decide +kernel)
theorem tw1742 : (Jvm.Cond.instanceMethod ({ cls := "GranaryWatchModel", name := "thrown", desc := "()I" } : Jvm.MethodName)) ∈ TBG := tb_t 1742 (by decide +kernel) (by decide +kernel)
theorem tw1743 : (Jvm.Cond.selects "GranaryWatchModel" ({ cls := "GranaryWatchModel", name := "thrown", desc := "()I" } : Jvm.MethodName) ({ cls := "GranaryWatchModel", name := "thrown", desc := "()I" } : Jvm.MethodName)) ∈ TBG := tb_t 1743 (by decide +kernel) (by decide +kernel)
theorem tw1744 : (Jvm.Cond.code ({ cls := "GranaryWatchModel", name := "thrown", desc := "()I" } : Jvm.MethodName) prog_13_method_2_code (1 : Nat) (Option.some Jvm.ClassFile.FieldType.int)) ∈ TBG := tb_t 1744 (by decide +kernel) (by decide +kernel)
theorem tw1745 : (Jvm.Cond.methodLink "GranaryWatchLaw" (123 : Nat) ({ cls := "GranaryWatchModel", name := "appendInput", desc := "(IIIII)I" } : Jvm.MethodName)) ∈ TBG := tb_t 1745 (by decide +kernel) (by decide +kernel)
theorem tw1746 : (Jvm.Cond.instanceMethod ({ cls := "GranaryWatchModel", name := "appendInput", desc := "(IIIII)I" } : Jvm.MethodName)) ∈ TBG := tb_t 1746 (by decide +kernel) (by decide +kernel)
theorem tw1747 : (Jvm.Cond.selects "GranaryWatchModel" ({ cls := "GranaryWatchModel", name := "appendInput", desc := "(IIIII)I" } : Jvm.MethodName) ({ cls := "GranaryWatchModel", name := "appendInput", desc := "(IIIII)I" } : Jvm.MethodName)) ∈ TBG := tb_t 1747 (by decide +kernel) (by decide +kernel)
theorem tw1748 : (Jvm.Cond.code ({ cls := "GranaryWatchModel", name := "appendInput", desc := "(IIIII)I" } : Jvm.MethodName) prog_13_method_50_code (6 : Nat) (Option.some Jvm.ClassFile.FieldType.int)) ∈ TBG := tb_t 1748 (by decide +kernel) (by decide +kernel)
theorem tw1753 : (Jvm.Cond.methodLink "GranaryWatchLaw" (127 : Nat) ({ cls := "GranaryWatchModel", name := "truncateInput", desc := "(I)Z" } : Jvm.MethodName)) ∈ TBG := tb_t 1753 (by decide +kernel) (by decide +kernel)
theorem tw1754 : (Jvm.Cond.instanceMethod ({ cls := "GranaryWatchModel", name := "truncateInput", desc := "(I)Z" } : Jvm.MethodName)) ∈ TBG := tb_t 1754 (by decide +kernel) (by decide +kernel)
theorem tw1755 : (Jvm.Cond.selects "GranaryWatchModel" ({ cls := "GranaryWatchModel", name := "truncateInput", desc := "(I)Z" } : Jvm.MethodName) ({ cls := "GranaryWatchModel", name := "truncateInput", desc := "(I)Z" } : Jvm.MethodName)) ∈ TBG := tb_t 1755 (by decide +kernel) (by decide +kernel)
theorem tw1756 : (Jvm.Cond.code ({ cls := "GranaryWatchModel", name := "truncateInput", desc := "(I)Z" } : Jvm.MethodName) prog_13_method_51_code (2 : Nat) (Option.some Jvm.ClassFile.FieldType.boolean)) ∈ TBG := tb_t 1756 (by decide +kernel) (by decide +kernel)
theorem tw1760 : (Jvm.Cond.methodLink "GranaryWatchLaw" (131 : Nat) ({ cls := "GranaryWatchModel", name := "loadGranary", desc := "()I" } : Jvm.MethodName)) ∈ TBG := tb_t 1760 (by decide +kernel) (by decide +kernel)
theorem tw1761 : (Jvm.Cond.instanceMethod ({ cls := "GranaryWatchModel", name := "loadGranary", desc := "()I" } : Jvm.MethodName)) ∈ TBG := tb_t 1761 (by decide +kernel) (by decide +kernel)
theorem tw1762 : (Jvm.Cond.selects "GranaryWatchModel" ({ cls := "GranaryWatchModel", name := "loadGranary", desc := "()I" } : Jvm.MethodName) ({ cls := "GranaryWatchModel", name := "loadGranary", desc := "()I" } : Jvm.MethodName)) ∈ TBG := tb_t 1762 (by decide +kernel) (by decide +kernel)
theorem tw1763 : (Jvm.Cond.code ({ cls := "GranaryWatchModel", name := "loadGranary", desc := "()I" } : Jvm.MethodName) prog_13_method_75_code (2 : Nat) (Option.some Jvm.ClassFile.FieldType.int)) ∈ TBG := tb_t 1763 (by decide +kernel) (by decide +kernel)
theorem tw2007 : (Jvm.Cond.methodLink "GranaryWatchLaw" (139 : Nat) ({ cls := "GranaryWatchModel", name := "errorCode", desc := "()I" } : Jvm.MethodName)) ∈ TBG := tb_t 2007 (by decide +kernel) (by decide +kernel)
theorem tw2008 : (Jvm.Cond.instanceMethod ({ cls := "GranaryWatchModel", name := "errorCode", desc := "()I" } : Jvm.MethodName)) ∈ TBG := tb_t 2008 (by decide +kernel) (by decide +kernel)
theorem tw2009 : (Jvm.Cond.selects "GranaryWatchModel" ({ cls := "GranaryWatchModel", name := "errorCode", desc := "()I" } : Jvm.MethodName) ({ cls := "GranaryWatchModel", name := "errorCode", desc := "()I" } : Jvm.MethodName)) ∈ TBG := tb_t 2009 (by decide +kernel) (by decide +kernel)
theorem tw2010 : (Jvm.Cond.code ({ cls := "GranaryWatchModel", name := "errorCode", desc := "()I" } : Jvm.MethodName) prog_13_method_81_code (1 : Nat) (Option.some Jvm.ClassFile.FieldType.int)) ∈ TBG := tb_t 2010 (by decide +kernel) (by decide +kernel)
theorem tw2075 : (Jvm.Cond.methodLink "GranaryWatchLaw" (179 : Nat) ({ cls := "GranaryWatchModel", name := "speedOf", desc := "(I)I" } : Jvm.MethodName)) ∈ TBG := tb_t 2075 (by decide +kernel) (by decide +kernel)
theorem tw2076 : (Jvm.Cond.instanceMethod ({ cls := "GranaryWatchModel", name := "speedOf", desc := "(I)I" } : Jvm.MethodName)) ∈ TBG := tb_t 2076 (by decide +kernel) (by decide +kernel)
theorem tw2077 : (Jvm.Cond.selects "GranaryWatchModel" ({ cls := "GranaryWatchModel", name := "speedOf", desc := "(I)I" } : Jvm.MethodName) ({ cls := "GranaryWatchModel", name := "speedOf", desc := "(I)I" } : Jvm.MethodName)) ∈ TBG := tb_t 2077 (by decide +kernel) (by decide +kernel)
theorem tw2078 : (Jvm.Cond.code ({ cls := "GranaryWatchModel", name := "speedOf", desc := "(I)I" } : Jvm.MethodName) prog_13_method_103_code (2 : Nat) (Option.some Jvm.ClassFile.FieldType.int)) ∈ TBG := tb_t 2078 (by decide +kernel) (by decide +kernel)
theorem tw2123 : (Jvm.Cond.methodLink "GranaryWatchLaw" (206 : Nat) ({ cls := "GranaryWatchModel", name := "eatenFrom", desc := "(I)I" } : Jvm.MethodName)) ∈ TBG := tb_t 2123 (by decide +kernel) (by decide +kernel)
theorem tw2124 : (Jvm.Cond.instanceMethod ({ cls := "GranaryWatchModel", name := "eatenFrom", desc := "(I)I" } : Jvm.MethodName)) ∈ TBG := tb_t 2124 (by decide +kernel) (by decide +kernel)
theorem tw2125 : (Jvm.Cond.selects "GranaryWatchModel" ({ cls := "GranaryWatchModel", name := "eatenFrom", desc := "(I)I" } : Jvm.MethodName) ({ cls := "GranaryWatchModel", name := "eatenFrom", desc := "(I)I" } : Jvm.MethodName)) ∈ TBG := tb_t 2125 (by decide +kernel) (by decide +kernel)
theorem tw2126 : (Jvm.Cond.code ({ cls := "GranaryWatchModel", name := "eatenFrom", desc := "(I)I" } : Jvm.MethodName) prog_13_method_111_code (2 : Nat) (Option.some Jvm.ClassFile.FieldType.int)) ∈ TBG := tb_t 2126 (by decide +kernel) (by decide +kernel)
theorem tw2131 : (Jvm.Cond.methodLink "GranaryWatchLaw" (169 : Nat) ({ cls := "GranaryWatchModel", name := "catNameByte", desc := "(II)I" } : Jvm.MethodName)) ∈ TBG := tb_t 2131 (by decide +kernel) (by decide +kernel)
theorem tw2132 : (Jvm.Cond.instanceMethod ({ cls := "GranaryWatchModel", name := "catNameByte", desc := "(II)I" } : Jvm.MethodName)) ∈ TBG := tb_t 2132 (by decide +kernel) (by decide +kernel)
theorem tw2133 : (Jvm.Cond.selects "GranaryWatchModel" ({ cls := "GranaryWatchModel", name := "catNameByte", desc := "(II)I" } : Jvm.MethodName) ({ cls := "GranaryWatchModel", name := "catNameByte", desc := "(II)I" } : Jvm.MethodName)) ∈ TBG := tb_t 2133 (by decide +kernel) (by decide +kernel)
theorem tw2134 : (Jvm.Cond.code ({ cls := "GranaryWatchModel", name := "catNameByte", desc := "(II)I" } : Jvm.MethodName) prog_13_method_113_code (3 : Nat) (Option.some Jvm.ClassFile.FieldType.int)) ∈ TBG := tb_t 2134 (by decide +kernel) (by decide +kernel)
theorem tw2243 : (Jvm.Cond.methodLink "GranaryWatchLaw" (307 : Nat) ({ cls := "GranaryWatchModel", name := "averageTiredness", desc := "()D" } : Jvm.MethodName)) ∈ TBG := tb_t 2243 (by decide +kernel) (by decide +kernel)
theorem tw2244 : (Jvm.Cond.instanceMethod ({ cls := "GranaryWatchModel", name := "averageTiredness", desc := "()D" } : Jvm.MethodName)) ∈ TBG := tb_t 2244 (by decide +kernel) (by decide +kernel)
theorem tw2245 : (Jvm.Cond.selects "GranaryWatchModel" ({ cls := "GranaryWatchModel", name := "averageTiredness", desc := "()D" } : Jvm.MethodName) ({ cls := "GranaryWatchModel", name := "averageTiredness", desc := "()D" } : Jvm.MethodName)) ∈ TBG := tb_t 2245 (by decide +kernel) (by decide +kernel)
theorem tw2246 : (Jvm.Cond.code ({ cls := "GranaryWatchModel", name := "averageTiredness", desc := "()D" } : Jvm.MethodName) prog_13_method_137_code (1 : Nat) (Option.some Jvm.ClassFile.FieldType.double)) ∈ TBG := tb_t 2246 (by decide +kernel) (by decide +kernel)
theorem tw2247 : (Jvm.Cond.methodLink "GranaryWatchLaw" (311 : Nat) ({ cls := "GranaryWatchModel", name := "shareOf", desc := "(I)F" } : Jvm.MethodName)) ∈ TBG := tb_t 2247 (by decide +kernel) (by decide +kernel)
theorem tw2248 : (Jvm.Cond.instanceMethod ({ cls := "GranaryWatchModel", name := "shareOf", desc := "(I)F" } : Jvm.MethodName)) ∈ TBG := tb_t 2248 (by decide +kernel) (by decide +kernel)
theorem tw2249 : (Jvm.Cond.selects "GranaryWatchModel" ({ cls := "GranaryWatchModel", name := "shareOf", desc := "(I)F" } : Jvm.MethodName) ({ cls := "GranaryWatchModel", name := "shareOf", desc := "(I)F" } : Jvm.MethodName)) ∈ TBG := tb_t 2249 (by decide +kernel) (by decide +kernel)
theorem tw2250 : (Jvm.Cond.code ({ cls := "GranaryWatchModel", name := "shareOf", desc := "(I)F" } : Jvm.MethodName) prog_13_method_138_code (2 : Nat) (Option.some Jvm.ClassFile.FieldType.float)) ∈ TBG := tb_t 2250 (by decide +kernel) (by decide +kernel)
theorem tw2251 : (Jvm.Cond.methodLink "GranaryWatchLaw" (314 : Nat) ({ cls := "GranaryWatchModel", name := "letPass", desc := "(I)I" } : Jvm.MethodName)) ∈ TBG := tb_t 2251 (by decide +kernel) (by decide +kernel)
theorem tw2252 : (Jvm.Cond.instanceMethod ({ cls := "GranaryWatchModel", name := "letPass", desc := "(I)I" } : Jvm.MethodName)) ∈ TBG := tb_t 2252 (by decide +kernel) (by decide +kernel)
theorem tw2253 : (Jvm.Cond.selects "GranaryWatchModel" ({ cls := "GranaryWatchModel", name := "letPass", desc := "(I)I" } : Jvm.MethodName) ({ cls := "GranaryWatchModel", name := "letPass", desc := "(I)I" } : Jvm.MethodName)) ∈ TBG := tb_t 2253 (by decide +kernel) (by decide +kernel)
theorem tw2254 : (Jvm.Cond.code ({ cls := "GranaryWatchModel", name := "letPass", desc := "(I)I" } : Jvm.MethodName) prog_13_method_139_code (2 : Nat) (Option.some Jvm.ClassFile.FieldType.int)) ∈ TBG := tb_t 2254 (by decide +kernel) (by decide +kernel)
theorem tw2259 : (Jvm.Cond.methodLink "GranaryWatchLaw" (320 : Nat) ({ cls := "GranaryWatchModel", name := "shutFlap", desc := "(I)I" } : Jvm.MethodName)) ∈ TBG := tb_t 2259 (by decide +kernel) (by decide +kernel)
theorem tw2260 : (Jvm.Cond.instanceMethod ({ cls := "GranaryWatchModel", name := "shutFlap", desc := "(I)I" } : Jvm.MethodName)) ∈ TBG := tb_t 2260 (by decide +kernel) (by decide +kernel)
theorem tw2261 : (Jvm.Cond.selects "GranaryWatchModel" ({ cls := "GranaryWatchModel", name := "shutFlap", desc := "(I)I" } : Jvm.MethodName) ({ cls := "GranaryWatchModel", name := "shutFlap", desc := "(I)I" } : Jvm.MethodName)) ∈ TBG := tb_t 2261 (by decide +kernel) (by decide +kernel)
theorem tw2262 : (Jvm.Cond.code ({ cls := "GranaryWatchModel", name := "shutFlap", desc := "(I)I" } : Jvm.MethodName) prog_13_method_141_code (2 : Nat) (Option.some Jvm.ClassFile.FieldType.int)) ∈ TBG := tb_t 2262 (by decide +kernel) (by decide +kernel)
theorem tw2275 : (Jvm.Cond.methodLink "GranaryWatchLaw" (333 : Nat) ({ cls := "GranaryWatchModel", name := "setMilk", desc := "(I)I" } : Jvm.MethodName)) ∈ TBG := tb_t 2275 (by decide +kernel) (by decide +kernel)
theorem tw2276 : (Jvm.Cond.instanceMethod ({ cls := "GranaryWatchModel", name := "setMilk", desc := "(I)I" } : Jvm.MethodName)) ∈ TBG := tb_t 2276 (by decide +kernel) (by decide +kernel)
theorem tw2277 : (Jvm.Cond.selects "GranaryWatchModel" ({ cls := "GranaryWatchModel", name := "setMilk", desc := "(I)I" } : Jvm.MethodName) ({ cls := "GranaryWatchModel", name := "setMilk", desc := "(I)I" } : Jvm.MethodName)) ∈ TBG := tb_t 2277 (by decide +kernel) (by decide +kernel)
theorem tw2278 : (Jvm.Cond.code ({ cls := "GranaryWatchModel", name := "setMilk", desc := "(I)I" } : Jvm.MethodName) prog_13_method_145_code (2 : Nat) (Option.some Jvm.ClassFile.FieldType.int)) ∈ TBG := tb_t 2278 (by decide +kernel) (by decide +kernel)
theorem tw2303 : (Jvm.Cond.methodLink "GranaryWatchLaw" (351 : Nat) ({ cls := "GranaryWatchModel", name := "restoreState", desc := "()I" } : Jvm.MethodName)) ∈ TBG := tb_t 2303 (by decide +kernel) (by decide +kernel)
theorem tw2304 : (Jvm.Cond.instanceMethod ({ cls := "GranaryWatchModel", name := "restoreState", desc := "()I" } : Jvm.MethodName)) ∈ TBG := tb_t 2304 (by decide +kernel) (by decide +kernel)
theorem tw2305 : (Jvm.Cond.selects "GranaryWatchModel" ({ cls := "GranaryWatchModel", name := "restoreState", desc := "()I" } : Jvm.MethodName) ({ cls := "GranaryWatchModel", name := "restoreState", desc := "()I" } : Jvm.MethodName)) ∈ TBG := tb_t 2305 (by decide +kernel) (by decide +kernel)
theorem tw2306 : (Jvm.Cond.code ({ cls := "GranaryWatchModel", name := "restoreState", desc := "()I" } : Jvm.MethodName) prog_13_method_152_code (1 : Nat) (Option.some Jvm.ClassFile.FieldType.int)) ∈ TBG := tb_t 2306 (by decide +kernel) (by decide +kernel)
/-! the law's cases -/
theorem gT_X {own : String} {idx : Nat} {y : MethodName} {c : ByteArray} {n : Nat} {r : Option FieldType} {hh : List (Nat × Nat × Nat × Nat)} (h1 : Cond.methodLink own idx y ∈ TBG) (h2 : Cond.static y ∈ TBG) (h3 : Cond.initialized y.cls ∈ TBG) (h6 : Cond.codeWith y c n r hh ∈ TBG) : GoodIn TBG (va_wsS own idx y (.codeWith y c n r hh :: TBG)) := fun w hw => by
  unfold va_wsS at hw
  rcases List.mem_append.mp hw with hw | hw
  · simp only [List.mem_cons, List.not_mem_nil, or_false] at hw
    rcases hw with rfl | rfl | rfl
    all_goals first | exact ⟨h1, tb_good h1⟩ | exact ⟨h2, tb_good h2⟩ | exact ⟨h3, tb_good h3⟩
  · rcases List.mem_cons.mp hw with rfl | hw
    · exact ⟨h6, tb_good h6⟩
    · exact ⟨hw, tb_good hw⟩
theorem lg_cmp_s {x : Int64} : lg_cmp x x = 0 := by
  unfold lg_cmp
  rw [if_neg Int64.lt_irrefl, if_pos rfl]
theorem nI_k {m j : Nat} : nI m + nI j = nI (m + j) := (Int32.ofNat_add m j).symm
theorem jA2 {b1 sz : Nat} {H : Heap} (hb : sz ≤ b1) (hz : sz ≤ H.size) : ∀ q, Fr (cΩ (caOf b1)) H.size q → sz ≤ q := fun q z => z.elim (fun z => Nat.le_trans hb (cΩ_in z).1) (fun z => Nat.le_trans hz z)
theorem jA3 {b2 sz : Nat} {H : Heap} (hb : sz ≤ b2) (hz : sz ≤ H.size) : ∀ q, Fr (mΩ (adOf b2)) H.size q → sz ≤ q := fun q z => z.elim (fun z => Nat.le_trans hb (mΩ_in z).1) (fun z => Nat.le_trans hz z)
theorem jA4 {b1 b2 o1 o2 sz : Nat} {H : Heap} (hap : APJ b1 b2 o1 o2) (hb : sz ≤ b1) (hz : sz ≤ H.size) : ∀ q, Fr (jΩ b1 b2 o1 o2) H.size q → sz ≤ q := fun q z => by
  obtain ⟨p1, p2, p3⟩ := hap
  rcases z with (z | z | z | z) | z
  · have := (cΩ_in z).1
    omega
  · have := (mΩ_in z).1
    omega
  · omega
  · omega
  · exact Nat.le_trans hz z
section LAW
variable {p : Program} {l : Launch} {e : Env} {s : State} {m : MethodId} {below : List Frame} {meth : Method} {c : Code} {H : Heap} {locs : List Loc} {cl sl : Nat} {Q : State → Prop}
variable {dC : Nat → ClassId} {dI : Nat → Nat → Nat} {cg : Nat → ClassId} {kA : String → Nat → Nat} {b b1 b2 o1 o2 L n : Nat} {xs : Nat → Int32} {cL cD : ClassId} {S : CS} {M : MS} {x : Int64} {d : UInt64} {ls : Array Slot}
/-- behind one case: the loop goes on with states that agree -/
def LK (p : Program) (l : Launch) (e : Env) (s : State) (m : MethodId) (below : List Frame) (meth : Method) (c : Code) (Q : State → Prop) (dC : Nat → ClassId) (dI : Nat → Nat → Nat) (cg : Nat → ClassId) (kA : String → Nat → Nat) (b b1 b2 o1 o2 n : Nat) (cL cD : ClassId) (cl sl : Nat) : Prop :=
  ∀ (S : CS) (M : MS) (x : Int64) (d : UInt64) (ls : Array Slot) (H : Heap) (locs : List Loc) (cl' sl' : Nat), Rel S M → jP dC dI cg kA b1 b2 o1 o2 cL cD (S, M, x, d) s H → va_S (fun q => s.heap.size ≤ q) s.heap H locs → lv_has ls 10 [(5, .int (nI (6 * n))), (0, .ref b), (1, .ref (caOf b1 0)), (2, .ref (adOf b2 25)), (3, .ref o1), (4, .ref o2)] → cl' ≤ cl + 403 → sl' ≤ sl + 3826 → W p l e room_1 s m #[.ref b] below meth c H locs cl' sl' Q (F0 m 2684 ls [])
theorem sin {j : Nat} (h : 6 * n + 6 ≤ L) (hL : L ≤ 3072) (hj : j < 6) : vp_in (nI (6 * n + j)) L := nI_in (by omega) (by omega)
theorem lc_0 (X : gX p s m #[.ref b] c cL_law 10 "GranaryWatchLaw" (kR kTab kA)) (hXs : va_X b L xs s s.heap) (hbl : b < s.heap.size) (hb1 : s.heap.size ≤ b1) (hap : APJ b1 b2 o1 o2) (hl0 : l.stackTraces = false) (hnn : NNAN) (hn2 : NN2) (hn : 6 * n + 6 ≤ L) (hL : L ≤ 3072) (r : Rel S M) (hP : jP dC dI cg kA b1 b2 o1 o2 cL cD (S, M, x, d) s H) (hS : va_S (fun q => s.heap.size ≤ q) s.heap H locs) (hl : lv_has ls 10 [(5, .int (nI (6 * n))), (0, .ref b), (1, .ref (caOf b1 0)), (2, .ref (adOf b2 25)), (3, .ref o1), (4, .ref o2)]) (hcl : cl + 403 ≤ 601024) (hsl : sl + 3826 ≤ 7293034) (K : LK p l e s m below meth c Q dC dI cg kA b b1 b2 o1 o2 n cL cD cl sl) : W p l e room_1 s m #[.ref b] below meth c H locs cl sl Q (F0 m 312 ls []) := by
  have hx := X.hx
  have hb := X.hb
  have hz := hS.1
  have hb2 : s.heap.size ≤ b2 := by
    have := hap.1
    omega
  refine lv_aload_n hx hb dL_law_312 rfl (lv_at hl 2 rfl) ?_
  refine lv_aload_n hx hb dL_law_313 rfl (lv_at hl 1 rfl) ?_
  refine lv_iload hx hb dL_law_314 (lv_at hl 0 rfl) ?_
  refine lv_iconst (v := 1) hx hb dL_law_316 (by decide) ?_
  refine lv_iadd hx hb dL_law_317 ?_
  rw [show nI (6 * n) + (1 : Int32) = nI (6 * n + 1) from nI_k]
  refine va_sld hx hb hXs hbl (Nat.not_le.mpr hbl) hS (sin hn hL (by decide)) dL_law_318 ?_
  refine lv_aload_n hx hb dL_law_319 rfl (lv_at hl 1 rfl) ?_
  refine lv_iload hx hb dL_law_320 (lv_at hl 0 rfl) ?_
  refine lv_iconst (v := 2) hx hb dL_law_322 (by decide) ?_
  refine lv_iadd hx hb dL_law_323 ?_
  rw [show nI (6 * n) + (2 : Int32) = nI (6 * n + 2) from nI_k]
  refine va_sld hx hb hXs hbl (Nat.not_le.mpr hbl) hS (sin hn hL (by decide)) dL_law_324 ?_
  refine lv_aload_n hx hb dL_law_325 rfl (lv_at hl 1 rfl) ?_
  refine lv_iload hx hb dL_law_326 (lv_at hl 0 rfl) ?_
  refine lv_iconst (v := 3) hx hb dL_law_328 (by decide) ?_
  refine lv_iadd hx hb dL_law_329 ?_
  rw [show nI (6 * n) + (3 : Int32) = nI (6 * n + 3) from nI_k]
  refine va_sld hx hb hXs hbl (Nat.not_le.mpr hbl) hS (sin hn hL (by decide)) dL_law_330 ?_
  refine lv_aload_n hx hb dL_law_331 rfl (lv_at hl 1 rfl) ?_
  refine lv_iload hx hb dL_law_332 (lv_at hl 0 rfl) ?_
  refine lv_iconst (v := 4) hx hb dL_law_334 (by decide) ?_
  refine lv_iadd hx hb dL_law_335 ?_
  rw [show nI (6 * n) + (4 : Int32) = nI (6 * n + 4) from nI_k]
  refine va_sld hx hb hXs hbl (Nat.not_le.mpr hbl) hS (sin hn hL (by decide)) dL_law_336 ?_
  refine lv_aload_n hx hb dL_law_337 rfl (lv_at hl 1 rfl) ?_
  refine lv_iload hx hb dL_law_338 (lv_at hl 0 rfl) ?_
  refine lv_iconst (v := 5) hx hb dL_law_340 (by decide) ?_
  refine lv_iadd hx hb dL_law_341 ?_
  rw [show nI (6 * n) + (5 : Int32) = nI (6 * n + 5) from nI_k]
  refine va_sld hx hb hXs hbl (Nat.not_le.mpr hbl) hS (sin hn hL (by decide)) dL_law_342 ?_
  obtain ⟨y, S1, M1, e1, e2, rr, e7⟩ := q_appendInput r (xs (nI (6 * n + 1)).toNatClampNeg) (xs (nI (6 * n + 2)).toNatClampNeg) (xs (nI (6 * n + 3)).toNatClampNeg) (xs (nI (6 * n + 4)).toNatClampNeg) (xs (nI (6 * n + 5)).toNatClampNeg)
  refine gCallWI X (gF_ok cOK (fsC hap)) ((gMetIA.of (vX10_appendInput e1)).lift (fsC hap)) (cwV 5 X.hts (gT_V tw992 tw993 tw994 tw1 tw995) rfl rfl rfl ⟨rfl, by decide, by decide, by decide +kernel⟩ ⟨Nat.le_of_ble_eq_true rfl, Nat.le_of_ble_eq_true rfl⟩) rfl hP hS (jA2 hb1 hS.1) (cr_rec hP.1 (rfl : kc 0 = 0) rfl cw0 rfl) hl.1 (Nat.le_of_ble_eq_true rfl) ⟨by show cl + 0 ≤ 601024; omega, by show sl + 0 ≤ 7293034; omega⟩ dL_law_343 (As := [.int (xs (nI (6 * n + 1)).toNatClampNeg), .int (xs (nI (6 * n + 2)).toNatClampNeg), .int (xs (nI (6 * n + 3)).toNatClampNeg), .int (xs (nI (6 * n + 4)).toNatClampNeg), .int (xs (nI (6 * n + 5)).toNatClampNeg)]) (rest := []) rfl (fun H locs hP hS => ?_)
  have hP : jP dC dI cg kA b1 b2 o1 o2 cL cD (S1, M, x, d) s H := hP
  refine lv_aload_n hx hb dL_law_346 rfl (lv_at hl 3 rfl) ?_
  refine lv_aload_n hx hb dL_law_347 rfl (lv_at hl 1 rfl) ?_
  refine lv_iload hx hb dL_law_348 (lv_at hl 0 rfl) ?_
  refine lv_iconst (v := 1) hx hb dL_law_350 (by decide) ?_
  refine lv_iadd hx hb dL_law_351 ?_
  rw [show nI (6 * n) + (1 : Int32) = nI (6 * n + 1) from nI_k]
  refine va_sld hx hb hXs hbl (Nat.not_le.mpr hbl) hS (sin hn hL (by decide)) dL_law_352 ?_
  refine lv_aload_n hx hb dL_law_353 rfl (lv_at hl 1 rfl) ?_
  refine lv_iload hx hb dL_law_354 (lv_at hl 0 rfl) ?_
  refine lv_iconst (v := 2) hx hb dL_law_356 (by decide) ?_
  refine lv_iadd hx hb dL_law_357 ?_
  rw [show nI (6 * n) + (2 : Int32) = nI (6 * n + 2) from nI_k]
  refine va_sld hx hb hXs hbl (Nat.not_le.mpr hbl) hS (sin hn hL (by decide)) dL_law_358 ?_
  refine lv_aload_n hx hb dL_law_359 rfl (lv_at hl 1 rfl) ?_
  refine lv_iload hx hb dL_law_360 (lv_at hl 0 rfl) ?_
  refine lv_iconst (v := 3) hx hb dL_law_362 (by decide) ?_
  refine lv_iadd hx hb dL_law_363 ?_
  rw [show nI (6 * n) + (3 : Int32) = nI (6 * n + 3) from nI_k]
  refine va_sld hx hb hXs hbl (Nat.not_le.mpr hbl) hS (sin hn hL (by decide)) dL_law_364 ?_
  refine lv_aload_n hx hb dL_law_365 rfl (lv_at hl 1 rfl) ?_
  refine lv_iload hx hb dL_law_366 (lv_at hl 0 rfl) ?_
  refine lv_iconst (v := 4) hx hb dL_law_368 (by decide) ?_
  refine lv_iadd hx hb dL_law_369 ?_
  rw [show nI (6 * n) + (4 : Int32) = nI (6 * n + 4) from nI_k]
  refine va_sld hx hb hXs hbl (Nat.not_le.mpr hbl) hS (sin hn hL (by decide)) dL_law_370 ?_
  refine lv_aload_n hx hb dL_law_371 rfl (lv_at hl 1 rfl) ?_
  refine lv_iload hx hb dL_law_372 (lv_at hl 0 rfl) ?_
  refine lv_iconst (v := 5) hx hb dL_law_374 (by decide) ?_
  refine lv_iadd hx hb dL_law_375 ?_
  rw [show nI (6 * n) + (5 : Int32) = nI (6 * n + 5) from nI_k]
  refine va_sld hx hb hXs hbl (Nat.not_le.mpr hbl) hS (sin hn hL (by decide)) dL_law_376 ?_
  refine gCallWI X (gF_ok mOK (fsM hap)) ((gMetIA.of (vX11_appendInput e2)).lift (fsM hap)) (cwV 5 X.hts (gT_V tw1745 tw1746 tw1747 tw31 tw1748) rfl rfl rfl ⟨rfl, by decide, by decide, by decide +kernel⟩ ⟨Nat.le_of_ble_eq_true rfl, Nat.le_of_ble_eq_true rfl⟩) rfl (j_fm hP) hS (jA3 hb2 hS.1) (mrec hP.2.1) hl.1 (Nat.le_of_ble_eq_true rfl) ⟨by show cl + 0 + 0 ≤ 601024; omega, by show sl + 0 + 0 ≤ 7293034; omega⟩ dL_law_377 (As := [.int (xs (nI (6 * n + 1)).toNatClampNeg), .int (xs (nI (6 * n + 2)).toNatClampNeg), .int (xs (nI (6 * n + 3)).toNatClampNeg), .int (xs (nI (6 * n + 4)).toNatClampNeg), .int (xs (nI (6 * n + 5)).toNatClampNeg)]) (rest := [.int y]) rfl (fun H locs hP hS => ?_)
  have hP := j_of hP
  refine lv_icmp_eq (tgt := 2684) hx hb dL_law_380 (by decide) (fun _ => ?_) (fun c => absurd rfl c)
  exact K S1 M1 x d _ _ _ _ _ rr hP hS hl (by show cl + 0 + 0 ≤ _; omega) (by show sl + 0 + 0 ≤ _; omega)
theorem lc_1 (X : gX p s m #[.ref b] c cL_law 10 "GranaryWatchLaw" (kR kTab kA)) (hXs : va_X b L xs s s.heap) (hbl : b < s.heap.size) (hb1 : s.heap.size ≤ b1) (hap : APJ b1 b2 o1 o2) (hl0 : l.stackTraces = false) (hnn : NNAN) (hn2 : NN2) (hn : 6 * n + 6 ≤ L) (hL : L ≤ 3072) (r : Rel S M) (hP : jP dC dI cg kA b1 b2 o1 o2 cL cD (S, M, x, d) s H) (hS : va_S (fun q => s.heap.size ≤ q) s.heap H locs) (hl : lv_has ls 10 [(5, .int (nI (6 * n))), (0, .ref b), (1, .ref (caOf b1 0)), (2, .ref (adOf b2 25)), (3, .ref o1), (4, .ref o2)]) (hcl : cl + 403 ≤ 601024) (hsl : sl + 3826 ≤ 7293034) (K : LK p l e s m below meth c Q dC dI cg kA b b1 b2 o1 o2 n cL cD cl sl) : W p l e room_1 s m #[.ref b] below meth c H locs cl sl Q (F0 m 385 ls []) := by
  have hx := X.hx
  have hb := X.hb
  have hz := hS.1
  have hb2 : s.heap.size ≤ b2 := by
    have := hap.1
    omega
  refine lv_aload_n hx hb dL_law_385 rfl (lv_at hl 2 rfl) ?_
  refine lv_aload_n hx hb dL_law_386 rfl (lv_at hl 1 rfl) ?_
  refine lv_iload hx hb dL_law_387 (lv_at hl 0 rfl) ?_
  refine lv_iconst (v := 1) hx hb dL_law_389 (by decide) ?_
  refine lv_iadd hx hb dL_law_390 ?_
  rw [show nI (6 * n) + (1 : Int32) = nI (6 * n + 1) from nI_k]
  refine va_sld hx hb hXs hbl (Nat.not_le.mpr hbl) hS (sin hn hL (by decide)) dL_law_391 ?_
  obtain ⟨y, S1, M1, e1, e2, rr, e7⟩ := q_truncateInput r (xs (nI (6 * n + 1)).toNatClampNeg)
  refine gCallWI X (gF_ok cOK (fsC hap)) ((gMetIA.of (vX10_truncateInput e1)).lift (fsC hap)) (cwV 1 X.hts (gT_V tw1000 tw1001 tw1002 tw1 tw1003) rfl rfl rfl ⟨rfl, by decide, by decide, by decide +kernel⟩ ⟨Nat.le_of_ble_eq_true rfl, Nat.le_of_ble_eq_true rfl⟩) rfl hP hS (jA2 hb1 hS.1) (cr_rec hP.1 (rfl : kc 0 = 0) rfl cw0 rfl) hl.1 (Nat.le_of_ble_eq_true rfl) ⟨by show cl + 0 ≤ 601024; omega, by show sl + 0 ≤ 7293034; omega⟩ dL_law_392 (As := [.int (xs (nI (6 * n + 1)).toNatClampNeg)]) (rest := []) rfl (fun H locs hP hS => ?_)
  have hP : jP dC dI cg kA b1 b2 o1 o2 cL cD (S1, M, x, d) s H := hP
  refine lv_aload_n hx hb dL_law_395 rfl (lv_at hl 3 rfl) ?_
  refine lv_aload_n hx hb dL_law_396 rfl (lv_at hl 1 rfl) ?_
  refine lv_iload hx hb dL_law_397 (lv_at hl 0 rfl) ?_
  refine lv_iconst (v := 1) hx hb dL_law_399 (by decide) ?_
  refine lv_iadd hx hb dL_law_400 ?_
  rw [show nI (6 * n) + (1 : Int32) = nI (6 * n + 1) from nI_k]
  refine va_sld hx hb hXs hbl (Nat.not_le.mpr hbl) hS (sin hn hL (by decide)) dL_law_401 ?_
  refine gCallWI X (gF_ok mOK (fsM hap)) ((gMetIA.of (vX11_truncateInput e2)).lift (fsM hap)) (cwV 1 X.hts (gT_V tw1753 tw1754 tw1755 tw31 tw1756) rfl rfl rfl ⟨rfl, by decide, by decide, by decide +kernel⟩ ⟨Nat.le_of_ble_eq_true rfl, Nat.le_of_ble_eq_true rfl⟩) rfl (j_fm hP) hS (jA3 hb2 hS.1) (mrec hP.2.1) hl.1 (Nat.le_of_ble_eq_true rfl) ⟨by show cl + 0 + 0 ≤ 601024; omega, by show sl + 0 + 0 ≤ 7293034; omega⟩ dL_law_402 (As := [.int (xs (nI (6 * n + 1)).toNatClampNeg)]) (rest := [.int y]) rfl (fun H locs hP hS => ?_)
  have hP := j_of hP
  refine lv_icmp_eq (tgt := 2684) hx hb dL_law_405 (by decide) (fun _ => ?_) (fun c => absurd rfl c)
  exact K S1 M1 x d _ _ _ _ _ rr hP hS hl (by show cl + 0 + 0 ≤ _; omega) (by show sl + 0 + 0 ≤ _; omega)
theorem lc_2 (X : gX p s m #[.ref b] c cL_law 10 "GranaryWatchLaw" (kR kTab kA)) (hXs : va_X b L xs s s.heap) (hbl : b < s.heap.size) (hb1 : s.heap.size ≤ b1) (hap : APJ b1 b2 o1 o2) (hl0 : l.stackTraces = false) (hnn : NNAN) (hn2 : NN2) (hn : 6 * n + 6 ≤ L) (hL : L ≤ 3072) (r : Rel S M) (hP : jP dC dI cg kA b1 b2 o1 o2 cL cD (S, M, x, d) s H) (hS : va_S (fun q => s.heap.size ≤ q) s.heap H locs) (hl : lv_has ls 10 [(5, .int (nI (6 * n))), (0, .ref b), (1, .ref (caOf b1 0)), (2, .ref (adOf b2 25)), (3, .ref o1), (4, .ref o2)]) (hcl : cl + 403 ≤ 601024) (hsl : sl + 3826 ≤ 7293034) (K : LK p l e s m below meth c Q dC dI cg kA b b1 b2 o1 o2 n cL cD cl sl) : W p l e room_1 s m #[.ref b] below meth c H locs cl sl Q (F0 m 410 ls []) := by
  have hx := X.hx
  have hb := X.hb
  have hz := hS.1
  have hb2 : s.heap.size ≤ b2 := by
    have := hap.1
    omega
  refine lv_aload_n hx hb dL_law_410 rfl (lv_at hl 2 rfl) ?_
  obtain ⟨S1, M1, y, e1, e2, rr, e7⟩ := s_load r
  refine gCallWI X (gF_ok cOK (fsC hap)) ((vX10_loadGranary e1).lift (fsC hap)) (cwV 0 X.hts (gT_V tw1004 tw1005 tw1006 tw1 tw1007) rfl rfl rfl ⟨rfl, by decide, by decide, by decide +kernel⟩ ⟨Nat.le_of_ble_eq_true rfl, Nat.le_of_ble_eq_true rfl⟩) rfl hP hS (jA2 hb1 hS.1) (cr_rec hP.1 (rfl : kc 0 = 0) rfl cw0 rfl) hl.1 (Nat.le_of_ble_eq_true rfl) ⟨by show cl + 402 ≤ 601024; omega, by show sl + 3819 ≤ 7293034; omega⟩ dL_law_411 (As := []) (rest := []) rfl (fun H locs hP hS => ?_)
  have hP : jP dC dI cg kA b1 b2 o1 o2 cL cD (S1, M, x, d) s H := hP
  refine lv_aload_n hx hb dL_law_414 rfl (lv_at hl 3 rfl) ?_
  refine gCallWI X (gF_ok mOK (fsM hap)) ((gMetIA.of (vX11_loadGranary e2)).lift (fsM hap)) (cwV 0 X.hts (gT_V tw1760 tw1761 tw1762 tw31 tw1763) rfl rfl rfl ⟨rfl, by decide, by decide, by decide +kernel⟩ ⟨Nat.le_of_ble_eq_true rfl, Nat.le_of_ble_eq_true rfl⟩) rfl (j_fm hP) hS (jA3 hb2 hS.1) (mrec hP.2.1) hl.1 (Nat.le_of_ble_eq_true rfl) ⟨by show cl + 402 + 0 ≤ 601024; omega, by show sl + 3819 + 0 ≤ 7293034; omega⟩ dL_law_415 (As := []) (rest := [.int y]) rfl (fun H locs hP hS => ?_)
  have hP := j_of hP
  refine lv_icmp_eq (tgt := 2684) hx hb dL_law_418 (by decide) (fun _ => ?_) (fun c => absurd rfl c)
  exact K S1 M1 x d _ _ _ _ _ rr hP hS hl (by show cl + 402 + 0 ≤ _; omega) (by show sl + 3819 + 0 ≤ _; omega)
theorem lc_4 (X : gX p s m #[.ref b] c cL_law 10 "GranaryWatchLaw" (kR kTab kA)) (hXs : va_X b L xs s s.heap) (hbl : b < s.heap.size) (hb1 : s.heap.size ≤ b1) (hap : APJ b1 b2 o1 o2) (hl0 : l.stackTraces = false) (hnn : NNAN) (hn2 : NN2) (hn : 6 * n + 6 ≤ L) (hL : L ≤ 3072) (r : Rel S M) (hP : jP dC dI cg kA b1 b2 o1 o2 cL cD (S, M, x, d) s H) (hS : va_S (fun q => s.heap.size ≤ q) s.heap H locs) (hl : lv_has ls 10 [(5, .int (nI (6 * n))), (0, .ref b), (1, .ref (caOf b1 0)), (2, .ref (adOf b2 25)), (3, .ref o1), (4, .ref o2)]) (hcl : cl + 403 ≤ 601024) (hsl : sl + 3826 ≤ 7293034) (K : LK p l e s m below meth c Q dC dI cg kA b b1 b2 o1 o2 n cL cD cl sl) : W p l e room_1 s m #[.ref b] below meth c H locs cl sl Q (F0 m 436 ls []) := by
  have hx := X.hx
  have hb := X.hb
  have hz := hS.1
  have hb2 : s.heap.size ≤ b2 := by
    have := hap.1
    omega
  refine lv_aload_n hx hb dL_law_436 rfl (lv_at hl 2 rfl) ?_
  obtain ⟨y, M1, e1, e2, rr, e7⟩ := q_errorCode r 
  refine gCallWI X (gF_ok cOK (fsC hap)) ((gMetR_IA cOK (vX10_errorCode e1)).lift (fsC hap)) (cwV 0 X.hts (gT_V tw1140 tw1141 tw1142 tw1 tw1143) rfl rfl rfl ⟨rfl, by decide, by decide, by decide +kernel⟩ ⟨Nat.le_of_ble_eq_true rfl, Nat.le_of_ble_eq_true rfl⟩) rfl hP hS (jA2 hb1 hS.1) (cr_rec hP.1 (rfl : kc 0 = 0) rfl cw0 rfl) hl.1 (Nat.le_of_ble_eq_true rfl) ⟨by show cl + 0 ≤ 601024; omega, by show sl + 0 ≤ 7293034; omega⟩ dL_law_437 (As := []) (rest := []) rfl (fun H locs hP hS => ?_)
  have hP : jP dC dI cg kA b1 b2 o1 o2 cL cD (S, M, x, d) s H := hP
  refine lv_aload_n hx hb dL_law_440 rfl (lv_at hl 3 rfl) ?_
  refine gCallWI X (gF_ok mOK (fsM hap)) ((gMetIA.of (vX11_errorCode e2)).lift (fsM hap)) (cwV 0 X.hts (gT_V tw2007 tw2008 tw2009 tw31 tw2010) rfl rfl rfl ⟨rfl, by decide, by decide, by decide +kernel⟩ ⟨Nat.le_of_ble_eq_true rfl, Nat.le_of_ble_eq_true rfl⟩) rfl (j_fm hP) hS (jA3 hb2 hS.1) (mrec hP.2.1) hl.1 (Nat.le_of_ble_eq_true rfl) ⟨by show cl + 0 + 0 ≤ 601024; omega, by show sl + 0 + 0 ≤ 7293034; omega⟩ dL_law_441 (As := []) (rest := [.int y]) rfl (fun H locs hP hS => ?_)
  have hP := j_of hP
  refine lv_icmp_eq (tgt := 2684) hx hb dL_law_444 (by decide) (fun _ => ?_) (fun c => absurd rfl c)
  exact K S M1 x d _ _ _ _ _ rr hP hS hl (by show cl + 0 + 0 ≤ _; omega) (by show sl + 0 + 0 ≤ _; omega)
theorem lc_11 (X : gX p s m #[.ref b] c cL_law 10 "GranaryWatchLaw" (kR kTab kA)) (hXs : va_X b L xs s s.heap) (hbl : b < s.heap.size) (hb1 : s.heap.size ≤ b1) (hap : APJ b1 b2 o1 o2) (hl0 : l.stackTraces = false) (hnn : NNAN) (hn2 : NN2) (hn : 6 * n + 6 ≤ L) (hL : L ≤ 3072) (r : Rel S M) (hP : jP dC dI cg kA b1 b2 o1 o2 cL cD (S, M, x, d) s H) (hS : va_S (fun q => s.heap.size ≤ q) s.heap H locs) (hl : lv_has ls 10 [(5, .int (nI (6 * n))), (0, .ref b), (1, .ref (caOf b1 0)), (2, .ref (adOf b2 25)), (3, .ref o1), (4, .ref o2)]) (hcl : cl + 403 ≤ 601024) (hsl : sl + 3826 ≤ 7293034) (K : LK p l e s m below meth c Q dC dI cg kA b b1 b2 o1 o2 n cL cD cl sl) : W p l e room_1 s m #[.ref b] below meth c H locs cl sl Q (F0 m 527 ls []) := by
  have hx := X.hx
  have hb := X.hb
  have hz := hS.1
  have hb2 : s.heap.size ≤ b2 := by
    have := hap.1
    omega
  refine lv_aload_n hx hb dL_law_527 rfl (lv_at hl 2 rfl) ?_
  refine lv_aload_n hx hb dL_law_528 rfl (lv_at hl 1 rfl) ?_
  refine lv_iload hx hb dL_law_529 (lv_at hl 0 rfl) ?_
  refine lv_iconst (v := 1) hx hb dL_law_531 (by decide) ?_
  refine lv_iadd hx hb dL_law_532 ?_
  rw [show nI (6 * n) + (1 : Int32) = nI (6 * n + 1) from nI_k]
  refine va_sld hx hb hXs hbl (Nat.not_le.mpr hbl) hS (sin hn hL (by decide)) dL_law_533 ?_
  refine lv_aload_n hx hb dL_law_534 rfl (lv_at hl 1 rfl) ?_
  refine lv_iload hx hb dL_law_535 (lv_at hl 0 rfl) ?_
  refine lv_iconst (v := 2) hx hb dL_law_537 (by decide) ?_
  refine lv_iadd hx hb dL_law_538 ?_
  rw [show nI (6 * n) + (2 : Int32) = nI (6 * n + 2) from nI_k]
  refine va_sld hx hb hXs hbl (Nat.not_le.mpr hbl) hS (sin hn hL (by decide)) dL_law_539 ?_
  refine lv_aload_n hx hb dL_law_540 rfl (lv_at hl 4 rfl) ?_
  obtain ⟨y, S1, M1, x1, e2, rr, ek, hM⟩ := xw_catNameByte (dC := dC) (dI := dI) (cg := cg) (kA := kA) (cL := cL) (cD := cD) (x := x) (d := d) hl0 hap r (xs (nI (6 * n + 1)).toNatClampNeg) (xs (nI (6 * n + 2)).toNatClampNeg)
  refine gCallX X jOK hM (vx_cwSW 4 X.hts (gT_X tw1296 tw1297 tw0 tw1298) rfl rfl rfl ⟨by decide, by decide, by decide +kernel⟩ ⟨Nat.le_of_ble_eq_true rfl, Nat.le_of_ble_eq_true rfl⟩) rfl hP hS (jA4 hap hb1 hS.1) hl.1 (Nat.le_of_ble_eq_true rfl) ⟨by show cl + 1 ≤ 601024; omega, by show sl + 6 ≤ 7293034; omega⟩ dL_law_541 (As := [.ref (caOf b1 0), .int (xs (nI (6 * n + 1)).toNatClampNeg), .int (xs (nI (6 * n + 2)).toNatClampNeg), .ref o1]) (rest := []) rfl (fun H locs hP hS => ?_)
  refine lv_istore (lv' := [(6, .int (M1.1 7)), (5, .int (nI (6 * n))), (0, .ref b), (1, .ref (caOf b1 0)), (2, .ref (adOf b2 25)), (3, .ref o1), (4, .ref o2)]) hx hb dL_law_544 hl (by decide) rfl (fun ls hl => ?_)
  refine lv_aload_n hx hb dL_law_546 rfl (lv_at hl 4 rfl) ?_
  refine lv_aload_n hx hb dL_law_547 rfl (lv_at hl 2 rfl) ?_
  refine lv_iload hx hb dL_law_548 (lv_at hl 1 rfl) ?_
  refine lv_iconst (v := 1) hx hb dL_law_550 (by decide) ?_
  refine lv_iadd hx hb dL_law_551 ?_
  rw [show nI (6 * n) + (1 : Int32) = nI (6 * n + 1) from nI_k]
  refine va_sld hx hb hXs hbl (Nat.not_le.mpr hbl) hS (sin hn hL (by decide)) dL_law_552 ?_
  refine lv_aload_n hx hb dL_law_553 rfl (lv_at hl 2 rfl) ?_
  refine lv_iload hx hb dL_law_554 (lv_at hl 1 rfl) ?_
  refine lv_iconst (v := 2) hx hb dL_law_556 (by decide) ?_
  refine lv_iadd hx hb dL_law_557 ?_
  rw [show nI (6 * n) + (2 : Int32) = nI (6 * n + 2) from nI_k]
  refine va_sld hx hb hXs hbl (Nat.not_le.mpr hbl) hS (sin hn hL (by decide)) dL_law_558 ?_
  refine gCallWI X (gF_ok mOK (fsM hap)) ((gMetIA.of (vX11_catNameByte e2)).lift (fsM hap)) (cwV 2 X.hts (gT_V tw2131 tw2132 tw2133 tw31 tw2134) rfl rfl rfl ⟨rfl, by decide, by decide, by decide +kernel⟩ ⟨Nat.le_of_ble_eq_true rfl, Nat.le_of_ble_eq_true rfl⟩) rfl (j_fm hP) hS (jA3 hb2 hS.1) (mrec hP.2.1) hl.1 (Nat.le_of_ble_eq_true rfl) ⟨by show cl + 1 + 0 ≤ 601024; omega, by show sl + 6 + 0 ≤ 7293034; omega⟩ dL_law_559 (As := [.int (xs (nI (6 * n + 1)).toNatClampNeg), .int (xs (nI (6 * n + 2)).toNatClampNeg)]) (rest := []) rfl (fun H locs hP hS => ?_)
  have hP := j_of hP
  refine lv_istore (lv' := [(7, .int y), (6, .int (M1.1 7)), (5, .int (nI (6 * n))), (0, .ref b), (1, .ref (caOf b1 0)), (2, .ref (adOf b2 25)), (3, .ref o1), (4, .ref o2)]) hx hb dL_law_562 hl (by decide) rfl (fun ls hl => ?_)
  refine lv_aload_n hx hb dL_law_564 rfl (lv_at hl 5 rfl) ?_
  refine gCallWI X (gF_ok mOK (fsM hap)) ((gMetR_IA mOK (vX11_thrown (M := M1) (r := M1.1 7) rfl)).lift (fsM hap)) (cwV 0 X.hts (gT_V tw1741 tw1742 tw1743 tw31 tw1744) rfl rfl rfl ⟨rfl, by decide, by decide, by decide +kernel⟩ ⟨Nat.le_of_ble_eq_true rfl, Nat.le_of_ble_eq_true rfl⟩) rfl (j_fm hP) hS (jA3 hb2 hS.1) (mrec hP.2.1) hl.1 (Nat.le_of_ble_eq_true rfl) ⟨by show cl + 1 + 0 + 0 ≤ 601024; omega, by show sl + 6 + 0 + 0 ≤ 7293034; omega⟩ dL_law_565 (As := []) (rest := []) rfl (fun H locs hP hS => ?_)
  have hP := j_of hP
  refine lv_iload hx hb dL_law_568 (lv_at hl 1 rfl) ?_
  refine lv_icmp_eq (tgt := 575) hx hb dL_law_570 (by decide) (fun _ => ?_) (fun c => absurd rfl c)
  refine lv_iload hx hb dL_law_575 (lv_at hl 1 rfl) ?_
  refine lv_if_ne (tgt := 592) hx hb dL_law_577 (by decide) (fun _ => ?_) (fun hk => ?_)
  · refine lv_goto (tgt := 2684) hx hb dL_law_592 (by decide) ?_
    exact K S1 M1 x1 d _ _ _ _ _ rr hP hS (lv_sub hl [2, 3, 4, 5, 6, 7] rfl) (by show cl + 1 + 0 + 0 ≤ _; omega) (by show sl + 6 + 0 + 0 ≤ _; omega)
  have hk : M1.1 7 = 0 := hk
  refine lv_aload_n hx hb dL_law_580 rfl (lv_at hl 6 rfl) ?_
  refine lv_iconst (v := 0) hx hb dL_law_581 (by decide) ?_
  refine j_lald (S := S1) (M := M1) (x := x1) (d := d) X hP dL_law_582 ?_
  refine lv_iload hx hb dL_law_583 (lv_at hl 0 rfl) ?_
  refine lv_i2l hx hb dL_law_585 rfl ?_
  refine W.lcmp hx hb dL_law_586 ?_
  rw [ek hk, lg_cmp_s]
  refine lv_if_eq (tgt := 592) hx hb dL_law_587 (by decide) (fun _ => ?_) (fun c => absurd rfl c)
  refine lv_goto (tgt := 2684) hx hb dL_law_592 (by decide) ?_
  exact K S1 M1 x1 d _ _ _ _ _ rr hP hS (lv_sub hl [2, 3, 4, 5, 6, 7] rfl) (by show cl + 1 + 0 + 0 ≤ _; omega) (by show sl + 6 + 0 + 0 ≤ _; omega)
theorem lc_13 (X : gX p s m #[.ref b] c cL_law 10 "GranaryWatchLaw" (kR kTab kA)) (hXs : va_X b L xs s s.heap) (hbl : b < s.heap.size) (hb1 : s.heap.size ≤ b1) (hap : APJ b1 b2 o1 o2) (hl0 : l.stackTraces = false) (hnn : NNAN) (hn2 : NN2) (hn : 6 * n + 6 ≤ L) (hL : L ≤ 3072) (r : Rel S M) (hP : jP dC dI cg kA b1 b2 o1 o2 cL cD (S, M, x, d) s H) (hS : va_S (fun q => s.heap.size ≤ q) s.heap H locs) (hl : lv_has ls 10 [(5, .int (nI (6 * n))), (0, .ref b), (1, .ref (caOf b1 0)), (2, .ref (adOf b2 25)), (3, .ref o1), (4, .ref o2)]) (hcl : cl + 403 ≤ 601024) (hsl : sl + 3826 ≤ 7293034) (K : LK p l e s m below meth c Q dC dI cg kA b b1 b2 o1 o2 n cL cD cl sl) : W p l e room_1 s m #[.ref b] below meth c H locs cl sl Q (F0 m 663 ls []) := by
  have hx := X.hx
  have hb := X.hb
  have hz := hS.1
  have hb2 : s.heap.size ≤ b2 := by
    have := hap.1
    omega
  refine lv_aload_n hx hb dL_law_663 rfl (lv_at hl 2 rfl) ?_
  refine lv_aload_n hx hb dL_law_664 rfl (lv_at hl 1 rfl) ?_
  refine lv_iload hx hb dL_law_665 (lv_at hl 0 rfl) ?_
  refine lv_iconst (v := 1) hx hb dL_law_667 (by decide) ?_
  refine lv_iadd hx hb dL_law_668 ?_
  rw [show nI (6 * n) + (1 : Int32) = nI (6 * n + 1) from nI_k]
  refine va_sld hx hb hXs hbl (Nat.not_le.mpr hbl) hS (sin hn hL (by decide)) dL_law_669 ?_
  refine lv_aload_n hx hb dL_law_670 rfl (lv_at hl 4 rfl) ?_
  obtain ⟨y, S1, M1, x1, e2, rr, ek, hM⟩ := xw_speedOf (dC := dC) (dI := dI) (cg := cg) (kA := kA) (cL := cL) (cD := cD) (x := x) (d := d) hl0 hap r (xs (nI (6 * n + 1)).toNatClampNeg)
  refine gCallX X jOK hM (vx_cwSW 3 X.hts (gT_X tw1338 tw1339 tw0 tw1340) rfl rfl rfl ⟨by decide, by decide, by decide +kernel⟩ ⟨Nat.le_of_ble_eq_true rfl, Nat.le_of_ble_eq_true rfl⟩) rfl hP hS (jA4 hap hb1 hS.1) hl.1 (Nat.le_of_ble_eq_true rfl) ⟨by show cl + 1 ≤ 601024; omega, by show sl + 6 ≤ 7293034; omega⟩ dL_law_671 (As := [.ref (caOf b1 0), .int (xs (nI (6 * n + 1)).toNatClampNeg), .ref o1]) (rest := []) rfl (fun H locs hP hS => ?_)
  refine lv_istore (lv' := [(6, .int (M1.1 7)), (5, .int (nI (6 * n))), (0, .ref b), (1, .ref (caOf b1 0)), (2, .ref (adOf b2 25)), (3, .ref o1), (4, .ref o2)]) hx hb dL_law_674 hl (by decide) rfl (fun ls hl => ?_)
  refine lv_aload_n hx hb dL_law_676 rfl (lv_at hl 4 rfl) ?_
  refine lv_aload_n hx hb dL_law_677 rfl (lv_at hl 2 rfl) ?_
  refine lv_iload hx hb dL_law_678 (lv_at hl 1 rfl) ?_
  refine lv_iconst (v := 1) hx hb dL_law_680 (by decide) ?_
  refine lv_iadd hx hb dL_law_681 ?_
  rw [show nI (6 * n) + (1 : Int32) = nI (6 * n + 1) from nI_k]
  refine va_sld hx hb hXs hbl (Nat.not_le.mpr hbl) hS (sin hn hL (by decide)) dL_law_682 ?_
  refine gCallWI X (gF_ok mOK (fsM hap)) ((gMetIA.of (vX11_speedOf e2)).lift (fsM hap)) (cwV 1 X.hts (gT_V tw2075 tw2076 tw2077 tw31 tw2078) rfl rfl rfl ⟨rfl, by decide, by decide, by decide +kernel⟩ ⟨Nat.le_of_ble_eq_true rfl, Nat.le_of_ble_eq_true rfl⟩) rfl (j_fm hP) hS (jA3 hb2 hS.1) (mrec hP.2.1) hl.1 (Nat.le_of_ble_eq_true rfl) ⟨by show cl + 1 + 0 ≤ 601024; omega, by show sl + 6 + 0 ≤ 7293034; omega⟩ dL_law_683 (As := [.int (xs (nI (6 * n + 1)).toNatClampNeg)]) (rest := []) rfl (fun H locs hP hS => ?_)
  have hP := j_of hP
  refine lv_istore (lv' := [(7, .int y), (6, .int (M1.1 7)), (5, .int (nI (6 * n))), (0, .ref b), (1, .ref (caOf b1 0)), (2, .ref (adOf b2 25)), (3, .ref o1), (4, .ref o2)]) hx hb dL_law_686 hl (by decide) rfl (fun ls hl => ?_)
  refine lv_aload_n hx hb dL_law_688 rfl (lv_at hl 5 rfl) ?_
  refine gCallWI X (gF_ok mOK (fsM hap)) ((gMetR_IA mOK (vX11_thrown (M := M1) (r := M1.1 7) rfl)).lift (fsM hap)) (cwV 0 X.hts (gT_V tw1741 tw1742 tw1743 tw31 tw1744) rfl rfl rfl ⟨rfl, by decide, by decide, by decide +kernel⟩ ⟨Nat.le_of_ble_eq_true rfl, Nat.le_of_ble_eq_true rfl⟩) rfl (j_fm hP) hS (jA3 hb2 hS.1) (mrec hP.2.1) hl.1 (Nat.le_of_ble_eq_true rfl) ⟨by show cl + 1 + 0 + 0 ≤ 601024; omega, by show sl + 6 + 0 + 0 ≤ 7293034; omega⟩ dL_law_689 (As := []) (rest := []) rfl (fun H locs hP hS => ?_)
  have hP := j_of hP
  refine lv_iload hx hb dL_law_692 (lv_at hl 1 rfl) ?_
  refine lv_icmp_eq (tgt := 699) hx hb dL_law_694 (by decide) (fun _ => ?_) (fun c => absurd rfl c)
  refine lv_iload hx hb dL_law_699 (lv_at hl 1 rfl) ?_
  refine lv_if_ne (tgt := 716) hx hb dL_law_701 (by decide) (fun _ => ?_) (fun hk => ?_)
  · refine lv_goto (tgt := 2684) hx hb dL_law_716 (by decide) ?_
    exact K S1 M1 x1 d _ _ _ _ _ rr hP hS (lv_sub hl [2, 3, 4, 5, 6, 7] rfl) (by show cl + 1 + 0 + 0 ≤ _; omega) (by show sl + 6 + 0 + 0 ≤ _; omega)
  have hk : M1.1 7 = 0 := hk
  refine lv_aload_n hx hb dL_law_704 rfl (lv_at hl 6 rfl) ?_
  refine lv_iconst (v := 0) hx hb dL_law_705 (by decide) ?_
  refine j_lald (S := S1) (M := M1) (x := x1) (d := d) X hP dL_law_706 ?_
  refine lv_iload hx hb dL_law_707 (lv_at hl 0 rfl) ?_
  refine lv_i2l hx hb dL_law_709 rfl ?_
  refine W.lcmp hx hb dL_law_710 ?_
  rw [ek hk, lg_cmp_s]
  refine lv_if_eq (tgt := 716) hx hb dL_law_711 (by decide) (fun _ => ?_) (fun c => absurd rfl c)
  refine lv_goto (tgt := 2684) hx hb dL_law_716 (by decide) ?_
  exact K S1 M1 x1 d _ _ _ _ _ rr hP hS (lv_sub hl [2, 3, 4, 5, 6, 7] rfl) (by show cl + 1 + 0 + 0 ≤ _; omega) (by show sl + 6 + 0 + 0 ≤ _; omega)
theorem lc_22 (X : gX p s m #[.ref b] c cL_law 10 "GranaryWatchLaw" (kR kTab kA)) (hXs : va_X b L xs s s.heap) (hbl : b < s.heap.size) (hb1 : s.heap.size ≤ b1) (hap : APJ b1 b2 o1 o2) (hl0 : l.stackTraces = false) (hnn : NNAN) (hn2 : NN2) (hn : 6 * n + 6 ≤ L) (hL : L ≤ 3072) (r : Rel S M) (hP : jP dC dI cg kA b1 b2 o1 o2 cL cD (S, M, x, d) s H) (hS : va_S (fun q => s.heap.size ≤ q) s.heap H locs) (hl : lv_has ls 10 [(5, .int (nI (6 * n))), (0, .ref b), (1, .ref (caOf b1 0)), (2, .ref (adOf b2 25)), (3, .ref o1), (4, .ref o2)]) (hcl : cl + 403 ≤ 601024) (hsl : sl + 3826 ≤ 7293034) (K : LK p l e s m below meth c Q dC dI cg kA b b1 b2 o1 o2 n cL cD cl sl) : W p l e room_1 s m #[.ref b] below meth c H locs cl sl Q (F0 m 1181 ls []) := by
  have hx := X.hx
  have hb := X.hb
  have hz := hS.1
  have hb2 : s.heap.size ≤ b2 := by
    have := hap.1
    omega
  refine lv_aload_n hx hb dL_law_1181 rfl (lv_at hl 2 rfl) ?_
  refine lv_aload_n hx hb dL_law_1182 rfl (lv_at hl 1 rfl) ?_
  refine lv_iload hx hb dL_law_1183 (lv_at hl 0 rfl) ?_
  refine lv_iconst (v := 1) hx hb dL_law_1185 (by decide) ?_
  refine lv_iadd hx hb dL_law_1186 ?_
  rw [show nI (6 * n) + (1 : Int32) = nI (6 * n + 1) from nI_k]
  refine va_sld hx hb hXs hbl (Nat.not_le.mpr hbl) hS (sin hn hL (by decide)) dL_law_1187 ?_
  refine lv_aload_n hx hb dL_law_1188 rfl (lv_at hl 4 rfl) ?_
  obtain ⟨y, S1, M1, x1, e2, rr, ek, hM⟩ := xw_eatenFrom (dC := dC) (dI := dI) (cg := cg) (kA := kA) (cL := cL) (cD := cD) (x := x) (d := d) hl0 hap r (xs (nI (6 * n + 1)).toNatClampNeg)
  refine gCallX X jOK hM (vx_cwSW 3 X.hts (gT_X tw1402 tw1403 tw0 tw1404) rfl rfl rfl ⟨by decide, by decide, by decide +kernel⟩ ⟨Nat.le_of_ble_eq_true rfl, Nat.le_of_ble_eq_true rfl⟩) rfl hP hS (jA4 hap hb1 hS.1) hl.1 (Nat.le_of_ble_eq_true rfl) ⟨by show cl + 1 ≤ 601024; omega, by show sl + 6 ≤ 7293034; omega⟩ dL_law_1189 (As := [.ref (caOf b1 0), .int (xs (nI (6 * n + 1)).toNatClampNeg), .ref o1]) (rest := []) rfl (fun H locs hP hS => ?_)
  refine lv_istore (lv' := [(6, .int (M1.1 7)), (5, .int (nI (6 * n))), (0, .ref b), (1, .ref (caOf b1 0)), (2, .ref (adOf b2 25)), (3, .ref o1), (4, .ref o2)]) hx hb dL_law_1192 hl (by decide) rfl (fun ls hl => ?_)
  refine lv_aload_n hx hb dL_law_1194 rfl (lv_at hl 4 rfl) ?_
  refine lv_aload_n hx hb dL_law_1195 rfl (lv_at hl 2 rfl) ?_
  refine lv_iload hx hb dL_law_1196 (lv_at hl 1 rfl) ?_
  refine lv_iconst (v := 1) hx hb dL_law_1198 (by decide) ?_
  refine lv_iadd hx hb dL_law_1199 ?_
  rw [show nI (6 * n) + (1 : Int32) = nI (6 * n + 1) from nI_k]
  refine va_sld hx hb hXs hbl (Nat.not_le.mpr hbl) hS (sin hn hL (by decide)) dL_law_1200 ?_
  refine gCallWI X (gF_ok mOK (fsM hap)) ((gMetIA.of (vX11_eatenFrom e2)).lift (fsM hap)) (cwV 1 X.hts (gT_V tw2123 tw2124 tw2125 tw31 tw2126) rfl rfl rfl ⟨rfl, by decide, by decide, by decide +kernel⟩ ⟨Nat.le_of_ble_eq_true rfl, Nat.le_of_ble_eq_true rfl⟩) rfl (j_fm hP) hS (jA3 hb2 hS.1) (mrec hP.2.1) hl.1 (Nat.le_of_ble_eq_true rfl) ⟨by show cl + 1 + 0 ≤ 601024; omega, by show sl + 6 + 0 ≤ 7293034; omega⟩ dL_law_1201 (As := [.int (xs (nI (6 * n + 1)).toNatClampNeg)]) (rest := []) rfl (fun H locs hP hS => ?_)
  have hP := j_of hP
  refine lv_istore (lv' := [(7, .int y), (6, .int (M1.1 7)), (5, .int (nI (6 * n))), (0, .ref b), (1, .ref (caOf b1 0)), (2, .ref (adOf b2 25)), (3, .ref o1), (4, .ref o2)]) hx hb dL_law_1204 hl (by decide) rfl (fun ls hl => ?_)
  refine lv_aload_n hx hb dL_law_1206 rfl (lv_at hl 5 rfl) ?_
  refine gCallWI X (gF_ok mOK (fsM hap)) ((gMetR_IA mOK (vX11_thrown (M := M1) (r := M1.1 7) rfl)).lift (fsM hap)) (cwV 0 X.hts (gT_V tw1741 tw1742 tw1743 tw31 tw1744) rfl rfl rfl ⟨rfl, by decide, by decide, by decide +kernel⟩ ⟨Nat.le_of_ble_eq_true rfl, Nat.le_of_ble_eq_true rfl⟩) rfl (j_fm hP) hS (jA3 hb2 hS.1) (mrec hP.2.1) hl.1 (Nat.le_of_ble_eq_true rfl) ⟨by show cl + 1 + 0 + 0 ≤ 601024; omega, by show sl + 6 + 0 + 0 ≤ 7293034; omega⟩ dL_law_1207 (As := []) (rest := []) rfl (fun H locs hP hS => ?_)
  have hP := j_of hP
  refine lv_iload hx hb dL_law_1210 (lv_at hl 1 rfl) ?_
  refine lv_icmp_eq (tgt := 1217) hx hb dL_law_1212 (by decide) (fun _ => ?_) (fun c => absurd rfl c)
  refine lv_iload hx hb dL_law_1217 (lv_at hl 1 rfl) ?_
  refine lv_if_ne (tgt := 1234) hx hb dL_law_1219 (by decide) (fun _ => ?_) (fun hk => ?_)
  · refine lv_goto (tgt := 2684) hx hb dL_law_1234 (by decide) ?_
    exact K S1 M1 x1 d _ _ _ _ _ rr hP hS (lv_sub hl [2, 3, 4, 5, 6, 7] rfl) (by show cl + 1 + 0 + 0 ≤ _; omega) (by show sl + 6 + 0 + 0 ≤ _; omega)
  have hk : M1.1 7 = 0 := hk
  refine lv_aload_n hx hb dL_law_1222 rfl (lv_at hl 6 rfl) ?_
  refine lv_iconst (v := 0) hx hb dL_law_1223 (by decide) ?_
  refine j_lald (S := S1) (M := M1) (x := x1) (d := d) X hP dL_law_1224 ?_
  refine lv_iload hx hb dL_law_1225 (lv_at hl 0 rfl) ?_
  refine lv_i2l hx hb dL_law_1227 rfl ?_
  refine W.lcmp hx hb dL_law_1228 ?_
  rw [ek hk, lg_cmp_s]
  refine lv_if_eq (tgt := 1234) hx hb dL_law_1229 (by decide) (fun _ => ?_) (fun c => absurd rfl c)
  refine lv_goto (tgt := 2684) hx hb dL_law_1234 (by decide) ?_
  exact K S1 M1 x1 d _ _ _ _ _ rr hP hS (lv_sub hl [2, 3, 4, 5, 6, 7] rfl) (by show cl + 1 + 0 + 0 ≤ _; omega) (by show sl + 6 + 0 + 0 ≤ _; omega)
theorem lc_49 (X : gX p s m #[.ref b] c cL_law 10 "GranaryWatchLaw" (kR kTab kA)) (hXs : va_X b L xs s s.heap) (hbl : b < s.heap.size) (hb1 : s.heap.size ≤ b1) (hap : APJ b1 b2 o1 o2) (hl0 : l.stackTraces = false) (hnn : NNAN) (hn2 : NN2) (hn : 6 * n + 6 ≤ L) (hL : L ≤ 3072) (r : Rel S M) (hP : jP dC dI cg kA b1 b2 o1 o2 cL cD (S, M, x, d) s H) (hS : va_S (fun q => s.heap.size ≤ q) s.heap H locs) (hl : lv_has ls 10 [(5, .int (nI (6 * n))), (0, .ref b), (1, .ref (caOf b1 0)), (2, .ref (adOf b2 25)), (3, .ref o1), (4, .ref o2)]) (hcl : cl + 403 ≤ 601024) (hsl : sl + 3826 ≤ 7293034) (K : LK p l e s m below meth c Q dC dI cg kA b b1 b2 o1 o2 n cL cD cl sl) : W p l e room_1 s m #[.ref b] below meth c H locs cl sl Q (F0 m 2022 ls []) := by
  have hx := X.hx
  have hb := X.hb
  have hz := hS.1
  have hb2 : s.heap.size ≤ b2 := by
    have := hap.1
    omega
  refine lv_aload_n hx hb dL_law_2022 rfl (lv_at hl 2 rfl) ?_
  obtain ⟨y, M1, e1, e2, rr, e7, hv⟩ := q_averageTiredness hnn r
  refine gCallWD X (gF_ok cOK (fsC hap)) ((vX10_averageTiredness hnn e1).lift (fsC hap)) (cwV 0 X.hts (gT_V tw1265 tw1266 tw1267 tw1 tw1268) rfl rfl rfl ⟨rfl, by decide, by decide, by decide +kernel⟩ ⟨Nat.le_of_ble_eq_true rfl, Nat.le_of_ble_eq_true rfl⟩) rfl hP hS (jA2 hb1 hS.1) (cr_rec hP.1 (rfl : kc 0 = 0) rfl cw0 rfl) hl.1 (Nat.le_of_ble_eq_true rfl) ⟨by show cl + 0 ≤ 601024; omega, by show sl + 0 ≤ 7293034; omega⟩ dL_law_2023 (As := []) (rest := []) rfl (fun H locs hP hS => ?_)
  have hP : jP dC dI cg kA b1 b2 o1 o2 cL cD (S, M, x, d) s H := hP
  refine lv_dstore (lv' := [(6, .double y), (5, .int (nI (6 * n))), (0, .ref b), (1, .ref (caOf b1 0)), (2, .ref (adOf b2 25)), (3, .ref o1), (4, .ref o2)]) hx hb dL_law_2026 hl (by decide) rfl (fun ls hl => ?_)
  refine lv_aload_n hx hb dL_law_2028 rfl (lv_at hl 4 rfl) ?_
  refine gCallWD X (gF_ok mOK (fsM hap)) ((vX11_averageTiredness hnn e2).lift (fsM hap)) (cwV 0 X.hts (gT_V tw2243 tw2244 tw2245 tw31 tw2246) rfl rfl rfl ⟨rfl, by decide, by decide, by decide +kernel⟩ ⟨Nat.le_of_ble_eq_true rfl, Nat.le_of_ble_eq_true rfl⟩) rfl (j_fm hP) hS (jA3 hb2 hS.1) (mrec hP.2.1) hl.1 (Nat.le_of_ble_eq_true rfl) ⟨by show cl + 0 + 0 ≤ 601024; omega, by show sl + 0 + 0 ≤ 7293034; omega⟩ dL_law_2029 (As := []) (rest := []) rfl (fun H locs hP hS => ?_)
  have hP := j_of hP
  refine lv_dstore (lv' := [(8, .double y), (6, .double y), (5, .int (nI (6 * n))), (0, .ref b), (1, .ref (caOf b1 0)), (2, .ref (adOf b2 25)), (3, .ref o1), (4, .ref o2)]) hx hb dL_law_2032 hl (by decide) rfl (fun ls hl => ?_)
  refine lv_dload hx hb dL_law_2034 (lv_at hl 1 rfl) ?_
  refine lv_dload hx hb dL_law_2036 (lv_at hl 0 rfl) ?_
  refine lv_dcmp hx hb dL_law_2038 ?_
  rw [hn2.2 hv]
  refine lv_if_eq (tgt := 2060) hx hb dL_law_2039 (by decide) (fun _ => ?_) (fun c => absurd rfl c)
  refine lv_goto (tgt := 2684) hx hb dL_law_2060 (by decide) ?_
  exact K S M1 x d _ _ _ _ _ rr hP hS (lv_sub hl [2, 3, 4, 5, 6, 7] rfl) (by show cl + 0 + 0 ≤ _; omega) (by show sl + 0 + 0 ≤ _; omega)
theorem lc_50 (X : gX p s m #[.ref b] c cL_law 10 "GranaryWatchLaw" (kR kTab kA)) (hXs : va_X b L xs s s.heap) (hbl : b < s.heap.size) (hb1 : s.heap.size ≤ b1) (hap : APJ b1 b2 o1 o2) (hl0 : l.stackTraces = false) (hnn : NNAN) (hn2 : NN2) (hn : 6 * n + 6 ≤ L) (hL : L ≤ 3072) (r : Rel S M) (hP : jP dC dI cg kA b1 b2 o1 o2 cL cD (S, M, x, d) s H) (hS : va_S (fun q => s.heap.size ≤ q) s.heap H locs) (hl : lv_has ls 10 [(5, .int (nI (6 * n))), (0, .ref b), (1, .ref (caOf b1 0)), (2, .ref (adOf b2 25)), (3, .ref o1), (4, .ref o2)]) (hcl : cl + 403 ≤ 601024) (hsl : sl + 3826 ≤ 7293034) (K : LK p l e s m below meth c Q dC dI cg kA b b1 b2 o1 o2 n cL cD cl sl) : W p l e room_1 s m #[.ref b] below meth c H locs cl sl Q (F0 m 2063 ls []) := by
  have hx := X.hx
  have hb := X.hb
  have hz := hS.1
  have hb2 : s.heap.size ≤ b2 := by
    have := hap.1
    omega
  refine lv_aload_n hx hb dL_law_2063 rfl (lv_at hl 2 rfl) ?_
  refine lv_aload_n hx hb dL_law_2064 rfl (lv_at hl 1 rfl) ?_
  refine lv_iload hx hb dL_law_2065 (lv_at hl 0 rfl) ?_
  refine lv_iconst (v := 1) hx hb dL_law_2067 (by decide) ?_
  refine lv_iadd hx hb dL_law_2068 ?_
  rw [show nI (6 * n) + (1 : Int32) = nI (6 * n + 1) from nI_k]
  refine va_sld hx hb hXs hbl (Nat.not_le.mpr hbl) hS (sin hn hL (by decide)) dL_law_2069 ?_
  refine lv_aload hx hb dL_law_2070 (lv_at hl 5 rfl) ?_
  obtain ⟨y, S1, M1, d1, e2, rr, ek, hM⟩ := xw_shareOf (dC := dC) (dI := dI) (cg := cg) (kA := kA) (cL := cL) (cD := cD) (x := x) (d := d) hl0 hap hnn hn2 r (xs (nI (6 * n + 1)).toNatClampNeg)
  refine gCallX X jOK hM (vx_cwSW 3 X.hts (gT_X tw1495 tw1496 tw0 tw1497) rfl rfl rfl ⟨by decide, by decide, by decide +kernel⟩ ⟨Nat.le_of_ble_eq_true rfl, Nat.le_of_ble_eq_true rfl⟩) rfl hP hS (jA4 hap hb1 hS.1) hl.1 (Nat.le_of_ble_eq_true rfl) ⟨by show cl + 1 ≤ 601024; omega, by show sl + 6 ≤ 7293034; omega⟩ dL_law_2072 (As := [.ref (caOf b1 0), .int (xs (nI (6 * n + 1)).toNatClampNeg), .ref o2]) (rest := []) rfl (fun H locs hP hS => ?_)
  refine lv_istore (lv' := [(6, .int (M1.1 7)), (5, .int (nI (6 * n))), (0, .ref b), (1, .ref (caOf b1 0)), (2, .ref (adOf b2 25)), (3, .ref o1), (4, .ref o2)]) hx hb dL_law_2075 hl (by decide) rfl (fun ls hl => ?_)
  refine lv_aload_n hx hb dL_law_2077 rfl (lv_at hl 4 rfl) ?_
  refine lv_aload_n hx hb dL_law_2078 rfl (lv_at hl 2 rfl) ?_
  refine lv_iload hx hb dL_law_2079 (lv_at hl 1 rfl) ?_
  refine lv_iconst (v := 1) hx hb dL_law_2081 (by decide) ?_
  refine lv_iadd hx hb dL_law_2082 ?_
  rw [show nI (6 * n) + (1 : Int32) = nI (6 * n + 1) from nI_k]
  refine va_sld hx hb hXs hbl (Nat.not_le.mpr hbl) hS (sin hn hL (by decide)) dL_law_2083 ?_
  refine gCallWF X (gF_ok mOK (fsM hap)) ((vX11_shareOf hnn e2).lift (fsM hap)) (cwV 1 X.hts (gT_V tw2247 tw2248 tw2249 tw31 tw2250) rfl rfl rfl ⟨rfl, by decide, by decide, by decide +kernel⟩ ⟨Nat.le_of_ble_eq_true rfl, Nat.le_of_ble_eq_true rfl⟩) rfl (j_fm hP) hS (jA3 hb2 hS.1) (mrec hP.2.1) hl.1 (Nat.le_of_ble_eq_true rfl) ⟨by show cl + 1 + 0 ≤ 601024; omega, by show sl + 6 + 0 ≤ 7293034; omega⟩ dL_law_2084 (As := [.int (xs (nI (6 * n + 1)).toNatClampNeg)]) (rest := []) rfl (fun H locs hP hS => ?_)
  have hP := j_of hP
  refine lv_fstore (lv' := [(7, .float y), (6, .int (M1.1 7)), (5, .int (nI (6 * n))), (0, .ref b), (1, .ref (caOf b1 0)), (2, .ref (adOf b2 25)), (3, .ref o1), (4, .ref o2)]) hx hb dL_law_2087 hl (by decide) rfl (fun ls hl => ?_)
  refine lv_aload_n hx hb dL_law_2089 rfl (lv_at hl 5 rfl) ?_
  refine gCallWI X (gF_ok mOK (fsM hap)) ((gMetR_IA mOK (vX11_thrown (M := M1) (r := M1.1 7) rfl)).lift (fsM hap)) (cwV 0 X.hts (gT_V tw1741 tw1742 tw1743 tw31 tw1744) rfl rfl rfl ⟨rfl, by decide, by decide, by decide +kernel⟩ ⟨Nat.le_of_ble_eq_true rfl, Nat.le_of_ble_eq_true rfl⟩) rfl (j_fm hP) hS (jA3 hb2 hS.1) (mrec hP.2.1) hl.1 (Nat.le_of_ble_eq_true rfl) ⟨by show cl + 1 + 0 + 0 ≤ 601024; omega, by show sl + 6 + 0 + 0 ≤ 7293034; omega⟩ dL_law_2090 (As := []) (rest := []) rfl (fun H locs hP hS => ?_)
  have hP := j_of hP
  refine lv_iload hx hb dL_law_2093 (lv_at hl 1 rfl) ?_
  refine lv_icmp_eq (tgt := 2100) hx hb dL_law_2095 (by decide) (fun _ => ?_) (fun c => absurd rfl c)
  refine lv_iload hx hb dL_law_2100 (lv_at hl 1 rfl) ?_
  refine lv_if_ne (tgt := 2138) hx hb dL_law_2102 (by decide) (fun _ => ?_) (fun hk => ?_)
  · refine lv_goto (tgt := 2684) hx hb dL_law_2138 (by decide) ?_
    exact K S1 M1 x d1 _ _ _ _ _ rr hP hS (lv_sub hl [2, 3, 4, 5, 6, 7] rfl) (by show cl + 1 + 0 + 0 ≤ _; omega) (by show sl + 6 + 0 + 0 ≤ _; omega)
  have hk : M1.1 7 = 0 := hk
  refine lv_aload hx hb dL_law_2105 (lv_at hl 7 rfl) ?_
  refine lv_iconst (v := 0) hx hb dL_law_2107 (by decide) ?_
  refine j_dald (S := S1) (M := M1) (x := x) (d := d1) X hP dL_law_2108 ?_
  refine lv_fload hx hb dL_law_2109 (lv_at hl 0 rfl) ?_
  refine lv_f2d hx hb dL_law_2111 (by rw [← (ek hk).1]; exact (ek hk).2) ?_
  refine lv_dcmp hx hb dL_law_2112 ?_
  rw [← (ek hk).1, hn2.2 (ek hk).2]
  refine lv_if_eq (tgt := 2138) hx hb dL_law_2113 (by decide) (fun _ => ?_) (fun c => absurd rfl c)
  refine lv_goto (tgt := 2684) hx hb dL_law_2138 (by decide) ?_
  exact K S1 M1 x d1 _ _ _ _ _ rr hP hS (lv_sub hl [2, 3, 4, 5, 6, 7] rfl) (by show cl + 1 + 0 + 0 ≤ _; omega) (by show sl + 6 + 0 + 0 ≤ _; omega)
theorem lc_51 (X : gX p s m #[.ref b] c cL_law 10 "GranaryWatchLaw" (kR kTab kA)) (hXs : va_X b L xs s s.heap) (hbl : b < s.heap.size) (hb1 : s.heap.size ≤ b1) (hap : APJ b1 b2 o1 o2) (hl0 : l.stackTraces = false) (hnn : NNAN) (hn2 : NN2) (hn : 6 * n + 6 ≤ L) (hL : L ≤ 3072) (r : Rel S M) (hP : jP dC dI cg kA b1 b2 o1 o2 cL cD (S, M, x, d) s H) (hS : va_S (fun q => s.heap.size ≤ q) s.heap H locs) (hl : lv_has ls 10 [(5, .int (nI (6 * n))), (0, .ref b), (1, .ref (caOf b1 0)), (2, .ref (adOf b2 25)), (3, .ref o1), (4, .ref o2)]) (hcl : cl + 403 ≤ 601024) (hsl : sl + 3826 ≤ 7293034) (K : LK p l e s m below meth c Q dC dI cg kA b b1 b2 o1 o2 n cL cD cl sl) : W p l e room_1 s m #[.ref b] below meth c H locs cl sl Q (F0 m 2141 ls []) := by
  have hx := X.hx
  have hb := X.hb
  have hz := hS.1
  have hb2 : s.heap.size ≤ b2 := by
    have := hap.1
    omega
  refine lv_aload_n hx hb dL_law_2141 rfl (lv_at hl 2 rfl) ?_
  refine lv_aload_n hx hb dL_law_2142 rfl (lv_at hl 1 rfl) ?_
  refine lv_iload hx hb dL_law_2143 (lv_at hl 0 rfl) ?_
  refine lv_iconst (v := 1) hx hb dL_law_2145 (by decide) ?_
  refine lv_iadd hx hb dL_law_2146 ?_
  rw [show nI (6 * n) + (1 : Int32) = nI (6 * n + 1) from nI_k]
  refine va_sld hx hb hXs hbl (Nat.not_le.mpr hbl) hS (sin hn hL (by decide)) dL_law_2147 ?_
  refine lv_aload_n hx hb dL_law_2148 rfl (lv_at hl 4 rfl) ?_
  obtain ⟨y, S1, M1, x1, e2, rr, ek, hM⟩ := xw_letPass (dC := dC) (dI := dI) (cg := cg) (kA := kA) (cL := cL) (cD := cD) (x := x) (d := d) hl0 hap r (xs (nI (6 * n + 1)).toNatClampNeg)
  refine gCallX X jOK hM (vx_cwSW 3 X.hts (gT_X tw1502 tw1503 tw0 tw1504) rfl rfl rfl ⟨by decide, by decide, by decide +kernel⟩ ⟨Nat.le_of_ble_eq_true rfl, Nat.le_of_ble_eq_true rfl⟩) rfl hP hS (jA4 hap hb1 hS.1) hl.1 (Nat.le_of_ble_eq_true rfl) ⟨by show cl + 1 ≤ 601024; omega, by show sl + 6 ≤ 7293034; omega⟩ dL_law_2149 (As := [.ref (caOf b1 0), .int (xs (nI (6 * n + 1)).toNatClampNeg), .ref o1]) (rest := []) rfl (fun H locs hP hS => ?_)
  refine lv_istore (lv' := [(6, .int (M1.1 7)), (5, .int (nI (6 * n))), (0, .ref b), (1, .ref (caOf b1 0)), (2, .ref (adOf b2 25)), (3, .ref o1), (4, .ref o2)]) hx hb dL_law_2152 hl (by decide) rfl (fun ls hl => ?_)
  refine lv_aload_n hx hb dL_law_2154 rfl (lv_at hl 4 rfl) ?_
  refine lv_aload_n hx hb dL_law_2155 rfl (lv_at hl 2 rfl) ?_
  refine lv_iload hx hb dL_law_2156 (lv_at hl 1 rfl) ?_
  refine lv_iconst (v := 1) hx hb dL_law_2158 (by decide) ?_
  refine lv_iadd hx hb dL_law_2159 ?_
  rw [show nI (6 * n) + (1 : Int32) = nI (6 * n + 1) from nI_k]
  refine va_sld hx hb hXs hbl (Nat.not_le.mpr hbl) hS (sin hn hL (by decide)) dL_law_2160 ?_
  refine gCallWI X (gF_ok mOK (fsM hap)) ((gMetIA.of (vX11_letPass e2)).lift (fsM hap)) (cwV 1 X.hts (gT_V tw2251 tw2252 tw2253 tw31 tw2254) rfl rfl rfl ⟨rfl, by decide, by decide, by decide +kernel⟩ ⟨Nat.le_of_ble_eq_true rfl, Nat.le_of_ble_eq_true rfl⟩) rfl (j_fm hP) hS (jA3 hb2 hS.1) (mrec hP.2.1) hl.1 (Nat.le_of_ble_eq_true rfl) ⟨by show cl + 1 + 0 ≤ 601024; omega, by show sl + 6 + 0 ≤ 7293034; omega⟩ dL_law_2161 (As := [.int (xs (nI (6 * n + 1)).toNatClampNeg)]) (rest := []) rfl (fun H locs hP hS => ?_)
  have hP := j_of hP
  refine lv_istore (lv' := [(7, .int y), (6, .int (M1.1 7)), (5, .int (nI (6 * n))), (0, .ref b), (1, .ref (caOf b1 0)), (2, .ref (adOf b2 25)), (3, .ref o1), (4, .ref o2)]) hx hb dL_law_2164 hl (by decide) rfl (fun ls hl => ?_)
  refine lv_aload_n hx hb dL_law_2166 rfl (lv_at hl 5 rfl) ?_
  refine gCallWI X (gF_ok mOK (fsM hap)) ((gMetR_IA mOK (vX11_thrown (M := M1) (r := M1.1 7) rfl)).lift (fsM hap)) (cwV 0 X.hts (gT_V tw1741 tw1742 tw1743 tw31 tw1744) rfl rfl rfl ⟨rfl, by decide, by decide, by decide +kernel⟩ ⟨Nat.le_of_ble_eq_true rfl, Nat.le_of_ble_eq_true rfl⟩) rfl (j_fm hP) hS (jA3 hb2 hS.1) (mrec hP.2.1) hl.1 (Nat.le_of_ble_eq_true rfl) ⟨by show cl + 1 + 0 + 0 ≤ 601024; omega, by show sl + 6 + 0 + 0 ≤ 7293034; omega⟩ dL_law_2167 (As := []) (rest := []) rfl (fun H locs hP hS => ?_)
  have hP := j_of hP
  refine lv_iload hx hb dL_law_2170 (lv_at hl 1 rfl) ?_
  refine lv_icmp_eq (tgt := 2177) hx hb dL_law_2172 (by decide) (fun _ => ?_) (fun c => absurd rfl c)
  refine lv_iload hx hb dL_law_2177 (lv_at hl 1 rfl) ?_
  refine lv_if_ne (tgt := 2194) hx hb dL_law_2179 (by decide) (fun _ => ?_) (fun hk => ?_)
  · refine lv_goto (tgt := 2684) hx hb dL_law_2194 (by decide) ?_
    exact K S1 M1 x1 d _ _ _ _ _ rr hP hS (lv_sub hl [2, 3, 4, 5, 6, 7] rfl) (by show cl + 1 + 0 + 0 ≤ _; omega) (by show sl + 6 + 0 + 0 ≤ _; omega)
  have hk : M1.1 7 = 0 := hk
  refine lv_aload_n hx hb dL_law_2182 rfl (lv_at hl 6 rfl) ?_
  refine lv_iconst (v := 0) hx hb dL_law_2183 (by decide) ?_
  refine j_lald (S := S1) (M := M1) (x := x1) (d := d) X hP dL_law_2184 ?_
  refine lv_iload hx hb dL_law_2185 (lv_at hl 0 rfl) ?_
  refine lv_i2l hx hb dL_law_2187 rfl ?_
  refine W.lcmp hx hb dL_law_2188 ?_
  rw [ek hk, lg_cmp_s]
  refine lv_if_eq (tgt := 2194) hx hb dL_law_2189 (by decide) (fun _ => ?_) (fun c => absurd rfl c)
  refine lv_goto (tgt := 2684) hx hb dL_law_2194 (by decide) ?_
  exact K S1 M1 x1 d _ _ _ _ _ rr hP hS (lv_sub hl [2, 3, 4, 5, 6, 7] rfl) (by show cl + 1 + 0 + 0 ≤ _; omega) (by show sl + 6 + 0 + 0 ≤ _; omega)
theorem lc_53 (X : gX p s m #[.ref b] c cL_law 10 "GranaryWatchLaw" (kR kTab kA)) (hXs : va_X b L xs s s.heap) (hbl : b < s.heap.size) (hb1 : s.heap.size ≤ b1) (hap : APJ b1 b2 o1 o2) (hl0 : l.stackTraces = false) (hnn : NNAN) (hn2 : NN2) (hn : 6 * n + 6 ≤ L) (hL : L ≤ 3072) (r : Rel S M) (hP : jP dC dI cg kA b1 b2 o1 o2 cL cD (S, M, x, d) s H) (hS : va_S (fun q => s.heap.size ≤ q) s.heap H locs) (hl : lv_has ls 10 [(5, .int (nI (6 * n))), (0, .ref b), (1, .ref (caOf b1 0)), (2, .ref (adOf b2 25)), (3, .ref o1), (4, .ref o2)]) (hcl : cl + 403 ≤ 601024) (hsl : sl + 3826 ≤ 7293034) (K : LK p l e s m below meth c Q dC dI cg kA b b1 b2 o1 o2 n cL cD cl sl) : W p l e room_1 s m #[.ref b] below meth c H locs cl sl Q (F0 m 2253 ls []) := by
  have hx := X.hx
  have hb := X.hb
  have hz := hS.1
  have hb2 : s.heap.size ≤ b2 := by
    have := hap.1
    omega
  refine lv_aload_n hx hb dL_law_2253 rfl (lv_at hl 2 rfl) ?_
  refine lv_aload_n hx hb dL_law_2254 rfl (lv_at hl 1 rfl) ?_
  refine lv_iload hx hb dL_law_2255 (lv_at hl 0 rfl) ?_
  refine lv_iconst (v := 1) hx hb dL_law_2257 (by decide) ?_
  refine lv_iadd hx hb dL_law_2258 ?_
  rw [show nI (6 * n) + (1 : Int32) = nI (6 * n + 1) from nI_k]
  refine va_sld hx hb hXs hbl (Nat.not_le.mpr hbl) hS (sin hn hL (by decide)) dL_law_2259 ?_
  refine lv_aload_n hx hb dL_law_2260 rfl (lv_at hl 4 rfl) ?_
  obtain ⟨y, S1, M1, x1, e2, rr, ek, hM⟩ := xw_shutFlap (dC := dC) (dI := dI) (cg := cg) (kA := kA) (cL := cL) (cD := cD) (x := x) (d := d) hl0 hap r (xs (nI (6 * n + 1)).toNatClampNeg)
  refine gCallX X jOK hM (vx_cwSW 3 X.hts (gT_X tw1539 tw1540 tw0 tw1541) rfl rfl rfl ⟨by decide, by decide, by decide +kernel⟩ ⟨Nat.le_of_ble_eq_true rfl, Nat.le_of_ble_eq_true rfl⟩) rfl hP hS (jA4 hap hb1 hS.1) hl.1 (Nat.le_of_ble_eq_true rfl) ⟨by show cl + 1 ≤ 601024; omega, by show sl + 6 ≤ 7293034; omega⟩ dL_law_2261 (As := [.ref (caOf b1 0), .int (xs (nI (6 * n + 1)).toNatClampNeg), .ref o1]) (rest := []) rfl (fun H locs hP hS => ?_)
  refine lv_istore (lv' := [(6, .int (M1.1 7)), (5, .int (nI (6 * n))), (0, .ref b), (1, .ref (caOf b1 0)), (2, .ref (adOf b2 25)), (3, .ref o1), (4, .ref o2)]) hx hb dL_law_2264 hl (by decide) rfl (fun ls hl => ?_)
  refine lv_aload_n hx hb dL_law_2266 rfl (lv_at hl 4 rfl) ?_
  refine lv_aload_n hx hb dL_law_2267 rfl (lv_at hl 2 rfl) ?_
  refine lv_iload hx hb dL_law_2268 (lv_at hl 1 rfl) ?_
  refine lv_iconst (v := 1) hx hb dL_law_2270 (by decide) ?_
  refine lv_iadd hx hb dL_law_2271 ?_
  rw [show nI (6 * n) + (1 : Int32) = nI (6 * n + 1) from nI_k]
  refine va_sld hx hb hXs hbl (Nat.not_le.mpr hbl) hS (sin hn hL (by decide)) dL_law_2272 ?_
  refine gCallWI X (gF_ok mOK (fsM hap)) ((gMetIA.of (vX11_shutFlap e2)).lift (fsM hap)) (cwV 1 X.hts (gT_V tw2259 tw2260 tw2261 tw31 tw2262) rfl rfl rfl ⟨rfl, by decide, by decide, by decide +kernel⟩ ⟨Nat.le_of_ble_eq_true rfl, Nat.le_of_ble_eq_true rfl⟩) rfl (j_fm hP) hS (jA3 hb2 hS.1) (mrec hP.2.1) hl.1 (Nat.le_of_ble_eq_true rfl) ⟨by show cl + 1 + 0 ≤ 601024; omega, by show sl + 6 + 0 ≤ 7293034; omega⟩ dL_law_2273 (As := [.int (xs (nI (6 * n + 1)).toNatClampNeg)]) (rest := []) rfl (fun H locs hP hS => ?_)
  have hP := j_of hP
  refine lv_istore (lv' := [(7, .int y), (6, .int (M1.1 7)), (5, .int (nI (6 * n))), (0, .ref b), (1, .ref (caOf b1 0)), (2, .ref (adOf b2 25)), (3, .ref o1), (4, .ref o2)]) hx hb dL_law_2276 hl (by decide) rfl (fun ls hl => ?_)
  refine lv_aload_n hx hb dL_law_2278 rfl (lv_at hl 5 rfl) ?_
  refine gCallWI X (gF_ok mOK (fsM hap)) ((gMetR_IA mOK (vX11_thrown (M := M1) (r := M1.1 7) rfl)).lift (fsM hap)) (cwV 0 X.hts (gT_V tw1741 tw1742 tw1743 tw31 tw1744) rfl rfl rfl ⟨rfl, by decide, by decide, by decide +kernel⟩ ⟨Nat.le_of_ble_eq_true rfl, Nat.le_of_ble_eq_true rfl⟩) rfl (j_fm hP) hS (jA3 hb2 hS.1) (mrec hP.2.1) hl.1 (Nat.le_of_ble_eq_true rfl) ⟨by show cl + 1 + 0 + 0 ≤ 601024; omega, by show sl + 6 + 0 + 0 ≤ 7293034; omega⟩ dL_law_2279 (As := []) (rest := []) rfl (fun H locs hP hS => ?_)
  have hP := j_of hP
  refine lv_iload hx hb dL_law_2282 (lv_at hl 1 rfl) ?_
  refine lv_icmp_eq (tgt := 2289) hx hb dL_law_2284 (by decide) (fun _ => ?_) (fun c => absurd rfl c)
  refine lv_iload hx hb dL_law_2289 (lv_at hl 1 rfl) ?_
  refine lv_if_ne (tgt := 2306) hx hb dL_law_2291 (by decide) (fun _ => ?_) (fun hk => ?_)
  · refine lv_goto (tgt := 2684) hx hb dL_law_2306 (by decide) ?_
    exact K S1 M1 x1 d _ _ _ _ _ rr hP hS (lv_sub hl [2, 3, 4, 5, 6, 7] rfl) (by show cl + 1 + 0 + 0 ≤ _; omega) (by show sl + 6 + 0 + 0 ≤ _; omega)
  have hk : M1.1 7 = 0 := hk
  refine lv_aload_n hx hb dL_law_2294 rfl (lv_at hl 6 rfl) ?_
  refine lv_iconst (v := 0) hx hb dL_law_2295 (by decide) ?_
  refine j_lald (S := S1) (M := M1) (x := x1) (d := d) X hP dL_law_2296 ?_
  refine lv_iload hx hb dL_law_2297 (lv_at hl 0 rfl) ?_
  refine lv_i2l hx hb dL_law_2299 rfl ?_
  refine W.lcmp hx hb dL_law_2300 ?_
  rw [ek hk, lg_cmp_s]
  refine lv_if_eq (tgt := 2306) hx hb dL_law_2301 (by decide) (fun _ => ?_) (fun c => absurd rfl c)
  refine lv_goto (tgt := 2684) hx hb dL_law_2306 (by decide) ?_
  exact K S1 M1 x1 d _ _ _ _ _ rr hP hS (lv_sub hl [2, 3, 4, 5, 6, 7] rfl) (by show cl + 1 + 0 + 0 ≤ _; omega) (by show sl + 6 + 0 + 0 ≤ _; omega)
theorem lc_57 (X : gX p s m #[.ref b] c cL_law 10 "GranaryWatchLaw" (kR kTab kA)) (hXs : va_X b L xs s s.heap) (hbl : b < s.heap.size) (hb1 : s.heap.size ≤ b1) (hap : APJ b1 b2 o1 o2) (hl0 : l.stackTraces = false) (hnn : NNAN) (hn2 : NN2) (hn : 6 * n + 6 ≤ L) (hL : L ≤ 3072) (r : Rel S M) (hP : jP dC dI cg kA b1 b2 o1 o2 cL cD (S, M, x, d) s H) (hS : va_S (fun q => s.heap.size ≤ q) s.heap H locs) (hl : lv_has ls 10 [(5, .int (nI (6 * n))), (0, .ref b), (1, .ref (caOf b1 0)), (2, .ref (adOf b2 25)), (3, .ref o1), (4, .ref o2)]) (hcl : cl + 403 ≤ 601024) (hsl : sl + 3826 ≤ 7293034) (K : LK p l e s m below meth c Q dC dI cg kA b b1 b2 o1 o2 n cL cD cl sl) : W p l e room_1 s m #[.ref b] below meth c H locs cl sl Q (F0 m 2489 ls []) := by
  have hx := X.hx
  have hb := X.hb
  have hz := hS.1
  have hb2 : s.heap.size ≤ b2 := by
    have := hap.1
    omega
  refine lv_aload_n hx hb dL_law_2489 rfl (lv_at hl 2 rfl) ?_
  refine lv_aload_n hx hb dL_law_2490 rfl (lv_at hl 1 rfl) ?_
  refine lv_iload hx hb dL_law_2491 (lv_at hl 0 rfl) ?_
  refine lv_iconst (v := 1) hx hb dL_law_2493 (by decide) ?_
  refine lv_iadd hx hb dL_law_2494 ?_
  rw [show nI (6 * n) + (1 : Int32) = nI (6 * n + 1) from nI_k]
  refine va_sld hx hb hXs hbl (Nat.not_le.mpr hbl) hS (sin hn hL (by decide)) dL_law_2495 ?_
  refine lv_aload_n hx hb dL_law_2496 rfl (lv_at hl 4 rfl) ?_
  obtain ⟨y, S1, M1, x1, e2, rr, ek, hM⟩ := xw_setMilk (dC := dC) (dI := dI) (cg := cg) (kA := kA) (cL := cL) (cD := cD) (x := x) (d := d) hl0 hap r (xs (nI (6 * n + 1)).toNatClampNeg)
  refine gCallX X jOK hM (vx_cwSW 3 X.hts (gT_X tw1567 tw1568 tw0 tw1569) rfl rfl rfl ⟨by decide, by decide, by decide +kernel⟩ ⟨Nat.le_of_ble_eq_true rfl, Nat.le_of_ble_eq_true rfl⟩) rfl hP hS (jA4 hap hb1 hS.1) hl.1 (Nat.le_of_ble_eq_true rfl) ⟨by show cl + 1 ≤ 601024; omega, by show sl + 6 ≤ 7293034; omega⟩ dL_law_2497 (As := [.ref (caOf b1 0), .int (xs (nI (6 * n + 1)).toNatClampNeg), .ref o1]) (rest := []) rfl (fun H locs hP hS => ?_)
  refine lv_istore (lv' := [(6, .int (M1.1 7)), (5, .int (nI (6 * n))), (0, .ref b), (1, .ref (caOf b1 0)), (2, .ref (adOf b2 25)), (3, .ref o1), (4, .ref o2)]) hx hb dL_law_2500 hl (by decide) rfl (fun ls hl => ?_)
  refine lv_aload_n hx hb dL_law_2502 rfl (lv_at hl 4 rfl) ?_
  refine lv_aload_n hx hb dL_law_2503 rfl (lv_at hl 2 rfl) ?_
  refine lv_iload hx hb dL_law_2504 (lv_at hl 1 rfl) ?_
  refine lv_iconst (v := 1) hx hb dL_law_2506 (by decide) ?_
  refine lv_iadd hx hb dL_law_2507 ?_
  rw [show nI (6 * n) + (1 : Int32) = nI (6 * n + 1) from nI_k]
  refine va_sld hx hb hXs hbl (Nat.not_le.mpr hbl) hS (sin hn hL (by decide)) dL_law_2508 ?_
  refine gCallWI X (gF_ok mOK (fsM hap)) ((gMetIA.of (vX11_setMilk e2)).lift (fsM hap)) (cwV 1 X.hts (gT_V tw2275 tw2276 tw2277 tw31 tw2278) rfl rfl rfl ⟨rfl, by decide, by decide, by decide +kernel⟩ ⟨Nat.le_of_ble_eq_true rfl, Nat.le_of_ble_eq_true rfl⟩) rfl (j_fm hP) hS (jA3 hb2 hS.1) (mrec hP.2.1) hl.1 (Nat.le_of_ble_eq_true rfl) ⟨by show cl + 1 + 0 ≤ 601024; omega, by show sl + 6 + 0 ≤ 7293034; omega⟩ dL_law_2509 (As := [.int (xs (nI (6 * n + 1)).toNatClampNeg)]) (rest := []) rfl (fun H locs hP hS => ?_)
  have hP := j_of hP
  refine lv_istore (lv' := [(7, .int y), (6, .int (M1.1 7)), (5, .int (nI (6 * n))), (0, .ref b), (1, .ref (caOf b1 0)), (2, .ref (adOf b2 25)), (3, .ref o1), (4, .ref o2)]) hx hb dL_law_2512 hl (by decide) rfl (fun ls hl => ?_)
  refine lv_aload_n hx hb dL_law_2514 rfl (lv_at hl 5 rfl) ?_
  refine gCallWI X (gF_ok mOK (fsM hap)) ((gMetR_IA mOK (vX11_thrown (M := M1) (r := M1.1 7) rfl)).lift (fsM hap)) (cwV 0 X.hts (gT_V tw1741 tw1742 tw1743 tw31 tw1744) rfl rfl rfl ⟨rfl, by decide, by decide, by decide +kernel⟩ ⟨Nat.le_of_ble_eq_true rfl, Nat.le_of_ble_eq_true rfl⟩) rfl (j_fm hP) hS (jA3 hb2 hS.1) (mrec hP.2.1) hl.1 (Nat.le_of_ble_eq_true rfl) ⟨by show cl + 1 + 0 + 0 ≤ 601024; omega, by show sl + 6 + 0 + 0 ≤ 7293034; omega⟩ dL_law_2515 (As := []) (rest := []) rfl (fun H locs hP hS => ?_)
  have hP := j_of hP
  refine lv_iload hx hb dL_law_2518 (lv_at hl 1 rfl) ?_
  refine lv_icmp_eq (tgt := 2525) hx hb dL_law_2520 (by decide) (fun _ => ?_) (fun c => absurd rfl c)
  refine lv_iload hx hb dL_law_2525 (lv_at hl 1 rfl) ?_
  refine lv_if_ne (tgt := 2542) hx hb dL_law_2527 (by decide) (fun _ => ?_) (fun hk => ?_)
  · refine lv_goto (tgt := 2684) hx hb dL_law_2542 (by decide) ?_
    exact K S1 M1 x1 d _ _ _ _ _ rr hP hS (lv_sub hl [2, 3, 4, 5, 6, 7] rfl) (by show cl + 1 + 0 + 0 ≤ _; omega) (by show sl + 6 + 0 + 0 ≤ _; omega)
  have hk : M1.1 7 = 0 := hk
  refine lv_aload_n hx hb dL_law_2530 rfl (lv_at hl 6 rfl) ?_
  refine lv_iconst (v := 0) hx hb dL_law_2531 (by decide) ?_
  refine j_lald (S := S1) (M := M1) (x := x1) (d := d) X hP dL_law_2532 ?_
  refine lv_iload hx hb dL_law_2533 (lv_at hl 0 rfl) ?_
  refine lv_i2l hx hb dL_law_2535 rfl ?_
  refine W.lcmp hx hb dL_law_2536 ?_
  rw [ek hk, lg_cmp_s]
  refine lv_if_eq (tgt := 2542) hx hb dL_law_2537 (by decide) (fun _ => ?_) (fun c => absurd rfl c)
  refine lv_goto (tgt := 2684) hx hb dL_law_2542 (by decide) ?_
  exact K S1 M1 x1 d _ _ _ _ _ rr hP hS (lv_sub hl [2, 3, 4, 5, 6, 7] rfl) (by show cl + 1 + 0 + 0 ≤ _; omega) (by show sl + 6 + 0 + 0 ≤ _; omega)
theorem lc_62 (X : gX p s m #[.ref b] c cL_law 10 "GranaryWatchLaw" (kR kTab kA)) (hXs : va_X b L xs s s.heap) (hbl : b < s.heap.size) (hb1 : s.heap.size ≤ b1) (hap : APJ b1 b2 o1 o2) (hl0 : l.stackTraces = false) (hnn : NNAN) (hn2 : NN2) (hn : 6 * n + 6 ≤ L) (hL : L ≤ 3072) (r : Rel S M) (hP : jP dC dI cg kA b1 b2 o1 o2 cL cD (S, M, x, d) s H) (hS : va_S (fun q => s.heap.size ≤ q) s.heap H locs) (hl : lv_has ls 10 [(5, .int (nI (6 * n))), (0, .ref b), (1, .ref (caOf b1 0)), (2, .ref (adOf b2 25)), (3, .ref o1), (4, .ref o2)]) (hcl : cl + 403 ≤ 601024) (hsl : sl + 3826 ≤ 7293034) (K : LK p l e s m below meth c Q dC dI cg kA b b1 b2 o1 o2 n cL cD cl sl) : W p l e room_1 s m #[.ref b] below meth c H locs cl sl Q (F0 m 2640 ls []) := by
  have hx := X.hx
  have hb := X.hb
  have hz := hS.1
  have hb2 : s.heap.size ≤ b2 := by
    have := hap.1
    omega
  refine lv_aload_n hx hb dL_law_2640 rfl (lv_at hl 2 rfl) ?_
  refine lv_aload_n hx hb dL_law_2641 rfl (lv_at hl 4 rfl) ?_
  obtain ⟨y, S1, M1, x1, e2, rr, ek, hM⟩ := xw_restoreState (dC := dC) (dI := dI) (cg := cg) (kA := kA) (cL := cL) (cD := cD) (x := x) (d := d) hl0 hap r 
  refine gCallX X jOK hM (vx_cwSW 2 X.hts (gT_X tw1599 tw1600 tw0 tw1601) rfl rfl rfl ⟨by decide, by decide, by decide +kernel⟩ ⟨Nat.le_of_ble_eq_true rfl, Nat.le_of_ble_eq_true rfl⟩) rfl hP hS (jA4 hap hb1 hS.1) hl.1 (Nat.le_of_ble_eq_true rfl) ⟨by show cl + 1 ≤ 601024; omega, by show sl + 6 ≤ 7293034; omega⟩ dL_law_2642 (As := [.ref (caOf b1 0), .ref o1]) (rest := []) rfl (fun H locs hP hS => ?_)
  refine lv_istore (lv' := [(6, .int (M1.1 7)), (5, .int (nI (6 * n))), (0, .ref b), (1, .ref (caOf b1 0)), (2, .ref (adOf b2 25)), (3, .ref o1), (4, .ref o2)]) hx hb dL_law_2645 hl (by decide) rfl (fun ls hl => ?_)
  refine lv_aload_n hx hb dL_law_2647 rfl (lv_at hl 4 rfl) ?_
  refine gCallWI X (gF_ok mOK (fsM hap)) ((gMetIA.of (vX11_restoreState e2)).lift (fsM hap)) (cwV 0 X.hts (gT_V tw2303 tw2304 tw2305 tw31 tw2306) rfl rfl rfl ⟨rfl, by decide, by decide, by decide +kernel⟩ ⟨Nat.le_of_ble_eq_true rfl, Nat.le_of_ble_eq_true rfl⟩) rfl (j_fm hP) hS (jA3 hb2 hS.1) (mrec hP.2.1) hl.1 (Nat.le_of_ble_eq_true rfl) ⟨by show cl + 1 + 0 ≤ 601024; omega, by show sl + 6 + 0 ≤ 7293034; omega⟩ dL_law_2648 (As := []) (rest := []) rfl (fun H locs hP hS => ?_)
  have hP := j_of hP
  refine lv_istore (lv' := [(7, .int y), (6, .int (M1.1 7)), (5, .int (nI (6 * n))), (0, .ref b), (1, .ref (caOf b1 0)), (2, .ref (adOf b2 25)), (3, .ref o1), (4, .ref o2)]) hx hb dL_law_2651 hl (by decide) rfl (fun ls hl => ?_)
  refine lv_aload_n hx hb dL_law_2653 rfl (lv_at hl 5 rfl) ?_
  refine gCallWI X (gF_ok mOK (fsM hap)) ((gMetR_IA mOK (vX11_thrown (M := M1) (r := M1.1 7) rfl)).lift (fsM hap)) (cwV 0 X.hts (gT_V tw1741 tw1742 tw1743 tw31 tw1744) rfl rfl rfl ⟨rfl, by decide, by decide, by decide +kernel⟩ ⟨Nat.le_of_ble_eq_true rfl, Nat.le_of_ble_eq_true rfl⟩) rfl (j_fm hP) hS (jA3 hb2 hS.1) (mrec hP.2.1) hl.1 (Nat.le_of_ble_eq_true rfl) ⟨by show cl + 1 + 0 + 0 ≤ 601024; omega, by show sl + 6 + 0 + 0 ≤ 7293034; omega⟩ dL_law_2654 (As := []) (rest := []) rfl (fun H locs hP hS => ?_)
  have hP := j_of hP
  refine lv_iload hx hb dL_law_2657 (lv_at hl 1 rfl) ?_
  refine lv_icmp_eq (tgt := 2664) hx hb dL_law_2659 (by decide) (fun _ => ?_) (fun c => absurd rfl c)
  refine lv_iload hx hb dL_law_2664 (lv_at hl 1 rfl) ?_
  refine lv_if_ne (tgt := 2681) hx hb dL_law_2666 (by decide) (fun _ => ?_) (fun hk => ?_)
  · refine lv_goto (tgt := 2684) hx hb dL_law_2681 (by decide) ?_
    exact K S1 M1 x1 d _ _ _ _ _ rr hP hS (lv_sub hl [2, 3, 4, 5, 6, 7] rfl) (by show cl + 1 + 0 + 0 ≤ _; omega) (by show sl + 6 + 0 + 0 ≤ _; omega)
  have hk : M1.1 7 = 0 := hk
  refine lv_aload_n hx hb dL_law_2669 rfl (lv_at hl 6 rfl) ?_
  refine lv_iconst (v := 0) hx hb dL_law_2670 (by decide) ?_
  refine j_lald (S := S1) (M := M1) (x := x1) (d := d) X hP dL_law_2671 ?_
  refine lv_iload hx hb dL_law_2672 (lv_at hl 0 rfl) ?_
  refine lv_i2l hx hb dL_law_2674 rfl ?_
  refine W.lcmp hx hb dL_law_2675 ?_
  rw [ek hk, lg_cmp_s]
  refine lv_if_eq (tgt := 2681) hx hb dL_law_2676 (by decide) (fun _ => ?_) (fun c => absurd rfl c)
  refine lv_goto (tgt := 2684) hx hb dL_law_2681 (by decide) ?_
  exact K S1 M1 x1 d _ _ _ _ _ rr hP hS (lv_sub hl [2, 3, 4, 5, 6, 7] rfl) (by show cl + 1 + 0 + 0 ≤ _; omega) (by show sl + 6 + 0 + 0 ≤ _; omega)
end LAW
