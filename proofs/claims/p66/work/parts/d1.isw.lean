theorem tw811 : (Jvm.Cond.classLink "GranaryWatchLaw" (48 : Nat) "GranaryWatchLaw$Cat") ∈ TBG := tb_t 811 (by decide +kernel) (by decide +kernel)
theorem tw945 : (Jvm.Cond.classLink "GranaryWatchLaw" (144 : Nat) "GranaryWatchLaw$Sack") ∈ TBG := tb_t 945 (by decide +kernel) (by decide +kernel)
theorem tw998 : (Jvm.Cond.methodLink "GranaryWatchLaw" (27 : Nat) ({ cls := "GranaryWatch", name := "clock", desc := "()I" } : Jvm.MethodName)) ∈ TBG := tb_t 998 (by decide +kernel) (by decide +kernel)
theorem tw999 : (Jvm.Cond.instanceMethod ({ cls := "GranaryWatch", name := "clock", desc := "()I" } : Jvm.MethodName)) ∈ TBG := tb_t 999 (by decide +kernel) (by decide +kernel)
theorem tw1000 : (Jvm.Cond.selects "GranaryWatch" ({ cls := "GranaryWatch", name := "clock", desc := "()I" } : Jvm.MethodName) ({ cls := "GranaryWatch", name := "clock", desc := "()I" } : Jvm.MethodName)) ∈ TBG := tb_t 1000 (by decide +kernel) (by decide +kernel)
theorem tw1001 : (Jvm.Cond.code ({ cls := "GranaryWatch", name := "clock", desc := "()I" } : Jvm.MethodName) prog_1_method_8_code (1 : Nat) (Option.some Jvm.ClassFile.FieldType.int)) ∈ TBG := tb_t 1001 (by decide +kernel) (by decide +kernel)
theorem tw1002 : (Jvm.Cond.methodLink "GranaryWatchLaw" (35 : Nat) ({ cls := "GranaryWatch", name := "milk", desc := "()I" } : Jvm.MethodName)) ∈ TBG := tb_t 1002 (by decide +kernel) (by decide +kernel)
theorem tw1003 : (Jvm.Cond.instanceMethod ({ cls := "GranaryWatch", name := "milk", desc := "()I" } : Jvm.MethodName)) ∈ TBG := tb_t 1003 (by decide +kernel) (by decide +kernel)
theorem tw1004 : (Jvm.Cond.selects "GranaryWatch" ({ cls := "GranaryWatch", name := "milk", desc := "()I" } : Jvm.MethodName) ({ cls := "GranaryWatch", name := "milk", desc := "()I" } : Jvm.MethodName)) ∈ TBG := tb_t 1004 (by decide +kernel) (by decide +kernel)
theorem tw1005 : (Jvm.Cond.code ({ cls := "GranaryWatch", name := "milk", desc := "()I" } : Jvm.MethodName) prog_1_method_36_code (1 : Nat) (Option.some Jvm.ClassFile.FieldType.int)) ∈ TBG := tb_t 1005 (by decide +kernel) (by decide +kernel)
theorem tw1006 : (Jvm.Cond.methodLink "GranaryWatchLaw" (40 : Nat) ({ cls := "GranaryWatch", name := "swornCat", desc := "()I" } : Jvm.MethodName)) ∈ TBG := tb_t 1006 (by decide +kernel) (by decide +kernel)
theorem tw1007 : (Jvm.Cond.instanceMethod ({ cls := "GranaryWatch", name := "swornCat", desc := "()I" } : Jvm.MethodName)) ∈ TBG := tb_t 1007 (by decide +kernel) (by decide +kernel)
theorem tw1008 : (Jvm.Cond.selects "GranaryWatch" ({ cls := "GranaryWatch", name := "swornCat", desc := "()I" } : Jvm.MethodName) ({ cls := "GranaryWatch", name := "swornCat", desc := "()I" } : Jvm.MethodName)) ∈ TBG := tb_t 1008 (by decide +kernel) (by decide +kernel)
theorem tw1009 : (Jvm.Cond.code ({ cls := "GranaryWatch", name := "swornCat", desc := "()I" } : Jvm.MethodName) prog_1_method_25_code (1 : Nat) (Option.some Jvm.ClassFile.FieldType.int)) ∈ TBG := tb_t 1009 (by decide +kernel) (by decide +kernel)
theorem tw1010 : (Jvm.Cond.methodLink "GranaryWatchLaw" (52 : Nat) ({ cls := "GranaryWatch", name := "currentShift", desc := "()I" } : Jvm.MethodName)) ∈ TBG := tb_t 1010 (by decide +kernel) (by decide +kernel)
theorem tw1011 : (Jvm.Cond.instanceMethod ({ cls := "GranaryWatch", name := "currentShift", desc := "()I" } : Jvm.MethodName)) ∈ TBG := tb_t 1011 (by decide +kernel) (by decide +kernel)
theorem tw1012 : (Jvm.Cond.selects "GranaryWatch" ({ cls := "GranaryWatch", name := "currentShift", desc := "()I" } : Jvm.MethodName) ({ cls := "GranaryWatch", name := "currentShift", desc := "()I" } : Jvm.MethodName)) ∈ TBG := tb_t 1012 (by decide +kernel) (by decide +kernel)
theorem tw1013 : (Jvm.Cond.code ({ cls := "GranaryWatch", name := "currentShift", desc := "()I" } : Jvm.MethodName) prog_1_method_26_code (1 : Nat) (Option.some Jvm.ClassFile.FieldType.int)) ∈ TBG := tb_t 1013 (by decide +kernel) (by decide +kernel)
theorem tw1014 : (Jvm.Cond.methodLink "GranaryWatchLaw" (58 : Nat) ({ cls := "GranaryWatch", name := "hoursLeft", desc := "()I" } : Jvm.MethodName)) ∈ TBG := tb_t 1014 (by decide +kernel) (by decide +kernel)
theorem tw1015 : (Jvm.Cond.instanceMethod ({ cls := "GranaryWatch", name := "hoursLeft", desc := "()I" } : Jvm.MethodName)) ∈ TBG := tb_t 1015 (by decide +kernel) (by decide +kernel)
theorem tw1016 : (Jvm.Cond.selects "GranaryWatch" ({ cls := "GranaryWatch", name := "hoursLeft", desc := "()I" } : Jvm.MethodName) ({ cls := "GranaryWatch", name := "hoursLeft", desc := "()I" } : Jvm.MethodName)) ∈ TBG := tb_t 1016 (by decide +kernel) (by decide +kernel)
theorem tw1017 : (Jvm.Cond.code ({ cls := "GranaryWatch", name := "hoursLeft", desc := "()I" } : Jvm.MethodName) prog_1_method_27_code (1 : Nat) (Option.some Jvm.ClassFile.FieldType.int)) ∈ TBG := tb_t 1017 (by decide +kernel) (by decide +kernel)
theorem tw1018 : (Jvm.Cond.methodLink "GranaryWatchLaw" (64 : Nat) ({ cls := "GranaryWatch", name := "totalCaught", desc := "()I" } : Jvm.MethodName)) ∈ TBG := tb_t 1018 (by decide +kernel) (by decide +kernel)
theorem tw1019 : (Jvm.Cond.instanceMethod ({ cls := "GranaryWatch", name := "totalCaught", desc := "()I" } : Jvm.MethodName)) ∈ TBG := tb_t 1019 (by decide +kernel) (by decide +kernel)
theorem tw1020 : (Jvm.Cond.selects "GranaryWatch" ({ cls := "GranaryWatch", name := "totalCaught", desc := "()I" } : Jvm.MethodName) ({ cls := "GranaryWatch", name := "totalCaught", desc := "()I" } : Jvm.MethodName)) ∈ TBG := tb_t 1020 (by decide +kernel) (by decide +kernel)
theorem tw1021 : (Jvm.Cond.code ({ cls := "GranaryWatch", name := "totalCaught", desc := "()I" } : Jvm.MethodName) prog_1_method_44_code (1 : Nat) (Option.some Jvm.ClassFile.FieldType.int)) ∈ TBG := tb_t 1021 (by decide +kernel) (by decide +kernel)
theorem tw1022 : (Jvm.Cond.methodLink "GranaryWatchLaw" (70 : Nat) ({ cls := "GranaryWatch", name := "totalEaten", desc := "()I" } : Jvm.MethodName)) ∈ TBG := tb_t 1022 (by decide +kernel) (by decide +kernel)
theorem tw1023 : (Jvm.Cond.instanceMethod ({ cls := "GranaryWatch", name := "totalEaten", desc := "()I" } : Jvm.MethodName)) ∈ TBG := tb_t 1023 (by decide +kernel) (by decide +kernel)
theorem tw1024 : (Jvm.Cond.selects "GranaryWatch" ({ cls := "GranaryWatch", name := "totalEaten", desc := "()I" } : Jvm.MethodName) ({ cls := "GranaryWatch", name := "totalEaten", desc := "()I" } : Jvm.MethodName)) ∈ TBG := tb_t 1024 (by decide +kernel) (by decide +kernel)
theorem tw1025 : (Jvm.Cond.code ({ cls := "GranaryWatch", name := "totalEaten", desc := "()I" } : Jvm.MethodName) prog_1_method_45_code (1 : Nat) (Option.some Jvm.ClassFile.FieldType.int)) ∈ TBG := tb_t 1025 (by decide +kernel) (by decide +kernel)
theorem tw1026 : (Jvm.Cond.methodLink "GranaryWatchLaw" (76 : Nat) ({ cls := "GranaryWatch", name := "totalBorn", desc := "()I" } : Jvm.MethodName)) ∈ TBG := tb_t 1026 (by decide +kernel) (by decide +kernel)
theorem tw1027 : (Jvm.Cond.instanceMethod ({ cls := "GranaryWatch", name := "totalBorn", desc := "()I" } : Jvm.MethodName)) ∈ TBG := tb_t 1027 (by decide +kernel) (by decide +kernel)
theorem tw1028 : (Jvm.Cond.selects "GranaryWatch" ({ cls := "GranaryWatch", name := "totalBorn", desc := "()I" } : Jvm.MethodName) ({ cls := "GranaryWatch", name := "totalBorn", desc := "()I" } : Jvm.MethodName)) ∈ TBG := tb_t 1028 (by decide +kernel) (by decide +kernel)
theorem tw1029 : (Jvm.Cond.code ({ cls := "GranaryWatch", name := "totalBorn", desc := "()I" } : Jvm.MethodName) prog_1_method_46_code (1 : Nat) (Option.some Jvm.ClassFile.FieldType.int)) ∈ TBG := tb_t 1029 (by decide +kernel) (by decide +kernel)
theorem tw1030 : (Jvm.Cond.methodLink "GranaryWatchLaw" (82 : Nat) ({ cls := "GranaryWatch", name := "totalStarved", desc := "()I" } : Jvm.MethodName)) ∈ TBG := tb_t 1030 (by decide +kernel) (by decide +kernel)
theorem tw1031 : (Jvm.Cond.instanceMethod ({ cls := "GranaryWatch", name := "totalStarved", desc := "()I" } : Jvm.MethodName)) ∈ TBG := tb_t 1031 (by decide +kernel) (by decide +kernel)
theorem tw1032 : (Jvm.Cond.selects "GranaryWatch" ({ cls := "GranaryWatch", name := "totalStarved", desc := "()I" } : Jvm.MethodName) ({ cls := "GranaryWatch", name := "totalStarved", desc := "()I" } : Jvm.MethodName)) ∈ TBG := tb_t 1032 (by decide +kernel) (by decide +kernel)
theorem tw1033 : (Jvm.Cond.code ({ cls := "GranaryWatch", name := "totalStarved", desc := "()I" } : Jvm.MethodName) prog_1_method_47_code (1 : Nat) (Option.some Jvm.ClassFile.FieldType.int)) ∈ TBG := tb_t 1033 (by decide +kernel) (by decide +kernel)
theorem tw1034 : (Jvm.Cond.methodLink "GranaryWatchLaw" (88 : Nat) ({ cls := "GranaryWatch", name := "totalOaths", desc := "()I" } : Jvm.MethodName)) ∈ TBG := tb_t 1034 (by decide +kernel) (by decide +kernel)
theorem tw1035 : (Jvm.Cond.instanceMethod ({ cls := "GranaryWatch", name := "totalOaths", desc := "()I" } : Jvm.MethodName)) ∈ TBG := tb_t 1035 (by decide +kernel) (by decide +kernel)
theorem tw1036 : (Jvm.Cond.selects "GranaryWatch" ({ cls := "GranaryWatch", name := "totalOaths", desc := "()I" } : Jvm.MethodName) ({ cls := "GranaryWatch", name := "totalOaths", desc := "()I" } : Jvm.MethodName)) ∈ TBG := tb_t 1036 (by decide +kernel) (by decide +kernel)
theorem tw1037 : (Jvm.Cond.code ({ cls := "GranaryWatch", name := "totalOaths", desc := "()I" } : Jvm.MethodName) prog_1_method_48_code (1 : Nat) (Option.some Jvm.ClassFile.FieldType.int)) ∈ TBG := tb_t 1037 (by decide +kernel) (by decide +kernel)
theorem tw1038 : (Jvm.Cond.methodLink "GranaryWatchLaw" (94 : Nat) ({ cls := "GranaryWatch", name := "totalRefusals", desc := "()I" } : Jvm.MethodName)) ∈ TBG := tb_t 1038 (by decide +kernel) (by decide +kernel)
theorem tw1039 : (Jvm.Cond.instanceMethod ({ cls := "GranaryWatch", name := "totalRefusals", desc := "()I" } : Jvm.MethodName)) ∈ TBG := tb_t 1039 (by decide +kernel) (by decide +kernel)
theorem tw1040 : (Jvm.Cond.selects "GranaryWatch" ({ cls := "GranaryWatch", name := "totalRefusals", desc := "()I" } : Jvm.MethodName) ({ cls := "GranaryWatch", name := "totalRefusals", desc := "()I" } : Jvm.MethodName)) ∈ TBG := tb_t 1040 (by decide +kernel) (by decide +kernel)
theorem tw1041 : (Jvm.Cond.code ({ cls := "GranaryWatch", name := "totalRefusals", desc := "()I" } : Jvm.MethodName) prog_1_method_49_code (1 : Nat) (Option.some Jvm.ClassFile.FieldType.int)) ∈ TBG := tb_t 1041 (by decide +kernel) (by decide +kernel)
theorem tw1043 : (Jvm.Cond.methodLink "GranaryWatchLaw" (104 : Nat) ({ cls := "java/util/List", name := "iterator", desc := "()Ljava/util/Iterator;" } : Jvm.MethodName)) ∈ TBG := tb_t 1043 (by decide +kernel) (by decide +kernel)
theorem tw1072 : (Jvm.Cond.methodLink "GranaryWatchLaw" (110 : Nat) ({ cls := "java/util/Iterator", name := "hasNext", desc := "()Z" } : Jvm.MethodName)) ∈ TBG := tb_t 1072 (by decide +kernel) (by decide +kernel)
theorem tw1082 : (Jvm.Cond.methodLink "GranaryWatchLaw" (116 : Nat) ({ cls := "java/util/Iterator", name := "next", desc := "()Ljava/lang/Object;" } : Jvm.MethodName)) ∈ TBG := tb_t 1082 (by decide +kernel) (by decide +kernel)
theorem tw1094 : (Jvm.Cond.methodLink "GranaryWatchLaw" (120 : Nat) ({ cls := "GranaryWatch", name := "tirednessOf", desc := "(I)I" } : Jvm.MethodName)) ∈ TBG := tb_t 1094 (by decide +kernel) (by decide +kernel)
theorem tw1095 : (Jvm.Cond.instanceMethod ({ cls := "GranaryWatch", name := "tirednessOf", desc := "(I)I" } : Jvm.MethodName)) ∈ TBG := tb_t 1095 (by decide +kernel) (by decide +kernel)
theorem tw1096 : (Jvm.Cond.selects "GranaryWatch" ({ cls := "GranaryWatch", name := "tirednessOf", desc := "(I)I" } : Jvm.MethodName) ({ cls := "GranaryWatch", name := "tirednessOf", desc := "(I)I" } : Jvm.MethodName)) ∈ TBG := tb_t 1096 (by decide +kernel) (by decide +kernel)
theorem tw1097 : (Jvm.Cond.code ({ cls := "GranaryWatch", name := "tirednessOf", desc := "(I)I" } : Jvm.MethodName) prog_1_method_17_code (2 : Nat) (Option.some Jvm.ClassFile.FieldType.int)) ∈ TBG := tb_t 1097 (by decide +kernel) (by decide +kernel)
theorem tw1169 : (Jvm.Cond.methodLink "GranaryWatchLaw" (127 : Nat) ({ cls := "GranaryWatch", name := "strengthOf", desc := "(I)I" } : Jvm.MethodName)) ∈ TBG := tb_t 1169 (by decide +kernel) (by decide +kernel)
theorem tw1170 : (Jvm.Cond.instanceMethod ({ cls := "GranaryWatch", name := "strengthOf", desc := "(I)I" } : Jvm.MethodName)) ∈ TBG := tb_t 1170 (by decide +kernel) (by decide +kernel)
theorem tw1171 : (Jvm.Cond.selects "GranaryWatch" ({ cls := "GranaryWatch", name := "strengthOf", desc := "(I)I" } : Jvm.MethodName) ({ cls := "GranaryWatch", name := "strengthOf", desc := "(I)I" } : Jvm.MethodName)) ∈ TBG := tb_t 1171 (by decide +kernel) (by decide +kernel)
theorem tw1172 : (Jvm.Cond.code ({ cls := "GranaryWatch", name := "strengthOf", desc := "(I)I" } : Jvm.MethodName) prog_1_method_18_code (2 : Nat) (Option.some Jvm.ClassFile.FieldType.int)) ∈ TBG := tb_t 1172 (by decide +kernel) (by decide +kernel)
theorem tw1178 : (Jvm.Cond.methodLink "GranaryWatchLaw" (130 : Nat) ({ cls := "GranaryWatchLaw$Cat", name := "strength", desc := "()I" } : Jvm.MethodName)) ∈ TBG := tb_t 1178 (by decide +kernel) (by decide +kernel)
theorem tw1182 : (Jvm.Cond.methodLink "GranaryWatchLaw" (133 : Nat) ({ cls := "GranaryWatch", name := "caughtBy", desc := "(I)I" } : Jvm.MethodName)) ∈ TBG := tb_t 1182 (by decide +kernel) (by decide +kernel)
theorem tw1183 : (Jvm.Cond.instanceMethod ({ cls := "GranaryWatch", name := "caughtBy", desc := "(I)I" } : Jvm.MethodName)) ∈ TBG := tb_t 1183 (by decide +kernel) (by decide +kernel)
theorem tw1184 : (Jvm.Cond.selects "GranaryWatch" ({ cls := "GranaryWatch", name := "caughtBy", desc := "(I)I" } : Jvm.MethodName) ({ cls := "GranaryWatch", name := "caughtBy", desc := "(I)I" } : Jvm.MethodName)) ∈ TBG := tb_t 1184 (by decide +kernel) (by decide +kernel)
theorem tw1185 : (Jvm.Cond.code ({ cls := "GranaryWatch", name := "caughtBy", desc := "(I)I" } : Jvm.MethodName) prog_1_method_19_code (2 : Nat) (Option.some Jvm.ClassFile.FieldType.int)) ∈ TBG := tb_t 1185 (by decide +kernel) (by decide +kernel)
theorem tw1186 : (Jvm.Cond.methodLink "GranaryWatchLaw" (137 : Nat) ({ cls := "GranaryWatch", name := "oathsOf", desc := "(I)I" } : Jvm.MethodName)) ∈ TBG := tb_t 1186 (by decide +kernel) (by decide +kernel)
theorem tw1187 : (Jvm.Cond.instanceMethod ({ cls := "GranaryWatch", name := "oathsOf", desc := "(I)I" } : Jvm.MethodName)) ∈ TBG := tb_t 1187 (by decide +kernel) (by decide +kernel)
theorem tw1188 : (Jvm.Cond.selects "GranaryWatch" ({ cls := "GranaryWatch", name := "oathsOf", desc := "(I)I" } : Jvm.MethodName) ({ cls := "GranaryWatch", name := "oathsOf", desc := "(I)I" } : Jvm.MethodName)) ∈ TBG := tb_t 1188 (by decide +kernel) (by decide +kernel)
theorem tw1189 : (Jvm.Cond.code ({ cls := "GranaryWatch", name := "oathsOf", desc := "(I)I" } : Jvm.MethodName) prog_1_method_20_code (2 : Nat) (Option.some Jvm.ClassFile.FieldType.int)) ∈ TBG := tb_t 1189 (by decide +kernel) (by decide +kernel)
theorem tw1190 : (Jvm.Cond.methodLink "GranaryWatchLaw" (147 : Nat) ({ cls := "GranaryWatch", name := "grainIn", desc := "(I)I" } : Jvm.MethodName)) ∈ TBG := tb_t 1190 (by decide +kernel) (by decide +kernel)
theorem tw1191 : (Jvm.Cond.instanceMethod ({ cls := "GranaryWatch", name := "grainIn", desc := "(I)I" } : Jvm.MethodName)) ∈ TBG := tb_t 1191 (by decide +kernel) (by decide +kernel)
theorem tw1192 : (Jvm.Cond.selects "GranaryWatch" ({ cls := "GranaryWatch", name := "grainIn", desc := "(I)I" } : Jvm.MethodName) ({ cls := "GranaryWatch", name := "grainIn", desc := "(I)I" } : Jvm.MethodName)) ∈ TBG := tb_t 1192 (by decide +kernel) (by decide +kernel)
theorem tw1193 : (Jvm.Cond.code ({ cls := "GranaryWatch", name := "grainIn", desc := "(I)I" } : Jvm.MethodName) prog_1_method_21_code (2 : Nat) (Option.some Jvm.ClassFile.FieldType.int)) ∈ TBG := tb_t 1193 (by decide +kernel) (by decide +kernel)
theorem tw1199 : (Jvm.Cond.methodLink "GranaryWatchLaw" (153 : Nat) ({ cls := "GranaryWatch", name := "miceIn", desc := "(I)I" } : Jvm.MethodName)) ∈ TBG := tb_t 1199 (by decide +kernel) (by decide +kernel)
theorem tw1200 : (Jvm.Cond.instanceMethod ({ cls := "GranaryWatch", name := "miceIn", desc := "(I)I" } : Jvm.MethodName)) ∈ TBG := tb_t 1200 (by decide +kernel) (by decide +kernel)
theorem tw1201 : (Jvm.Cond.selects "GranaryWatch" ({ cls := "GranaryWatch", name := "miceIn", desc := "(I)I" } : Jvm.MethodName) ({ cls := "GranaryWatch", name := "miceIn", desc := "(I)I" } : Jvm.MethodName)) ∈ TBG := tb_t 1201 (by decide +kernel) (by decide +kernel)
theorem tw1202 : (Jvm.Cond.code ({ cls := "GranaryWatch", name := "miceIn", desc := "(I)I" } : Jvm.MethodName) prog_1_method_22_code (2 : Nat) (Option.some Jvm.ClassFile.FieldType.int)) ∈ TBG := tb_t 1202 (by decide +kernel) (by decide +kernel)
theorem tw1203 : (Jvm.Cond.methodLink "GranaryWatchLaw" (159 : Nat) ({ cls := "GranaryWatch", name := "isOpen", desc := "(I)Z" } : Jvm.MethodName)) ∈ TBG := tb_t 1203 (by decide +kernel) (by decide +kernel)
theorem tw1204 : (Jvm.Cond.instanceMethod ({ cls := "GranaryWatch", name := "isOpen", desc := "(I)Z" } : Jvm.MethodName)) ∈ TBG := tb_t 1204 (by decide +kernel) (by decide +kernel)
theorem tw1205 : (Jvm.Cond.selects "GranaryWatch" ({ cls := "GranaryWatch", name := "isOpen", desc := "(I)Z" } : Jvm.MethodName) ({ cls := "GranaryWatch", name := "isOpen", desc := "(I)Z" } : Jvm.MethodName)) ∈ TBG := tb_t 1205 (by decide +kernel) (by decide +kernel)
theorem tw1206 : (Jvm.Cond.code ({ cls := "GranaryWatch", name := "isOpen", desc := "(I)Z" } : Jvm.MethodName) prog_1_method_23_code (2 : Nat) (Option.some Jvm.ClassFile.FieldType.boolean)) ∈ TBG := tb_t 1206 (by decide +kernel) (by decide +kernel)
theorem tw1207 : (Jvm.Cond.methodLink "GranaryWatchLaw" (165 : Nat) ({ cls := "GranaryWatch", name := "eatenFrom", desc := "(I)I" } : Jvm.MethodName)) ∈ TBG := tb_t 1207 (by decide +kernel) (by decide +kernel)
theorem tw1208 : (Jvm.Cond.instanceMethod ({ cls := "GranaryWatch", name := "eatenFrom", desc := "(I)I" } : Jvm.MethodName)) ∈ TBG := tb_t 1208 (by decide +kernel) (by decide +kernel)
theorem tw1209 : (Jvm.Cond.selects "GranaryWatch" ({ cls := "GranaryWatch", name := "eatenFrom", desc := "(I)I" } : Jvm.MethodName) ({ cls := "GranaryWatch", name := "eatenFrom", desc := "(I)I" } : Jvm.MethodName)) ∈ TBG := tb_t 1209 (by decide +kernel) (by decide +kernel)
theorem tw1210 : (Jvm.Cond.code ({ cls := "GranaryWatch", name := "eatenFrom", desc := "(I)I" } : Jvm.MethodName) prog_1_method_24_code (2 : Nat) (Option.some Jvm.ClassFile.FieldType.int)) ∈ TBG := tb_t 1210 (by decide +kernel) (by decide +kernel)
theorem xw817 : (Jvm.Cond.fieldLinkNest "GranaryWatchLaw" (47 : Nat) "GranaryWatchLaw$Cat" "number" "I" "GranaryWatchLaw") ∈ xws := xt 817 (by decide +kernel) rfl
theorem xw822 : (Jvm.Cond.fieldLinkNest "GranaryWatchLaw" (124 : Nat) "GranaryWatchLaw$Cat" "tired" "I" "GranaryWatchLaw") ∈ xws := xt 822 (by decide +kernel) rfl
theorem xw824 : (Jvm.Cond.fieldLinkNest "GranaryWatchLaw" (136 : Nat) "GranaryWatchLaw$Cat" "caught" "I" "GranaryWatchLaw") ∈ xws := xt 824 (by decide +kernel) rfl
theorem xw826 : (Jvm.Cond.fieldLinkNest "GranaryWatchLaw" (140 : Nat) "GranaryWatchLaw$Cat" "oaths" "I" "GranaryWatchLaw") ∈ xws := xt 826 (by decide +kernel) rfl
theorem xw881 : (Jvm.Cond.fieldLinkNest "GranaryWatchLaw" (100 : Nat) "GranaryWatchLaw$Granary" "cats" "Ljava/util/List;" "GranaryWatchLaw") ∈ xws := xt 881 (by decide +kernel) rfl
theorem xw885 : (Jvm.Cond.fieldLinkNest "GranaryWatchLaw" (141 : Nat) "GranaryWatchLaw$Granary" "sacks" "Ljava/util/List;" "GranaryWatchLaw") ∈ xws := xt 885 (by decide +kernel) rfl
theorem xw889 : (Jvm.Cond.fieldLinkNest "GranaryWatchLaw" (43 : Nat) "GranaryWatchLaw$Granary" "sworn" "LGranaryWatchLaw$Cat;" "GranaryWatchLaw") ∈ xws := xt 889 (by decide +kernel) rfl
theorem xw890 : (Jvm.Cond.fieldLinkNest "GranaryWatchLaw" (30 : Nat) "GranaryWatchLaw$Granary" "clock" "I" "GranaryWatchLaw") ∈ xws := xt 890 (by decide +kernel) rfl
theorem xw892 : (Jvm.Cond.fieldLinkNest "GranaryWatchLaw" (38 : Nat) "GranaryWatchLaw$Granary" "milk" "I" "GranaryWatchLaw") ∈ xws := xt 892 (by decide +kernel) rfl
theorem xw895 : (Jvm.Cond.fieldLinkNest "GranaryWatchLaw" (55 : Nat) "GranaryWatchLaw$Granary" "shift" "I" "GranaryWatchLaw") ∈ xws := xt 895 (by decide +kernel) rfl
theorem xw897 : (Jvm.Cond.fieldLinkNest "GranaryWatchLaw" (61 : Nat) "GranaryWatchLaw$Granary" "left" "I" "GranaryWatchLaw") ∈ xws := xt 897 (by decide +kernel) rfl
theorem xw899 : (Jvm.Cond.fieldLinkNest "GranaryWatchLaw" (67 : Nat) "GranaryWatchLaw$Granary" "caught" "I" "GranaryWatchLaw") ∈ xws := xt 899 (by decide +kernel) rfl
theorem xw901 : (Jvm.Cond.fieldLinkNest "GranaryWatchLaw" (73 : Nat) "GranaryWatchLaw$Granary" "eaten" "I" "GranaryWatchLaw") ∈ xws := xt 901 (by decide +kernel) rfl
theorem xw902 : (Jvm.Cond.fieldLinkNest "GranaryWatchLaw" (79 : Nat) "GranaryWatchLaw$Granary" "born" "I" "GranaryWatchLaw") ∈ xws := xt 902 (by decide +kernel) rfl
theorem xw905 : (Jvm.Cond.fieldLinkNest "GranaryWatchLaw" (85 : Nat) "GranaryWatchLaw$Granary" "starved" "I" "GranaryWatchLaw") ∈ xws := xt 905 (by decide +kernel) rfl
theorem xw907 : (Jvm.Cond.fieldLinkNest "GranaryWatchLaw" (91 : Nat) "GranaryWatchLaw$Granary" "oaths" "I" "GranaryWatchLaw") ∈ xws := xt 907 (by decide +kernel) rfl
theorem xw909 : (Jvm.Cond.fieldLinkNest "GranaryWatchLaw" (97 : Nat) "GranaryWatchLaw$Granary" "refusals" "I" "GranaryWatchLaw") ∈ xws := xt 909 (by decide +kernel) rfl
theorem xw952 : (Jvm.Cond.fieldLinkNest "GranaryWatchLaw" (146 : Nat) "GranaryWatchLaw$Sack" "number" "I" "GranaryWatchLaw") ∈ xws := xt 952 (by decide +kernel) rfl
theorem xw954 : (Jvm.Cond.fieldLinkNest "GranaryWatchLaw" (150 : Nat) "GranaryWatchLaw$Sack" "grain" "I" "GranaryWatchLaw") ∈ xws := xt 954 (by decide +kernel) rfl
theorem xw956 : (Jvm.Cond.fieldLinkNest "GranaryWatchLaw" (156 : Nat) "GranaryWatchLaw$Sack" "mice" "I" "GranaryWatchLaw") ∈ xws := xt 956 (by decide +kernel) rfl
theorem xw958 : (Jvm.Cond.fieldLinkNest "GranaryWatchLaw" (168 : Nat) "GranaryWatchLaw$Sack" "eaten" "I" "GranaryWatchLaw") ∈ xws := xt 958 (by decide +kernel) rfl
theorem xw960 : (Jvm.Cond.fieldLinkNest "GranaryWatchLaw" (162 : Nat) "GranaryWatchLaw$Sack" "isOpen" "Z" "GranaryWatchLaw") ∈ xws := xt 960 (by decide +kernel) rfl
/-! the law looks whether the class tells what it keeps itself -/
theorem gsL_clock : GoodIn TBG (wsV RL 27 RX10 yX10_clock (wT yX10_clock cX10_clock 1 (some .int))) := gT_V tw998 tw999 tw1000 tw1 tw1001
theorem hdL_clock : yX10_clock.cls = RX10 ∧ yX10_clock.cls ≠ "java/lang/invoke/MethodHandle" ∧ yX10_clock.cls ≠ "java/lang/invoke/VarHandle" ∧ (parseMethodDescriptor yX10_clock.desc).map (fun d => d.parameters.length) = some 0 := ⟨rfl, by decide +kernel, by decide +kernel, by decide +kernel⟩
theorem gsL_milk : GoodIn TBG (wsV RL 35 RX10 yX10_milk (wT yX10_milk cX10_milk 1 (some .int))) := gT_V tw1002 tw1003 tw1004 tw1 tw1005
theorem hdL_milk : yX10_milk.cls = RX10 ∧ yX10_milk.cls ≠ "java/lang/invoke/MethodHandle" ∧ yX10_milk.cls ≠ "java/lang/invoke/VarHandle" ∧ (parseMethodDescriptor yX10_milk.desc).map (fun d => d.parameters.length) = some 0 := ⟨rfl, by decide +kernel, by decide +kernel, by decide +kernel⟩
theorem gsL_swornCat : GoodIn TBG (wsV RL 40 RX10 yX10_swornCat (wT yX10_swornCat cX10_swornCat 1 (some .int))) := gT_V tw1006 tw1007 tw1008 tw1 tw1009
theorem hdL_swornCat : yX10_swornCat.cls = RX10 ∧ yX10_swornCat.cls ≠ "java/lang/invoke/MethodHandle" ∧ yX10_swornCat.cls ≠ "java/lang/invoke/VarHandle" ∧ (parseMethodDescriptor yX10_swornCat.desc).map (fun d => d.parameters.length) = some 0 := ⟨rfl, by decide +kernel, by decide +kernel, by decide +kernel⟩
theorem gsL_currentShift : GoodIn TBG (wsV RL 52 RX10 yX10_currentShift (wT yX10_currentShift cX10_currentShift 1 (some .int))) := gT_V tw1010 tw1011 tw1012 tw1 tw1013
theorem hdL_currentShift : yX10_currentShift.cls = RX10 ∧ yX10_currentShift.cls ≠ "java/lang/invoke/MethodHandle" ∧ yX10_currentShift.cls ≠ "java/lang/invoke/VarHandle" ∧ (parseMethodDescriptor yX10_currentShift.desc).map (fun d => d.parameters.length) = some 0 := ⟨rfl, by decide +kernel, by decide +kernel, by decide +kernel⟩
theorem gsL_hoursLeft : GoodIn TBG (wsV RL 58 RX10 yX10_hoursLeft (wT yX10_hoursLeft cX10_hoursLeft 1 (some .int))) := gT_V tw1014 tw1015 tw1016 tw1 tw1017
theorem hdL_hoursLeft : yX10_hoursLeft.cls = RX10 ∧ yX10_hoursLeft.cls ≠ "java/lang/invoke/MethodHandle" ∧ yX10_hoursLeft.cls ≠ "java/lang/invoke/VarHandle" ∧ (parseMethodDescriptor yX10_hoursLeft.desc).map (fun d => d.parameters.length) = some 0 := ⟨rfl, by decide +kernel, by decide +kernel, by decide +kernel⟩
theorem gsL_totalCaught : GoodIn TBG (wsV RL 64 RX10 yX10_totalCaught (wT yX10_totalCaught cX10_totalCaught 1 (some .int))) := gT_V tw1018 tw1019 tw1020 tw1 tw1021
theorem hdL_totalCaught : yX10_totalCaught.cls = RX10 ∧ yX10_totalCaught.cls ≠ "java/lang/invoke/MethodHandle" ∧ yX10_totalCaught.cls ≠ "java/lang/invoke/VarHandle" ∧ (parseMethodDescriptor yX10_totalCaught.desc).map (fun d => d.parameters.length) = some 0 := ⟨rfl, by decide +kernel, by decide +kernel, by decide +kernel⟩
theorem gsL_totalEaten : GoodIn TBG (wsV RL 70 RX10 yX10_totalEaten (wT yX10_totalEaten cX10_totalEaten 1 (some .int))) := gT_V tw1022 tw1023 tw1024 tw1 tw1025
theorem hdL_totalEaten : yX10_totalEaten.cls = RX10 ∧ yX10_totalEaten.cls ≠ "java/lang/invoke/MethodHandle" ∧ yX10_totalEaten.cls ≠ "java/lang/invoke/VarHandle" ∧ (parseMethodDescriptor yX10_totalEaten.desc).map (fun d => d.parameters.length) = some 0 := ⟨rfl, by decide +kernel, by decide +kernel, by decide +kernel⟩
theorem gsL_totalBorn : GoodIn TBG (wsV RL 76 RX10 yX10_totalBorn (wT yX10_totalBorn cX10_totalBorn 1 (some .int))) := gT_V tw1026 tw1027 tw1028 tw1 tw1029
theorem hdL_totalBorn : yX10_totalBorn.cls = RX10 ∧ yX10_totalBorn.cls ≠ "java/lang/invoke/MethodHandle" ∧ yX10_totalBorn.cls ≠ "java/lang/invoke/VarHandle" ∧ (parseMethodDescriptor yX10_totalBorn.desc).map (fun d => d.parameters.length) = some 0 := ⟨rfl, by decide +kernel, by decide +kernel, by decide +kernel⟩
theorem gsL_totalStarved : GoodIn TBG (wsV RL 82 RX10 yX10_totalStarved (wT yX10_totalStarved cX10_totalStarved 1 (some .int))) := gT_V tw1030 tw1031 tw1032 tw1 tw1033
theorem hdL_totalStarved : yX10_totalStarved.cls = RX10 ∧ yX10_totalStarved.cls ≠ "java/lang/invoke/MethodHandle" ∧ yX10_totalStarved.cls ≠ "java/lang/invoke/VarHandle" ∧ (parseMethodDescriptor yX10_totalStarved.desc).map (fun d => d.parameters.length) = some 0 := ⟨rfl, by decide +kernel, by decide +kernel, by decide +kernel⟩
theorem gsL_totalOaths : GoodIn TBG (wsV RL 88 RX10 yX10_totalOaths (wT yX10_totalOaths cX10_totalOaths 1 (some .int))) := gT_V tw1034 tw1035 tw1036 tw1 tw1037
theorem hdL_totalOaths : yX10_totalOaths.cls = RX10 ∧ yX10_totalOaths.cls ≠ "java/lang/invoke/MethodHandle" ∧ yX10_totalOaths.cls ≠ "java/lang/invoke/VarHandle" ∧ (parseMethodDescriptor yX10_totalOaths.desc).map (fun d => d.parameters.length) = some 0 := ⟨rfl, by decide +kernel, by decide +kernel, by decide +kernel⟩
theorem gsL_totalRefusals : GoodIn TBG (wsV RL 94 RX10 yX10_totalRefusals (wT yX10_totalRefusals cX10_totalRefusals 1 (some .int))) := gT_V tw1038 tw1039 tw1040 tw1 tw1041
theorem hdL_totalRefusals : yX10_totalRefusals.cls = RX10 ∧ yX10_totalRefusals.cls ≠ "java/lang/invoke/MethodHandle" ∧ yX10_totalRefusals.cls ≠ "java/lang/invoke/VarHandle" ∧ (parseMethodDescriptor yX10_totalRefusals.desc).map (fun d => d.parameters.length) = some 0 := ⟨rfl, by decide +kernel, by decide +kernel, by decide +kernel⟩
theorem gsL_tirednessOf : GoodIn TBG (wsV RL 120 RX10 yX10_tirednessOf (wT yX10_tirednessOf cX10_tirednessOf 2 (some .int))) := gT_V tw1094 tw1095 tw1096 tw1 tw1097
theorem hdL_tirednessOf : yX10_tirednessOf.cls = RX10 ∧ yX10_tirednessOf.cls ≠ "java/lang/invoke/MethodHandle" ∧ yX10_tirednessOf.cls ≠ "java/lang/invoke/VarHandle" ∧ (parseMethodDescriptor yX10_tirednessOf.desc).map (fun d => d.parameters.length) = some 1 := ⟨rfl, by decide +kernel, by decide +kernel, by decide +kernel⟩
theorem gsL_strengthOf : GoodIn TBG (wsV RL 127 RX10 yX10_strengthOf (wT yX10_strengthOf cX10_strengthOf 2 (some .int))) := gT_V tw1169 tw1170 tw1171 tw1 tw1172
theorem hdL_strengthOf : yX10_strengthOf.cls = RX10 ∧ yX10_strengthOf.cls ≠ "java/lang/invoke/MethodHandle" ∧ yX10_strengthOf.cls ≠ "java/lang/invoke/VarHandle" ∧ (parseMethodDescriptor yX10_strengthOf.desc).map (fun d => d.parameters.length) = some 1 := ⟨rfl, by decide +kernel, by decide +kernel, by decide +kernel⟩
theorem gsL_caughtBy : GoodIn TBG (wsV RL 133 RX10 yX10_caughtBy (wT yX10_caughtBy cX10_caughtBy 2 (some .int))) := gT_V tw1182 tw1183 tw1184 tw1 tw1185
theorem hdL_caughtBy : yX10_caughtBy.cls = RX10 ∧ yX10_caughtBy.cls ≠ "java/lang/invoke/MethodHandle" ∧ yX10_caughtBy.cls ≠ "java/lang/invoke/VarHandle" ∧ (parseMethodDescriptor yX10_caughtBy.desc).map (fun d => d.parameters.length) = some 1 := ⟨rfl, by decide +kernel, by decide +kernel, by decide +kernel⟩
theorem gsL_oathsOf : GoodIn TBG (wsV RL 137 RX10 yX10_oathsOf (wT yX10_oathsOf cX10_oathsOf 2 (some .int))) := gT_V tw1186 tw1187 tw1188 tw1 tw1189
theorem hdL_oathsOf : yX10_oathsOf.cls = RX10 ∧ yX10_oathsOf.cls ≠ "java/lang/invoke/MethodHandle" ∧ yX10_oathsOf.cls ≠ "java/lang/invoke/VarHandle" ∧ (parseMethodDescriptor yX10_oathsOf.desc).map (fun d => d.parameters.length) = some 1 := ⟨rfl, by decide +kernel, by decide +kernel, by decide +kernel⟩
theorem gsL_grainIn : GoodIn TBG (wsV RL 147 RX10 yX10_grainIn (wT yX10_grainIn cX10_grainIn 2 (some .int))) := gT_V tw1190 tw1191 tw1192 tw1 tw1193
theorem hdL_grainIn : yX10_grainIn.cls = RX10 ∧ yX10_grainIn.cls ≠ "java/lang/invoke/MethodHandle" ∧ yX10_grainIn.cls ≠ "java/lang/invoke/VarHandle" ∧ (parseMethodDescriptor yX10_grainIn.desc).map (fun d => d.parameters.length) = some 1 := ⟨rfl, by decide +kernel, by decide +kernel, by decide +kernel⟩
theorem gsL_miceIn : GoodIn TBG (wsV RL 153 RX10 yX10_miceIn (wT yX10_miceIn cX10_miceIn 2 (some .int))) := gT_V tw1199 tw1200 tw1201 tw1 tw1202
theorem hdL_miceIn : yX10_miceIn.cls = RX10 ∧ yX10_miceIn.cls ≠ "java/lang/invoke/MethodHandle" ∧ yX10_miceIn.cls ≠ "java/lang/invoke/VarHandle" ∧ (parseMethodDescriptor yX10_miceIn.desc).map (fun d => d.parameters.length) = some 1 := ⟨rfl, by decide +kernel, by decide +kernel, by decide +kernel⟩
theorem gsL_isOpen : GoodIn TBG (wsV RL 159 RX10 yX10_isOpen (wT yX10_isOpen cX10_isOpen 2 (some .boolean))) := gT_V tw1203 tw1204 tw1205 tw1 tw1206
theorem hdL_isOpen : yX10_isOpen.cls = RX10 ∧ yX10_isOpen.cls ≠ "java/lang/invoke/MethodHandle" ∧ yX10_isOpen.cls ≠ "java/lang/invoke/VarHandle" ∧ (parseMethodDescriptor yX10_isOpen.desc).map (fun d => d.parameters.length) = some 1 := ⟨rfl, by decide +kernel, by decide +kernel, by decide +kernel⟩
theorem gsL_eatenFrom : GoodIn TBG (wsV RL 165 RX10 yX10_eatenFrom (wT yX10_eatenFrom cX10_eatenFrom 2 (some .int))) := gT_V tw1207 tw1208 tw1209 tw1 tw1210
theorem hdL_eatenFrom : yX10_eatenFrom.cls = RX10 ∧ yX10_eatenFrom.cls ≠ "java/lang/invoke/MethodHandle" ∧ yX10_eatenFrom.cls ≠ "java/lang/invoke/VarHandle" ∧ (parseMethodDescriptor yX10_eatenFrom.desc).map (fun d => d.parameters.length) = some 1 := ⟨rfl, by decide +kernel, by decide +kernel, by decide +kernel⟩
theorem gsL_Cstrength : GoodIn TBG (wsV RL 130 RX11 yX11_strength (wT yX11_strength cX11_strength 1 (some .int))) := gT_V tw1178 tw1179 tw1180 tw26 tw1181
theorem hdL_Cstrength : yX11_strength.cls = RX11 ∧ yX11_strength.cls ≠ "java/lang/invoke/MethodHandle" ∧ yX11_strength.cls ≠ "java/lang/invoke/VarHandle" ∧ (parseMethodDescriptor yX11_strength.desc).map (fun d => d.parameters.length) = some 0 := ⟨rfl, by decide +kernel, by decide +kernel, by decide +kernel⟩
/-- which cells the law's steps may write -/
def qΩ (b1 : Nat) (la : Nat → Nat) (C : LC) : Nat → Prop := fun q => cΩ (caOf b1) q ∨ lΩ la C q
theorem sw_at {la : Nat → Nat} {v : Int32} {c : Nat} (e : v = nI c) (hc : c < 4) : va_rf (swA la v) = .ref (la (9 + c)) := by
  rw [sw_ref (by rw [e]; exact nI_nem (by omega)), e, nI_clamp (by omega)]
theorem lq_fr {b1 : Nat} {la : Nat → Nat} {C : LC} {n k : Nat} (h : n ≤ k) : ∀ q, Fr (lΩ la C) k q → Fr (qΩ b1 la C) n q := fun q z => z.elim (fun z => Or.inl (Or.inr z)) (fun z => Or.inr (Nat.le_trans h z))
theorem qOK {dC : Nat → ClassId} {dI : Nat → Nat → Nat} {cg : Nat → ClassId} {kA : String → Nat → Nat} {la iA : Nat → Nat} {C : LC} {b1 : Nat} : gOK (qP dC dI cg kA la iA C b1) (kR kTab kA) := ⟨fun S u U H hvm h => ⟨cOK.1 _ _ _ _ hvm h.1, lOK0.1 _ _ _ _ hvm h.2⟩, kR_ok⟩
section ISW
variable {p : Program} {l : Launch} {e : Env} {R : Room} {s : State} {m : MethodId} {args : Array Value} {below : List Frame} {meth : Method} {c : Code} {H : Heap} {locs : List Loc} {cells slots : Nat} {Q : State → Prop}
variable {pc nL : Nat} {ls : Array Slot} {rest : List Value} {dC : Nat → ClassId} {dI : Nat → Nat → Nat} {cg : Nat → ClassId} {kA : String → Nat → Nat} {la iA : Nat → Nat} {C : LC} {b1 z : Nat} {S S' : CS} {M M' : MS} {h : Nat → Int32}
set_option maxRecDepth 10000 in
theorem kLis_sacks (X : gX p s m args c cL_isWhole 4 RL (kR kTab kA)) (hC : lC C) (hs : lS b1 la C) (r : RN S M) (hnc : nC (M.2 0) = C.1.1) (hns : nS (M.2 0) = C.1.2.1) (hbz : b1 + 433 ≤ s.heap.size) (hret : gRetIA p l e (rmL 4 2 8) s m args below meth c cL_isWhole 2 8 (qΩ b1 la C) (qP dC dI cg kA la iA C b1) Q 1 (S, (M.2 0, h))) {a : Nat} (hai : itOK la C b1 s.heap.size a) : ∀ r' i, C.1.2.1 = i + r' → ∀ (H : Heap) (locs : List Loc) (ls : Array Slot) (cells slots : Nat), cells + 0 ≤ 2 → slots + 0 ≤ 8 → gF (lP dC dI cg kA la iA C b1) (itG dC dI a (la 3) (lNum C 3) i (cZ dC dI cg kA b1 la C s.heap.size S)) (M.2 0, h) s H → va_S (Fr (qΩ b1 la C) s.heap.size) s.heap H locs → lv_has ls 4 [(2, .ref a), (1, .ref (la 0)), (0, .ref (caOf b1 0))] → W p l e (rmL 4 2 8) s m args below meth c H locs cells slots Q (F0 m 241 ls []) := by
  have hx := X.hx
  have hb := X.hb
  have hcf : gFs (lΩ la C) (cZ dC dI cg kA b1 la C s.heap.size S) := cZ_fs hs
  have hz0 := hai.2.1
  have hn4 := hC.1.2
  have hn5 := hC.2.1.2
  have hfa : gFs (fun q => q = a) (cZ dC dI cg kA b1 la C s.heap.size S) := cZ_fa (by omega) hz0
  intro r'
  induction r' with
  | zero =>
    intro i hi H locs ls cells slots hc1 hc2 hP hS hl
    refine lv_aload_n hx hb dL_isWhole_241 rfl (lv_at hl 0 rfl) ?_
    refine lr_hasNextF (b := 3) X rfl hC hP (by decide) (show i ≤ lNum C 3 from by show i ≤ C.1.2.1; omega) tw1072 (by decide) hl.1 (Nat.le_of_ble_eq_true rfl) ⟨by omega, by omega⟩ dL_isWhole_242 ?_
    rw [if_pos (show i = lNum C 3 from by show i = C.1.2.1; omega)]
    refine lv_if_eq (tgt := 325) hx hb dL_isWhole_247 (by decide) (fun c1 => ?_) (fun c1 => absurd rfl c1)
    refine lv_iconst (v := 1) hx hb dL_isWhole_325 (by decide) ?_
    exact hret _ _ _ _ _ _ dL_isWhole_326 ⟨cZ_cP hP.2.2, hP.1⟩ hS (by omega) (by omega)
  | succ r' ih =>
    intro i hi H locs ls cells slots hc1 hc2 hP hS hl
    have hlt : i < C.1.2.1 := by omega
    refine lv_aload_n hx hb dL_isWhole_241 rfl (lv_at hl 0 rfl) ?_
    refine lr_hasNextF (b := 3) X rfl hC hP (by decide) (show i ≤ lNum C 3 from by show i ≤ C.1.2.1; omega) tw1072 (by decide) hl.1 (Nat.le_of_ble_eq_true rfl) ⟨by omega, by omega⟩ dL_isWhole_242 ?_
    rw [if_neg (show ¬ i = lNum C 3 from by show ¬ i = C.1.2.1; omega)]
    refine lv_if_eq (tgt := 325) hx hb dL_isWhole_247 (by decide) (fun c1 => absurd c1 (by decide)) (fun c1 => ?_)
    refine lv_aload_n hx hb dL_isWhole_250 rfl (lv_at hl 0 rfl) ?_
    refine lr_nextF (b := 3) (q := la (13 + i)) X hfa hC hai hP hS (fun q z => Or.inr z) (by decide) (show i < lNum C 3 from hlt) (lFa_3 hlt) tw1082 ⟨by decide, by decide⟩ hl.1 (Nat.le_of_ble_eq_true rfl) ⟨by show _ ≤ 2; omega, by show _ ≤ 8; omega⟩ dL_isWhole_251 (fun H locs hP hS => ?_)
    refine lr_cast X hP (lEx_s hlt) lR_s (rfl : vwCl[18]? = some (RX13, TX13, 5)) tw945 dL_isWhole_256 ?_
    refine lv_astore_n (lv' := [(3, .ref (la (13 + i))), (2, .ref a), (1, .ref (la 0)), (0, .ref (caOf b1 0))]) hx hb dL_isWhole_259 rfl hl (by decide) rfl (fun ls hl => ?_)
    refine lv_aload_n hx hb dL_isWhole_260 rfl (lv_at hl 3 rfl) ?_
    refine lv_aload_n hx hb dL_isWhole_261 rfl (lv_at hl 0 rfl) ?_
    refine lr_getN (k := 0) (fs := (lFs i ((M.2 0), h))) (v := .int (nI i)) X hP (lEx_s hlt) lR_s (rfl : vwCl[18]? = some (RX13, TX13, 5)) cinX13 (by decide) rfl rfl xw952 dL_isWhole_262 ?_
    refine gCallVR X rfl (vX10_grainIn (x_grainIn r (by rw [hns]; exact hlt))) gsL_grainIn hdL_grainIn rfl ⟨by decide, by decide⟩ (gB_blind cOK) (gB_at cOK X (cZ_cP hP.2.2)) (cr_rec (cZ_cP hP.2.2) (rfl : kc 0 = 0) rfl cw0 rfl) hl.1 (Nat.le_of_ble_eq_true rfl) ⟨by omega, by omega⟩ dL_isWhole_265 (As := [.int (nI i)]) (rest := []) rfl ?_
    refine lv_aload_n hx hb dL_isWhole_268 rfl (lv_at hl 0 rfl) ?_
    refine lr_getN (k := 1) (fs := (lFs i ((M.2 0), h))) (v := .int ((M.2 0) (161 + 12 * i + 7))) X hP (lEx_s hlt) lR_s (rfl : vwCl[18]? = some (RX13, TX13, 5)) cinX13 (by decide) rfl rfl xw954 dL_isWhole_269 ?_
    refine lv_icmp_ne (tgt := 320) hx hb dL_isWhole_272 (by decide) (fun c1 => absurd c1 (fun c2 => c2 rfl)) (fun c1 => ?_)
    refine lv_aload_n hx hb dL_isWhole_275 rfl (lv_at hl 3 rfl) ?_
    refine lv_aload_n hx hb dL_isWhole_276 rfl (lv_at hl 0 rfl) ?_
    refine lr_getN (k := 0) (fs := (lFs i ((M.2 0), h))) (v := .int (nI i)) X hP (lEx_s hlt) lR_s (rfl : vwCl[18]? = some (RX13, TX13, 5)) cinX13 (by decide) rfl rfl xw952 dL_isWhole_277 ?_
    refine gCallVR X rfl (vX10_miceIn (x_miceIn r (by rw [hns]; exact hlt))) gsL_miceIn hdL_miceIn rfl ⟨by decide, by decide⟩ (gB_blind cOK) (gB_at cOK X (cZ_cP hP.2.2)) (cr_rec (cZ_cP hP.2.2) (rfl : kc 0 = 0) rfl cw0 rfl) hl.1 (Nat.le_of_ble_eq_true rfl) ⟨by omega, by omega⟩ dL_isWhole_280 (As := [.int (nI i)]) (rest := []) rfl ?_
    refine lv_aload_n hx hb dL_isWhole_283 rfl (lv_at hl 0 rfl) ?_
    refine lr_getN (k := 2) (fs := (lFs i ((M.2 0), h))) (v := .int ((M.2 0) (161 + 12 * i + 8))) X hP (lEx_s hlt) lR_s (rfl : vwCl[18]? = some (RX13, TX13, 5)) cinX13 (by decide) rfl rfl xw956 dL_isWhole_284 ?_
    refine lv_icmp_ne (tgt := 320) hx hb dL_isWhole_287 (by decide) (fun c1 => absurd c1 (fun c2 => c2 rfl)) (fun c1 => ?_)
    refine lv_aload_n hx hb dL_isWhole_290 rfl (lv_at hl 3 rfl) ?_
    refine lv_aload_n hx hb dL_isWhole_291 rfl (lv_at hl 0 rfl) ?_
    refine lr_getN (k := 0) (fs := (lFs i ((M.2 0), h))) (v := .int (nI i)) X hP (lEx_s hlt) lR_s (rfl : vwCl[18]? = some (RX13, TX13, 5)) cinX13 (by decide) rfl rfl xw952 dL_isWhole_292 ?_
    refine gCallVR X rfl (vX10_isOpen (x_isOpen r (by rw [hns]; exact hlt))) gsL_isOpen hdL_isOpen rfl ⟨by decide, by decide⟩ (gB_blind cOK) (gB_at cOK X (cZ_cP hP.2.2)) (cr_rec (cZ_cP hP.2.2) (rfl : kc 0 = 0) rfl cw0 rfl) hl.1 (Nat.le_of_ble_eq_true rfl) ⟨by omega, by omega⟩ dL_isWhole_295 (As := [.int (nI i)]) (rest := []) rfl ?_
    refine lv_aload_n hx hb dL_isWhole_298 rfl (lv_at hl 0 rfl) ?_
    refine lr_getN (k := 4) (fs := (lFs i ((M.2 0), h))) (v := .int ((M.2 0) (161 + 12 * i + 9))) X hP (lEx_s hlt) lR_s (rfl : vwCl[18]? = some (RX13, TX13, 5)) cinX13 (by decide) rfl rfl xw960 dL_isWhole_299 ?_
    refine lv_icmp_ne (tgt := 320) hx hb dL_isWhole_302 (by decide) (fun c1 => absurd c1 (fun c2 => c2 rfl)) (fun c1 => ?_)
    refine lv_aload_n hx hb dL_isWhole_305 rfl (lv_at hl 3 rfl) ?_
    refine lv_aload_n hx hb dL_isWhole_306 rfl (lv_at hl 0 rfl) ?_
    refine lr_getN (k := 0) (fs := (lFs i ((M.2 0), h))) (v := .int (nI i)) X hP (lEx_s hlt) lR_s (rfl : vwCl[18]? = some (RX13, TX13, 5)) cinX13 (by decide) rfl rfl xw952 dL_isWhole_307 ?_
    refine gCallVR X rfl (vX10_eatenFrom (x_eatenFrom r (by rw [hns]; exact hlt))) gsL_eatenFrom hdL_eatenFrom rfl ⟨by decide, by decide⟩ (gB_blind cOK) (gB_at cOK X (cZ_cP hP.2.2)) (cr_rec (cZ_cP hP.2.2) (rfl : kc 0 = 0) rfl cw0 rfl) hl.1 (Nat.le_of_ble_eq_true rfl) ⟨by omega, by omega⟩ dL_isWhole_310 (As := [.int (nI i)]) (rest := []) rfl ?_
    refine lv_aload_n hx hb dL_isWhole_313 rfl (lv_at hl 0 rfl) ?_
    refine lr_getN (k := 3) (fs := (lFs i ((M.2 0), h))) (v := .int ((M.2 0) (161 + 12 * i + 10))) X hP (lEx_s hlt) lR_s (rfl : vwCl[18]? = some (RX13, TX13, 5)) cinX13 (by decide) rfl rfl xw958 dL_isWhole_314 ?_
    refine lv_icmp_eq (tgt := 322) hx hb dL_isWhole_317 (by decide) (fun c1 => ?_) (fun c1 => absurd rfl c1)
    refine lv_goto (tgt := 241) hx hb dL_isWhole_322 (by decide) ?_
    exact ih (i + 1) (by omega) H locs ls cells slots hc1 hc2 hP hS (lv_sub hl [1, 2, 3] rfl)
set_option maxRecDepth 10000 in
theorem kLis_cats (X : gX p s m args c cL_isWhole 4 RL (kR kTab kA)) (hC : lC C) (hs : lS b1 la C) (r : RN S M) (hnc : nC (M.2 0) = C.1.1) (hns : nS (M.2 0) = C.1.2.1) (hbz : b1 + 433 ≤ s.heap.size) (hret : gRetIA p l e (rmL 4 2 8) s m args below meth c cL_isWhole 2 8 (qΩ b1 la C) (qP dC dI cg kA la iA C b1) Q 1 (S, (M.2 0, h))) {a : Nat} (hai : itOK la C b1 s.heap.size a) : ∀ r' i, C.1.1 = i + r' → ∀ (H : Heap) (locs : List Loc) (ls : Array Slot) (cells slots : Nat), cells + 1 ≤ 2 → slots + 4 ≤ 8 → gF (lP dC dI cg kA la iA C b1) (itG dC dI a (la 1) (lNum C 1) i (cZ dC dI cg kA b1 la C s.heap.size S)) (M.2 0, h) s H → va_S (Fr (qΩ b1 la C) s.heap.size) s.heap H locs → lv_has ls 4 [(2, .ref a), (1, .ref (la 0)), (0, .ref (caOf b1 0))] → W p l e (rmL 4 2 8) s m args below meth c H locs cells slots Q (F0 m 147 ls []) := by
  have hx := X.hx
  have hb := X.hb
  have hcf : gFs (lΩ la C) (cZ dC dI cg kA b1 la C s.heap.size S) := cZ_fs hs
  have hz0 := hai.2.1
  have hn4 := hC.1.2
  have hn5 := hC.2.1.2
  have hfa : gFs (fun q => q = a) (cZ dC dI cg kA b1 la C s.heap.size S) := cZ_fa (by omega) hz0
  intro r'
  induction r' with
  | zero =>
    intro i hi H locs ls cells slots hc1 hc2 hP hS hl
    refine lv_aload_n hx hb dL_isWhole_147 rfl (lv_at hl 0 rfl) ?_
    refine lr_hasNextF (b := 1) X rfl hC hP (by decide) (show i ≤ lNum C 1 from by show i ≤ C.1.1; omega) tw1072 (by decide) hl.1 (Nat.le_of_ble_eq_true rfl) ⟨by omega, by omega⟩ dL_isWhole_148 ?_
    rw [if_pos (show i = lNum C 1 from by show i = C.1.1; omega)]
    refine lv_if_eq (tgt := 231) hx hb dL_isWhole_153 (by decide) (fun c1 => ?_) (fun c1 => absurd rfl c1)
    refine lv_aload_n hx hb dL_isWhole_231 rfl (lv_at hl 1 rfl) ?_
    refine lr_getN (k := 2) (fs := (lF0 la ((M.2 0), h))) (v := .ref (la 3)) X hP (lEx_l (by decide)) lR_0 (rfl : vwCl[17]? = some (RX12, TX12, 15)) cinX12 (by decide) rfl rfl xw885 dL_isWhole_232 ?_
    refine lr_iterF (b := 3) (F := cZ dC dI cg kA b1 la C s.heap.size S) X (hcf.mono (fun q z => z.elim)) ⟨hP.1, hP.2.2⟩ hS (fun q z => Or.inr z) (by decide) tw1043 ⟨by decide, by decide⟩ hl.1 (Nat.le_of_ble_eq_true rfl) ⟨by show _ + 1 ≤ 2; omega, by show _ + 4 ≤ 8; omega⟩ dL_isWhole_235 (fun H locs a2 hai2 hP hS => ?_)
    refine lv_astore_n (lv' := [(2, .ref a2), (1, .ref (la 0)), (0, .ref (caOf b1 0))]) hx hb dL_isWhole_240 rfl hl (by decide) rfl (fun ls hl => ?_)
    exact kLis_sacks X hC hs r hnc hns hbz hret hai2 C.1.2.1 0 (by omega) H locs _ _ _ (by omega) (by omega) hP hS (lv_sub hl [0, 1, 2] rfl)
  | succ r' ih =>
    intro i hi H locs ls cells slots hc1 hc2 hP hS hl
    have hlt : i < C.1.1 := by omega
    refine lv_aload_n hx hb dL_isWhole_147 rfl (lv_at hl 0 rfl) ?_
    refine lr_hasNextF (b := 1) X rfl hC hP (by decide) (show i ≤ lNum C 1 from by show i ≤ C.1.1; omega) tw1072 (by decide) hl.1 (Nat.le_of_ble_eq_true rfl) ⟨by omega, by omega⟩ dL_isWhole_148 ?_
    rw [if_neg (show ¬ i = lNum C 1 from by show ¬ i = C.1.1; omega)]
    refine lv_if_eq (tgt := 231) hx hb dL_isWhole_153 (by decide) (fun c1 => absurd c1 (by decide)) (fun c1 => ?_)
    refine lv_aload_n hx hb dL_isWhole_156 rfl (lv_at hl 0 rfl) ?_
    refine lr_nextF (b := 1) (q := la (9 + i)) X hfa hC hai hP hS (fun q z => Or.inr z) (by decide) (show i < lNum C 1 from hlt) (lFa_1 hlt) tw1082 ⟨by decide, by decide⟩ hl.1 (Nat.le_of_ble_eq_true rfl) ⟨by show _ ≤ 2; omega, by show _ ≤ 8; omega⟩ dL_isWhole_157 (fun H locs hP hS => ?_)
    refine lr_cast X hP (lEx_c hC hlt) (lR_c (lC_c hC hlt)) (rfl : vwCl[16]? = some (RX11, TX11, 7)) tw811 dL_isWhole_162 ?_
    refine lv_astore_n (lv' := [(3, .ref (la (9 + i))), (2, .ref a), (1, .ref (la 0)), (0, .ref (caOf b1 0))]) hx hb dL_isWhole_165 rfl hl (by decide) rfl (fun ls hl => ?_)
    refine lv_aload_n hx hb dL_isWhole_166 rfl (lv_at hl 3 rfl) ?_
    refine lv_aload_n hx hb dL_isWhole_167 rfl (lv_at hl 0 rfl) ?_
    refine lr_getN (k := 0) (fs := (lFc i ((M.2 0), h))) (v := .int (nI i)) X hP (lEx_c hC hlt) (lR_c (lC_c hC hlt)) (rfl : vwCl[16]? = some (RX11, TX11, 7)) cinX11 (by decide) rfl rfl xw817 dL_isWhole_168 ?_
    refine gCallVR X rfl (vX10_tirednessOf (x_tirednessOf r (by rw [hnc]; exact hlt))) gsL_tirednessOf hdL_tirednessOf rfl ⟨by decide, by decide⟩ (gB_blind cOK) (gB_at cOK X (cZ_cP hP.2.2)) (cr_rec (cZ_cP hP.2.2) (rfl : kc 0 = 0) rfl cw0 rfl) hl.1 (Nat.le_of_ble_eq_true rfl) ⟨by omega, by omega⟩ dL_isWhole_171 (As := [.int (nI i)]) (rest := []) rfl ?_
    refine lv_aload_n hx hb dL_isWhole_174 rfl (lv_at hl 0 rfl) ?_
    refine lr_getN (k := 2) (fs := (lFc i ((M.2 0), h))) (v := .int ((M.2 0) (65 + 12 * i + 9))) X hP (lEx_c hC hlt) (lR_c (lC_c hC hlt)) (rfl : vwCl[16]? = some (RX11, TX11, 7)) cinX11 (by decide) rfl rfl xw822 dL_isWhole_175 ?_
    refine lv_icmp_ne (tgt := 226) hx hb dL_isWhole_178 (by decide) (fun c1 => absurd c1 (fun c2 => c2 rfl)) (fun c1 => ?_)
    refine lv_aload_n hx hb dL_isWhole_181 rfl (lv_at hl 3 rfl) ?_
    refine lv_aload_n hx hb dL_isWhole_182 rfl (lv_at hl 0 rfl) ?_
    refine lr_getN (k := 0) (fs := (lFc i ((M.2 0), h))) (v := .int (nI i)) X hP (lEx_c hC hlt) (lR_c (lC_c hC hlt)) (rfl : vwCl[16]? = some (RX11, TX11, 7)) cinX11 (by decide) rfl rfl xw817 dL_isWhole_183 ?_
    refine gCallVR X rfl (vX10_strengthOf (x_strengthOf r (by rw [hnc]; exact hlt))) gsL_strengthOf hdL_strengthOf rfl ⟨by decide, by decide⟩ (gB_blind cOK) (gB_at cOK X (cZ_cP hP.2.2)) (cr_rec (cZ_cP hP.2.2) (rfl : kc 0 = 0) rfl cw0 rfl) hl.1 (Nat.le_of_ble_eq_true rfl) ⟨by omega, by omega⟩ dL_isWhole_186 (As := [.int (nI i)]) (rest := []) rfl ?_
    refine lv_aload_n hx hb dL_isWhole_189 rfl (lv_at hl 0 rfl) ?_
    refine gCallWI X (lOK ((itF_fs hai).and hcf)) ((vZ11_strength hC hlt l_strength).lift ((itF_fs hai).and hcf)) (cw_V 0 X gsL_Cstrength hdL_Cstrength ⟨by decide, by decide⟩) rfl hP hS (lq_fr hS.1) (lr_rec hP (lEx_c hC hlt) (lR_c (lC_c hC hlt)) (rfl : vwCl[16]? = some (RX11, TX11, 7))) hl.1 (Nat.le_of_ble_eq_true rfl) ⟨by show _ + 0 ≤ 2; omega, by show _ + 0 ≤ 8; omega⟩ dL_isWhole_190 (As := []) (rest := [.int (strengthW (M.2 0) i)]) rfl (fun H locs hP hS => ?_)
    refine lv_icmp_ne (tgt := 226) hx hb dL_isWhole_193 (by decide) (fun c1 => absurd c1 (fun c2 => c2 rfl)) (fun c1 => ?_)
    refine lv_aload_n hx hb dL_isWhole_196 rfl (lv_at hl 3 rfl) ?_
    refine lv_aload_n hx hb dL_isWhole_197 rfl (lv_at hl 0 rfl) ?_
    refine lr_getN (k := 0) (fs := (lFc i ((M.2 0), h))) (v := .int (nI i)) X hP (lEx_c hC hlt) (lR_c (lC_c hC hlt)) (rfl : vwCl[16]? = some (RX11, TX11, 7)) cinX11 (by decide) rfl rfl xw817 dL_isWhole_198 ?_
    refine gCallVR X rfl (vX10_caughtBy (x_caughtBy r (by rw [hnc]; exact hlt))) gsL_caughtBy hdL_caughtBy rfl ⟨by decide, by decide⟩ (gB_blind cOK) (gB_at cOK X (cZ_cP hP.2.2)) (cr_rec (cZ_cP hP.2.2) (rfl : kc 0 = 0) rfl cw0 rfl) hl.1 (Nat.le_of_ble_eq_true rfl) ⟨by omega, by omega⟩ dL_isWhole_201 (As := [.int (nI i)]) (rest := []) rfl ?_
    refine lv_aload_n hx hb dL_isWhole_204 rfl (lv_at hl 0 rfl) ?_
    refine lr_getN (k := 3) (fs := (lFc i ((M.2 0), h))) (v := .int ((M.2 0) (65 + 12 * i + 10))) X hP (lEx_c hC hlt) (lR_c (lC_c hC hlt)) (rfl : vwCl[16]? = some (RX11, TX11, 7)) cinX11 (by decide) rfl rfl xw824 dL_isWhole_205 ?_
    refine lv_icmp_ne (tgt := 226) hx hb dL_isWhole_208 (by decide) (fun c1 => absurd c1 (fun c2 => c2 rfl)) (fun c1 => ?_)
    refine lv_aload_n hx hb dL_isWhole_211 rfl (lv_at hl 3 rfl) ?_
    refine lv_aload_n hx hb dL_isWhole_212 rfl (lv_at hl 0 rfl) ?_
    refine lr_getN (k := 0) (fs := (lFc i ((M.2 0), h))) (v := .int (nI i)) X hP (lEx_c hC hlt) (lR_c (lC_c hC hlt)) (rfl : vwCl[16]? = some (RX11, TX11, 7)) cinX11 (by decide) rfl rfl xw817 dL_isWhole_213 ?_
    refine gCallVR X rfl (vX10_oathsOf (x_oathsOf r (by rw [hnc]; exact hlt))) gsL_oathsOf hdL_oathsOf rfl ⟨by decide, by decide⟩ (gB_blind cOK) (gB_at cOK X (cZ_cP hP.2.2)) (cr_rec (cZ_cP hP.2.2) (rfl : kc 0 = 0) rfl cw0 rfl) hl.1 (Nat.le_of_ble_eq_true rfl) ⟨by omega, by omega⟩ dL_isWhole_216 (As := [.int (nI i)]) (rest := []) rfl ?_
    refine lv_aload_n hx hb dL_isWhole_219 rfl (lv_at hl 0 rfl) ?_
    refine lr_getN (k := 4) (fs := (lFc i ((M.2 0), h))) (v := .int ((M.2 0) (65 + 12 * i + 11))) X hP (lEx_c hC hlt) (lR_c (lC_c hC hlt)) (rfl : vwCl[16]? = some (RX11, TX11, 7)) cinX11 (by decide) rfl rfl xw826 dL_isWhole_220 ?_
    refine lv_icmp_eq (tgt := 228) hx hb dL_isWhole_223 (by decide) (fun c1 => ?_) (fun c1 => absurd rfl c1)
    refine lv_goto (tgt := 147) hx hb dL_isWhole_228 (by decide) ?_
    exact ih (i + 1) (by omega) H locs ls cells slots hc1 hc2 hP hS (lv_sub hl [1, 2, 3] rfl)
set_option maxRecDepth 10000 in
theorem kLis_0 (X : gX p s m args c cL_isWhole 4 RL (kR kTab kA)) (hC : lC C) (hs : lS b1 la C) (r : RN S M) (hnc : nC (M.2 0) = C.1.1) (hns : nS (M.2 0) = C.1.2.1) (hbz : b1 + 433 ≤ s.heap.size) (hret : gRetIA p l e (rmL 4 2 8) s m args below meth c cL_isWhole 2 8 (qΩ b1 la C) (qP dC dI cg kA la iA C b1) Q 1 (S, (M.2 0, h))) (h5 : M.2 0 5 = -1 ∨ ∃ k, k < C.1.1 ∧ M.2 0 5 = nI k) (hl : lv_has ls 4 [(0, .ref (caOf b1 0)), (1, .ref (la 0))]) (hP : gF (lP dC dI cg kA la iA C b1) (cZ dC dI cg kA b1 la C s.heap.size S) (M.2 0, h) s s.heap) (hS : va_S (Fr (qΩ b1 la C) s.heap.size) s.heap s.heap []) : W p l e (rmL 4 2 8) s m args below meth c s.heap [] 0 0 Q (F0 m 0 ls []) := by
  have hx := X.hx
  have hb := X.hb
  have hcf : gFs (lΩ la C) (cZ dC dI cg kA b1 la C s.heap.size S) := cZ_fs hs
  have hn4 := hC.1.2
  have K1 : ∀ ls, lv_has ls 4 [(0, .ref (caOf b1 0)), (1, .ref (la 0))] → W p l e (rmL 4 2 8) s m args below meth c s.heap [] 0 0 Q (F0 m 47 ls []) := by
    intro ls hl
    refine lv_aload_n hx hb dL_isWhole_47 rfl (lv_at hl 0 rfl) ?_
    refine gCallVR X rfl (vX10_currentShift (x_currentShift r)) gsL_currentShift hdL_currentShift rfl ⟨by decide, by decide⟩ (gB_blind cOK) (gB_at cOK X (cZ_cP hP.2)) (cr_rec (cZ_cP hP.2) (rfl : kc 0 = 0) rfl cw0 rfl) hl.1 (Nat.le_of_ble_eq_true rfl) ⟨by omega, by omega⟩ dL_isWhole_48 (As := []) (rest := []) rfl ?_
    refine lv_aload_n hx hb dL_isWhole_51 rfl (lv_at hl 1 rfl) ?_
    refine lr_getN (k := 7) (fs := (lF0 la ((M.2 0), h))) (v := .int ((M.2 0) 6)) X hP (lEx_l (by decide)) lR_0 (rfl : vwCl[17]? = some (RX12, TX12, 15)) cinX12 (by decide) rfl rfl xw895 dL_isWhole_52 ?_
    refine lv_icmp_ne (tgt := 135) hx hb dL_isWhole_55 (by decide) (fun c1 => absurd c1 (fun c2 => c2 rfl)) (fun c1 => ?_)
    refine lv_aload_n hx hb dL_isWhole_58 rfl (lv_at hl 0 rfl) ?_
    refine gCallVR X rfl (vX10_hoursLeft (x_hoursLeft r)) gsL_hoursLeft hdL_hoursLeft rfl ⟨by decide, by decide⟩ (gB_blind cOK) (gB_at cOK X (cZ_cP hP.2)) (cr_rec (cZ_cP hP.2) (rfl : kc 0 = 0) rfl cw0 rfl) hl.1 (Nat.le_of_ble_eq_true rfl) ⟨by omega, by omega⟩ dL_isWhole_59 (As := []) (rest := []) rfl ?_
    refine lv_aload_n hx hb dL_isWhole_62 rfl (lv_at hl 1 rfl) ?_
    refine lr_getN (k := 8) (fs := (lF0 la ((M.2 0), h))) (v := .int ((M.2 0) 7)) X hP (lEx_l (by decide)) lR_0 (rfl : vwCl[17]? = some (RX12, TX12, 15)) cinX12 (by decide) rfl rfl xw897 dL_isWhole_63 ?_
    refine lv_icmp_ne (tgt := 135) hx hb dL_isWhole_66 (by decide) (fun c1 => absurd c1 (fun c2 => c2 rfl)) (fun c1 => ?_)
    refine lv_aload_n hx hb dL_isWhole_69 rfl (lv_at hl 0 rfl) ?_
    refine gCallVR X rfl (vX10_totalCaught (x_totalCaught r)) gsL_totalCaught hdL_totalCaught rfl ⟨by decide, by decide⟩ (gB_blind cOK) (gB_at cOK X (cZ_cP hP.2)) (cr_rec (cZ_cP hP.2) (rfl : kc 0 = 0) rfl cw0 rfl) hl.1 (Nat.le_of_ble_eq_true rfl) ⟨by omega, by omega⟩ dL_isWhole_70 (As := []) (rest := []) rfl ?_
    refine lv_aload_n hx hb dL_isWhole_73 rfl (lv_at hl 1 rfl) ?_
    refine lr_getN (k := 9) (fs := (lF0 la ((M.2 0), h))) (v := .int ((M.2 0) 8)) X hP (lEx_l (by decide)) lR_0 (rfl : vwCl[17]? = some (RX12, TX12, 15)) cinX12 (by decide) rfl rfl xw899 dL_isWhole_74 ?_
    refine lv_icmp_ne (tgt := 135) hx hb dL_isWhole_77 (by decide) (fun c1 => absurd c1 (fun c2 => c2 rfl)) (fun c1 => ?_)
    refine lv_aload_n hx hb dL_isWhole_80 rfl (lv_at hl 0 rfl) ?_
    refine gCallVR X rfl (vX10_totalEaten (x_totalEaten r)) gsL_totalEaten hdL_totalEaten rfl ⟨by decide, by decide⟩ (gB_blind cOK) (gB_at cOK X (cZ_cP hP.2)) (cr_rec (cZ_cP hP.2) (rfl : kc 0 = 0) rfl cw0 rfl) hl.1 (Nat.le_of_ble_eq_true rfl) ⟨by omega, by omega⟩ dL_isWhole_81 (As := []) (rest := []) rfl ?_
    refine lv_aload_n hx hb dL_isWhole_84 rfl (lv_at hl 1 rfl) ?_
    refine lr_getN (k := 10) (fs := (lF0 la ((M.2 0), h))) (v := .int ((M.2 0) 9)) X hP (lEx_l (by decide)) lR_0 (rfl : vwCl[17]? = some (RX12, TX12, 15)) cinX12 (by decide) rfl rfl xw901 dL_isWhole_85 ?_
    refine lv_icmp_ne (tgt := 135) hx hb dL_isWhole_88 (by decide) (fun c1 => absurd c1 (fun c2 => c2 rfl)) (fun c1 => ?_)
    refine lv_aload_n hx hb dL_isWhole_91 rfl (lv_at hl 0 rfl) ?_
    refine gCallVR X rfl (vX10_totalBorn (x_totalBorn r)) gsL_totalBorn hdL_totalBorn rfl ⟨by decide, by decide⟩ (gB_blind cOK) (gB_at cOK X (cZ_cP hP.2)) (cr_rec (cZ_cP hP.2) (rfl : kc 0 = 0) rfl cw0 rfl) hl.1 (Nat.le_of_ble_eq_true rfl) ⟨by omega, by omega⟩ dL_isWhole_92 (As := []) (rest := []) rfl ?_
    refine lv_aload_n hx hb dL_isWhole_95 rfl (lv_at hl 1 rfl) ?_
    refine lr_getN (k := 11) (fs := (lF0 la ((M.2 0), h))) (v := .int ((M.2 0) 10)) X hP (lEx_l (by decide)) lR_0 (rfl : vwCl[17]? = some (RX12, TX12, 15)) cinX12 (by decide) rfl rfl xw902 dL_isWhole_96 ?_
    refine lv_icmp_ne (tgt := 135) hx hb dL_isWhole_99 (by decide) (fun c1 => absurd c1 (fun c2 => c2 rfl)) (fun c1 => ?_)
    refine lv_aload_n hx hb dL_isWhole_102 rfl (lv_at hl 0 rfl) ?_
    refine gCallVR X rfl (vX10_totalStarved (x_totalStarved r)) gsL_totalStarved hdL_totalStarved rfl ⟨by decide, by decide⟩ (gB_blind cOK) (gB_at cOK X (cZ_cP hP.2)) (cr_rec (cZ_cP hP.2) (rfl : kc 0 = 0) rfl cw0 rfl) hl.1 (Nat.le_of_ble_eq_true rfl) ⟨by omega, by omega⟩ dL_isWhole_103 (As := []) (rest := []) rfl ?_
    refine lv_aload_n hx hb dL_isWhole_106 rfl (lv_at hl 1 rfl) ?_
    refine lr_getN (k := 12) (fs := (lF0 la ((M.2 0), h))) (v := .int ((M.2 0) 11)) X hP (lEx_l (by decide)) lR_0 (rfl : vwCl[17]? = some (RX12, TX12, 15)) cinX12 (by decide) rfl rfl xw905 dL_isWhole_107 ?_
    refine lv_icmp_ne (tgt := 135) hx hb dL_isWhole_110 (by decide) (fun c1 => absurd c1 (fun c2 => c2 rfl)) (fun c1 => ?_)
    refine lv_aload_n hx hb dL_isWhole_113 rfl (lv_at hl 0 rfl) ?_
    refine gCallVR X rfl (vX10_totalOaths (x_totalOaths r)) gsL_totalOaths hdL_totalOaths rfl ⟨by decide, by decide⟩ (gB_blind cOK) (gB_at cOK X (cZ_cP hP.2)) (cr_rec (cZ_cP hP.2) (rfl : kc 0 = 0) rfl cw0 rfl) hl.1 (Nat.le_of_ble_eq_true rfl) ⟨by omega, by omega⟩ dL_isWhole_114 (As := []) (rest := []) rfl ?_
    refine lv_aload_n hx hb dL_isWhole_117 rfl (lv_at hl 1 rfl) ?_
    refine lr_getN (k := 13) (fs := (lF0 la ((M.2 0), h))) (v := .int ((M.2 0) 12)) X hP (lEx_l (by decide)) lR_0 (rfl : vwCl[17]? = some (RX12, TX12, 15)) cinX12 (by decide) rfl rfl xw907 dL_isWhole_118 ?_
    refine lv_icmp_ne (tgt := 135) hx hb dL_isWhole_121 (by decide) (fun c1 => absurd c1 (fun c2 => c2 rfl)) (fun c1 => ?_)
    refine lv_aload_n hx hb dL_isWhole_124 rfl (lv_at hl 0 rfl) ?_
    refine gCallVR X rfl (vX10_totalRefusals (x_totalRefusals r)) gsL_totalRefusals hdL_totalRefusals rfl ⟨by decide, by decide⟩ (gB_blind cOK) (gB_at cOK X (cZ_cP hP.2)) (cr_rec (cZ_cP hP.2) (rfl : kc 0 = 0) rfl cw0 rfl) hl.1 (Nat.le_of_ble_eq_true rfl) ⟨by omega, by omega⟩ dL_isWhole_125 (As := []) (rest := []) rfl ?_
    refine lv_aload_n hx hb dL_isWhole_128 rfl (lv_at hl 1 rfl) ?_
    refine lr_getN (k := 14) (fs := (lF0 la ((M.2 0), h))) (v := .int ((M.2 0) 13)) X hP (lEx_l (by decide)) lR_0 (rfl : vwCl[17]? = some (RX12, TX12, 15)) cinX12 (by decide) rfl rfl xw909 dL_isWhole_129 ?_
    refine lv_icmp_eq (tgt := 137) hx hb dL_isWhole_132 (by decide) (fun c1 => ?_) (fun c1 => absurd rfl c1)
    refine lv_aload_n hx hb dL_isWhole_137 rfl (lv_at hl 1 rfl) ?_
    refine lr_getN (k := 0) (fs := (lF0 la ((M.2 0), h))) (v := .ref (la 1)) X hP (lEx_l (by decide)) lR_0 (rfl : vwCl[17]? = some (RX12, TX12, 15)) cinX12 (by decide) rfl rfl xw881 dL_isWhole_138 ?_
    refine lr_iterF (b := 1) (F := cZ dC dI cg kA b1 la C s.heap.size S) X (hcf.mono (fun q z => z.elim)) hP hS (fun q z => Or.inr z) (by decide) tw1043 ⟨by decide, by decide⟩ hl.1 (Nat.le_of_ble_eq_true rfl) ⟨by show _ + 1 ≤ 2; omega, by show _ + 4 ≤ 8; omega⟩ dL_isWhole_141 (fun H locs a hai hP hS => ?_)
    refine lv_astore_n (lv' := [(2, .ref a), (0, .ref (caOf b1 0)), (1, .ref (la 0))]) hx hb dL_isWhole_146 rfl hl (by decide) rfl (fun ls hl => ?_)
    exact kLis_cats X hC hs r hnc hns hbz hret hai C.1.1 0 (by omega) H locs _ _ _ (by omega) (by omega) hP hS (lv_sub hl [0, 2, 1] rfl)
  refine lv_aload_n hx hb dL_isWhole_0 rfl (lv_at hl 0 rfl) ?_
  refine gCallVR X rfl (vX10_clock (x_clock r)) gsL_clock hdL_clock rfl ⟨by decide, by decide⟩ (gB_blind cOK) (gB_at cOK X (cZ_cP hP.2)) (cr_rec (cZ_cP hP.2) (rfl : kc 0 = 0) rfl cw0 rfl) hl.1 (Nat.le_of_ble_eq_true rfl) ⟨by omega, by omega⟩ dL_isWhole_1 (As := []) (rest := []) rfl ?_
  refine lv_aload_n hx hb dL_isWhole_4 rfl (lv_at hl 1 rfl) ?_
  refine lr_getN (k := 5) (fs := (lF0 la ((M.2 0), h))) (v := .int ((M.2 0) 3)) X hP (lEx_l (by decide)) lR_0 (rfl : vwCl[17]? = some (RX12, TX12, 15)) cinX12 (by decide) rfl rfl xw890 dL_isWhole_5 ?_
  refine lv_icmp_ne (tgt := 135) hx hb dL_isWhole_8 (by decide) (fun c1 => absurd c1 (fun c2 => c2 rfl)) (fun c1 => ?_)
  refine lv_aload_n hx hb dL_isWhole_11 rfl (lv_at hl 0 rfl) ?_
  refine gCallVR X rfl (vX10_milk (x_milk r)) gsL_milk hdL_milk rfl ⟨by decide, by decide⟩ (gB_blind cOK) (gB_at cOK X (cZ_cP hP.2)) (cr_rec (cZ_cP hP.2) (rfl : kc 0 = 0) rfl cw0 rfl) hl.1 (Nat.le_of_ble_eq_true rfl) ⟨by omega, by omega⟩ dL_isWhole_12 (As := []) (rest := []) rfl ?_
  refine lv_aload_n hx hb dL_isWhole_15 rfl (lv_at hl 1 rfl) ?_
  refine lr_getN (k := 6) (fs := (lF0 la ((M.2 0), h))) (v := .int ((M.2 0) 4)) X hP (lEx_l (by decide)) lR_0 (rfl : vwCl[17]? = some (RX12, TX12, 15)) cinX12 (by decide) rfl rfl xw892 dL_isWhole_16 ?_
  refine lv_icmp_ne (tgt := 135) hx hb dL_isWhole_19 (by decide) (fun c1 => absurd c1 (fun c2 => c2 rfl)) (fun c1 => ?_)
  refine lv_aload_n hx hb dL_isWhole_22 rfl (lv_at hl 0 rfl) ?_
  refine gCallVR X rfl (vX10_swornCat (x_swornCat r)) gsL_swornCat hdL_swornCat rfl ⟨by decide, by decide⟩ (gB_blind cOK) (gB_at cOK X (cZ_cP hP.2)) (cr_rec (cZ_cP hP.2) (rfl : kc 0 = 0) rfl cw0 rfl) hl.1 (Nat.le_of_ble_eq_true rfl) ⟨by omega, by omega⟩ dL_isWhole_23 (As := []) (rest := []) rfl ?_
  refine lv_aload_n hx hb dL_isWhole_26 rfl (lv_at hl 1 rfl) ?_
  refine lr_getN (k := 4) (fs := (lF0 la ((M.2 0), h))) (v := va_rf (swA la ((M.2 0) 5))) X hP (lEx_l (by decide)) lR_0 (rfl : vwCl[17]? = some (RX12, TX12, 15)) cinX12 (by decide) rfl rfl xw889 dL_isWhole_27 ?_
  rcases h5 with h5 | ⟨k, hk, h5⟩
  · rw [sw_null h5]
    refine lv_ifnonnullN hx hb dL_isWhole_30 ?_
    refine lv_iconst (v := (-1)) hx hb dL_isWhole_33 (by decide) ?_
    refine lv_goto (tgt := 44) hx hb dL_isWhole_34 (by decide) ?_
    refine lv_icmp_ne (tgt := 135) hx hb dL_isWhole_44 (by decide) (fun c1 => absurd c1 (fun c2 => c2 h5)) (fun c1 => ?_)
    exact K1 ls hl
  · rw [sw_at h5 (by omega)]
    refine lv_ifnonnull (tgt := 37) hx hb dL_isWhole_30 (by decide) ?_
    refine lv_aload_n hx hb dL_isWhole_37 rfl (lv_at hl 1 rfl) ?_
    refine lr_getN (k := 4) (fs := (lF0 la ((M.2 0), h))) (v := va_rf (swA la ((M.2 0) 5))) X hP (lEx_l (by decide)) lR_0 (rfl : vwCl[17]? = some (RX12, TX12, 15)) cinX12 (by decide) rfl rfl xw889 dL_isWhole_38 ?_
    rw [sw_at h5 (by omega)]
    refine lr_getN (k := 0) (fs := (lFc k ((M.2 0), h))) (v := .int (nI k)) X hP (lEx_c hC hk) (lR_c (lC_c hC hk)) (rfl : vwCl[16]? = some (RX11, TX11, 7)) cinX11 (by decide) rfl rfl xw817 dL_isWhole_41 ?_
    refine lv_icmp_ne (tgt := 135) hx hb dL_isWhole_44 (by decide) (fun c1 => absurd c1 (fun c2 => c2 h5)) (fun c1 => ?_)
    exact K1 ls hl
theorem vL_isWhole (hC : lC C) (hs : lS b1 la C) (r : RN S M) (hnc : nC (M.2 0) = C.1.1) (hns : nS (M.2 0) = C.1.2.1) : gMetIA l yL_isWhole cL_isWhole 4 (some .boolean) 4 2 8 (qΩ b1 la C) (qP dC dI cg kA la iA C b1) (kR kTab kA) [.ref (caOf b1 0), .ref (la 0)] (S, (M.2 0, h)) 1 (S, (M.2 0, h)) := gEntryIA (ty := .boolean) (by decide) rfl rfl qOK (Nat.le_of_ble_eq_true rfl) (fun p e s m args below meth c Q ls X hP hS hret hl => by
  have hP : qP dC dI cg kA la iA C b1 (S, (M.2 0, h)) s s.heap := hP
  have hz : cZ dC dI cg kA b1 la C s.heap.size S s s.heap := z_of hs hP.1 hP.2
  have h0 := (hP.2.1 0 (lEx_l (by omega))).lt
  have h1 := hs 0 (lEx_l (by omega))
  have h5 : M.2 0 5 = -1 ∨ ∃ k, k < C.1.1 ∧ M.2 0 5 = nI k := by rw [← hnc]; exact r.2.1.2.1.1
  exact kLis_0 X hC hs r hnc hns (by have h0 : la 0 < s.heap.size := h0; omega) hret h5 (lv_sub hl [0, 1] rfl) ⟨hP.2, hz⟩ hS)
end ISW
