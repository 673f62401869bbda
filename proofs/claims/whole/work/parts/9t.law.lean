theorem tw0 : (Jvm.Cond.initialized "GranaryWatchLaw") ∈ TBG := tb_t 0 (by decide +kernel) (by decide +kernel)
theorem tw992 : (Jvm.Cond.methodLink "GranaryWatchLaw" (119 : Nat) ({ cls := "GranaryWatch", name := "appendInput", desc := "(IIIII)I" } : Jvm.MethodName)) ∈ TBG := tb_t 992 (by decide +kernel) (by decide +kernel)
theorem tw993 : (Jvm.Cond.instanceMethod ({ cls := "GranaryWatch", name := "appendInput", desc := "(IIIII)I" } : Jvm.MethodName)) ∈ TBG := tb_t 993 (by decide +kernel) (by decide +kernel)
theorem tw994 : (Jvm.Cond.selects "GranaryWatch" ({ cls := "GranaryWatch", name := "appendInput", desc := "(IIIII)I" } : Jvm.MethodName) ({ cls := "GranaryWatch", name := "appendInput", desc := "(IIIII)I" } : Jvm.MethodName)) ∈ TBG := tb_t 994 (by decide +kernel) (by decide +kernel)
theorem tw995 : (Jvm.Cond.code ({ cls := "GranaryWatch", name := "appendInput", desc := "(IIIII)I" } : Jvm.MethodName) prog_1_method_2_code (6 : Nat) (Option.some Jvm.ClassFile.FieldType.int)) ∈ TBG := tb_t 995 (by decide +kernel) (by decide +kernel)
theorem tw1000 : (Jvm.Cond.methodLink "GranaryWatchLaw" (124 : Nat) ({ cls := "GranaryWatch", name := "truncateInput", desc := "(I)Z" } : Jvm.MethodName)) ∈ TBG := tb_t 1000 (by decide +kernel) (by decide +kernel)
theorem tw1001 : (Jvm.Cond.instanceMethod ({ cls := "GranaryWatch", name := "truncateInput", desc := "(I)Z" } : Jvm.MethodName)) ∈ TBG := tb_t 1001 (by decide +kernel) (by decide +kernel)
theorem tw1002 : (Jvm.Cond.selects "GranaryWatch" ({ cls := "GranaryWatch", name := "truncateInput", desc := "(I)Z" } : Jvm.MethodName) ({ cls := "GranaryWatch", name := "truncateInput", desc := "(I)Z" } : Jvm.MethodName)) ∈ TBG := tb_t 1002 (by decide +kernel) (by decide +kernel)
theorem tw1003 : (Jvm.Cond.code ({ cls := "GranaryWatch", name := "truncateInput", desc := "(I)Z" } : Jvm.MethodName) prog_1_method_3_code (2 : Nat) (Option.some Jvm.ClassFile.FieldType.boolean)) ∈ TBG := tb_t 1003 (by decide +kernel) (by decide +kernel)
theorem tw1004 : (Jvm.Cond.methodLink "GranaryWatchLaw" (128 : Nat) ({ cls := "GranaryWatch", name := "loadGranary", desc := "()I" } : Jvm.MethodName)) ∈ TBG := tb_t 1004 (by decide +kernel) (by decide +kernel)
theorem tw1005 : (Jvm.Cond.instanceMethod ({ cls := "GranaryWatch", name := "loadGranary", desc := "()I" } : Jvm.MethodName)) ∈ TBG := tb_t 1005 (by decide +kernel) (by decide +kernel)
theorem tw1006 : (Jvm.Cond.selects "GranaryWatch" ({ cls := "GranaryWatch", name := "loadGranary", desc := "()I" } : Jvm.MethodName) ({ cls := "GranaryWatch", name := "loadGranary", desc := "()I" } : Jvm.MethodName)) ∈ TBG := tb_t 1006 (by decide +kernel) (by decide +kernel)
theorem tw1007 : (Jvm.Cond.code ({ cls := "GranaryWatch", name := "loadGranary", desc := "()I" } : Jvm.MethodName) prog_1_method_4_code (2 : Nat) (Option.some Jvm.ClassFile.FieldType.int)) ∈ TBG := tb_t 1007 (by decide +kernel) (by decide +kernel)
theorem tw1008 : (Jvm.Cond.methodLink "GranaryWatchLaw" (132 : Nat) ({ cls := "GranaryWatch", name := "runScript", desc := "()I" } : Jvm.MethodName)) ∈ TBG := tb_t 1008 (by decide +kernel) (by decide +kernel)
theorem tw1009 : (Jvm.Cond.instanceMethod ({ cls := "GranaryWatch", name := "runScript", desc := "()I" } : Jvm.MethodName)) ∈ TBG := tb_t 1009 (by decide +kernel) (by decide +kernel)
theorem tw1010 : (Jvm.Cond.selects "GranaryWatch" ({ cls := "GranaryWatch", name := "runScript", desc := "()I" } : Jvm.MethodName) ({ cls := "GranaryWatch", name := "runScript", desc := "()I" } : Jvm.MethodName)) ∈ TBG := tb_t 1010 (by decide +kernel) (by decide +kernel)
theorem tw1011 : (Jvm.Cond.code ({ cls := "GranaryWatch", name := "runScript", desc := "()I" } : Jvm.MethodName) prog_1_method_5_code (2 : Nat) (Option.some Jvm.ClassFile.FieldType.int)) ∈ TBG := tb_t 1011 (by decide +kernel) (by decide +kernel)
theorem tw1140 : (Jvm.Cond.methodLink "GranaryWatchLaw" (136 : Nat) ({ cls := "GranaryWatch", name := "errorCode", desc := "()I" } : Jvm.MethodName)) ∈ TBG := tb_t 1140 (by decide +kernel) (by decide +kernel)
theorem tw1141 : (Jvm.Cond.instanceMethod ({ cls := "GranaryWatch", name := "errorCode", desc := "()I" } : Jvm.MethodName)) ∈ TBG := tb_t 1141 (by decide +kernel) (by decide +kernel)
theorem tw1142 : (Jvm.Cond.selects "GranaryWatch" ({ cls := "GranaryWatch", name := "errorCode", desc := "()I" } : Jvm.MethodName) ({ cls := "GranaryWatch", name := "errorCode", desc := "()I" } : Jvm.MethodName)) ∈ TBG := tb_t 1142 (by decide +kernel) (by decide +kernel)
theorem tw1143 : (Jvm.Cond.code ({ cls := "GranaryWatch", name := "errorCode", desc := "()I" } : Jvm.MethodName) prog_1_method_6_code (1 : Nat) (Option.some Jvm.ClassFile.FieldType.int)) ∈ TBG := tb_t 1143 (by decide +kernel) (by decide +kernel)
theorem tw1144 : (Jvm.Cond.methodLink "GranaryWatchLaw" (140 : Nat) ({ cls := "GranaryWatch", name := "errorOffset", desc := "()I" } : Jvm.MethodName)) ∈ TBG := tb_t 1144 (by decide +kernel) (by decide +kernel)
theorem tw1145 : (Jvm.Cond.instanceMethod ({ cls := "GranaryWatch", name := "errorOffset", desc := "()I" } : Jvm.MethodName)) ∈ TBG := tb_t 1145 (by decide +kernel) (by decide +kernel)
theorem tw1146 : (Jvm.Cond.selects "GranaryWatch" ({ cls := "GranaryWatch", name := "errorOffset", desc := "()I" } : Jvm.MethodName) ({ cls := "GranaryWatch", name := "errorOffset", desc := "()I" } : Jvm.MethodName)) ∈ TBG := tb_t 1146 (by decide +kernel) (by decide +kernel)
theorem tw1147 : (Jvm.Cond.code ({ cls := "GranaryWatch", name := "errorOffset", desc := "()I" } : Jvm.MethodName) prog_1_method_7_code (1 : Nat) (Option.some Jvm.ClassFile.FieldType.int)) ∈ TBG := tb_t 1147 (by decide +kernel) (by decide +kernel)
theorem tw1148 : (Jvm.Cond.methodLink "GranaryWatchLaw" (144 : Nat) ({ cls := "GranaryWatch", name := "clock", desc := "()I" } : Jvm.MethodName)) ∈ TBG := tb_t 1148 (by decide +kernel) (by decide +kernel)
theorem tw1149 : (Jvm.Cond.instanceMethod ({ cls := "GranaryWatch", name := "clock", desc := "()I" } : Jvm.MethodName)) ∈ TBG := tb_t 1149 (by decide +kernel) (by decide +kernel)
theorem tw1150 : (Jvm.Cond.selects "GranaryWatch" ({ cls := "GranaryWatch", name := "clock", desc := "()I" } : Jvm.MethodName) ({ cls := "GranaryWatch", name := "clock", desc := "()I" } : Jvm.MethodName)) ∈ TBG := tb_t 1150 (by decide +kernel) (by decide +kernel)
theorem tw1151 : (Jvm.Cond.code ({ cls := "GranaryWatch", name := "clock", desc := "()I" } : Jvm.MethodName) prog_1_method_8_code (1 : Nat) (Option.some Jvm.ClassFile.FieldType.int)) ∈ TBG := tb_t 1151 (by decide +kernel) (by decide +kernel)
theorem tw1152 : (Jvm.Cond.methodLink "GranaryWatchLaw" (148 : Nat) ({ cls := "GranaryWatch", name := "hourOfDay", desc := "()I" } : Jvm.MethodName)) ∈ TBG := tb_t 1152 (by decide +kernel) (by decide +kernel)
theorem tw1153 : (Jvm.Cond.instanceMethod ({ cls := "GranaryWatch", name := "hourOfDay", desc := "()I" } : Jvm.MethodName)) ∈ TBG := tb_t 1153 (by decide +kernel) (by decide +kernel)
theorem tw1154 : (Jvm.Cond.selects "GranaryWatch" ({ cls := "GranaryWatch", name := "hourOfDay", desc := "()I" } : Jvm.MethodName) ({ cls := "GranaryWatch", name := "hourOfDay", desc := "()I" } : Jvm.MethodName)) ∈ TBG := tb_t 1154 (by decide +kernel) (by decide +kernel)
theorem tw1155 : (Jvm.Cond.code ({ cls := "GranaryWatch", name := "hourOfDay", desc := "()I" } : Jvm.MethodName) prog_1_method_9_code (1 : Nat) (Option.some Jvm.ClassFile.FieldType.int)) ∈ TBG := tb_t 1155 (by decide +kernel) (by decide +kernel)
theorem tw1156 : (Jvm.Cond.methodLink "GranaryWatchLaw" (152 : Nat) ({ cls := "GranaryWatch", name := "catCount", desc := "()I" } : Jvm.MethodName)) ∈ TBG := tb_t 1156 (by decide +kernel) (by decide +kernel)
theorem tw1157 : (Jvm.Cond.instanceMethod ({ cls := "GranaryWatch", name := "catCount", desc := "()I" } : Jvm.MethodName)) ∈ TBG := tb_t 1157 (by decide +kernel) (by decide +kernel)
theorem tw1158 : (Jvm.Cond.selects "GranaryWatch" ({ cls := "GranaryWatch", name := "catCount", desc := "()I" } : Jvm.MethodName) ({ cls := "GranaryWatch", name := "catCount", desc := "()I" } : Jvm.MethodName)) ∈ TBG := tb_t 1158 (by decide +kernel) (by decide +kernel)
theorem tw1159 : (Jvm.Cond.code ({ cls := "GranaryWatch", name := "catCount", desc := "()I" } : Jvm.MethodName) prog_1_method_10_code (1 : Nat) (Option.some Jvm.ClassFile.FieldType.int)) ∈ TBG := tb_t 1159 (by decide +kernel) (by decide +kernel)
theorem tw1160 : (Jvm.Cond.methodLink "GranaryWatchLaw" (156 : Nat) ({ cls := "GranaryWatch", name := "sackCount", desc := "()I" } : Jvm.MethodName)) ∈ TBG := tb_t 1160 (by decide +kernel) (by decide +kernel)
theorem tw1161 : (Jvm.Cond.instanceMethod ({ cls := "GranaryWatch", name := "sackCount", desc := "()I" } : Jvm.MethodName)) ∈ TBG := tb_t 1161 (by decide +kernel) (by decide +kernel)
theorem tw1162 : (Jvm.Cond.selects "GranaryWatch" ({ cls := "GranaryWatch", name := "sackCount", desc := "()I" } : Jvm.MethodName) ({ cls := "GranaryWatch", name := "sackCount", desc := "()I" } : Jvm.MethodName)) ∈ TBG := tb_t 1162 (by decide +kernel) (by decide +kernel)
theorem tw1163 : (Jvm.Cond.code ({ cls := "GranaryWatch", name := "sackCount", desc := "()I" } : Jvm.MethodName) prog_1_method_11_code (1 : Nat) (Option.some Jvm.ClassFile.FieldType.int)) ∈ TBG := tb_t 1163 (by decide +kernel) (by decide +kernel)
theorem tw1164 : (Jvm.Cond.methodLink "GranaryWatchLaw" (160 : Nat) ({ cls := "GranaryWatch", name := "shiftCount", desc := "()I" } : Jvm.MethodName)) ∈ TBG := tb_t 1164 (by decide +kernel) (by decide +kernel)
theorem tw1165 : (Jvm.Cond.instanceMethod ({ cls := "GranaryWatch", name := "shiftCount", desc := "()I" } : Jvm.MethodName)) ∈ TBG := tb_t 1165 (by decide +kernel) (by decide +kernel)
theorem tw1166 : (Jvm.Cond.selects "GranaryWatch" ({ cls := "GranaryWatch", name := "shiftCount", desc := "()I" } : Jvm.MethodName) ({ cls := "GranaryWatch", name := "shiftCount", desc := "()I" } : Jvm.MethodName)) ∈ TBG := tb_t 1166 (by decide +kernel) (by decide +kernel)
theorem tw1167 : (Jvm.Cond.code ({ cls := "GranaryWatch", name := "shiftCount", desc := "()I" } : Jvm.MethodName) prog_1_method_12_code (1 : Nat) (Option.some Jvm.ClassFile.FieldType.int)) ∈ TBG := tb_t 1167 (by decide +kernel) (by decide +kernel)
theorem tw1168 : (Jvm.Cond.methodLink "GranaryWatchLaw" (207 : Nat) ({ cls := "GranaryWatch", name := "swornCat", desc := "()I" } : Jvm.MethodName)) ∈ TBG := tb_t 1168 (by decide +kernel) (by decide +kernel)
theorem tw1169 : (Jvm.Cond.instanceMethod ({ cls := "GranaryWatch", name := "swornCat", desc := "()I" } : Jvm.MethodName)) ∈ TBG := tb_t 1169 (by decide +kernel) (by decide +kernel)
theorem tw1170 : (Jvm.Cond.selects "GranaryWatch" ({ cls := "GranaryWatch", name := "swornCat", desc := "()I" } : Jvm.MethodName) ({ cls := "GranaryWatch", name := "swornCat", desc := "()I" } : Jvm.MethodName)) ∈ TBG := tb_t 1170 (by decide +kernel) (by decide +kernel)
theorem tw1171 : (Jvm.Cond.code ({ cls := "GranaryWatch", name := "swornCat", desc := "()I" } : Jvm.MethodName) prog_1_method_25_code (1 : Nat) (Option.some Jvm.ClassFile.FieldType.int)) ∈ TBG := tb_t 1171 (by decide +kernel) (by decide +kernel)
theorem tw1172 : (Jvm.Cond.methodLink "GranaryWatchLaw" (211 : Nat) ({ cls := "GranaryWatch", name := "currentShift", desc := "()I" } : Jvm.MethodName)) ∈ TBG := tb_t 1172 (by decide +kernel) (by decide +kernel)
theorem tw1173 : (Jvm.Cond.instanceMethod ({ cls := "GranaryWatch", name := "currentShift", desc := "()I" } : Jvm.MethodName)) ∈ TBG := tb_t 1173 (by decide +kernel) (by decide +kernel)
theorem tw1174 : (Jvm.Cond.selects "GranaryWatch" ({ cls := "GranaryWatch", name := "currentShift", desc := "()I" } : Jvm.MethodName) ({ cls := "GranaryWatch", name := "currentShift", desc := "()I" } : Jvm.MethodName)) ∈ TBG := tb_t 1174 (by decide +kernel) (by decide +kernel)
theorem tw1175 : (Jvm.Cond.code ({ cls := "GranaryWatch", name := "currentShift", desc := "()I" } : Jvm.MethodName) prog_1_method_26_code (1 : Nat) (Option.some Jvm.ClassFile.FieldType.int)) ∈ TBG := tb_t 1175 (by decide +kernel) (by decide +kernel)
theorem tw1176 : (Jvm.Cond.methodLink "GranaryWatchLaw" (215 : Nat) ({ cls := "GranaryWatch", name := "hoursLeft", desc := "()I" } : Jvm.MethodName)) ∈ TBG := tb_t 1176 (by decide +kernel) (by decide +kernel)
theorem tw1177 : (Jvm.Cond.instanceMethod ({ cls := "GranaryWatch", name := "hoursLeft", desc := "()I" } : Jvm.MethodName)) ∈ TBG := tb_t 1177 (by decide +kernel) (by decide +kernel)
theorem tw1178 : (Jvm.Cond.selects "GranaryWatch" ({ cls := "GranaryWatch", name := "hoursLeft", desc := "()I" } : Jvm.MethodName) ({ cls := "GranaryWatch", name := "hoursLeft", desc := "()I" } : Jvm.MethodName)) ∈ TBG := tb_t 1178 (by decide +kernel) (by decide +kernel)
theorem tw1179 : (Jvm.Cond.code ({ cls := "GranaryWatch", name := "hoursLeft", desc := "()I" } : Jvm.MethodName) prog_1_method_27_code (1 : Nat) (Option.some Jvm.ClassFile.FieldType.int)) ∈ TBG := tb_t 1179 (by decide +kernel) (by decide +kernel)
theorem tw1180 : (Jvm.Cond.methodLink "GranaryWatchLaw" (228 : Nat) ({ cls := "GranaryWatch", name := "huntingSack", desc := "()I" } : Jvm.MethodName)) ∈ TBG := tb_t 1180 (by decide +kernel) (by decide +kernel)
theorem tw1181 : (Jvm.Cond.instanceMethod ({ cls := "GranaryWatch", name := "huntingSack", desc := "()I" } : Jvm.MethodName)) ∈ TBG := tb_t 1181 (by decide +kernel) (by decide +kernel)
theorem tw1182 : (Jvm.Cond.selects "GranaryWatch" ({ cls := "GranaryWatch", name := "huntingSack", desc := "()I" } : Jvm.MethodName) ({ cls := "GranaryWatch", name := "huntingSack", desc := "()I" } : Jvm.MethodName)) ∈ TBG := tb_t 1182 (by decide +kernel) (by decide +kernel)
theorem tw1183 : (Jvm.Cond.code ({ cls := "GranaryWatch", name := "huntingSack", desc := "()I" } : Jvm.MethodName) prog_1_method_31_code (1 : Nat) (Option.some Jvm.ClassFile.FieldType.int)) ∈ TBG := tb_t 1183 (by decide +kernel) (by decide +kernel)
theorem tw1185 : (Jvm.Cond.methodLink "GranaryWatchLaw" (232 : Nat) ({ cls := "GranaryWatch", name := "eventCount", desc := "()I" } : Jvm.MethodName)) ∈ TBG := tb_t 1185 (by decide +kernel) (by decide +kernel)
theorem tw1186 : (Jvm.Cond.instanceMethod ({ cls := "GranaryWatch", name := "eventCount", desc := "()I" } : Jvm.MethodName)) ∈ TBG := tb_t 1186 (by decide +kernel) (by decide +kernel)
theorem tw1187 : (Jvm.Cond.selects "GranaryWatch" ({ cls := "GranaryWatch", name := "eventCount", desc := "()I" } : Jvm.MethodName) ({ cls := "GranaryWatch", name := "eventCount", desc := "()I" } : Jvm.MethodName)) ∈ TBG := tb_t 1187 (by decide +kernel) (by decide +kernel)
theorem tw1188 : (Jvm.Cond.code ({ cls := "GranaryWatch", name := "eventCount", desc := "()I" } : Jvm.MethodName) prog_1_method_32_code (1 : Nat) (Option.some Jvm.ClassFile.FieldType.int)) ∈ TBG := tb_t 1188 (by decide +kernel) (by decide +kernel)
theorem tw1189 : (Jvm.Cond.methodLink "GranaryWatchLaw" (236 : Nat) ({ cls := "GranaryWatch", name := "eventKind", desc := "(I)I" } : Jvm.MethodName)) ∈ TBG := tb_t 1189 (by decide +kernel) (by decide +kernel)
theorem tw1190 : (Jvm.Cond.instanceMethod ({ cls := "GranaryWatch", name := "eventKind", desc := "(I)I" } : Jvm.MethodName)) ∈ TBG := tb_t 1190 (by decide +kernel) (by decide +kernel)
theorem tw1191 : (Jvm.Cond.selects "GranaryWatch" ({ cls := "GranaryWatch", name := "eventKind", desc := "(I)I" } : Jvm.MethodName) ({ cls := "GranaryWatch", name := "eventKind", desc := "(I)I" } : Jvm.MethodName)) ∈ TBG := tb_t 1191 (by decide +kernel) (by decide +kernel)
theorem tw1192 : (Jvm.Cond.code ({ cls := "GranaryWatch", name := "eventKind", desc := "(I)I" } : Jvm.MethodName) prog_1_method_33_code (2 : Nat) (Option.some Jvm.ClassFile.FieldType.int)) ∈ TBG := tb_t 1192 (by decide +kernel) (by decide +kernel)
theorem tw1204 : (Jvm.Cond.methodLink "GranaryWatchLaw" (240 : Nat) ({ cls := "GranaryWatch", name := "eventCat", desc := "(I)I" } : Jvm.MethodName)) ∈ TBG := tb_t 1204 (by decide +kernel) (by decide +kernel)
theorem tw1205 : (Jvm.Cond.instanceMethod ({ cls := "GranaryWatch", name := "eventCat", desc := "(I)I" } : Jvm.MethodName)) ∈ TBG := tb_t 1205 (by decide +kernel) (by decide +kernel)
theorem tw1206 : (Jvm.Cond.selects "GranaryWatch" ({ cls := "GranaryWatch", name := "eventCat", desc := "(I)I" } : Jvm.MethodName) ({ cls := "GranaryWatch", name := "eventCat", desc := "(I)I" } : Jvm.MethodName)) ∈ TBG := tb_t 1206 (by decide +kernel) (by decide +kernel)
theorem tw1207 : (Jvm.Cond.code ({ cls := "GranaryWatch", name := "eventCat", desc := "(I)I" } : Jvm.MethodName) prog_1_method_34_code (2 : Nat) (Option.some Jvm.ClassFile.FieldType.int)) ∈ TBG := tb_t 1207 (by decide +kernel) (by decide +kernel)
theorem tw1208 : (Jvm.Cond.methodLink "GranaryWatchLaw" (244 : Nat) ({ cls := "GranaryWatch", name := "eventNumber", desc := "(I)I" } : Jvm.MethodName)) ∈ TBG := tb_t 1208 (by decide +kernel) (by decide +kernel)
theorem tw1209 : (Jvm.Cond.instanceMethod ({ cls := "GranaryWatch", name := "eventNumber", desc := "(I)I" } : Jvm.MethodName)) ∈ TBG := tb_t 1209 (by decide +kernel) (by decide +kernel)
theorem tw1210 : (Jvm.Cond.selects "GranaryWatch" ({ cls := "GranaryWatch", name := "eventNumber", desc := "(I)I" } : Jvm.MethodName) ({ cls := "GranaryWatch", name := "eventNumber", desc := "(I)I" } : Jvm.MethodName)) ∈ TBG := tb_t 1210 (by decide +kernel) (by decide +kernel)
theorem tw1211 : (Jvm.Cond.code ({ cls := "GranaryWatch", name := "eventNumber", desc := "(I)I" } : Jvm.MethodName) prog_1_method_35_code (2 : Nat) (Option.some Jvm.ClassFile.FieldType.int)) ∈ TBG := tb_t 1211 (by decide +kernel) (by decide +kernel)
theorem tw1212 : (Jvm.Cond.methodLink "GranaryWatchLaw" (248 : Nat) ({ cls := "GranaryWatch", name := "milk", desc := "()I" } : Jvm.MethodName)) ∈ TBG := tb_t 1212 (by decide +kernel) (by decide +kernel)
theorem tw1213 : (Jvm.Cond.instanceMethod ({ cls := "GranaryWatch", name := "milk", desc := "()I" } : Jvm.MethodName)) ∈ TBG := tb_t 1213 (by decide +kernel) (by decide +kernel)
theorem tw1214 : (Jvm.Cond.selects "GranaryWatch" ({ cls := "GranaryWatch", name := "milk", desc := "()I" } : Jvm.MethodName) ({ cls := "GranaryWatch", name := "milk", desc := "()I" } : Jvm.MethodName)) ∈ TBG := tb_t 1214 (by decide +kernel) (by decide +kernel)
theorem tw1215 : (Jvm.Cond.code ({ cls := "GranaryWatch", name := "milk", desc := "()I" } : Jvm.MethodName) prog_1_method_36_code (1 : Nat) (Option.some Jvm.ClassFile.FieldType.int)) ∈ TBG := tb_t 1215 (by decide +kernel) (by decide +kernel)
theorem tw1216 : (Jvm.Cond.methodLink "GranaryWatchLaw" (261 : Nat) ({ cls := "GranaryWatch", name := "hoursUntilUnguarded", desc := "()I" } : Jvm.MethodName)) ∈ TBG := tb_t 1216 (by decide +kernel) (by decide +kernel)
theorem tw1217 : (Jvm.Cond.instanceMethod ({ cls := "GranaryWatch", name := "hoursUntilUnguarded", desc := "()I" } : Jvm.MethodName)) ∈ TBG := tb_t 1217 (by decide +kernel) (by decide +kernel)
theorem tw1218 : (Jvm.Cond.selects "GranaryWatch" ({ cls := "GranaryWatch", name := "hoursUntilUnguarded", desc := "()I" } : Jvm.MethodName) ({ cls := "GranaryWatch", name := "hoursUntilUnguarded", desc := "()I" } : Jvm.MethodName)) ∈ TBG := tb_t 1218 (by decide +kernel) (by decide +kernel)
theorem tw1219 : (Jvm.Cond.code ({ cls := "GranaryWatch", name := "hoursUntilUnguarded", desc := "()I" } : Jvm.MethodName) prog_1_method_40_code (2 : Nat) (Option.some Jvm.ClassFile.FieldType.int)) ∈ TBG := tb_t 1219 (by decide +kernel) (by decide +kernel)
theorem tw1221 : (Jvm.Cond.methodLink "GranaryWatchLaw" (274 : Nat) ({ cls := "GranaryWatch", name := "totalCaught", desc := "()I" } : Jvm.MethodName)) ∈ TBG := tb_t 1221 (by decide +kernel) (by decide +kernel)
theorem tw1222 : (Jvm.Cond.instanceMethod ({ cls := "GranaryWatch", name := "totalCaught", desc := "()I" } : Jvm.MethodName)) ∈ TBG := tb_t 1222 (by decide +kernel) (by decide +kernel)
theorem tw1223 : (Jvm.Cond.selects "GranaryWatch" ({ cls := "GranaryWatch", name := "totalCaught", desc := "()I" } : Jvm.MethodName) ({ cls := "GranaryWatch", name := "totalCaught", desc := "()I" } : Jvm.MethodName)) ∈ TBG := tb_t 1223 (by decide +kernel) (by decide +kernel)
theorem tw1224 : (Jvm.Cond.code ({ cls := "GranaryWatch", name := "totalCaught", desc := "()I" } : Jvm.MethodName) prog_1_method_44_code (1 : Nat) (Option.some Jvm.ClassFile.FieldType.int)) ∈ TBG := tb_t 1224 (by decide +kernel) (by decide +kernel)
theorem tw1225 : (Jvm.Cond.methodLink "GranaryWatchLaw" (278 : Nat) ({ cls := "GranaryWatch", name := "totalEaten", desc := "()I" } : Jvm.MethodName)) ∈ TBG := tb_t 1225 (by decide +kernel) (by decide +kernel)
theorem tw1226 : (Jvm.Cond.instanceMethod ({ cls := "GranaryWatch", name := "totalEaten", desc := "()I" } : Jvm.MethodName)) ∈ TBG := tb_t 1226 (by decide +kernel) (by decide +kernel)
theorem tw1227 : (Jvm.Cond.selects "GranaryWatch" ({ cls := "GranaryWatch", name := "totalEaten", desc := "()I" } : Jvm.MethodName) ({ cls := "GranaryWatch", name := "totalEaten", desc := "()I" } : Jvm.MethodName)) ∈ TBG := tb_t 1227 (by decide +kernel) (by decide +kernel)
theorem tw1228 : (Jvm.Cond.code ({ cls := "GranaryWatch", name := "totalEaten", desc := "()I" } : Jvm.MethodName) prog_1_method_45_code (1 : Nat) (Option.some Jvm.ClassFile.FieldType.int)) ∈ TBG := tb_t 1228 (by decide +kernel) (by decide +kernel)
theorem tw1229 : (Jvm.Cond.methodLink "GranaryWatchLaw" (282 : Nat) ({ cls := "GranaryWatch", name := "totalBorn", desc := "()I" } : Jvm.MethodName)) ∈ TBG := tb_t 1229 (by decide +kernel) (by decide +kernel)
theorem tw1230 : (Jvm.Cond.instanceMethod ({ cls := "GranaryWatch", name := "totalBorn", desc := "()I" } : Jvm.MethodName)) ∈ TBG := tb_t 1230 (by decide +kernel) (by decide +kernel)
theorem tw1231 : (Jvm.Cond.selects "GranaryWatch" ({ cls := "GranaryWatch", name := "totalBorn", desc := "()I" } : Jvm.MethodName) ({ cls := "GranaryWatch", name := "totalBorn", desc := "()I" } : Jvm.MethodName)) ∈ TBG := tb_t 1231 (by decide +kernel) (by decide +kernel)
theorem tw1232 : (Jvm.Cond.code ({ cls := "GranaryWatch", name := "totalBorn", desc := "()I" } : Jvm.MethodName) prog_1_method_46_code (1 : Nat) (Option.some Jvm.ClassFile.FieldType.int)) ∈ TBG := tb_t 1232 (by decide +kernel) (by decide +kernel)
theorem tw1233 : (Jvm.Cond.methodLink "GranaryWatchLaw" (286 : Nat) ({ cls := "GranaryWatch", name := "totalStarved", desc := "()I" } : Jvm.MethodName)) ∈ TBG := tb_t 1233 (by decide +kernel) (by decide +kernel)
theorem tw1234 : (Jvm.Cond.instanceMethod ({ cls := "GranaryWatch", name := "totalStarved", desc := "()I" } : Jvm.MethodName)) ∈ TBG := tb_t 1234 (by decide +kernel) (by decide +kernel)
theorem tw1235 : (Jvm.Cond.selects "GranaryWatch" ({ cls := "GranaryWatch", name := "totalStarved", desc := "()I" } : Jvm.MethodName) ({ cls := "GranaryWatch", name := "totalStarved", desc := "()I" } : Jvm.MethodName)) ∈ TBG := tb_t 1235 (by decide +kernel) (by decide +kernel)
theorem tw1236 : (Jvm.Cond.code ({ cls := "GranaryWatch", name := "totalStarved", desc := "()I" } : Jvm.MethodName) prog_1_method_47_code (1 : Nat) (Option.some Jvm.ClassFile.FieldType.int)) ∈ TBG := tb_t 1236 (by decide +kernel) (by decide +kernel)
theorem tw1237 : (Jvm.Cond.methodLink "GranaryWatchLaw" (290 : Nat) ({ cls := "GranaryWatch", name := "totalOaths", desc := "()I" } : Jvm.MethodName)) ∈ TBG := tb_t 1237 (by decide +kernel) (by decide +kernel)
theorem tw1238 : (Jvm.Cond.instanceMethod ({ cls := "GranaryWatch", name := "totalOaths", desc := "()I" } : Jvm.MethodName)) ∈ TBG := tb_t 1238 (by decide +kernel) (by decide +kernel)
theorem tw1239 : (Jvm.Cond.selects "GranaryWatch" ({ cls := "GranaryWatch", name := "totalOaths", desc := "()I" } : Jvm.MethodName) ({ cls := "GranaryWatch", name := "totalOaths", desc := "()I" } : Jvm.MethodName)) ∈ TBG := tb_t 1239 (by decide +kernel) (by decide +kernel)
theorem tw1240 : (Jvm.Cond.code ({ cls := "GranaryWatch", name := "totalOaths", desc := "()I" } : Jvm.MethodName) prog_1_method_48_code (1 : Nat) (Option.some Jvm.ClassFile.FieldType.int)) ∈ TBG := tb_t 1240 (by decide +kernel) (by decide +kernel)
theorem tw1241 : (Jvm.Cond.methodLink "GranaryWatchLaw" (294 : Nat) ({ cls := "GranaryWatch", name := "totalRefusals", desc := "()I" } : Jvm.MethodName)) ∈ TBG := tb_t 1241 (by decide +kernel) (by decide +kernel)
theorem tw1242 : (Jvm.Cond.instanceMethod ({ cls := "GranaryWatch", name := "totalRefusals", desc := "()I" } : Jvm.MethodName)) ∈ TBG := tb_t 1242 (by decide +kernel) (by decide +kernel)
theorem tw1243 : (Jvm.Cond.selects "GranaryWatch" ({ cls := "GranaryWatch", name := "totalRefusals", desc := "()I" } : Jvm.MethodName) ({ cls := "GranaryWatch", name := "totalRefusals", desc := "()I" } : Jvm.MethodName)) ∈ TBG := tb_t 1243 (by decide +kernel) (by decide +kernel)
theorem tw1244 : (Jvm.Cond.code ({ cls := "GranaryWatch", name := "totalRefusals", desc := "()I" } : Jvm.MethodName) prog_1_method_49_code (1 : Nat) (Option.some Jvm.ClassFile.FieldType.int)) ∈ TBG := tb_t 1244 (by decide +kernel) (by decide +kernel)
theorem tw1245 : (Jvm.Cond.methodLink "GranaryWatchLaw" (298 : Nat) ({ cls := "GranaryWatch", name := "isConsistent", desc := "()Z" } : Jvm.MethodName)) ∈ TBG := tb_t 1245 (by decide +kernel) (by decide +kernel)
theorem tw1246 : (Jvm.Cond.instanceMethod ({ cls := "GranaryWatch", name := "isConsistent", desc := "()Z" } : Jvm.MethodName)) ∈ TBG := tb_t 1246 (by decide +kernel) (by decide +kernel)
theorem tw1247 : (Jvm.Cond.selects "GranaryWatch" ({ cls := "GranaryWatch", name := "isConsistent", desc := "()Z" } : Jvm.MethodName) ({ cls := "GranaryWatch", name := "isConsistent", desc := "()Z" } : Jvm.MethodName)) ∈ TBG := tb_t 1247 (by decide +kernel) (by decide +kernel)
theorem tw1248 : (Jvm.Cond.code ({ cls := "GranaryWatch", name := "isConsistent", desc := "()Z" } : Jvm.MethodName) prog_1_method_50_code (1 : Nat) (Option.some Jvm.ClassFile.FieldType.boolean)) ∈ TBG := tb_t 1248 (by decide +kernel) (by decide +kernel)
theorem tw1265 : (Jvm.Cond.methodLink "GranaryWatchLaw" (303 : Nat) ({ cls := "GranaryWatch", name := "averageTiredness", desc := "()D" } : Jvm.MethodName)) ∈ TBG := tb_t 1265 (by decide +kernel) (by decide +kernel)
theorem tw1266 : (Jvm.Cond.instanceMethod ({ cls := "GranaryWatch", name := "averageTiredness", desc := "()D" } : Jvm.MethodName)) ∈ TBG := tb_t 1266 (by decide +kernel) (by decide +kernel)
theorem tw1267 : (Jvm.Cond.selects "GranaryWatch" ({ cls := "GranaryWatch", name := "averageTiredness", desc := "()D" } : Jvm.MethodName) ({ cls := "GranaryWatch", name := "averageTiredness", desc := "()D" } : Jvm.MethodName)) ∈ TBG := tb_t 1267 (by decide +kernel) (by decide +kernel)
theorem tw1268 : (Jvm.Cond.code ({ cls := "GranaryWatch", name := "averageTiredness", desc := "()D" } : Jvm.MethodName) prog_1_method_51_code (3 : Nat) (Option.some Jvm.ClassFile.FieldType.double)) ∈ TBG := tb_t 1268 (by decide +kernel) (by decide +kernel)
theorem tw1269 : (Jvm.Cond.methodLink "GranaryWatchLaw" (337 : Nat) ({ cls := "GranaryWatch", name := "writeSacks", desc := "()I" } : Jvm.MethodName)) ∈ TBG := tb_t 1269 (by decide +kernel) (by decide +kernel)
theorem tw1270 : (Jvm.Cond.instanceMethod ({ cls := "GranaryWatch", name := "writeSacks", desc := "()I" } : Jvm.MethodName)) ∈ TBG := tb_t 1270 (by decide +kernel) (by decide +kernel)
theorem tw1271 : (Jvm.Cond.selects "GranaryWatch" ({ cls := "GranaryWatch", name := "writeSacks", desc := "()I" } : Jvm.MethodName) ({ cls := "GranaryWatch", name := "writeSacks", desc := "()I" } : Jvm.MethodName)) ∈ TBG := tb_t 1271 (by decide +kernel) (by decide +kernel)
theorem tw1272 : (Jvm.Cond.code ({ cls := "GranaryWatch", name := "writeSacks", desc := "()I" } : Jvm.MethodName) prog_1_method_61_code (2 : Nat) (Option.some Jvm.ClassFile.FieldType.int)) ∈ TBG := tb_t 1272 (by decide +kernel) (by decide +kernel)
theorem tw1288 : (Jvm.Cond.methodLink "GranaryWatchLaw" (341 : Nat) ({ cls := "GranaryWatch", name := "outputByte", desc := "(I)I" } : Jvm.MethodName)) ∈ TBG := tb_t 1288 (by decide +kernel) (by decide +kernel)
theorem tw1289 : (Jvm.Cond.instanceMethod ({ cls := "GranaryWatch", name := "outputByte", desc := "(I)I" } : Jvm.MethodName)) ∈ TBG := tb_t 1289 (by decide +kernel) (by decide +kernel)
theorem tw1290 : (Jvm.Cond.selects "GranaryWatch" ({ cls := "GranaryWatch", name := "outputByte", desc := "(I)I" } : Jvm.MethodName) ({ cls := "GranaryWatch", name := "outputByte", desc := "(I)I" } : Jvm.MethodName)) ∈ TBG := tb_t 1290 (by decide +kernel) (by decide +kernel)
theorem tw1291 : (Jvm.Cond.code ({ cls := "GranaryWatch", name := "outputByte", desc := "(I)I" } : Jvm.MethodName) prog_1_method_62_code (2 : Nat) (Option.some Jvm.ClassFile.FieldType.int)) ∈ TBG := tb_t 1291 (by decide +kernel) (by decide +kernel)
theorem tw1292 : (Jvm.Cond.methodLink "GranaryWatchLaw" (345 : Nat) ({ cls := "GranaryWatch", name := "saveState", desc := "()I" } : Jvm.MethodName)) ∈ TBG := tb_t 1292 (by decide +kernel) (by decide +kernel)
theorem tw1293 : (Jvm.Cond.instanceMethod ({ cls := "GranaryWatch", name := "saveState", desc := "()I" } : Jvm.MethodName)) ∈ TBG := tb_t 1293 (by decide +kernel) (by decide +kernel)
theorem tw1294 : (Jvm.Cond.selects "GranaryWatch" ({ cls := "GranaryWatch", name := "saveState", desc := "()I" } : Jvm.MethodName) ({ cls := "GranaryWatch", name := "saveState", desc := "()I" } : Jvm.MethodName)) ∈ TBG := tb_t 1294 (by decide +kernel) (by decide +kernel)
theorem tw1295 : (Jvm.Cond.code ({ cls := "GranaryWatch", name := "saveState", desc := "()I" } : Jvm.MethodName) prog_1_method_63_code (1 : Nat) (Option.some Jvm.ClassFile.FieldType.int)) ∈ TBG := tb_t 1295 (by decide +kernel) (by decide +kernel)
theorem tw1296 : (Jvm.Cond.methodLink "GranaryWatchLaw" (164 : Nat) ({ cls := "GranaryWatchLaw", name := "catNameByte", desc := "(LGranaryWatch;II[J)I" } : Jvm.MethodName)) ∈ TBG := tb_t 1296 (by decide +kernel) (by decide +kernel)
theorem tw1297 : (Jvm.Cond.static ({ cls := "GranaryWatchLaw", name := "catNameByte", desc := "(LGranaryWatch;II[J)I" } : Jvm.MethodName)) ∈ TBG := tb_t 1297 (by decide +kernel) (by decide +kernel)
theorem tw1298 : (Jvm.Cond.codeWith ({ cls := "GranaryWatchLaw", name := "catNameByte", desc := "(LGranaryWatch;II[J)I" } : Jvm.MethodName) method_3_code (5 : Nat) (Option.some Jvm.ClassFile.FieldType.int) [((0 : Nat), (10 : Nat), (13 : Nat), (13 : Nat))]) ∈ TBG := tb_t 1298 (by decide +kernel) (by decide +kernel)
theorem tw1326 : (Jvm.Cond.methodLink "GranaryWatchLaw" (173 : Nat) ({ cls := "GranaryWatchLaw", name := "sackNameByte", desc := "(LGranaryWatch;II[J)I" } : Jvm.MethodName)) ∈ TBG := tb_t 1326 (by decide +kernel) (by decide +kernel)
theorem tw1327 : (Jvm.Cond.static ({ cls := "GranaryWatchLaw", name := "sackNameByte", desc := "(LGranaryWatch;II[J)I" } : Jvm.MethodName)) ∈ TBG := tb_t 1327 (by decide +kernel) (by decide +kernel)
theorem tw1328 : (Jvm.Cond.codeWith ({ cls := "GranaryWatchLaw", name := "sackNameByte", desc := "(LGranaryWatch;II[J)I" } : Jvm.MethodName) method_4_code (5 : Nat) (Option.some Jvm.ClassFile.FieldType.int) [((0 : Nat), (10 : Nat), (13 : Nat), (13 : Nat))]) ∈ TBG := tb_t 1328 (by decide +kernel) (by decide +kernel)
theorem tw1338 : (Jvm.Cond.methodLink "GranaryWatchLaw" (176 : Nat) ({ cls := "GranaryWatchLaw", name := "speedOf", desc := "(LGranaryWatch;I[J)I" } : Jvm.MethodName)) ∈ TBG := tb_t 1338 (by decide +kernel) (by decide +kernel)
theorem tw1339 : (Jvm.Cond.static ({ cls := "GranaryWatchLaw", name := "speedOf", desc := "(LGranaryWatch;I[J)I" } : Jvm.MethodName)) ∈ TBG := tb_t 1339 (by decide +kernel) (by decide +kernel)
theorem tw1340 : (Jvm.Cond.codeWith ({ cls := "GranaryWatchLaw", name := "speedOf", desc := "(LGranaryWatch;I[J)I" } : Jvm.MethodName) method_5_code (4 : Nat) (Option.some Jvm.ClassFile.FieldType.int) [((0 : Nat), (9 : Nat), (12 : Nat), (13 : Nat))]) ∈ TBG := tb_t 1340 (by decide +kernel) (by decide +kernel)
theorem tw1345 : (Jvm.Cond.methodLink "GranaryWatchLaw" (180 : Nat) ({ cls := "GranaryWatchLaw", name := "isLeftPawed", desc := "(LGranaryWatch;I[J)I" } : Jvm.MethodName)) ∈ TBG := tb_t 1345 (by decide +kernel) (by decide +kernel)
theorem tw1346 : (Jvm.Cond.static ({ cls := "GranaryWatchLaw", name := "isLeftPawed", desc := "(LGranaryWatch;I[J)I" } : Jvm.MethodName)) ∈ TBG := tb_t 1346 (by decide +kernel) (by decide +kernel)
theorem tw1347 : (Jvm.Cond.codeWith ({ cls := "GranaryWatchLaw", name := "isLeftPawed", desc := "(LGranaryWatch;I[J)I" } : Jvm.MethodName) method_6_code (4 : Nat) (Option.some Jvm.ClassFile.FieldType.int) [((0 : Nat), (16 : Nat), (19 : Nat), (13 : Nat))]) ∈ TBG := tb_t 1347 (by decide +kernel) (by decide +kernel)
theorem tw1352 : (Jvm.Cond.methodLink "GranaryWatchLaw" (183 : Nat) ({ cls := "GranaryWatchLaw", name := "tirednessOf", desc := "(LGranaryWatch;I[J)I" } : Jvm.MethodName)) ∈ TBG := tb_t 1352 (by decide +kernel) (by decide +kernel)
theorem tw1353 : (Jvm.Cond.static ({ cls := "GranaryWatchLaw", name := "tirednessOf", desc := "(LGranaryWatch;I[J)I" } : Jvm.MethodName)) ∈ TBG := tb_t 1353 (by decide +kernel) (by decide +kernel)
theorem tw1354 : (Jvm.Cond.codeWith ({ cls := "GranaryWatchLaw", name := "tirednessOf", desc := "(LGranaryWatch;I[J)I" } : Jvm.MethodName) method_7_code (4 : Nat) (Option.some Jvm.ClassFile.FieldType.int) [((0 : Nat), (9 : Nat), (12 : Nat), (13 : Nat))]) ∈ TBG := tb_t 1354 (by decide +kernel) (by decide +kernel)
theorem tw1359 : (Jvm.Cond.methodLink "GranaryWatchLaw" (186 : Nat) ({ cls := "GranaryWatchLaw", name := "strengthOf", desc := "(LGranaryWatch;I[J)I" } : Jvm.MethodName)) ∈ TBG := tb_t 1359 (by decide +kernel) (by decide +kernel)
theorem tw1360 : (Jvm.Cond.static ({ cls := "GranaryWatchLaw", name := "strengthOf", desc := "(LGranaryWatch;I[J)I" } : Jvm.MethodName)) ∈ TBG := tb_t 1360 (by decide +kernel) (by decide +kernel)
theorem tw1361 : (Jvm.Cond.codeWith ({ cls := "GranaryWatchLaw", name := "strengthOf", desc := "(LGranaryWatch;I[J)I" } : Jvm.MethodName) method_8_code (4 : Nat) (Option.some Jvm.ClassFile.FieldType.int) [((0 : Nat), (9 : Nat), (12 : Nat), (13 : Nat))]) ∈ TBG := tb_t 1361 (by decide +kernel) (by decide +kernel)
theorem tw1367 : (Jvm.Cond.methodLink "GranaryWatchLaw" (189 : Nat) ({ cls := "GranaryWatchLaw", name := "caughtBy", desc := "(LGranaryWatch;I[J)I" } : Jvm.MethodName)) ∈ TBG := tb_t 1367 (by decide +kernel) (by decide +kernel)
theorem tw1368 : (Jvm.Cond.static ({ cls := "GranaryWatchLaw", name := "caughtBy", desc := "(LGranaryWatch;I[J)I" } : Jvm.MethodName)) ∈ TBG := tb_t 1368 (by decide +kernel) (by decide +kernel)
theorem tw1369 : (Jvm.Cond.codeWith ({ cls := "GranaryWatchLaw", name := "caughtBy", desc := "(LGranaryWatch;I[J)I" } : Jvm.MethodName) method_9_code (4 : Nat) (Option.some Jvm.ClassFile.FieldType.int) [((0 : Nat), (9 : Nat), (12 : Nat), (13 : Nat))]) ∈ TBG := tb_t 1369 (by decide +kernel) (by decide +kernel)
theorem tw1374 : (Jvm.Cond.methodLink "GranaryWatchLaw" (192 : Nat) ({ cls := "GranaryWatchLaw", name := "oathsOf", desc := "(LGranaryWatch;I[J)I" } : Jvm.MethodName)) ∈ TBG := tb_t 1374 (by decide +kernel) (by decide +kernel)
theorem tw1375 : (Jvm.Cond.static ({ cls := "GranaryWatchLaw", name := "oathsOf", desc := "(LGranaryWatch;I[J)I" } : Jvm.MethodName)) ∈ TBG := tb_t 1375 (by decide +kernel) (by decide +kernel)
theorem tw1376 : (Jvm.Cond.codeWith ({ cls := "GranaryWatchLaw", name := "oathsOf", desc := "(LGranaryWatch;I[J)I" } : Jvm.MethodName) method_10_code (4 : Nat) (Option.some Jvm.ClassFile.FieldType.int) [((0 : Nat), (9 : Nat), (12 : Nat), (13 : Nat))]) ∈ TBG := tb_t 1376 (by decide +kernel) (by decide +kernel)
theorem tw1381 : (Jvm.Cond.methodLink "GranaryWatchLaw" (195 : Nat) ({ cls := "GranaryWatchLaw", name := "grainIn", desc := "(LGranaryWatch;I[J)I" } : Jvm.MethodName)) ∈ TBG := tb_t 1381 (by decide +kernel) (by decide +kernel)
theorem tw1382 : (Jvm.Cond.static ({ cls := "GranaryWatchLaw", name := "grainIn", desc := "(LGranaryWatch;I[J)I" } : Jvm.MethodName)) ∈ TBG := tb_t 1382 (by decide +kernel) (by decide +kernel)
theorem tw1383 : (Jvm.Cond.codeWith ({ cls := "GranaryWatchLaw", name := "grainIn", desc := "(LGranaryWatch;I[J)I" } : Jvm.MethodName) method_11_code (4 : Nat) (Option.some Jvm.ClassFile.FieldType.int) [((0 : Nat), (9 : Nat), (12 : Nat), (13 : Nat))]) ∈ TBG := tb_t 1383 (by decide +kernel) (by decide +kernel)
theorem tw1388 : (Jvm.Cond.methodLink "GranaryWatchLaw" (198 : Nat) ({ cls := "GranaryWatchLaw", name := "miceIn", desc := "(LGranaryWatch;I[J)I" } : Jvm.MethodName)) ∈ TBG := tb_t 1388 (by decide +kernel) (by decide +kernel)
theorem tw1389 : (Jvm.Cond.static ({ cls := "GranaryWatchLaw", name := "miceIn", desc := "(LGranaryWatch;I[J)I" } : Jvm.MethodName)) ∈ TBG := tb_t 1389 (by decide +kernel) (by decide +kernel)
theorem tw1390 : (Jvm.Cond.codeWith ({ cls := "GranaryWatchLaw", name := "miceIn", desc := "(LGranaryWatch;I[J)I" } : Jvm.MethodName) method_12_code (4 : Nat) (Option.some Jvm.ClassFile.FieldType.int) [((0 : Nat), (9 : Nat), (12 : Nat), (13 : Nat))]) ∈ TBG := tb_t 1390 (by decide +kernel) (by decide +kernel)
theorem tw1395 : (Jvm.Cond.methodLink "GranaryWatchLaw" (201 : Nat) ({ cls := "GranaryWatchLaw", name := "isOpen", desc := "(LGranaryWatch;I[J)I" } : Jvm.MethodName)) ∈ TBG := tb_t 1395 (by decide +kernel) (by decide +kernel)
theorem tw1396 : (Jvm.Cond.static ({ cls := "GranaryWatchLaw", name := "isOpen", desc := "(LGranaryWatch;I[J)I" } : Jvm.MethodName)) ∈ TBG := tb_t 1396 (by decide +kernel) (by decide +kernel)
theorem tw1397 : (Jvm.Cond.codeWith ({ cls := "GranaryWatchLaw", name := "isOpen", desc := "(LGranaryWatch;I[J)I" } : Jvm.MethodName) method_13_code (4 : Nat) (Option.some Jvm.ClassFile.FieldType.int) [((0 : Nat), (16 : Nat), (19 : Nat), (13 : Nat))]) ∈ TBG := tb_t 1397 (by decide +kernel) (by decide +kernel)
theorem tw1402 : (Jvm.Cond.methodLink "GranaryWatchLaw" (204 : Nat) ({ cls := "GranaryWatchLaw", name := "eatenFrom", desc := "(LGranaryWatch;I[J)I" } : Jvm.MethodName)) ∈ TBG := tb_t 1402 (by decide +kernel) (by decide +kernel)
theorem tw1403 : (Jvm.Cond.static ({ cls := "GranaryWatchLaw", name := "eatenFrom", desc := "(LGranaryWatch;I[J)I" } : Jvm.MethodName)) ∈ TBG := tb_t 1403 (by decide +kernel) (by decide +kernel)
theorem tw1404 : (Jvm.Cond.codeWith ({ cls := "GranaryWatchLaw", name := "eatenFrom", desc := "(LGranaryWatch;I[J)I" } : Jvm.MethodName) method_14_code (4 : Nat) (Option.some Jvm.ClassFile.FieldType.int) [((0 : Nat), (9 : Nat), (12 : Nat), (13 : Nat))]) ∈ TBG := tb_t 1404 (by decide +kernel) (by decide +kernel)
theorem tw1409 : (Jvm.Cond.methodLink "GranaryWatchLaw" (219 : Nat) ({ cls := "GranaryWatchLaw", name := "catOfShift", desc := "(LGranaryWatch;I[J)I" } : Jvm.MethodName)) ∈ TBG := tb_t 1409 (by decide +kernel) (by decide +kernel)
theorem tw1410 : (Jvm.Cond.static ({ cls := "GranaryWatchLaw", name := "catOfShift", desc := "(LGranaryWatch;I[J)I" } : Jvm.MethodName)) ∈ TBG := tb_t 1410 (by decide +kernel) (by decide +kernel)
theorem tw1411 : (Jvm.Cond.codeWith ({ cls := "GranaryWatchLaw", name := "catOfShift", desc := "(LGranaryWatch;I[J)I" } : Jvm.MethodName) method_15_code (4 : Nat) (Option.some Jvm.ClassFile.FieldType.int) [((0 : Nat), (9 : Nat), (12 : Nat), (13 : Nat))]) ∈ TBG := tb_t 1411 (by decide +kernel) (by decide +kernel)
theorem tw1421 : (Jvm.Cond.methodLink "GranaryWatchLaw" (222 : Nat) ({ cls := "GranaryWatchLaw", name := "hoursOfShift", desc := "(LGranaryWatch;I[J)I" } : Jvm.MethodName)) ∈ TBG := tb_t 1421 (by decide +kernel) (by decide +kernel)
theorem tw1422 : (Jvm.Cond.static ({ cls := "GranaryWatchLaw", name := "hoursOfShift", desc := "(LGranaryWatch;I[J)I" } : Jvm.MethodName)) ∈ TBG := tb_t 1422 (by decide +kernel) (by decide +kernel)
theorem tw1423 : (Jvm.Cond.codeWith ({ cls := "GranaryWatchLaw", name := "hoursOfShift", desc := "(LGranaryWatch;I[J)I" } : Jvm.MethodName) method_16_code (4 : Nat) (Option.some Jvm.ClassFile.FieldType.int) [((0 : Nat), (9 : Nat), (12 : Nat), (13 : Nat))]) ∈ TBG := tb_t 1423 (by decide +kernel) (by decide +kernel)
theorem tw1428 : (Jvm.Cond.methodLink "GranaryWatchLaw" (225 : Nat) ({ cls := "GranaryWatchLaw", name := "oathReason", desc := "(LGranaryWatch;I[J)I" } : Jvm.MethodName)) ∈ TBG := tb_t 1428 (by decide +kernel) (by decide +kernel)
theorem tw1429 : (Jvm.Cond.static ({ cls := "GranaryWatchLaw", name := "oathReason", desc := "(LGranaryWatch;I[J)I" } : Jvm.MethodName)) ∈ TBG := tb_t 1429 (by decide +kernel) (by decide +kernel)
theorem tw1430 : (Jvm.Cond.codeWith ({ cls := "GranaryWatchLaw", name := "oathReason", desc := "(LGranaryWatch;I[J)I" } : Jvm.MethodName) method_17_code (4 : Nat) (Option.some Jvm.ClassFile.FieldType.int) [((0 : Nat), (9 : Nat), (12 : Nat), (13 : Nat))]) ∈ TBG := tb_t 1430 (by decide +kernel) (by decide +kernel)
theorem tw1436 : (Jvm.Cond.methodLink "GranaryWatchLaw" (252 : Nat) ({ cls := "GranaryWatchLaw", name := "miceAfter", desc := "(LGranaryWatch;II[J)I" } : Jvm.MethodName)) ∈ TBG := tb_t 1436 (by decide +kernel) (by decide +kernel)
theorem tw1437 : (Jvm.Cond.static ({ cls := "GranaryWatchLaw", name := "miceAfter", desc := "(LGranaryWatch;II[J)I" } : Jvm.MethodName)) ∈ TBG := tb_t 1437 (by decide +kernel) (by decide +kernel)
theorem tw1438 : (Jvm.Cond.codeWith ({ cls := "GranaryWatchLaw", name := "miceAfter", desc := "(LGranaryWatch;II[J)I" } : Jvm.MethodName) method_18_code (5 : Nat) (Option.some Jvm.ClassFile.FieldType.int) [((0 : Nat), (10 : Nat), (13 : Nat), (13 : Nat)), ((0 : Nat), (10 : Nat), (17 : Nat), (62 : Nat))]) ∈ TBG := tb_t 1438 (by decide +kernel) (by decide +kernel)
theorem tw1455 : (Jvm.Cond.methodLink "GranaryWatchLaw" (255 : Nat) ({ cls := "GranaryWatchLaw", name := "grainAfter", desc := "(LGranaryWatch;II[J)I" } : Jvm.MethodName)) ∈ TBG := tb_t 1455 (by decide +kernel) (by decide +kernel)
theorem tw1456 : (Jvm.Cond.static ({ cls := "GranaryWatchLaw", name := "grainAfter", desc := "(LGranaryWatch;II[J)I" } : Jvm.MethodName)) ∈ TBG := tb_t 1456 (by decide +kernel) (by decide +kernel)
theorem tw1457 : (Jvm.Cond.codeWith ({ cls := "GranaryWatchLaw", name := "grainAfter", desc := "(LGranaryWatch;II[J)I" } : Jvm.MethodName) method_19_code (5 : Nat) (Option.some Jvm.ClassFile.FieldType.int) [((0 : Nat), (10 : Nat), (13 : Nat), (13 : Nat)), ((0 : Nat), (10 : Nat), (17 : Nat), (62 : Nat))]) ∈ TBG := tb_t 1457 (by decide +kernel) (by decide +kernel)
theorem tw1462 : (Jvm.Cond.methodLink "GranaryWatchLaw" (258 : Nat) ({ cls := "GranaryWatchLaw", name := "swornAfter", desc := "(LGranaryWatch;I[J)I" } : Jvm.MethodName)) ∈ TBG := tb_t 1462 (by decide +kernel) (by decide +kernel)
theorem tw1463 : (Jvm.Cond.static ({ cls := "GranaryWatchLaw", name := "swornAfter", desc := "(LGranaryWatch;I[J)I" } : Jvm.MethodName)) ∈ TBG := tb_t 1463 (by decide +kernel) (by decide +kernel)
theorem tw1464 : (Jvm.Cond.codeWith ({ cls := "GranaryWatchLaw", name := "swornAfter", desc := "(LGranaryWatch;I[J)I" } : Jvm.MethodName) method_20_code (4 : Nat) (Option.some Jvm.ClassFile.FieldType.int) [((0 : Nat), (9 : Nat), (12 : Nat), (62 : Nat))]) ∈ TBG := tb_t 1464 (by decide +kernel) (by decide +kernel)
theorem tw1469 : (Jvm.Cond.methodLink "GranaryWatchLaw" (265 : Nat) ({ cls := "GranaryWatchLaw", name := "hoursUntilEmpty", desc := "(LGranaryWatch;I[J)I" } : Jvm.MethodName)) ∈ TBG := tb_t 1469 (by decide +kernel) (by decide +kernel)
theorem tw1470 : (Jvm.Cond.static ({ cls := "GranaryWatchLaw", name := "hoursUntilEmpty", desc := "(LGranaryWatch;I[J)I" } : Jvm.MethodName)) ∈ TBG := tb_t 1470 (by decide +kernel) (by decide +kernel)
theorem tw1471 : (Jvm.Cond.codeWith ({ cls := "GranaryWatchLaw", name := "hoursUntilEmpty", desc := "(LGranaryWatch;I[J)I" } : Jvm.MethodName) method_21_code (4 : Nat) (Option.some Jvm.ClassFile.FieldType.int) [((0 : Nat), (9 : Nat), (12 : Nat), (13 : Nat))]) ∈ TBG := tb_t 1471 (by decide +kernel) (by decide +kernel)
theorem tw1476 : (Jvm.Cond.methodLink "GranaryWatchLaw" (268 : Nat) ({ cls := "GranaryWatchLaw", name := "caughtWithin", desc := "(LGranaryWatch;I[J)I" } : Jvm.MethodName)) ∈ TBG := tb_t 1476 (by decide +kernel) (by decide +kernel)
theorem tw1477 : (Jvm.Cond.static ({ cls := "GranaryWatchLaw", name := "caughtWithin", desc := "(LGranaryWatch;I[J)I" } : Jvm.MethodName)) ∈ TBG := tb_t 1477 (by decide +kernel) (by decide +kernel)
theorem tw1478 : (Jvm.Cond.codeWith ({ cls := "GranaryWatchLaw", name := "caughtWithin", desc := "(LGranaryWatch;I[J)I" } : Jvm.MethodName) method_22_code (4 : Nat) (Option.some Jvm.ClassFile.FieldType.int) [((0 : Nat), (9 : Nat), (12 : Nat), (62 : Nat))]) ∈ TBG := tb_t 1478 (by decide +kernel) (by decide +kernel)
theorem tw1483 : (Jvm.Cond.methodLink "GranaryWatchLaw" (271 : Nat) ({ cls := "GranaryWatchLaw", name := "bestFlapToChange", desc := "(LGranaryWatch;I[J)I" } : Jvm.MethodName)) ∈ TBG := tb_t 1483 (by decide +kernel) (by decide +kernel)
theorem tw1484 : (Jvm.Cond.static ({ cls := "GranaryWatchLaw", name := "bestFlapToChange", desc := "(LGranaryWatch;I[J)I" } : Jvm.MethodName)) ∈ TBG := tb_t 1484 (by decide +kernel) (by decide +kernel)
theorem tw1485 : (Jvm.Cond.codeWith ({ cls := "GranaryWatchLaw", name := "bestFlapToChange", desc := "(LGranaryWatch;I[J)I" } : Jvm.MethodName) method_23_code (4 : Nat) (Option.some Jvm.ClassFile.FieldType.int) [((0 : Nat), (9 : Nat), (12 : Nat), (62 : Nat))]) ∈ TBG := tb_t 1485 (by decide +kernel) (by decide +kernel)
theorem tw1495 : (Jvm.Cond.methodLink "GranaryWatchLaw" (308 : Nat) ({ cls := "GranaryWatchLaw", name := "shareOf", desc := "(LGranaryWatch;I[D)I" } : Jvm.MethodName)) ∈ TBG := tb_t 1495 (by decide +kernel) (by decide +kernel)
theorem tw1496 : (Jvm.Cond.static ({ cls := "GranaryWatchLaw", name := "shareOf", desc := "(LGranaryWatch;I[D)I" } : Jvm.MethodName)) ∈ TBG := tb_t 1496 (by decide +kernel) (by decide +kernel)
theorem tw1497 : (Jvm.Cond.codeWith ({ cls := "GranaryWatchLaw", name := "shareOf", desc := "(LGranaryWatch;I[D)I" } : Jvm.MethodName) method_24_code (4 : Nat) (Option.some Jvm.ClassFile.FieldType.int) [((0 : Nat), (9 : Nat), (12 : Nat), (13 : Nat))]) ∈ TBG := tb_t 1497 (by decide +kernel) (by decide +kernel)
theorem tw1502 : (Jvm.Cond.methodLink "GranaryWatchLaw" (312 : Nat) ({ cls := "GranaryWatchLaw", name := "letPass", desc := "(LGranaryWatch;I[J)I" } : Jvm.MethodName)) ∈ TBG := tb_t 1502 (by decide +kernel) (by decide +kernel)
theorem tw1503 : (Jvm.Cond.static ({ cls := "GranaryWatchLaw", name := "letPass", desc := "(LGranaryWatch;I[J)I" } : Jvm.MethodName)) ∈ TBG := tb_t 1503 (by decide +kernel) (by decide +kernel)
theorem tw1504 : (Jvm.Cond.codeWith ({ cls := "GranaryWatchLaw", name := "letPass", desc := "(LGranaryWatch;I[J)I" } : Jvm.MethodName) method_25_code (4 : Nat) (Option.some Jvm.ClassFile.FieldType.int) [((0 : Nat), (9 : Nat), (12 : Nat), (62 : Nat)), ((0 : Nat), (9 : Nat), (15 : Nat), (86 : Nat))]) ∈ TBG := tb_t 1504 (by decide +kernel) (by decide +kernel)
theorem tw1532 : (Jvm.Cond.methodLink "GranaryWatchLaw" (315 : Nat) ({ cls := "GranaryWatchLaw", name := "openFlap", desc := "(LGranaryWatch;I[J)I" } : Jvm.MethodName)) ∈ TBG := tb_t 1532 (by decide +kernel) (by decide +kernel)
theorem tw1533 : (Jvm.Cond.static ({ cls := "GranaryWatchLaw", name := "openFlap", desc := "(LGranaryWatch;I[J)I" } : Jvm.MethodName)) ∈ TBG := tb_t 1533 (by decide +kernel) (by decide +kernel)
theorem tw1534 : (Jvm.Cond.codeWith ({ cls := "GranaryWatchLaw", name := "openFlap", desc := "(LGranaryWatch;I[J)I" } : Jvm.MethodName) method_26_code (4 : Nat) (Option.some Jvm.ClassFile.FieldType.int) [((0 : Nat), (9 : Nat), (12 : Nat), (13 : Nat)), ((0 : Nat), (9 : Nat), (15 : Nat), (86 : Nat))]) ∈ TBG := tb_t 1534 (by decide +kernel) (by decide +kernel)
theorem tw1539 : (Jvm.Cond.methodLink "GranaryWatchLaw" (318 : Nat) ({ cls := "GranaryWatchLaw", name := "shutFlap", desc := "(LGranaryWatch;I[J)I" } : Jvm.MethodName)) ∈ TBG := tb_t 1539 (by decide +kernel) (by decide +kernel)
theorem tw1540 : (Jvm.Cond.static ({ cls := "GranaryWatchLaw", name := "shutFlap", desc := "(LGranaryWatch;I[J)I" } : Jvm.MethodName)) ∈ TBG := tb_t 1540 (by decide +kernel) (by decide +kernel)
theorem tw1541 : (Jvm.Cond.codeWith ({ cls := "GranaryWatchLaw", name := "shutFlap", desc := "(LGranaryWatch;I[J)I" } : Jvm.MethodName) method_27_code (4 : Nat) (Option.some Jvm.ClassFile.FieldType.int) [((0 : Nat), (9 : Nat), (12 : Nat), (13 : Nat)), ((0 : Nat), (9 : Nat), (15 : Nat), (86 : Nat))]) ∈ TBG := tb_t 1541 (by decide +kernel) (by decide +kernel)
theorem tw1546 : (Jvm.Cond.methodLink "GranaryWatchLaw" (321 : Nat) ({ cls := "GranaryWatchLaw", name := "addMice", desc := "(LGranaryWatch;II[J)I" } : Jvm.MethodName)) ∈ TBG := tb_t 1546 (by decide +kernel) (by decide +kernel)
theorem tw1547 : (Jvm.Cond.static ({ cls := "GranaryWatchLaw", name := "addMice", desc := "(LGranaryWatch;II[J)I" } : Jvm.MethodName)) ∈ TBG := tb_t 1547 (by decide +kernel) (by decide +kernel)
theorem tw1548 : (Jvm.Cond.codeWith ({ cls := "GranaryWatchLaw", name := "addMice", desc := "(LGranaryWatch;II[J)I" } : Jvm.MethodName) method_28_code (5 : Nat) (Option.some Jvm.ClassFile.FieldType.int) [((0 : Nat), (10 : Nat), (13 : Nat), (13 : Nat)), ((0 : Nat), (10 : Nat), (17 : Nat), (62 : Nat)), ((0 : Nat), (10 : Nat), (21 : Nat), (86 : Nat))]) ∈ TBG := tb_t 1548 (by decide +kernel) (by decide +kernel)
theorem tw1553 : (Jvm.Cond.methodLink "GranaryWatchLaw" (324 : Nat) ({ cls := "GranaryWatchLaw", name := "addGrain", desc := "(LGranaryWatch;II[J)I" } : Jvm.MethodName)) ∈ TBG := tb_t 1553 (by decide +kernel) (by decide +kernel)
theorem tw1554 : (Jvm.Cond.static ({ cls := "GranaryWatchLaw", name := "addGrain", desc := "(LGranaryWatch;II[J)I" } : Jvm.MethodName)) ∈ TBG := tb_t 1554 (by decide +kernel) (by decide +kernel)
theorem tw1555 : (Jvm.Cond.codeWith ({ cls := "GranaryWatchLaw", name := "addGrain", desc := "(LGranaryWatch;II[J)I" } : Jvm.MethodName) method_29_code (5 : Nat) (Option.some Jvm.ClassFile.FieldType.int) [((0 : Nat), (10 : Nat), (13 : Nat), (13 : Nat)), ((0 : Nat), (10 : Nat), (17 : Nat), (62 : Nat)), ((0 : Nat), (10 : Nat), (21 : Nat), (86 : Nat))]) ∈ TBG := tb_t 1555 (by decide +kernel) (by decide +kernel)
theorem tw1560 : (Jvm.Cond.methodLink "GranaryWatchLaw" (327 : Nat) ({ cls := "GranaryWatchLaw", name := "dismiss", desc := "(LGranaryWatch;[J)I" } : Jvm.MethodName)) ∈ TBG := tb_t 1560 (by decide +kernel) (by decide +kernel)
theorem tw1561 : (Jvm.Cond.static ({ cls := "GranaryWatchLaw", name := "dismiss", desc := "(LGranaryWatch;[J)I" } : Jvm.MethodName)) ∈ TBG := tb_t 1561 (by decide +kernel) (by decide +kernel)
theorem tw1562 : (Jvm.Cond.codeWith ({ cls := "GranaryWatchLaw", name := "dismiss", desc := "(LGranaryWatch;[J)I" } : Jvm.MethodName) method_30_code (3 : Nat) (Option.some Jvm.ClassFile.FieldType.int) [((0 : Nat), (8 : Nat), (11 : Nat), (86 : Nat))]) ∈ TBG := tb_t 1562 (by decide +kernel) (by decide +kernel)
theorem tw1567 : (Jvm.Cond.methodLink "GranaryWatchLaw" (331 : Nat) ({ cls := "GranaryWatchLaw", name := "setMilk", desc := "(LGranaryWatch;I[J)I" } : Jvm.MethodName)) ∈ TBG := tb_t 1567 (by decide +kernel) (by decide +kernel)
theorem tw1568 : (Jvm.Cond.static ({ cls := "GranaryWatchLaw", name := "setMilk", desc := "(LGranaryWatch;I[J)I" } : Jvm.MethodName)) ∈ TBG := tb_t 1568 (by decide +kernel) (by decide +kernel)
theorem tw1569 : (Jvm.Cond.codeWith ({ cls := "GranaryWatchLaw", name := "setMilk", desc := "(LGranaryWatch;I[J)I" } : Jvm.MethodName) method_31_code (4 : Nat) (Option.some Jvm.ClassFile.FieldType.int) [((0 : Nat), (9 : Nat), (12 : Nat), (62 : Nat))]) ∈ TBG := tb_t 1569 (by decide +kernel) (by decide +kernel)
theorem tw1574 : (Jvm.Cond.methodLink "GranaryWatchLaw" (334 : Nat) ({ cls := "GranaryWatchLaw", name := "undo", desc := "(LGranaryWatch;[J)I" } : Jvm.MethodName)) ∈ TBG := tb_t 1574 (by decide +kernel) (by decide +kernel)
theorem tw1575 : (Jvm.Cond.static ({ cls := "GranaryWatchLaw", name := "undo", desc := "(LGranaryWatch;[J)I" } : Jvm.MethodName)) ∈ TBG := tb_t 1575 (by decide +kernel) (by decide +kernel)
theorem tw1576 : (Jvm.Cond.codeWith ({ cls := "GranaryWatchLaw", name := "undo", desc := "(LGranaryWatch;[J)I" } : Jvm.MethodName) method_32_code (3 : Nat) (Option.some Jvm.ClassFile.FieldType.int) [((0 : Nat), (8 : Nat), (11 : Nat), (110 : Nat))]) ∈ TBG := tb_t 1576 (by decide +kernel) (by decide +kernel)
theorem tw1599 : (Jvm.Cond.methodLink "GranaryWatchLaw" (349 : Nat) ({ cls := "GranaryWatchLaw", name := "restoreState", desc := "(LGranaryWatch;[J)I" } : Jvm.MethodName)) ∈ TBG := tb_t 1599 (by decide +kernel) (by decide +kernel)
theorem tw1600 : (Jvm.Cond.static ({ cls := "GranaryWatchLaw", name := "restoreState", desc := "(LGranaryWatch;[J)I" } : Jvm.MethodName)) ∈ TBG := tb_t 1600 (by decide +kernel) (by decide +kernel)
theorem tw1601 : (Jvm.Cond.codeWith ({ cls := "GranaryWatchLaw", name := "restoreState", desc := "(LGranaryWatch;[J)I" } : Jvm.MethodName) method_33_code (3 : Nat) (Option.some Jvm.ClassFile.FieldType.int) [((0 : Nat), (8 : Nat), (11 : Nat), (110 : Nat))]) ∈ TBG := tb_t 1601 (by decide +kernel) (by decide +kernel)
theorem tw1741 : (Jvm.Cond.methodLink "GranaryWatchLaw" (170 : Nat) ({ cls := "GranaryWatchModel", name := "thrown", desc := "()I" } : Jvm.MethodName)) ∈ TBG := tb_t 1741 (by decide +kernel) (by decide +kernel)
theorem tw1742 : (Jvm.Cond.instanceMethod ({ cls := "GranaryWatchModel", name := "thrown", desc := "()I" } : Jvm.MethodName)) ∈ TBG := tb_t 1742 (by decide +kernel) (by decide +kernel)
theorem tw1743 : (Jvm.Cond.selects "GranaryWatchModel" ({ cls := "GranaryWatchModel", name := "thrown", desc := "()I" } : Jvm.MethodName) ({ cls := "GranaryWatchModel", name := "thrown", desc := "()I" } : Jvm.MethodName)) ∈ TBG := tb_t 1743 (by decide +kernel) (by decide +kernel)
theorem tw1744 : (Jvm.Cond.code ({ cls := "GranaryWatchModel", name := "thrown", desc := "()I" } : Jvm.MethodName) prog_13_method_2_code (1 : Nat) (Option.some Jvm.ClassFile.FieldType.int)) ∈ TBG := tb_t 1744 (by decide +kernel) (by decide +kernel)
theorem tw1745 : (Jvm.Cond.methodLink "GranaryWatchLaw" (123 : Nat) ({ cls := "GranaryWatchModel", name := "appendInput", desc := "(IIIII)I" } : Jvm.MethodName)) ∈ TBG := tb_t 1745 (by decide +kernel) (by decide +kernel)
theorem tw1746 : (Jvm.Cond.instanceMethod ({ cls := "GranaryWatchModel", name := "appendInput", desc := "(IIIII)I" } : Jvm.MethodName)) ∈ TBG := tb_t 1746 (by decide +kernel) (by decide +kernel)
theorem tw1747 : (Jvm.Cond.selects "GranaryWatchModel" ({ cls := "GranaryWatchModel", name := "appendInput", desc := "(IIIII)I" } : Jvm.MethodName) ({ cls := "GranaryWatchModel", name := "appendInput", desc := "(IIIII)I" } : Jvm.MethodName)) ∈ TBG := tb_t 1747 (by decide +kernel) (by decide +kernel)
theorem tw1748 : (Jvm.Cond.code ({ cls := "GranaryWatchModel", name := "appendInput", desc := "(IIIII)I" } : Jvm.MethodName) prog_13_method_50_code (6 : Nat) (Option.some Jvm.ClassFile.FieldType.int)) ∈ TBG := tb_t 1748 (by decide +kernel) (by decide +kernel)
theorem tw1753 : (Jvm.Cond.methodLink "GranaryWatchLaw" (127 : Nat) ({ cls := "GranaryWatchModel", name := "truncateInput", desc := "(I)Z" } : Jvm.MethodName)) ∈ TBG := tb_t 1753 (by decide +kernel) (by decide +kernel)
theorem tw1754 : (Jvm.Cond.instanceMethod ({ cls := "GranaryWatchModel", name := "truncateInput", desc := "(I)Z" } : Jvm.MethodName)) ∈ TBG := tb_t 1754 (by decide +kernel) (by decide +kernel)
theorem tw1755 : (Jvm.Cond.selects "GranaryWatchModel" ({ cls := "GranaryWatchModel", name := "truncateInput", desc := "(I)Z" } : Jvm.MethodName) ({ cls := "GranaryWatchModel", name := "truncateInput", desc := "(I)Z" } : Jvm.MethodName)) ∈ TBG := tb_t 1755 (by decide +kernel) (by decide +kernel)
theorem tw1756 : (Jvm.Cond.code ({ cls := "GranaryWatchModel", name := "truncateInput", desc := "(I)Z" } : Jvm.MethodName) prog_13_method_51_code (2 : Nat) (Option.some Jvm.ClassFile.FieldType.boolean)) ∈ TBG := tb_t 1756 (by decide +kernel) (by decide +kernel)
theorem tw1760 : (Jvm.Cond.methodLink "GranaryWatchLaw" (131 : Nat) ({ cls := "GranaryWatchModel", name := "loadGranary", desc := "()I" } : Jvm.MethodName)) ∈ TBG := tb_t 1760 (by decide +kernel) (by decide +kernel)
theorem tw1761 : (Jvm.Cond.instanceMethod ({ cls := "GranaryWatchModel", name := "loadGranary", desc := "()I" } : Jvm.MethodName)) ∈ TBG := tb_t 1761 (by decide +kernel) (by decide +kernel)
theorem tw1762 : (Jvm.Cond.selects "GranaryWatchModel" ({ cls := "GranaryWatchModel", name := "loadGranary", desc := "()I" } : Jvm.MethodName) ({ cls := "GranaryWatchModel", name := "loadGranary", desc := "()I" } : Jvm.MethodName)) ∈ TBG := tb_t 1762 (by decide +kernel) (by decide +kernel)
theorem tw1763 : (Jvm.Cond.code ({ cls := "GranaryWatchModel", name := "loadGranary", desc := "()I" } : Jvm.MethodName) prog_13_method_75_code (2 : Nat) (Option.some Jvm.ClassFile.FieldType.int)) ∈ TBG := tb_t 1763 (by decide +kernel) (by decide +kernel)
theorem tw1873 : (Jvm.Cond.methodLink "GranaryWatchLaw" (135 : Nat) ({ cls := "GranaryWatchModel", name := "runScript", desc := "()I" } : Jvm.MethodName)) ∈ TBG := tb_t 1873 (by decide +kernel) (by decide +kernel)
theorem tw1874 : (Jvm.Cond.instanceMethod ({ cls := "GranaryWatchModel", name := "runScript", desc := "()I" } : Jvm.MethodName)) ∈ TBG := tb_t 1874 (by decide +kernel) (by decide +kernel)
theorem tw1875 : (Jvm.Cond.selects "GranaryWatchModel" ({ cls := "GranaryWatchModel", name := "runScript", desc := "()I" } : Jvm.MethodName) ({ cls := "GranaryWatchModel", name := "runScript", desc := "()I" } : Jvm.MethodName)) ∈ TBG := tb_t 1875 (by decide +kernel) (by decide +kernel)
theorem tw1876 : (Jvm.Cond.code ({ cls := "GranaryWatchModel", name := "runScript", desc := "()I" } : Jvm.MethodName) prog_13_method_80_code (3 : Nat) (Option.some Jvm.ClassFile.FieldType.int)) ∈ TBG := tb_t 1876 (by decide +kernel) (by decide +kernel)
theorem tw2007 : (Jvm.Cond.methodLink "GranaryWatchLaw" (139 : Nat) ({ cls := "GranaryWatchModel", name := "errorCode", desc := "()I" } : Jvm.MethodName)) ∈ TBG := tb_t 2007 (by decide +kernel) (by decide +kernel)
theorem tw2008 : (Jvm.Cond.instanceMethod ({ cls := "GranaryWatchModel", name := "errorCode", desc := "()I" } : Jvm.MethodName)) ∈ TBG := tb_t 2008 (by decide +kernel) (by decide +kernel)
theorem tw2009 : (Jvm.Cond.selects "GranaryWatchModel" ({ cls := "GranaryWatchModel", name := "errorCode", desc := "()I" } : Jvm.MethodName) ({ cls := "GranaryWatchModel", name := "errorCode", desc := "()I" } : Jvm.MethodName)) ∈ TBG := tb_t 2009 (by decide +kernel) (by decide +kernel)
theorem tw2010 : (Jvm.Cond.code ({ cls := "GranaryWatchModel", name := "errorCode", desc := "()I" } : Jvm.MethodName) prog_13_method_81_code (1 : Nat) (Option.some Jvm.ClassFile.FieldType.int)) ∈ TBG := tb_t 2010 (by decide +kernel) (by decide +kernel)
theorem tw2011 : (Jvm.Cond.methodLink "GranaryWatchLaw" (143 : Nat) ({ cls := "GranaryWatchModel", name := "errorOffset", desc := "()I" } : Jvm.MethodName)) ∈ TBG := tb_t 2011 (by decide +kernel) (by decide +kernel)
theorem tw2012 : (Jvm.Cond.instanceMethod ({ cls := "GranaryWatchModel", name := "errorOffset", desc := "()I" } : Jvm.MethodName)) ∈ TBG := tb_t 2012 (by decide +kernel) (by decide +kernel)
theorem tw2013 : (Jvm.Cond.selects "GranaryWatchModel" ({ cls := "GranaryWatchModel", name := "errorOffset", desc := "()I" } : Jvm.MethodName) ({ cls := "GranaryWatchModel", name := "errorOffset", desc := "()I" } : Jvm.MethodName)) ∈ TBG := tb_t 2013 (by decide +kernel) (by decide +kernel)
theorem tw2014 : (Jvm.Cond.code ({ cls := "GranaryWatchModel", name := "errorOffset", desc := "()I" } : Jvm.MethodName) prog_13_method_82_code (1 : Nat) (Option.some Jvm.ClassFile.FieldType.int)) ∈ TBG := tb_t 2014 (by decide +kernel) (by decide +kernel)
theorem tw2015 : (Jvm.Cond.methodLink "GranaryWatchLaw" (147 : Nat) ({ cls := "GranaryWatchModel", name := "clock", desc := "()I" } : Jvm.MethodName)) ∈ TBG := tb_t 2015 (by decide +kernel) (by decide +kernel)
theorem tw2016 : (Jvm.Cond.instanceMethod ({ cls := "GranaryWatchModel", name := "clock", desc := "()I" } : Jvm.MethodName)) ∈ TBG := tb_t 2016 (by decide +kernel) (by decide +kernel)
theorem tw2017 : (Jvm.Cond.selects "GranaryWatchModel" ({ cls := "GranaryWatchModel", name := "clock", desc := "()I" } : Jvm.MethodName) ({ cls := "GranaryWatchModel", name := "clock", desc := "()I" } : Jvm.MethodName)) ∈ TBG := tb_t 2017 (by decide +kernel) (by decide +kernel)
theorem tw2018 : (Jvm.Cond.code ({ cls := "GranaryWatchModel", name := "clock", desc := "()I" } : Jvm.MethodName) prog_13_method_83_code (1 : Nat) (Option.some Jvm.ClassFile.FieldType.int)) ∈ TBG := tb_t 2018 (by decide +kernel) (by decide +kernel)
theorem tw2019 : (Jvm.Cond.methodLink "GranaryWatchLaw" (155 : Nat) ({ cls := "GranaryWatchModel", name := "catCount", desc := "()I" } : Jvm.MethodName)) ∈ TBG := tb_t 2019 (by decide +kernel) (by decide +kernel)
theorem tw2020 : (Jvm.Cond.instanceMethod ({ cls := "GranaryWatchModel", name := "catCount", desc := "()I" } : Jvm.MethodName)) ∈ TBG := tb_t 2020 (by decide +kernel) (by decide +kernel)
theorem tw2021 : (Jvm.Cond.selects "GranaryWatchModel" ({ cls := "GranaryWatchModel", name := "catCount", desc := "()I" } : Jvm.MethodName) ({ cls := "GranaryWatchModel", name := "catCount", desc := "()I" } : Jvm.MethodName)) ∈ TBG := tb_t 2021 (by decide +kernel) (by decide +kernel)
theorem tw2022 : (Jvm.Cond.code ({ cls := "GranaryWatchModel", name := "catCount", desc := "()I" } : Jvm.MethodName) prog_13_method_84_code (1 : Nat) (Option.some Jvm.ClassFile.FieldType.int)) ∈ TBG := tb_t 2022 (by decide +kernel) (by decide +kernel)
theorem tw2023 : (Jvm.Cond.methodLink "GranaryWatchLaw" (159 : Nat) ({ cls := "GranaryWatchModel", name := "sackCount", desc := "()I" } : Jvm.MethodName)) ∈ TBG := tb_t 2023 (by decide +kernel) (by decide +kernel)
theorem tw2024 : (Jvm.Cond.instanceMethod ({ cls := "GranaryWatchModel", name := "sackCount", desc := "()I" } : Jvm.MethodName)) ∈ TBG := tb_t 2024 (by decide +kernel) (by decide +kernel)
theorem tw2025 : (Jvm.Cond.selects "GranaryWatchModel" ({ cls := "GranaryWatchModel", name := "sackCount", desc := "()I" } : Jvm.MethodName) ({ cls := "GranaryWatchModel", name := "sackCount", desc := "()I" } : Jvm.MethodName)) ∈ TBG := tb_t 2025 (by decide +kernel) (by decide +kernel)
theorem tw2026 : (Jvm.Cond.code ({ cls := "GranaryWatchModel", name := "sackCount", desc := "()I" } : Jvm.MethodName) prog_13_method_85_code (1 : Nat) (Option.some Jvm.ClassFile.FieldType.int)) ∈ TBG := tb_t 2026 (by decide +kernel) (by decide +kernel)
theorem tw2027 : (Jvm.Cond.methodLink "GranaryWatchLaw" (163 : Nat) ({ cls := "GranaryWatchModel", name := "shiftCount", desc := "()I" } : Jvm.MethodName)) ∈ TBG := tb_t 2027 (by decide +kernel) (by decide +kernel)
theorem tw2028 : (Jvm.Cond.instanceMethod ({ cls := "GranaryWatchModel", name := "shiftCount", desc := "()I" } : Jvm.MethodName)) ∈ TBG := tb_t 2028 (by decide +kernel) (by decide +kernel)
theorem tw2029 : (Jvm.Cond.selects "GranaryWatchModel" ({ cls := "GranaryWatchModel", name := "shiftCount", desc := "()I" } : Jvm.MethodName) ({ cls := "GranaryWatchModel", name := "shiftCount", desc := "()I" } : Jvm.MethodName)) ∈ TBG := tb_t 2029 (by decide +kernel) (by decide +kernel)
theorem tw2030 : (Jvm.Cond.code ({ cls := "GranaryWatchModel", name := "shiftCount", desc := "()I" } : Jvm.MethodName) prog_13_method_86_code (1 : Nat) (Option.some Jvm.ClassFile.FieldType.int)) ∈ TBG := tb_t 2030 (by decide +kernel) (by decide +kernel)
theorem tw2031 : (Jvm.Cond.methodLink "GranaryWatchLaw" (210 : Nat) ({ cls := "GranaryWatchModel", name := "swornCat", desc := "()I" } : Jvm.MethodName)) ∈ TBG := tb_t 2031 (by decide +kernel) (by decide +kernel)
theorem tw2032 : (Jvm.Cond.instanceMethod ({ cls := "GranaryWatchModel", name := "swornCat", desc := "()I" } : Jvm.MethodName)) ∈ TBG := tb_t 2032 (by decide +kernel) (by decide +kernel)
theorem tw2033 : (Jvm.Cond.selects "GranaryWatchModel" ({ cls := "GranaryWatchModel", name := "swornCat", desc := "()I" } : Jvm.MethodName) ({ cls := "GranaryWatchModel", name := "swornCat", desc := "()I" } : Jvm.MethodName)) ∈ TBG := tb_t 2033 (by decide +kernel) (by decide +kernel)
theorem tw2034 : (Jvm.Cond.code ({ cls := "GranaryWatchModel", name := "swornCat", desc := "()I" } : Jvm.MethodName) prog_13_method_87_code (1 : Nat) (Option.some Jvm.ClassFile.FieldType.int)) ∈ TBG := tb_t 2034 (by decide +kernel) (by decide +kernel)
theorem tw2035 : (Jvm.Cond.methodLink "GranaryWatchLaw" (214 : Nat) ({ cls := "GranaryWatchModel", name := "currentShift", desc := "()I" } : Jvm.MethodName)) ∈ TBG := tb_t 2035 (by decide +kernel) (by decide +kernel)
theorem tw2036 : (Jvm.Cond.instanceMethod ({ cls := "GranaryWatchModel", name := "currentShift", desc := "()I" } : Jvm.MethodName)) ∈ TBG := tb_t 2036 (by decide +kernel) (by decide +kernel)
theorem tw2037 : (Jvm.Cond.selects "GranaryWatchModel" ({ cls := "GranaryWatchModel", name := "currentShift", desc := "()I" } : Jvm.MethodName) ({ cls := "GranaryWatchModel", name := "currentShift", desc := "()I" } : Jvm.MethodName)) ∈ TBG := tb_t 2037 (by decide +kernel) (by decide +kernel)
theorem tw2038 : (Jvm.Cond.code ({ cls := "GranaryWatchModel", name := "currentShift", desc := "()I" } : Jvm.MethodName) prog_13_method_88_code (1 : Nat) (Option.some Jvm.ClassFile.FieldType.int)) ∈ TBG := tb_t 2038 (by decide +kernel) (by decide +kernel)
theorem tw2039 : (Jvm.Cond.methodLink "GranaryWatchLaw" (218 : Nat) ({ cls := "GranaryWatchModel", name := "hoursLeft", desc := "()I" } : Jvm.MethodName)) ∈ TBG := tb_t 2039 (by decide +kernel) (by decide +kernel)
theorem tw2040 : (Jvm.Cond.instanceMethod ({ cls := "GranaryWatchModel", name := "hoursLeft", desc := "()I" } : Jvm.MethodName)) ∈ TBG := tb_t 2040 (by decide +kernel) (by decide +kernel)
theorem tw2041 : (Jvm.Cond.selects "GranaryWatchModel" ({ cls := "GranaryWatchModel", name := "hoursLeft", desc := "()I" } : Jvm.MethodName) ({ cls := "GranaryWatchModel", name := "hoursLeft", desc := "()I" } : Jvm.MethodName)) ∈ TBG := tb_t 2041 (by decide +kernel) (by decide +kernel)
theorem tw2042 : (Jvm.Cond.code ({ cls := "GranaryWatchModel", name := "hoursLeft", desc := "()I" } : Jvm.MethodName) prog_13_method_89_code (1 : Nat) (Option.some Jvm.ClassFile.FieldType.int)) ∈ TBG := tb_t 2042 (by decide +kernel) (by decide +kernel)
theorem tw2043 : (Jvm.Cond.methodLink "GranaryWatchLaw" (235 : Nat) ({ cls := "GranaryWatchModel", name := "eventCount", desc := "()I" } : Jvm.MethodName)) ∈ TBG := tb_t 2043 (by decide +kernel) (by decide +kernel)
theorem tw2044 : (Jvm.Cond.instanceMethod ({ cls := "GranaryWatchModel", name := "eventCount", desc := "()I" } : Jvm.MethodName)) ∈ TBG := tb_t 2044 (by decide +kernel) (by decide +kernel)
theorem tw2045 : (Jvm.Cond.selects "GranaryWatchModel" ({ cls := "GranaryWatchModel", name := "eventCount", desc := "()I" } : Jvm.MethodName) ({ cls := "GranaryWatchModel", name := "eventCount", desc := "()I" } : Jvm.MethodName)) ∈ TBG := tb_t 2045 (by decide +kernel) (by decide +kernel)
theorem tw2046 : (Jvm.Cond.code ({ cls := "GranaryWatchModel", name := "eventCount", desc := "()I" } : Jvm.MethodName) prog_13_method_90_code (1 : Nat) (Option.some Jvm.ClassFile.FieldType.int)) ∈ TBG := tb_t 2046 (by decide +kernel) (by decide +kernel)
theorem tw2047 : (Jvm.Cond.methodLink "GranaryWatchLaw" (251 : Nat) ({ cls := "GranaryWatchModel", name := "milk", desc := "()I" } : Jvm.MethodName)) ∈ TBG := tb_t 2047 (by decide +kernel) (by decide +kernel)
theorem tw2048 : (Jvm.Cond.instanceMethod ({ cls := "GranaryWatchModel", name := "milk", desc := "()I" } : Jvm.MethodName)) ∈ TBG := tb_t 2048 (by decide +kernel) (by decide +kernel)
theorem tw2049 : (Jvm.Cond.selects "GranaryWatchModel" ({ cls := "GranaryWatchModel", name := "milk", desc := "()I" } : Jvm.MethodName) ({ cls := "GranaryWatchModel", name := "milk", desc := "()I" } : Jvm.MethodName)) ∈ TBG := tb_t 2049 (by decide +kernel) (by decide +kernel)
theorem tw2050 : (Jvm.Cond.code ({ cls := "GranaryWatchModel", name := "milk", desc := "()I" } : Jvm.MethodName) prog_13_method_91_code (1 : Nat) (Option.some Jvm.ClassFile.FieldType.int)) ∈ TBG := tb_t 2050 (by decide +kernel) (by decide +kernel)
theorem tw2051 : (Jvm.Cond.methodLink "GranaryWatchLaw" (277 : Nat) ({ cls := "GranaryWatchModel", name := "totalCaught", desc := "()I" } : Jvm.MethodName)) ∈ TBG := tb_t 2051 (by decide +kernel) (by decide +kernel)
theorem tw2052 : (Jvm.Cond.instanceMethod ({ cls := "GranaryWatchModel", name := "totalCaught", desc := "()I" } : Jvm.MethodName)) ∈ TBG := tb_t 2052 (by decide +kernel) (by decide +kernel)
theorem tw2053 : (Jvm.Cond.selects "GranaryWatchModel" ({ cls := "GranaryWatchModel", name := "totalCaught", desc := "()I" } : Jvm.MethodName) ({ cls := "GranaryWatchModel", name := "totalCaught", desc := "()I" } : Jvm.MethodName)) ∈ TBG := tb_t 2053 (by decide +kernel) (by decide +kernel)
theorem tw2054 : (Jvm.Cond.code ({ cls := "GranaryWatchModel", name := "totalCaught", desc := "()I" } : Jvm.MethodName) prog_13_method_92_code (1 : Nat) (Option.some Jvm.ClassFile.FieldType.int)) ∈ TBG := tb_t 2054 (by decide +kernel) (by decide +kernel)
theorem tw2055 : (Jvm.Cond.methodLink "GranaryWatchLaw" (281 : Nat) ({ cls := "GranaryWatchModel", name := "totalEaten", desc := "()I" } : Jvm.MethodName)) ∈ TBG := tb_t 2055 (by decide +kernel) (by decide +kernel)
theorem tw2056 : (Jvm.Cond.instanceMethod ({ cls := "GranaryWatchModel", name := "totalEaten", desc := "()I" } : Jvm.MethodName)) ∈ TBG := tb_t 2056 (by decide +kernel) (by decide +kernel)
theorem tw2057 : (Jvm.Cond.selects "GranaryWatchModel" ({ cls := "GranaryWatchModel", name := "totalEaten", desc := "()I" } : Jvm.MethodName) ({ cls := "GranaryWatchModel", name := "totalEaten", desc := "()I" } : Jvm.MethodName)) ∈ TBG := tb_t 2057 (by decide +kernel) (by decide +kernel)
theorem tw2058 : (Jvm.Cond.code ({ cls := "GranaryWatchModel", name := "totalEaten", desc := "()I" } : Jvm.MethodName) prog_13_method_93_code (1 : Nat) (Option.some Jvm.ClassFile.FieldType.int)) ∈ TBG := tb_t 2058 (by decide +kernel) (by decide +kernel)
theorem tw2059 : (Jvm.Cond.methodLink "GranaryWatchLaw" (285 : Nat) ({ cls := "GranaryWatchModel", name := "totalBorn", desc := "()I" } : Jvm.MethodName)) ∈ TBG := tb_t 2059 (by decide +kernel) (by decide +kernel)
theorem tw2060 : (Jvm.Cond.instanceMethod ({ cls := "GranaryWatchModel", name := "totalBorn", desc := "()I" } : Jvm.MethodName)) ∈ TBG := tb_t 2060 (by decide +kernel) (by decide +kernel)
theorem tw2061 : (Jvm.Cond.selects "GranaryWatchModel" ({ cls := "GranaryWatchModel", name := "totalBorn", desc := "()I" } : Jvm.MethodName) ({ cls := "GranaryWatchModel", name := "totalBorn", desc := "()I" } : Jvm.MethodName)) ∈ TBG := tb_t 2061 (by decide +kernel) (by decide +kernel)
theorem tw2062 : (Jvm.Cond.code ({ cls := "GranaryWatchModel", name := "totalBorn", desc := "()I" } : Jvm.MethodName) prog_13_method_94_code (1 : Nat) (Option.some Jvm.ClassFile.FieldType.int)) ∈ TBG := tb_t 2062 (by decide +kernel) (by decide +kernel)
theorem tw2063 : (Jvm.Cond.methodLink "GranaryWatchLaw" (289 : Nat) ({ cls := "GranaryWatchModel", name := "totalStarved", desc := "()I" } : Jvm.MethodName)) ∈ TBG := tb_t 2063 (by decide +kernel) (by decide +kernel)
theorem tw2064 : (Jvm.Cond.instanceMethod ({ cls := "GranaryWatchModel", name := "totalStarved", desc := "()I" } : Jvm.MethodName)) ∈ TBG := tb_t 2064 (by decide +kernel) (by decide +kernel)
theorem tw2065 : (Jvm.Cond.selects "GranaryWatchModel" ({ cls := "GranaryWatchModel", name := "totalStarved", desc := "()I" } : Jvm.MethodName) ({ cls := "GranaryWatchModel", name := "totalStarved", desc := "()I" } : Jvm.MethodName)) ∈ TBG := tb_t 2065 (by decide +kernel) (by decide +kernel)
theorem tw2066 : (Jvm.Cond.code ({ cls := "GranaryWatchModel", name := "totalStarved", desc := "()I" } : Jvm.MethodName) prog_13_method_95_code (1 : Nat) (Option.some Jvm.ClassFile.FieldType.int)) ∈ TBG := tb_t 2066 (by decide +kernel) (by decide +kernel)
theorem tw2067 : (Jvm.Cond.methodLink "GranaryWatchLaw" (293 : Nat) ({ cls := "GranaryWatchModel", name := "totalOaths", desc := "()I" } : Jvm.MethodName)) ∈ TBG := tb_t 2067 (by decide +kernel) (by decide +kernel)
theorem tw2068 : (Jvm.Cond.instanceMethod ({ cls := "GranaryWatchModel", name := "totalOaths", desc := "()I" } : Jvm.MethodName)) ∈ TBG := tb_t 2068 (by decide +kernel) (by decide +kernel)
theorem tw2069 : (Jvm.Cond.selects "GranaryWatchModel" ({ cls := "GranaryWatchModel", name := "totalOaths", desc := "()I" } : Jvm.MethodName) ({ cls := "GranaryWatchModel", name := "totalOaths", desc := "()I" } : Jvm.MethodName)) ∈ TBG := tb_t 2069 (by decide +kernel) (by decide +kernel)
theorem tw2070 : (Jvm.Cond.code ({ cls := "GranaryWatchModel", name := "totalOaths", desc := "()I" } : Jvm.MethodName) prog_13_method_96_code (1 : Nat) (Option.some Jvm.ClassFile.FieldType.int)) ∈ TBG := tb_t 2070 (by decide +kernel) (by decide +kernel)
theorem tw2071 : (Jvm.Cond.methodLink "GranaryWatchLaw" (297 : Nat) ({ cls := "GranaryWatchModel", name := "totalRefusals", desc := "()I" } : Jvm.MethodName)) ∈ TBG := tb_t 2071 (by decide +kernel) (by decide +kernel)
theorem tw2072 : (Jvm.Cond.instanceMethod ({ cls := "GranaryWatchModel", name := "totalRefusals", desc := "()I" } : Jvm.MethodName)) ∈ TBG := tb_t 2072 (by decide +kernel) (by decide +kernel)
theorem tw2073 : (Jvm.Cond.selects "GranaryWatchModel" ({ cls := "GranaryWatchModel", name := "totalRefusals", desc := "()I" } : Jvm.MethodName) ({ cls := "GranaryWatchModel", name := "totalRefusals", desc := "()I" } : Jvm.MethodName)) ∈ TBG := tb_t 2073 (by decide +kernel) (by decide +kernel)
theorem tw2074 : (Jvm.Cond.code ({ cls := "GranaryWatchModel", name := "totalRefusals", desc := "()I" } : Jvm.MethodName) prog_13_method_97_code (1 : Nat) (Option.some Jvm.ClassFile.FieldType.int)) ∈ TBG := tb_t 2074 (by decide +kernel) (by decide +kernel)
theorem tw2075 : (Jvm.Cond.methodLink "GranaryWatchLaw" (179 : Nat) ({ cls := "GranaryWatchModel", name := "speedOf", desc := "(I)I" } : Jvm.MethodName)) ∈ TBG := tb_t 2075 (by decide +kernel) (by decide +kernel)
theorem tw2076 : (Jvm.Cond.instanceMethod ({ cls := "GranaryWatchModel", name := "speedOf", desc := "(I)I" } : Jvm.MethodName)) ∈ TBG := tb_t 2076 (by decide +kernel) (by decide +kernel)
theorem tw2077 : (Jvm.Cond.selects "GranaryWatchModel" ({ cls := "GranaryWatchModel", name := "speedOf", desc := "(I)I" } : Jvm.MethodName) ({ cls := "GranaryWatchModel", name := "speedOf", desc := "(I)I" } : Jvm.MethodName)) ∈ TBG := tb_t 2077 (by decide +kernel) (by decide +kernel)
theorem tw2078 : (Jvm.Cond.code ({ cls := "GranaryWatchModel", name := "speedOf", desc := "(I)I" } : Jvm.MethodName) prog_13_method_103_code (2 : Nat) (Option.some Jvm.ClassFile.FieldType.int)) ∈ TBG := tb_t 2078 (by decide +kernel) (by decide +kernel)
theorem tw2087 : (Jvm.Cond.methodLink "GranaryWatchLaw" (185 : Nat) ({ cls := "GranaryWatchModel", name := "tirednessOf", desc := "(I)I" } : Jvm.MethodName)) ∈ TBG := tb_t 2087 (by decide +kernel) (by decide +kernel)
theorem tw2088 : (Jvm.Cond.instanceMethod ({ cls := "GranaryWatchModel", name := "tirednessOf", desc := "(I)I" } : Jvm.MethodName)) ∈ TBG := tb_t 2088 (by decide +kernel) (by decide +kernel)
theorem tw2089 : (Jvm.Cond.selects "GranaryWatchModel" ({ cls := "GranaryWatchModel", name := "tirednessOf", desc := "(I)I" } : Jvm.MethodName) ({ cls := "GranaryWatchModel", name := "tirednessOf", desc := "(I)I" } : Jvm.MethodName)) ∈ TBG := tb_t 2089 (by decide +kernel) (by decide +kernel)
theorem tw2090 : (Jvm.Cond.code ({ cls := "GranaryWatchModel", name := "tirednessOf", desc := "(I)I" } : Jvm.MethodName) prog_13_method_104_code (2 : Nat) (Option.some Jvm.ClassFile.FieldType.int)) ∈ TBG := tb_t 2090 (by decide +kernel) (by decide +kernel)
theorem tw2091 : (Jvm.Cond.methodLink "GranaryWatchLaw" (188 : Nat) ({ cls := "GranaryWatchModel", name := "strengthOf", desc := "(I)I" } : Jvm.MethodName)) ∈ TBG := tb_t 2091 (by decide +kernel) (by decide +kernel)
theorem tw2092 : (Jvm.Cond.instanceMethod ({ cls := "GranaryWatchModel", name := "strengthOf", desc := "(I)I" } : Jvm.MethodName)) ∈ TBG := tb_t 2092 (by decide +kernel) (by decide +kernel)
theorem tw2093 : (Jvm.Cond.selects "GranaryWatchModel" ({ cls := "GranaryWatchModel", name := "strengthOf", desc := "(I)I" } : Jvm.MethodName) ({ cls := "GranaryWatchModel", name := "strengthOf", desc := "(I)I" } : Jvm.MethodName)) ∈ TBG := tb_t 2093 (by decide +kernel) (by decide +kernel)
theorem tw2094 : (Jvm.Cond.code ({ cls := "GranaryWatchModel", name := "strengthOf", desc := "(I)I" } : Jvm.MethodName) prog_13_method_105_code (2 : Nat) (Option.some Jvm.ClassFile.FieldType.int)) ∈ TBG := tb_t 2094 (by decide +kernel) (by decide +kernel)
theorem tw2095 : (Jvm.Cond.methodLink "GranaryWatchLaw" (191 : Nat) ({ cls := "GranaryWatchModel", name := "caughtBy", desc := "(I)I" } : Jvm.MethodName)) ∈ TBG := tb_t 2095 (by decide +kernel) (by decide +kernel)
theorem tw2096 : (Jvm.Cond.instanceMethod ({ cls := "GranaryWatchModel", name := "caughtBy", desc := "(I)I" } : Jvm.MethodName)) ∈ TBG := tb_t 2096 (by decide +kernel) (by decide +kernel)
theorem tw2097 : (Jvm.Cond.selects "GranaryWatchModel" ({ cls := "GranaryWatchModel", name := "caughtBy", desc := "(I)I" } : Jvm.MethodName) ({ cls := "GranaryWatchModel", name := "caughtBy", desc := "(I)I" } : Jvm.MethodName)) ∈ TBG := tb_t 2097 (by decide +kernel) (by decide +kernel)
theorem tw2098 : (Jvm.Cond.code ({ cls := "GranaryWatchModel", name := "caughtBy", desc := "(I)I" } : Jvm.MethodName) prog_13_method_106_code (2 : Nat) (Option.some Jvm.ClassFile.FieldType.int)) ∈ TBG := tb_t 2098 (by decide +kernel) (by decide +kernel)
theorem tw2099 : (Jvm.Cond.methodLink "GranaryWatchLaw" (194 : Nat) ({ cls := "GranaryWatchModel", name := "oathsOf", desc := "(I)I" } : Jvm.MethodName)) ∈ TBG := tb_t 2099 (by decide +kernel) (by decide +kernel)
theorem tw2100 : (Jvm.Cond.instanceMethod ({ cls := "GranaryWatchModel", name := "oathsOf", desc := "(I)I" } : Jvm.MethodName)) ∈ TBG := tb_t 2100 (by decide +kernel) (by decide +kernel)
theorem tw2101 : (Jvm.Cond.selects "GranaryWatchModel" ({ cls := "GranaryWatchModel", name := "oathsOf", desc := "(I)I" } : Jvm.MethodName) ({ cls := "GranaryWatchModel", name := "oathsOf", desc := "(I)I" } : Jvm.MethodName)) ∈ TBG := tb_t 2101 (by decide +kernel) (by decide +kernel)
theorem tw2102 : (Jvm.Cond.code ({ cls := "GranaryWatchModel", name := "oathsOf", desc := "(I)I" } : Jvm.MethodName) prog_13_method_107_code (2 : Nat) (Option.some Jvm.ClassFile.FieldType.int)) ∈ TBG := tb_t 2102 (by decide +kernel) (by decide +kernel)
theorem tw2103 : (Jvm.Cond.methodLink "GranaryWatchLaw" (227 : Nat) ({ cls := "GranaryWatchModel", name := "oathReason", desc := "(I)I" } : Jvm.MethodName)) ∈ TBG := tb_t 2103 (by decide +kernel) (by decide +kernel)
theorem tw2104 : (Jvm.Cond.instanceMethod ({ cls := "GranaryWatchModel", name := "oathReason", desc := "(I)I" } : Jvm.MethodName)) ∈ TBG := tb_t 2104 (by decide +kernel) (by decide +kernel)
theorem tw2105 : (Jvm.Cond.selects "GranaryWatchModel" ({ cls := "GranaryWatchModel", name := "oathReason", desc := "(I)I" } : Jvm.MethodName) ({ cls := "GranaryWatchModel", name := "oathReason", desc := "(I)I" } : Jvm.MethodName)) ∈ TBG := tb_t 2105 (by decide +kernel) (by decide +kernel)
theorem tw2106 : (Jvm.Cond.code ({ cls := "GranaryWatchModel", name := "oathReason", desc := "(I)I" } : Jvm.MethodName) prog_13_method_108_code (2 : Nat) (Option.some Jvm.ClassFile.FieldType.int)) ∈ TBG := tb_t 2106 (by decide +kernel) (by decide +kernel)
theorem tw2111 : (Jvm.Cond.methodLink "GranaryWatchLaw" (197 : Nat) ({ cls := "GranaryWatchModel", name := "grainIn", desc := "(I)I" } : Jvm.MethodName)) ∈ TBG := tb_t 2111 (by decide +kernel) (by decide +kernel)
theorem tw2112 : (Jvm.Cond.instanceMethod ({ cls := "GranaryWatchModel", name := "grainIn", desc := "(I)I" } : Jvm.MethodName)) ∈ TBG := tb_t 2112 (by decide +kernel) (by decide +kernel)
theorem tw2113 : (Jvm.Cond.selects "GranaryWatchModel" ({ cls := "GranaryWatchModel", name := "grainIn", desc := "(I)I" } : Jvm.MethodName) ({ cls := "GranaryWatchModel", name := "grainIn", desc := "(I)I" } : Jvm.MethodName)) ∈ TBG := tb_t 2113 (by decide +kernel) (by decide +kernel)
theorem tw2114 : (Jvm.Cond.code ({ cls := "GranaryWatchModel", name := "grainIn", desc := "(I)I" } : Jvm.MethodName) prog_13_method_109_code (2 : Nat) (Option.some Jvm.ClassFile.FieldType.int)) ∈ TBG := tb_t 2114 (by decide +kernel) (by decide +kernel)
theorem tw2119 : (Jvm.Cond.methodLink "GranaryWatchLaw" (200 : Nat) ({ cls := "GranaryWatchModel", name := "miceIn", desc := "(I)I" } : Jvm.MethodName)) ∈ TBG := tb_t 2119 (by decide +kernel) (by decide +kernel)
theorem tw2120 : (Jvm.Cond.instanceMethod ({ cls := "GranaryWatchModel", name := "miceIn", desc := "(I)I" } : Jvm.MethodName)) ∈ TBG := tb_t 2120 (by decide +kernel) (by decide +kernel)
theorem tw2121 : (Jvm.Cond.selects "GranaryWatchModel" ({ cls := "GranaryWatchModel", name := "miceIn", desc := "(I)I" } : Jvm.MethodName) ({ cls := "GranaryWatchModel", name := "miceIn", desc := "(I)I" } : Jvm.MethodName)) ∈ TBG := tb_t 2121 (by decide +kernel) (by decide +kernel)
theorem tw2122 : (Jvm.Cond.code ({ cls := "GranaryWatchModel", name := "miceIn", desc := "(I)I" } : Jvm.MethodName) prog_13_method_110_code (2 : Nat) (Option.some Jvm.ClassFile.FieldType.int)) ∈ TBG := tb_t 2122 (by decide +kernel) (by decide +kernel)
theorem tw2123 : (Jvm.Cond.methodLink "GranaryWatchLaw" (206 : Nat) ({ cls := "GranaryWatchModel", name := "eatenFrom", desc := "(I)I" } : Jvm.MethodName)) ∈ TBG := tb_t 2123 (by decide +kernel) (by decide +kernel)
theorem tw2124 : (Jvm.Cond.instanceMethod ({ cls := "GranaryWatchModel", name := "eatenFrom", desc := "(I)I" } : Jvm.MethodName)) ∈ TBG := tb_t 2124 (by decide +kernel) (by decide +kernel)
theorem tw2125 : (Jvm.Cond.selects "GranaryWatchModel" ({ cls := "GranaryWatchModel", name := "eatenFrom", desc := "(I)I" } : Jvm.MethodName) ({ cls := "GranaryWatchModel", name := "eatenFrom", desc := "(I)I" } : Jvm.MethodName)) ∈ TBG := tb_t 2125 (by decide +kernel) (by decide +kernel)
theorem tw2126 : (Jvm.Cond.code ({ cls := "GranaryWatchModel", name := "eatenFrom", desc := "(I)I" } : Jvm.MethodName) prog_13_method_111_code (2 : Nat) (Option.some Jvm.ClassFile.FieldType.int)) ∈ TBG := tb_t 2126 (by decide +kernel) (by decide +kernel)
theorem tw2127 : (Jvm.Cond.methodLink "GranaryWatchLaw" (151 : Nat) ({ cls := "GranaryWatchModel", name := "hourOfDay", desc := "()I" } : Jvm.MethodName)) ∈ TBG := tb_t 2127 (by decide +kernel) (by decide +kernel)
theorem tw2128 : (Jvm.Cond.instanceMethod ({ cls := "GranaryWatchModel", name := "hourOfDay", desc := "()I" } : Jvm.MethodName)) ∈ TBG := tb_t 2128 (by decide +kernel) (by decide +kernel)
theorem tw2129 : (Jvm.Cond.selects "GranaryWatchModel" ({ cls := "GranaryWatchModel", name := "hourOfDay", desc := "()I" } : Jvm.MethodName) ({ cls := "GranaryWatchModel", name := "hourOfDay", desc := "()I" } : Jvm.MethodName)) ∈ TBG := tb_t 2129 (by decide +kernel) (by decide +kernel)
theorem tw2130 : (Jvm.Cond.code ({ cls := "GranaryWatchModel", name := "hourOfDay", desc := "()I" } : Jvm.MethodName) prog_13_method_112_code (1 : Nat) (Option.some Jvm.ClassFile.FieldType.int)) ∈ TBG := tb_t 2130 (by decide +kernel) (by decide +kernel)
theorem tw2131 : (Jvm.Cond.methodLink "GranaryWatchLaw" (169 : Nat) ({ cls := "GranaryWatchModel", name := "catNameByte", desc := "(II)I" } : Jvm.MethodName)) ∈ TBG := tb_t 2131 (by decide +kernel) (by decide +kernel)
theorem tw2132 : (Jvm.Cond.instanceMethod ({ cls := "GranaryWatchModel", name := "catNameByte", desc := "(II)I" } : Jvm.MethodName)) ∈ TBG := tb_t 2132 (by decide +kernel) (by decide +kernel)
theorem tw2133 : (Jvm.Cond.selects "GranaryWatchModel" ({ cls := "GranaryWatchModel", name := "catNameByte", desc := "(II)I" } : Jvm.MethodName) ({ cls := "GranaryWatchModel", name := "catNameByte", desc := "(II)I" } : Jvm.MethodName)) ∈ TBG := tb_t 2133 (by decide +kernel) (by decide +kernel)
theorem tw2134 : (Jvm.Cond.code ({ cls := "GranaryWatchModel", name := "catNameByte", desc := "(II)I" } : Jvm.MethodName) prog_13_method_113_code (3 : Nat) (Option.some Jvm.ClassFile.FieldType.int)) ∈ TBG := tb_t 2134 (by decide +kernel) (by decide +kernel)
theorem tw2135 : (Jvm.Cond.methodLink "GranaryWatchLaw" (175 : Nat) ({ cls := "GranaryWatchModel", name := "sackNameByte", desc := "(II)I" } : Jvm.MethodName)) ∈ TBG := tb_t 2135 (by decide +kernel) (by decide +kernel)
theorem tw2136 : (Jvm.Cond.instanceMethod ({ cls := "GranaryWatchModel", name := "sackNameByte", desc := "(II)I" } : Jvm.MethodName)) ∈ TBG := tb_t 2136 (by decide +kernel) (by decide +kernel)
theorem tw2137 : (Jvm.Cond.selects "GranaryWatchModel" ({ cls := "GranaryWatchModel", name := "sackNameByte", desc := "(II)I" } : Jvm.MethodName) ({ cls := "GranaryWatchModel", name := "sackNameByte", desc := "(II)I" } : Jvm.MethodName)) ∈ TBG := tb_t 2137 (by decide +kernel) (by decide +kernel)
theorem tw2138 : (Jvm.Cond.code ({ cls := "GranaryWatchModel", name := "sackNameByte", desc := "(II)I" } : Jvm.MethodName) prog_13_method_114_code (3 : Nat) (Option.some Jvm.ClassFile.FieldType.int)) ∈ TBG := tb_t 2138 (by decide +kernel) (by decide +kernel)
theorem tw2139 : (Jvm.Cond.methodLink "GranaryWatchLaw" (182 : Nat) ({ cls := "GranaryWatchModel", name := "isLeftPawed", desc := "(I)Z" } : Jvm.MethodName)) ∈ TBG := tb_t 2139 (by decide +kernel) (by decide +kernel)
theorem tw2140 : (Jvm.Cond.instanceMethod ({ cls := "GranaryWatchModel", name := "isLeftPawed", desc := "(I)Z" } : Jvm.MethodName)) ∈ TBG := tb_t 2140 (by decide +kernel) (by decide +kernel)
theorem tw2141 : (Jvm.Cond.selects "GranaryWatchModel" ({ cls := "GranaryWatchModel", name := "isLeftPawed", desc := "(I)Z" } : Jvm.MethodName) ({ cls := "GranaryWatchModel", name := "isLeftPawed", desc := "(I)Z" } : Jvm.MethodName)) ∈ TBG := tb_t 2141 (by decide +kernel) (by decide +kernel)
theorem tw2142 : (Jvm.Cond.code ({ cls := "GranaryWatchModel", name := "isLeftPawed", desc := "(I)Z" } : Jvm.MethodName) prog_13_method_115_code (2 : Nat) (Option.some Jvm.ClassFile.FieldType.boolean)) ∈ TBG := tb_t 2142 (by decide +kernel) (by decide +kernel)
theorem tw2143 : (Jvm.Cond.methodLink "GranaryWatchLaw" (203 : Nat) ({ cls := "GranaryWatchModel", name := "isOpen", desc := "(I)Z" } : Jvm.MethodName)) ∈ TBG := tb_t 2143 (by decide +kernel) (by decide +kernel)
theorem tw2144 : (Jvm.Cond.instanceMethod ({ cls := "GranaryWatchModel", name := "isOpen", desc := "(I)Z" } : Jvm.MethodName)) ∈ TBG := tb_t 2144 (by decide +kernel) (by decide +kernel)
theorem tw2145 : (Jvm.Cond.selects "GranaryWatchModel" ({ cls := "GranaryWatchModel", name := "isOpen", desc := "(I)Z" } : Jvm.MethodName) ({ cls := "GranaryWatchModel", name := "isOpen", desc := "(I)Z" } : Jvm.MethodName)) ∈ TBG := tb_t 2145 (by decide +kernel) (by decide +kernel)
theorem tw2146 : (Jvm.Cond.code ({ cls := "GranaryWatchModel", name := "isOpen", desc := "(I)Z" } : Jvm.MethodName) prog_13_method_116_code (2 : Nat) (Option.some Jvm.ClassFile.FieldType.boolean)) ∈ TBG := tb_t 2146 (by decide +kernel) (by decide +kernel)
theorem tw2147 : (Jvm.Cond.methodLink "GranaryWatchLaw" (221 : Nat) ({ cls := "GranaryWatchModel", name := "catOfShift", desc := "(I)I" } : Jvm.MethodName)) ∈ TBG := tb_t 2147 (by decide +kernel) (by decide +kernel)
theorem tw2148 : (Jvm.Cond.instanceMethod ({ cls := "GranaryWatchModel", name := "catOfShift", desc := "(I)I" } : Jvm.MethodName)) ∈ TBG := tb_t 2148 (by decide +kernel) (by decide +kernel)
theorem tw2149 : (Jvm.Cond.selects "GranaryWatchModel" ({ cls := "GranaryWatchModel", name := "catOfShift", desc := "(I)I" } : Jvm.MethodName) ({ cls := "GranaryWatchModel", name := "catOfShift", desc := "(I)I" } : Jvm.MethodName)) ∈ TBG := tb_t 2149 (by decide +kernel) (by decide +kernel)
theorem tw2150 : (Jvm.Cond.code ({ cls := "GranaryWatchModel", name := "catOfShift", desc := "(I)I" } : Jvm.MethodName) prog_13_method_117_code (2 : Nat) (Option.some Jvm.ClassFile.FieldType.int)) ∈ TBG := tb_t 2150 (by decide +kernel) (by decide +kernel)
theorem tw2155 : (Jvm.Cond.methodLink "GranaryWatchLaw" (224 : Nat) ({ cls := "GranaryWatchModel", name := "hoursOfShift", desc := "(I)I" } : Jvm.MethodName)) ∈ TBG := tb_t 2155 (by decide +kernel) (by decide +kernel)
theorem tw2156 : (Jvm.Cond.instanceMethod ({ cls := "GranaryWatchModel", name := "hoursOfShift", desc := "(I)I" } : Jvm.MethodName)) ∈ TBG := tb_t 2156 (by decide +kernel) (by decide +kernel)
theorem tw2157 : (Jvm.Cond.selects "GranaryWatchModel" ({ cls := "GranaryWatchModel", name := "hoursOfShift", desc := "(I)I" } : Jvm.MethodName) ({ cls := "GranaryWatchModel", name := "hoursOfShift", desc := "(I)I" } : Jvm.MethodName)) ∈ TBG := tb_t 2157 (by decide +kernel) (by decide +kernel)
theorem tw2158 : (Jvm.Cond.code ({ cls := "GranaryWatchModel", name := "hoursOfShift", desc := "(I)I" } : Jvm.MethodName) prog_13_method_118_code (2 : Nat) (Option.some Jvm.ClassFile.FieldType.int)) ∈ TBG := tb_t 2158 (by decide +kernel) (by decide +kernel)
theorem tw2159 : (Jvm.Cond.methodLink "GranaryWatchLaw" (231 : Nat) ({ cls := "GranaryWatchModel", name := "huntingSack", desc := "()I" } : Jvm.MethodName)) ∈ TBG := tb_t 2159 (by decide +kernel) (by decide +kernel)
theorem tw2160 : (Jvm.Cond.instanceMethod ({ cls := "GranaryWatchModel", name := "huntingSack", desc := "()I" } : Jvm.MethodName)) ∈ TBG := tb_t 2160 (by decide +kernel) (by decide +kernel)
theorem tw2161 : (Jvm.Cond.selects "GranaryWatchModel" ({ cls := "GranaryWatchModel", name := "huntingSack", desc := "()I" } : Jvm.MethodName) ({ cls := "GranaryWatchModel", name := "huntingSack", desc := "()I" } : Jvm.MethodName)) ∈ TBG := tb_t 2161 (by decide +kernel) (by decide +kernel)
theorem tw2162 : (Jvm.Cond.code ({ cls := "GranaryWatchModel", name := "huntingSack", desc := "()I" } : Jvm.MethodName) prog_13_method_119_code (1 : Nat) (Option.some Jvm.ClassFile.FieldType.int)) ∈ TBG := tb_t 2162 (by decide +kernel) (by decide +kernel)
theorem tw2163 : (Jvm.Cond.methodLink "GranaryWatchLaw" (239 : Nat) ({ cls := "GranaryWatchModel", name := "eventKind", desc := "(I)I" } : Jvm.MethodName)) ∈ TBG := tb_t 2163 (by decide +kernel) (by decide +kernel)
theorem tw2164 : (Jvm.Cond.instanceMethod ({ cls := "GranaryWatchModel", name := "eventKind", desc := "(I)I" } : Jvm.MethodName)) ∈ TBG := tb_t 2164 (by decide +kernel) (by decide +kernel)
theorem tw2165 : (Jvm.Cond.selects "GranaryWatchModel" ({ cls := "GranaryWatchModel", name := "eventKind", desc := "(I)I" } : Jvm.MethodName) ({ cls := "GranaryWatchModel", name := "eventKind", desc := "(I)I" } : Jvm.MethodName)) ∈ TBG := tb_t 2165 (by decide +kernel) (by decide +kernel)
theorem tw2166 : (Jvm.Cond.code ({ cls := "GranaryWatchModel", name := "eventKind", desc := "(I)I" } : Jvm.MethodName) prog_13_method_121_code (2 : Nat) (Option.some Jvm.ClassFile.FieldType.int)) ∈ TBG := tb_t 2166 (by decide +kernel) (by decide +kernel)
theorem tw2171 : (Jvm.Cond.methodLink "GranaryWatchLaw" (243 : Nat) ({ cls := "GranaryWatchModel", name := "eventCat", desc := "(I)I" } : Jvm.MethodName)) ∈ TBG := tb_t 2171 (by decide +kernel) (by decide +kernel)
theorem tw2172 : (Jvm.Cond.instanceMethod ({ cls := "GranaryWatchModel", name := "eventCat", desc := "(I)I" } : Jvm.MethodName)) ∈ TBG := tb_t 2172 (by decide +kernel) (by decide +kernel)
theorem tw2173 : (Jvm.Cond.selects "GranaryWatchModel" ({ cls := "GranaryWatchModel", name := "eventCat", desc := "(I)I" } : Jvm.MethodName) ({ cls := "GranaryWatchModel", name := "eventCat", desc := "(I)I" } : Jvm.MethodName)) ∈ TBG := tb_t 2173 (by decide +kernel) (by decide +kernel)
theorem tw2174 : (Jvm.Cond.code ({ cls := "GranaryWatchModel", name := "eventCat", desc := "(I)I" } : Jvm.MethodName) prog_13_method_122_code (2 : Nat) (Option.some Jvm.ClassFile.FieldType.int)) ∈ TBG := tb_t 2174 (by decide +kernel) (by decide +kernel)
theorem tw2175 : (Jvm.Cond.methodLink "GranaryWatchLaw" (247 : Nat) ({ cls := "GranaryWatchModel", name := "eventNumber", desc := "(I)I" } : Jvm.MethodName)) ∈ TBG := tb_t 2175 (by decide +kernel) (by decide +kernel)
theorem tw2176 : (Jvm.Cond.instanceMethod ({ cls := "GranaryWatchModel", name := "eventNumber", desc := "(I)I" } : Jvm.MethodName)) ∈ TBG := tb_t 2176 (by decide +kernel) (by decide +kernel)
theorem tw2177 : (Jvm.Cond.selects "GranaryWatchModel" ({ cls := "GranaryWatchModel", name := "eventNumber", desc := "(I)I" } : Jvm.MethodName) ({ cls := "GranaryWatchModel", name := "eventNumber", desc := "(I)I" } : Jvm.MethodName)) ∈ TBG := tb_t 2177 (by decide +kernel) (by decide +kernel)
theorem tw2178 : (Jvm.Cond.code ({ cls := "GranaryWatchModel", name := "eventNumber", desc := "(I)I" } : Jvm.MethodName) prog_13_method_123_code (2 : Nat) (Option.some Jvm.ClassFile.FieldType.int)) ∈ TBG := tb_t 2178 (by decide +kernel) (by decide +kernel)
theorem tw2179 : (Jvm.Cond.methodLink "GranaryWatchLaw" (254 : Nat) ({ cls := "GranaryWatchModel", name := "miceAfter", desc := "(II)I" } : Jvm.MethodName)) ∈ TBG := tb_t 2179 (by decide +kernel) (by decide +kernel)
theorem tw2180 : (Jvm.Cond.instanceMethod ({ cls := "GranaryWatchModel", name := "miceAfter", desc := "(II)I" } : Jvm.MethodName)) ∈ TBG := tb_t 2180 (by decide +kernel) (by decide +kernel)
theorem tw2181 : (Jvm.Cond.selects "GranaryWatchModel" ({ cls := "GranaryWatchModel", name := "miceAfter", desc := "(II)I" } : Jvm.MethodName) ({ cls := "GranaryWatchModel", name := "miceAfter", desc := "(II)I" } : Jvm.MethodName)) ∈ TBG := tb_t 2181 (by decide +kernel) (by decide +kernel)
theorem tw2182 : (Jvm.Cond.code ({ cls := "GranaryWatchModel", name := "miceAfter", desc := "(II)I" } : Jvm.MethodName) prog_13_method_125_code (3 : Nat) (Option.some Jvm.ClassFile.FieldType.int)) ∈ TBG := tb_t 2182 (by decide +kernel) (by decide +kernel)
theorem tw2199 : (Jvm.Cond.methodLink "GranaryWatchLaw" (257 : Nat) ({ cls := "GranaryWatchModel", name := "grainAfter", desc := "(II)I" } : Jvm.MethodName)) ∈ TBG := tb_t 2199 (by decide +kernel) (by decide +kernel)
theorem tw2200 : (Jvm.Cond.instanceMethod ({ cls := "GranaryWatchModel", name := "grainAfter", desc := "(II)I" } : Jvm.MethodName)) ∈ TBG := tb_t 2200 (by decide +kernel) (by decide +kernel)
theorem tw2201 : (Jvm.Cond.selects "GranaryWatchModel" ({ cls := "GranaryWatchModel", name := "grainAfter", desc := "(II)I" } : Jvm.MethodName) ({ cls := "GranaryWatchModel", name := "grainAfter", desc := "(II)I" } : Jvm.MethodName)) ∈ TBG := tb_t 2201 (by decide +kernel) (by decide +kernel)
theorem tw2202 : (Jvm.Cond.code ({ cls := "GranaryWatchModel", name := "grainAfter", desc := "(II)I" } : Jvm.MethodName) prog_13_method_126_code (3 : Nat) (Option.some Jvm.ClassFile.FieldType.int)) ∈ TBG := tb_t 2202 (by decide +kernel) (by decide +kernel)
theorem tw2203 : (Jvm.Cond.methodLink "GranaryWatchLaw" (260 : Nat) ({ cls := "GranaryWatchModel", name := "swornAfter", desc := "(I)I" } : Jvm.MethodName)) ∈ TBG := tb_t 2203 (by decide +kernel) (by decide +kernel)
theorem tw2204 : (Jvm.Cond.instanceMethod ({ cls := "GranaryWatchModel", name := "swornAfter", desc := "(I)I" } : Jvm.MethodName)) ∈ TBG := tb_t 2204 (by decide +kernel) (by decide +kernel)
theorem tw2205 : (Jvm.Cond.selects "GranaryWatchModel" ({ cls := "GranaryWatchModel", name := "swornAfter", desc := "(I)I" } : Jvm.MethodName) ({ cls := "GranaryWatchModel", name := "swornAfter", desc := "(I)I" } : Jvm.MethodName)) ∈ TBG := tb_t 2205 (by decide +kernel) (by decide +kernel)
theorem tw2206 : (Jvm.Cond.code ({ cls := "GranaryWatchModel", name := "swornAfter", desc := "(I)I" } : Jvm.MethodName) prog_13_method_127_code (3 : Nat) (Option.some Jvm.ClassFile.FieldType.int)) ∈ TBG := tb_t 2206 (by decide +kernel) (by decide +kernel)
theorem tw2207 : (Jvm.Cond.methodLink "GranaryWatchLaw" (264 : Nat) ({ cls := "GranaryWatchModel", name := "hoursUntilUnguarded", desc := "()I" } : Jvm.MethodName)) ∈ TBG := tb_t 2207 (by decide +kernel) (by decide +kernel)
theorem tw2208 : (Jvm.Cond.instanceMethod ({ cls := "GranaryWatchModel", name := "hoursUntilUnguarded", desc := "()I" } : Jvm.MethodName)) ∈ TBG := tb_t 2208 (by decide +kernel) (by decide +kernel)
theorem tw2209 : (Jvm.Cond.selects "GranaryWatchModel" ({ cls := "GranaryWatchModel", name := "hoursUntilUnguarded", desc := "()I" } : Jvm.MethodName) ({ cls := "GranaryWatchModel", name := "hoursUntilUnguarded", desc := "()I" } : Jvm.MethodName)) ∈ TBG := tb_t 2209 (by decide +kernel) (by decide +kernel)
theorem tw2210 : (Jvm.Cond.code ({ cls := "GranaryWatchModel", name := "hoursUntilUnguarded", desc := "()I" } : Jvm.MethodName) prog_13_method_129_code (1 : Nat) (Option.some Jvm.ClassFile.FieldType.int)) ∈ TBG := tb_t 2210 (by decide +kernel) (by decide +kernel)
theorem tw2215 : (Jvm.Cond.methodLink "GranaryWatchLaw" (267 : Nat) ({ cls := "GranaryWatchModel", name := "hoursUntilEmpty", desc := "(I)I" } : Jvm.MethodName)) ∈ TBG := tb_t 2215 (by decide +kernel) (by decide +kernel)
theorem tw2216 : (Jvm.Cond.instanceMethod ({ cls := "GranaryWatchModel", name := "hoursUntilEmpty", desc := "(I)I" } : Jvm.MethodName)) ∈ TBG := tb_t 2216 (by decide +kernel) (by decide +kernel)
theorem tw2217 : (Jvm.Cond.selects "GranaryWatchModel" ({ cls := "GranaryWatchModel", name := "hoursUntilEmpty", desc := "(I)I" } : Jvm.MethodName) ({ cls := "GranaryWatchModel", name := "hoursUntilEmpty", desc := "(I)I" } : Jvm.MethodName)) ∈ TBG := tb_t 2217 (by decide +kernel) (by decide +kernel)
theorem tw2218 : (Jvm.Cond.code ({ cls := "GranaryWatchModel", name := "hoursUntilEmpty", desc := "(I)I" } : Jvm.MethodName) prog_13_method_130_code (2 : Nat) (Option.some Jvm.ClassFile.FieldType.int)) ∈ TBG := tb_t 2218 (by decide +kernel) (by decide +kernel)
theorem tw2219 : (Jvm.Cond.methodLink "GranaryWatchLaw" (270 : Nat) ({ cls := "GranaryWatchModel", name := "caughtWithin", desc := "(I)I" } : Jvm.MethodName)) ∈ TBG := tb_t 2219 (by decide +kernel) (by decide +kernel)
theorem tw2220 : (Jvm.Cond.instanceMethod ({ cls := "GranaryWatchModel", name := "caughtWithin", desc := "(I)I" } : Jvm.MethodName)) ∈ TBG := tb_t 2220 (by decide +kernel) (by decide +kernel)
theorem tw2221 : (Jvm.Cond.selects "GranaryWatchModel" ({ cls := "GranaryWatchModel", name := "caughtWithin", desc := "(I)I" } : Jvm.MethodName) ({ cls := "GranaryWatchModel", name := "caughtWithin", desc := "(I)I" } : Jvm.MethodName)) ∈ TBG := tb_t 2221 (by decide +kernel) (by decide +kernel)
theorem tw2222 : (Jvm.Cond.code ({ cls := "GranaryWatchModel", name := "caughtWithin", desc := "(I)I" } : Jvm.MethodName) prog_13_method_131_code (2 : Nat) (Option.some Jvm.ClassFile.FieldType.int)) ∈ TBG := tb_t 2222 (by decide +kernel) (by decide +kernel)
theorem tw2223 : (Jvm.Cond.methodLink "GranaryWatchLaw" (273 : Nat) ({ cls := "GranaryWatchModel", name := "bestFlapToChange", desc := "(I)I" } : Jvm.MethodName)) ∈ TBG := tb_t 2223 (by decide +kernel) (by decide +kernel)
theorem tw2224 : (Jvm.Cond.instanceMethod ({ cls := "GranaryWatchModel", name := "bestFlapToChange", desc := "(I)I" } : Jvm.MethodName)) ∈ TBG := tb_t 2224 (by decide +kernel) (by decide +kernel)
theorem tw2225 : (Jvm.Cond.selects "GranaryWatchModel" ({ cls := "GranaryWatchModel", name := "bestFlapToChange", desc := "(I)I" } : Jvm.MethodName) ({ cls := "GranaryWatchModel", name := "bestFlapToChange", desc := "(I)I" } : Jvm.MethodName)) ∈ TBG := tb_t 2225 (by decide +kernel) (by decide +kernel)
theorem tw2226 : (Jvm.Cond.code ({ cls := "GranaryWatchModel", name := "bestFlapToChange", desc := "(I)I" } : Jvm.MethodName) prog_13_method_134_code (6 : Nat) (Option.some Jvm.ClassFile.FieldType.int)) ∈ TBG := tb_t 2226 (by decide +kernel) (by decide +kernel)
theorem tw2235 : (Jvm.Cond.methodLink "GranaryWatchLaw" (302 : Nat) ({ cls := "GranaryWatchModel", name := "isConsistent", desc := "()Z" } : Jvm.MethodName)) ∈ TBG := tb_t 2235 (by decide +kernel) (by decide +kernel)
theorem tw2236 : (Jvm.Cond.instanceMethod ({ cls := "GranaryWatchModel", name := "isConsistent", desc := "()Z" } : Jvm.MethodName)) ∈ TBG := tb_t 2236 (by decide +kernel) (by decide +kernel)
theorem tw2237 : (Jvm.Cond.selects "GranaryWatchModel" ({ cls := "GranaryWatchModel", name := "isConsistent", desc := "()Z" } : Jvm.MethodName) ({ cls := "GranaryWatchModel", name := "isConsistent", desc := "()Z" } : Jvm.MethodName)) ∈ TBG := tb_t 2237 (by decide +kernel) (by decide +kernel)
theorem tw2238 : (Jvm.Cond.code ({ cls := "GranaryWatchModel", name := "isConsistent", desc := "()Z" } : Jvm.MethodName) prog_13_method_136_code (4 : Nat) (Option.some Jvm.ClassFile.FieldType.boolean)) ∈ TBG := tb_t 2238 (by decide +kernel) (by decide +kernel)
theorem tw2243 : (Jvm.Cond.methodLink "GranaryWatchLaw" (307 : Nat) ({ cls := "GranaryWatchModel", name := "averageTiredness", desc := "()D" } : Jvm.MethodName)) ∈ TBG := tb_t 2243 (by decide +kernel) (by decide +kernel)
theorem tw2244 : (Jvm.Cond.instanceMethod ({ cls := "GranaryWatchModel", name := "averageTiredness", desc := "()D" } : Jvm.MethodName)) ∈ TBG := tb_t 2244 (by decide +kernel) (by decide +kernel)
theorem tw2245 : (Jvm.Cond.selects "GranaryWatchModel" ({ cls := "GranaryWatchModel", name := "averageTiredness", desc := "()D" } : Jvm.MethodName) ({ cls := "GranaryWatchModel", name := "averageTiredness", desc := "()D" } : Jvm.MethodName)) ∈ TBG := tb_t 2245 (by decide +kernel) (by decide +kernel)
theorem tw2246 : (Jvm.Cond.code ({ cls := "GranaryWatchModel", name := "averageTiredness", desc := "()D" } : Jvm.MethodName) prog_13_method_137_code (1 : Nat) (Option.some Jvm.ClassFile.FieldType.double)) ∈ TBG := tb_t 2246 (by decide +kernel) (by decide +kernel)
theorem tw2247 : (Jvm.Cond.methodLink "GranaryWatchLaw" (311 : Nat) ({ cls := "GranaryWatchModel", name := "shareOf", desc := "(I)F" } : Jvm.MethodName)) ∈ TBG := tb_t 2247 (by decide +kernel) (by decide +kernel)
theorem tw2248 : (Jvm.Cond.instanceMethod ({ cls := "GranaryWatchModel", name := "shareOf", desc := "(I)F" } : Jvm.MethodName)) ∈ TBG := tb_t 2248 (by decide +kernel) (by decide +kernel)
theorem tw2249 : (Jvm.Cond.selects "GranaryWatchModel" ({ cls := "GranaryWatchModel", name := "shareOf", desc := "(I)F" } : Jvm.MethodName) ({ cls := "GranaryWatchModel", name := "shareOf", desc := "(I)F" } : Jvm.MethodName)) ∈ TBG := tb_t 2249 (by decide +kernel) (by decide +kernel)
theorem tw2250 : (Jvm.Cond.code ({ cls := "GranaryWatchModel", name := "shareOf", desc := "(I)F" } : Jvm.MethodName) prog_13_method_138_code (2 : Nat) (Option.some Jvm.ClassFile.FieldType.float)) ∈ TBG := tb_t 2250 (by decide +kernel) (by decide +kernel)
theorem tw2251 : (Jvm.Cond.methodLink "GranaryWatchLaw" (314 : Nat) ({ cls := "GranaryWatchModel", name := "letPass", desc := "(I)I" } : Jvm.MethodName)) ∈ TBG := tb_t 2251 (by decide +kernel) (by decide +kernel)
theorem tw2252 : (Jvm.Cond.instanceMethod ({ cls := "GranaryWatchModel", name := "letPass", desc := "(I)I" } : Jvm.MethodName)) ∈ TBG := tb_t 2252 (by decide +kernel) (by decide +kernel)
theorem tw2253 : (Jvm.Cond.selects "GranaryWatchModel" ({ cls := "GranaryWatchModel", name := "letPass", desc := "(I)I" } : Jvm.MethodName) ({ cls := "GranaryWatchModel", name := "letPass", desc := "(I)I" } : Jvm.MethodName)) ∈ TBG := tb_t 2253 (by decide +kernel) (by decide +kernel)
theorem tw2254 : (Jvm.Cond.code ({ cls := "GranaryWatchModel", name := "letPass", desc := "(I)I" } : Jvm.MethodName) prog_13_method_139_code (2 : Nat) (Option.some Jvm.ClassFile.FieldType.int)) ∈ TBG := tb_t 2254 (by decide +kernel) (by decide +kernel)
theorem tw2255 : (Jvm.Cond.methodLink "GranaryWatchLaw" (317 : Nat) ({ cls := "GranaryWatchModel", name := "openFlap", desc := "(I)I" } : Jvm.MethodName)) ∈ TBG := tb_t 2255 (by decide +kernel) (by decide +kernel)
theorem tw2256 : (Jvm.Cond.instanceMethod ({ cls := "GranaryWatchModel", name := "openFlap", desc := "(I)I" } : Jvm.MethodName)) ∈ TBG := tb_t 2256 (by decide +kernel) (by decide +kernel)
theorem tw2257 : (Jvm.Cond.selects "GranaryWatchModel" ({ cls := "GranaryWatchModel", name := "openFlap", desc := "(I)I" } : Jvm.MethodName) ({ cls := "GranaryWatchModel", name := "openFlap", desc := "(I)I" } : Jvm.MethodName)) ∈ TBG := tb_t 2257 (by decide +kernel) (by decide +kernel)
theorem tw2258 : (Jvm.Cond.code ({ cls := "GranaryWatchModel", name := "openFlap", desc := "(I)I" } : Jvm.MethodName) prog_13_method_140_code (2 : Nat) (Option.some Jvm.ClassFile.FieldType.int)) ∈ TBG := tb_t 2258 (by decide +kernel) (by decide +kernel)
theorem tw2259 : (Jvm.Cond.methodLink "GranaryWatchLaw" (320 : Nat) ({ cls := "GranaryWatchModel", name := "shutFlap", desc := "(I)I" } : Jvm.MethodName)) ∈ TBG := tb_t 2259 (by decide +kernel) (by decide +kernel)
theorem tw2260 : (Jvm.Cond.instanceMethod ({ cls := "GranaryWatchModel", name := "shutFlap", desc := "(I)I" } : Jvm.MethodName)) ∈ TBG := tb_t 2260 (by decide +kernel) (by decide +kernel)
theorem tw2261 : (Jvm.Cond.selects "GranaryWatchModel" ({ cls := "GranaryWatchModel", name := "shutFlap", desc := "(I)I" } : Jvm.MethodName) ({ cls := "GranaryWatchModel", name := "shutFlap", desc := "(I)I" } : Jvm.MethodName)) ∈ TBG := tb_t 2261 (by decide +kernel) (by decide +kernel)
theorem tw2262 : (Jvm.Cond.code ({ cls := "GranaryWatchModel", name := "shutFlap", desc := "(I)I" } : Jvm.MethodName) prog_13_method_141_code (2 : Nat) (Option.some Jvm.ClassFile.FieldType.int)) ∈ TBG := tb_t 2262 (by decide +kernel) (by decide +kernel)
theorem tw2263 : (Jvm.Cond.methodLink "GranaryWatchLaw" (323 : Nat) ({ cls := "GranaryWatchModel", name := "addMice", desc := "(II)I" } : Jvm.MethodName)) ∈ TBG := tb_t 2263 (by decide +kernel) (by decide +kernel)
theorem tw2264 : (Jvm.Cond.instanceMethod ({ cls := "GranaryWatchModel", name := "addMice", desc := "(II)I" } : Jvm.MethodName)) ∈ TBG := tb_t 2264 (by decide +kernel) (by decide +kernel)
theorem tw2265 : (Jvm.Cond.selects "GranaryWatchModel" ({ cls := "GranaryWatchModel", name := "addMice", desc := "(II)I" } : Jvm.MethodName) ({ cls := "GranaryWatchModel", name := "addMice", desc := "(II)I" } : Jvm.MethodName)) ∈ TBG := tb_t 2265 (by decide +kernel) (by decide +kernel)
theorem tw2266 : (Jvm.Cond.code ({ cls := "GranaryWatchModel", name := "addMice", desc := "(II)I" } : Jvm.MethodName) prog_13_method_142_code (3 : Nat) (Option.some Jvm.ClassFile.FieldType.int)) ∈ TBG := tb_t 2266 (by decide +kernel) (by decide +kernel)
theorem tw2267 : (Jvm.Cond.methodLink "GranaryWatchLaw" (326 : Nat) ({ cls := "GranaryWatchModel", name := "addGrain", desc := "(II)I" } : Jvm.MethodName)) ∈ TBG := tb_t 2267 (by decide +kernel) (by decide +kernel)
theorem tw2268 : (Jvm.Cond.instanceMethod ({ cls := "GranaryWatchModel", name := "addGrain", desc := "(II)I" } : Jvm.MethodName)) ∈ TBG := tb_t 2268 (by decide +kernel) (by decide +kernel)
theorem tw2269 : (Jvm.Cond.selects "GranaryWatchModel" ({ cls := "GranaryWatchModel", name := "addGrain", desc := "(II)I" } : Jvm.MethodName) ({ cls := "GranaryWatchModel", name := "addGrain", desc := "(II)I" } : Jvm.MethodName)) ∈ TBG := tb_t 2269 (by decide +kernel) (by decide +kernel)
theorem tw2270 : (Jvm.Cond.code ({ cls := "GranaryWatchModel", name := "addGrain", desc := "(II)I" } : Jvm.MethodName) prog_13_method_143_code (3 : Nat) (Option.some Jvm.ClassFile.FieldType.int)) ∈ TBG := tb_t 2270 (by decide +kernel) (by decide +kernel)
theorem tw2271 : (Jvm.Cond.methodLink "GranaryWatchLaw" (330 : Nat) ({ cls := "GranaryWatchModel", name := "dismiss", desc := "()I" } : Jvm.MethodName)) ∈ TBG := tb_t 2271 (by decide +kernel) (by decide +kernel)
theorem tw2272 : (Jvm.Cond.instanceMethod ({ cls := "GranaryWatchModel", name := "dismiss", desc := "()I" } : Jvm.MethodName)) ∈ TBG := tb_t 2272 (by decide +kernel) (by decide +kernel)
theorem tw2273 : (Jvm.Cond.selects "GranaryWatchModel" ({ cls := "GranaryWatchModel", name := "dismiss", desc := "()I" } : Jvm.MethodName) ({ cls := "GranaryWatchModel", name := "dismiss", desc := "()I" } : Jvm.MethodName)) ∈ TBG := tb_t 2273 (by decide +kernel) (by decide +kernel)
theorem tw2274 : (Jvm.Cond.code ({ cls := "GranaryWatchModel", name := "dismiss", desc := "()I" } : Jvm.MethodName) prog_13_method_144_code (1 : Nat) (Option.some Jvm.ClassFile.FieldType.int)) ∈ TBG := tb_t 2274 (by decide +kernel) (by decide +kernel)
theorem tw2275 : (Jvm.Cond.methodLink "GranaryWatchLaw" (333 : Nat) ({ cls := "GranaryWatchModel", name := "setMilk", desc := "(I)I" } : Jvm.MethodName)) ∈ TBG := tb_t 2275 (by decide +kernel) (by decide +kernel)
theorem tw2276 : (Jvm.Cond.instanceMethod ({ cls := "GranaryWatchModel", name := "setMilk", desc := "(I)I" } : Jvm.MethodName)) ∈ TBG := tb_t 2276 (by decide +kernel) (by decide +kernel)
theorem tw2277 : (Jvm.Cond.selects "GranaryWatchModel" ({ cls := "GranaryWatchModel", name := "setMilk", desc := "(I)I" } : Jvm.MethodName) ({ cls := "GranaryWatchModel", name := "setMilk", desc := "(I)I" } : Jvm.MethodName)) ∈ TBG := tb_t 2277 (by decide +kernel) (by decide +kernel)
theorem tw2278 : (Jvm.Cond.code ({ cls := "GranaryWatchModel", name := "setMilk", desc := "(I)I" } : Jvm.MethodName) prog_13_method_145_code (2 : Nat) (Option.some Jvm.ClassFile.FieldType.int)) ∈ TBG := tb_t 2278 (by decide +kernel) (by decide +kernel)
theorem tw2279 : (Jvm.Cond.methodLink "GranaryWatchLaw" (336 : Nat) ({ cls := "GranaryWatchModel", name := "undo", desc := "()I" } : Jvm.MethodName)) ∈ TBG := tb_t 2279 (by decide +kernel) (by decide +kernel)
theorem tw2280 : (Jvm.Cond.instanceMethod ({ cls := "GranaryWatchModel", name := "undo", desc := "()I" } : Jvm.MethodName)) ∈ TBG := tb_t 2280 (by decide +kernel) (by decide +kernel)
theorem tw2281 : (Jvm.Cond.selects "GranaryWatchModel" ({ cls := "GranaryWatchModel", name := "undo", desc := "()I" } : Jvm.MethodName) ({ cls := "GranaryWatchModel", name := "undo", desc := "()I" } : Jvm.MethodName)) ∈ TBG := tb_t 2281 (by decide +kernel) (by decide +kernel)
theorem tw2282 : (Jvm.Cond.code ({ cls := "GranaryWatchModel", name := "undo", desc := "()I" } : Jvm.MethodName) prog_13_method_146_code (1 : Nat) (Option.some Jvm.ClassFile.FieldType.int)) ∈ TBG := tb_t 2282 (by decide +kernel) (by decide +kernel)
theorem tw2283 : (Jvm.Cond.methodLink "GranaryWatchLaw" (340 : Nat) ({ cls := "GranaryWatchModel", name := "writeSacks", desc := "()I" } : Jvm.MethodName)) ∈ TBG := tb_t 2283 (by decide +kernel) (by decide +kernel)
theorem tw2284 : (Jvm.Cond.instanceMethod ({ cls := "GranaryWatchModel", name := "writeSacks", desc := "()I" } : Jvm.MethodName)) ∈ TBG := tb_t 2284 (by decide +kernel) (by decide +kernel)
theorem tw2285 : (Jvm.Cond.selects "GranaryWatchModel" ({ cls := "GranaryWatchModel", name := "writeSacks", desc := "()I" } : Jvm.MethodName) ({ cls := "GranaryWatchModel", name := "writeSacks", desc := "()I" } : Jvm.MethodName)) ∈ TBG := tb_t 2285 (by decide +kernel) (by decide +kernel)
theorem tw2286 : (Jvm.Cond.code ({ cls := "GranaryWatchModel", name := "writeSacks", desc := "()I" } : Jvm.MethodName) prog_13_method_149_code (3 : Nat) (Option.some Jvm.ClassFile.FieldType.int)) ∈ TBG := tb_t 2286 (by decide +kernel) (by decide +kernel)
theorem tw2295 : (Jvm.Cond.methodLink "GranaryWatchLaw" (344 : Nat) ({ cls := "GranaryWatchModel", name := "outputByte", desc := "(I)I" } : Jvm.MethodName)) ∈ TBG := tb_t 2295 (by decide +kernel) (by decide +kernel)
theorem tw2296 : (Jvm.Cond.instanceMethod ({ cls := "GranaryWatchModel", name := "outputByte", desc := "(I)I" } : Jvm.MethodName)) ∈ TBG := tb_t 2296 (by decide +kernel) (by decide +kernel)
theorem tw2297 : (Jvm.Cond.selects "GranaryWatchModel" ({ cls := "GranaryWatchModel", name := "outputByte", desc := "(I)I" } : Jvm.MethodName) ({ cls := "GranaryWatchModel", name := "outputByte", desc := "(I)I" } : Jvm.MethodName)) ∈ TBG := tb_t 2297 (by decide +kernel) (by decide +kernel)
theorem tw2298 : (Jvm.Cond.code ({ cls := "GranaryWatchModel", name := "outputByte", desc := "(I)I" } : Jvm.MethodName) prog_13_method_150_code (2 : Nat) (Option.some Jvm.ClassFile.FieldType.int)) ∈ TBG := tb_t 2298 (by decide +kernel) (by decide +kernel)
theorem tw2299 : (Jvm.Cond.methodLink "GranaryWatchLaw" (348 : Nat) ({ cls := "GranaryWatchModel", name := "saveState", desc := "()I" } : Jvm.MethodName)) ∈ TBG := tb_t 2299 (by decide +kernel) (by decide +kernel)
theorem tw2300 : (Jvm.Cond.instanceMethod ({ cls := "GranaryWatchModel", name := "saveState", desc := "()I" } : Jvm.MethodName)) ∈ TBG := tb_t 2300 (by decide +kernel) (by decide +kernel)
theorem tw2301 : (Jvm.Cond.selects "GranaryWatchModel" ({ cls := "GranaryWatchModel", name := "saveState", desc := "()I" } : Jvm.MethodName) ({ cls := "GranaryWatchModel", name := "saveState", desc := "()I" } : Jvm.MethodName)) ∈ TBG := tb_t 2301 (by decide +kernel) (by decide +kernel)
theorem tw2302 : (Jvm.Cond.code ({ cls := "GranaryWatchModel", name := "saveState", desc := "()I" } : Jvm.MethodName) prog_13_method_151_code (1 : Nat) (Option.some Jvm.ClassFile.FieldType.int)) ∈ TBG := tb_t 2302 (by decide +kernel) (by decide +kernel)
theorem tw2303 : (Jvm.Cond.methodLink "GranaryWatchLaw" (351 : Nat) ({ cls := "GranaryWatchModel", name := "restoreState", desc := "()I" } : Jvm.MethodName)) ∈ TBG := tb_t 2303 (by decide +kernel) (by decide +kernel)
theorem tw2304 : (Jvm.Cond.instanceMethod ({ cls := "GranaryWatchModel", name := "restoreState", desc := "()I" } : Jvm.MethodName)) ∈ TBG := tb_t 2304 (by decide +kernel) (by decide +kernel)
theorem tw2305 : (Jvm.Cond.selects "GranaryWatchModel" ({ cls := "GranaryWatchModel", name := "restoreState", desc := "()I" } : Jvm.MethodName) ({ cls := "GranaryWatchModel", name := "restoreState", desc := "()I" } : Jvm.MethodName)) ∈ TBG := tb_t 2305 (by decide +kernel) (by decide +kernel)
theorem tw2306 : (Jvm.Cond.code ({ cls := "GranaryWatchModel", name := "restoreState", desc := "()I" } : Jvm.MethodName) prog_13_method_152_code (1 : Nat) (Option.some Jvm.ClassFile.FieldType.int)) ∈ TBG := tb_t 2306 (by decide +kernel) (by decide +kernel)
/-! the law's cases -/
theorem gT_X {own : String} {idx : Nat} {y : MethodName} {c : ByteArray} {n : Nat} {r : Option FieldType} {hh : List (Nat × Nat × Nat × Nat)} (h1 : Cond.methodLink own idx y ∈ TBG) (h2 : Cond.static y ∈ TBG) (h3 : Cond.initialized y.cls ∈ TBG) (h6 : Cond.codeWith y c n r hh ∈ TBG) : GoodIn TBG (va_wsS own idx y (.codeWith y c n r hh :: TBG)) := fun w hw => by
  unfold va_wsS at hw
  rcases List.mem_append.mp hw with hw | hw
  · simp only [List.mem_cons, List.not_mem_nil, or_false] at hw
    rcases hw with rfl | rfl | rfl
    all_goals first | exact ⟨h1, tb_good h1⟩ | exact ⟨h2, tb_good h2⟩ | exact ⟨h3, tb_good h3⟩
  · rcases List.mem_cons.mp hw with rfl | hw
    · exact ⟨h6, tb_good h6⟩
    · exact ⟨hw, tb_good hw⟩
theorem lg_cmp_s {x : Int64} : lg_cmp x x = 0 := by
  unfold lg_cmp
  rw [if_neg Int64.lt_irrefl, if_pos rfl]
theorem nI_k {m j : Nat} : nI m + nI j = nI (m + j) := nI_add m j
theorem jA2 {b1 sz : Nat} {H : Heap} (hb : sz ≤ b1) (hz : sz ≤ H.size) : ∀ q, Fr (cΩ (caOf b1)) H.size q → sz ≤ q := fun q z => z.elim (fun z => Nat.le_trans hb (cΩ_in z).1) (fun z => Nat.le_trans hz z)
theorem jA3 {b2 sz : Nat} {H : Heap} (hb : sz ≤ b2) (hz : sz ≤ H.size) : ∀ q, Fr (mΩ (adOf b2)) H.size q → sz ≤ q := fun q z => z.elim (fun z => Nat.le_trans hb (mΩ_in z).1) (fun z => Nat.le_trans hz z)
theorem jA4 {b1 b2 o1 o2 sz : Nat} {H : Heap} (hap : APJ b1 b2 o1 o2) (hb : sz ≤ b1) (hz : sz ≤ H.size) : ∀ q, Fr (jΩ b1 b2 o1 o2) H.size q → sz ≤ q := fun q z => by
  obtain ⟨p1, p2, p3⟩ := hap
  rcases z with (z | z | z | z) | z
  · have := (cΩ_in z).1
    omega
  · have := (mΩ_in z).1
    omega
  · omega
  · omega
  · exact Nat.le_trans hz z
section LAW
variable {p : Program} {l : Launch} {e : Env} {s : State} {m : MethodId} {below : List Frame} {meth : Method} {c : Code} {H : Heap} {locs : List Loc} {cl sl : Nat} {Q : State → Prop}
variable {dC : Nat → ClassId} {dI : Nat → Nat → Nat} {cg : Nat → ClassId} {kA : String → Nat → Nat} {b b1 b2 o1 o2 L n : Nat} {xs : Nat → Int32} {cL cD : ClassId} {S : CS} {M : MS} {x : Int64} {d : UInt64} {ls : Array Slot}
/-- behind one case: the loop goes on with states that agree -/
def LK (p : Program) (l : Launch) (e : Env) (s : State) (m : MethodId) (below : List Frame) (meth : Method) (c : Code) (Q : State → Prop) (dC : Nat → ClassId) (dI : Nat → Nat → Nat) (cg : Nat → ClassId) (kA : String → Nat → Nat) (b b1 b2 o1 o2 n : Nat) (cL cD : ClassId) (cl sl : Nat) : Prop :=
  ∀ (S : CS) (M : MS) (x : Int64) (d : UInt64) (ls : Array Slot) (H : Heap) (locs : List Loc) (cl' sl' : Nat), Rel S M → jP dC dI cg kA b1 b2 o1 o2 cL cD (S, M, x, d) s H → va_S (fun q => s.heap.size ≤ q) s.heap H locs → lv_has ls 10 [(5, .int (nI (6 * n))), (0, .ref b), (1, .ref (caOf b1 0)), (2, .ref (adOf b2 25)), (3, .ref o1), (4, .ref o2)] → cl' ≤ cl + 403 → sl' ≤ sl + 3826 → W p l e room_1 s m #[.ref b] below meth c H locs cl' sl' Q (F0 m 2684 ls [])
theorem sin {j : Nat} (h : 6 * n + 6 ≤ L) (hL : L ≤ 3072) (hj : j < 6) : vp_in (nI (6 * n + j)) L := nI_in (by omega) (by omega)
theorem lc_0 (X : gX p s m #[.ref b] c cL_law 10 "GranaryWatchLaw" (kR kTab kA)) (hXs : va_X b L xs s s.heap) (hbl : b < s.heap.size) (hb1 : s.heap.size ≤ b1) (hap : APJ b1 b2 o1 o2) (hl0 : l.stackTraces = false) (hnn : NNAN) (hn2 : NN2) (hn : 6 * n + 6 ≤ L) (hL : L ≤ 3072) (r : Rel S M) (hP : jP dC dI cg kA b1 b2 o1 o2 cL cD (S, M, x, d) s H) (hS : va_S (fun q => s.heap.size ≤ q) s.heap H locs) (hl : lv_has ls 10 [(5, .int (nI (6 * n))), (0, .ref b), (1, .ref (caOf b1 0)), (2, .ref (adOf b2 25)), (3, .ref o1), (4, .ref o2)]) (hcl : cl + 403 ≤ 601024) (hsl : sl + 3826 ≤ 7293034) (K : LK p l e s m below meth c Q dC dI cg kA b b1 b2 o1 o2 n cL cD cl sl) : W p l e room_1 s m #[.ref b] below meth c H locs cl sl Q (F0 m 312 ls []) := by
  have hx := X.hx
  have hb := X.hb
  have hz := hS.1
  have hb2 : s.heap.size ≤ b2 := by
    have := hap.1
    omega
  refine lv_aload_n hx hb dL_law_312 rfl (lv_at hl 2 rfl) ?_
  refine lv_aload_n hx hb dL_law_313 rfl (lv_at hl 1 rfl) ?_
  refine lv_iload hx hb dL_law_314 (lv_at hl 0 rfl) ?_
  refine lv_iconst (v := 1) hx hb dL_law_316 (by decide) ?_
  refine lv_iadd hx hb dL_law_317 ?_
  rw [show nI (6 * n) + (1 : Int32) = nI (6 * n + 1) from nI_k]
  refine va_sld hx hb hXs hbl (Nat.not_le.mpr hbl) hS (sin hn hL (by decide)) dL_law_318 ?_
  refine lv_aload_n hx hb dL_law_319 rfl (lv_at hl 1 rfl) ?_
  refine lv_iload hx hb dL_law_320 (lv_at hl 0 rfl) ?_
  refine lv_iconst (v := 2) hx hb dL_law_322 (by decide) ?_
  refine lv_iadd hx hb dL_law_323 ?_
  rw [show nI (6 * n) + (2 : Int32) = nI (6 * n + 2) from nI_k]
  refine va_sld hx hb hXs hbl (Nat.not_le.mpr hbl) hS (sin hn hL (by decide)) dL_law_324 ?_
  refine lv_aload_n hx hb dL_law_325 rfl (lv_at hl 1 rfl) ?_
  refine lv_iload hx hb dL_law_326 (lv_at hl 0 rfl) ?_
  refine lv_iconst (v := 3) hx hb dL_law_328 (by decide) ?_
  refine lv_iadd hx hb dL_law_329 ?_
  rw [show nI (6 * n) + (3 : Int32) = nI (6 * n + 3) from nI_k]
  refine va_sld hx hb hXs hbl (Nat.not_le.mpr hbl) hS (sin hn hL (by decide)) dL_law_330 ?_
  refine lv_aload_n hx hb dL_law_331 rfl (lv_at hl 1 rfl) ?_
  refine lv_iload hx hb dL_law_332 (lv_at hl 0 rfl) ?_
  refine lv_iconst (v := 4) hx hb dL_law_334 (by decide) ?_
  refine lv_iadd hx hb dL_law_335 ?_
  rw [show nI (6 * n) + (4 : Int32) = nI (6 * n + 4) from nI_k]
  refine va_sld hx hb hXs hbl (Nat.not_le.mpr hbl) hS (sin hn hL (by decide)) dL_law_336 ?_
  refine lv_aload_n hx hb dL_law_337 rfl (lv_at hl 1 rfl) ?_
  refine lv_iload hx hb dL_law_338 (lv_at hl 0 rfl) ?_
  refine lv_iconst (v := 5) hx hb dL_law_340 (by decide) ?_
  refine lv_iadd hx hb dL_law_341 ?_
  rw [show nI (6 * n) + (5 : Int32) = nI (6 * n + 5) from nI_k]
  refine va_sld hx hb hXs hbl (Nat.not_le.mpr hbl) hS (sin hn hL (by decide)) dL_law_342 ?_
  obtain ⟨y, S1, M1, e1, e2, rr, e7⟩ := q_appendInput r (xs (nI (6 * n + 1)).toNatClampNeg) (xs (nI (6 * n + 2)).toNatClampNeg) (xs (nI (6 * n + 3)).toNatClampNeg) (xs (nI (6 * n + 4)).toNatClampNeg) (xs (nI (6 * n + 5)).toNatClampNeg)
  refine gCallWI X (gF_ok cOK (fsC hap)) ((gMetIA.of (vX10_appendInput e1)).lift (fsC hap)) (cwV 5 X.hts (gT_V tw992 tw993 tw994 tw1 tw995) rfl rfl rfl ⟨rfl, by decide, by decide, by decide +kernel⟩ ⟨Nat.le_of_ble_eq_true rfl, Nat.le_of_ble_eq_true rfl⟩) rfl hP hS (jA2 hb1 hS.1) (cr_rec hP.1 (rfl : kc 0 = 0) rfl cw0 rfl) hl.1 (Nat.le_of_ble_eq_true rfl) ⟨by show cl + 0 ≤ 601024; omega, by show sl + 0 ≤ 7293034; omega⟩ dL_law_343 (As := [.int (xs (nI (6 * n + 1)).toNatClampNeg), .int (xs (nI (6 * n + 2)).toNatClampNeg), .int (xs (nI (6 * n + 3)).toNatClampNeg), .int (xs (nI (6 * n + 4)).toNatClampNeg), .int (xs (nI (6 * n + 5)).toNatClampNeg)]) (rest := []) rfl (fun H locs hP hS => ?_)
  have hP : jP dC dI cg kA b1 b2 o1 o2 cL cD (S1, M, x, d) s H := hP
  refine lv_aload_n hx hb dL_law_346 rfl (lv_at hl 3 rfl) ?_
  refine lv_aload_n hx hb dL_law_347 rfl (lv_at hl 1 rfl) ?_
  refine lv_iload hx hb dL_law_348 (lv_at hl 0 rfl) ?_
  refine lv_iconst (v := 1) hx hb dL_law_350 (by decide) ?_
  refine lv_iadd hx hb dL_law_351 ?_
  rw [show nI (6 * n) + (1 : Int32) = nI (6 * n + 1) from nI_k]
  refine va_sld hx hb hXs hbl (Nat.not_le.mpr hbl) hS (sin hn hL (by decide)) dL_law_352 ?_
  refine lv_aload_n hx hb dL_law_353 rfl (lv_at hl 1 rfl) ?_
  refine lv_iload hx hb dL_law_354 (lv_at hl 0 rfl) ?_
  refine lv_iconst (v := 2) hx hb dL_law_356 (by decide) ?_
  refine lv_iadd hx hb dL_law_357 ?_
  rw [show nI (6 * n) + (2 : Int32) = nI (6 * n + 2) from nI_k]
  refine va_sld hx hb hXs hbl (Nat.not_le.mpr hbl) hS (sin hn hL (by decide)) dL_law_358 ?_
  refine lv_aload_n hx hb dL_law_359 rfl (lv_at hl 1 rfl) ?_
  refine lv_iload hx hb dL_law_360 (lv_at hl 0 rfl) ?_
  refine lv_iconst (v := 3) hx hb dL_law_362 (by decide) ?_
  refine lv_iadd hx hb dL_law_363 ?_
  rw [show nI (6 * n) + (3 : Int32) = nI (6 * n + 3) from nI_k]
  refine va_sld hx hb hXs hbl (Nat.not_le.mpr hbl) hS (sin hn hL (by decide)) dL_law_364 ?_
  refine lv_aload_n hx hb dL_law_365 rfl (lv_at hl 1 rfl) ?_
  refine lv_iload hx hb dL_law_366 (lv_at hl 0 rfl) ?_
  refine lv_iconst (v := 4) hx hb dL_law_368 (by decide) ?_
  refine lv_iadd hx hb dL_law_369 ?_
  rw [show nI (6 * n) + (4 : Int32) = nI (6 * n + 4) from nI_k]
  refine va_sld hx hb hXs hbl (Nat.not_le.mpr hbl) hS (sin hn hL (by decide)) dL_law_370 ?_
  refine lv_aload_n hx hb dL_law_371 rfl (lv_at hl 1 rfl) ?_
  refine lv_iload hx hb dL_law_372 (lv_at hl 0 rfl) ?_
  refine lv_iconst (v := 5) hx hb dL_law_374 (by decide) ?_
  refine lv_iadd hx hb dL_law_375 ?_
  rw [show nI (6 * n) + (5 : Int32) = nI (6 * n + 5) from nI_k]
  refine va_sld hx hb hXs hbl (Nat.not_le.mpr hbl) hS (sin hn hL (by decide)) dL_law_376 ?_
  refine gCallWI X (gF_ok mOK (fsM hap)) ((gMetIA.of (vX11_appendInput e2)).lift (fsM hap)) (cwV 5 X.hts (gT_V tw1745 tw1746 tw1747 tw31 tw1748) rfl rfl rfl ⟨rfl, by decide, by decide, by decide +kernel⟩ ⟨Nat.le_of_ble_eq_true rfl, Nat.le_of_ble_eq_true rfl⟩) rfl (j_fm hP) hS (jA3 hb2 hS.1) (mrec hP.2.1) hl.1 (Nat.le_of_ble_eq_true rfl) ⟨by show cl + 0 + 0 ≤ 601024; omega, by show sl + 0 + 0 ≤ 7293034; omega⟩ dL_law_377 (As := [.int (xs (nI (6 * n + 1)).toNatClampNeg), .int (xs (nI (6 * n + 2)).toNatClampNeg), .int (xs (nI (6 * n + 3)).toNatClampNeg), .int (xs (nI (6 * n + 4)).toNatClampNeg), .int (xs (nI (6 * n + 5)).toNatClampNeg)]) (rest := [.int y]) rfl (fun H locs hP hS => ?_)
  have hP := j_of hP
  refine lv_icmp_eq (tgt := 2684) hx hb dL_law_380 (by decide) (fun _ => ?_) (fun c => absurd rfl c)
  exact K S1 M1 x d _ _ _ _ _ rr hP hS hl (by show cl + 0 + 0 ≤ _; omega) (by show sl + 0 + 0 ≤ _; omega)
theorem lc_1 (X : gX p s m #[.ref b] c cL_law 10 "GranaryWatchLaw" (kR kTab kA)) (hXs : va_X b L xs s s.heap) (hbl : b < s.heap.size) (hb1 : s.heap.size ≤ b1) (hap : APJ b1 b2 o1 o2) (hl0 : l.stackTraces = false) (hnn : NNAN) (hn2 : NN2) (hn : 6 * n + 6 ≤ L) (hL : L ≤ 3072) (r : Rel S M) (hP : jP dC dI cg kA b1 b2 o1 o2 cL cD (S, M, x, d) s H) (hS : va_S (fun q => s.heap.size ≤ q) s.heap H locs) (hl : lv_has ls 10 [(5, .int (nI (6 * n))), (0, .ref b), (1, .ref (caOf b1 0)), (2, .ref (adOf b2 25)), (3, .ref o1), (4, .ref o2)]) (hcl : cl + 403 ≤ 601024) (hsl : sl + 3826 ≤ 7293034) (K : LK p l e s m below meth c Q dC dI cg kA b b1 b2 o1 o2 n cL cD cl sl) : W p l e room_1 s m #[.ref b] below meth c H locs cl sl Q (F0 m 385 ls []) := by
  have hx := X.hx
  have hb := X.hb
  have hz := hS.1
  have hb2 : s.heap.size ≤ b2 := by
    have := hap.1
    omega
  refine lv_aload_n hx hb dL_law_385 rfl (lv_at hl 2 rfl) ?_
  refine lv_aload_n hx hb dL_law_386 rfl (lv_at hl 1 rfl) ?_
  refine lv_iload hx hb dL_law_387 (lv_at hl 0 rfl) ?_
  refine lv_iconst (v := 1) hx hb dL_law_389 (by decide) ?_
  refine lv_iadd hx hb dL_law_390 ?_
  rw [show nI (6 * n) + (1 : Int32) = nI (6 * n + 1) from nI_k]
  refine va_sld hx hb hXs hbl (Nat.not_le.mpr hbl) hS (sin hn hL (by decide)) dL_law_391 ?_
  obtain ⟨y, S1, M1, e1, e2, rr, e7⟩ := q_truncateInput r (xs (nI (6 * n + 1)).toNatClampNeg)
  refine gCallWI X (gF_ok cOK (fsC hap)) ((gMetIA.of (vX10_truncateInput e1)).lift (fsC hap)) (cwV 1 X.hts (gT_V tw1000 tw1001 tw1002 tw1 tw1003) rfl rfl rfl ⟨rfl, by decide, by decide, by decide +kernel⟩ ⟨Nat.le_of_ble_eq_true rfl, Nat.le_of_ble_eq_true rfl⟩) rfl hP hS (jA2 hb1 hS.1) (cr_rec hP.1 (rfl : kc 0 = 0) rfl cw0 rfl) hl.1 (Nat.le_of_ble_eq_true rfl) ⟨by show cl + 0 ≤ 601024; omega, by show sl + 0 ≤ 7293034; omega⟩ dL_law_392 (As := [.int (xs (nI (6 * n + 1)).toNatClampNeg)]) (rest := []) rfl (fun H locs hP hS => ?_)
  have hP : jP dC dI cg kA b1 b2 o1 o2 cL cD (S1, M, x, d) s H := hP
  refine lv_aload_n hx hb dL_law_395 rfl (lv_at hl 3 rfl) ?_
  refine lv_aload_n hx hb dL_law_396 rfl (lv_at hl 1 rfl) ?_
  refine lv_iload hx hb dL_law_397 (lv_at hl 0 rfl) ?_
  refine lv_iconst (v := 1) hx hb dL_law_399 (by decide) ?_
  refine lv_iadd hx hb dL_law_400 ?_
  rw [show nI (6 * n) + (1 : Int32) = nI (6 * n + 1) from nI_k]
  refine va_sld hx hb hXs hbl (Nat.not_le.mpr hbl) hS (sin hn hL (by decide)) dL_law_401 ?_
  refine gCallWI X (gF_ok mOK (fsM hap)) ((gMetIA.of (vX11_truncateInput e2)).lift (fsM hap)) (cwV 1 X.hts (gT_V tw1753 tw1754 tw1755 tw31 tw1756) rfl rfl rfl ⟨rfl, by decide, by decide, by decide +kernel⟩ ⟨Nat.le_of_ble_eq_true rfl, Nat.le_of_ble_eq_true rfl⟩) rfl (j_fm hP) hS (jA3 hb2 hS.1) (mrec hP.2.1) hl.1 (Nat.le_of_ble_eq_true rfl) ⟨by show cl + 0 + 0 ≤ 601024; omega, by show sl + 0 + 0 ≤ 7293034; omega⟩ dL_law_402 (As := [.int (xs (nI (6 * n + 1)).toNatClampNeg)]) (rest := [.int y]) rfl (fun H locs hP hS => ?_)
  have hP := j_of hP
  refine lv_icmp_eq (tgt := 2684) hx hb dL_law_405 (by decide) (fun _ => ?_) (fun c => absurd rfl c)
  exact K S1 M1 x d _ _ _ _ _ rr hP hS hl (by show cl + 0 + 0 ≤ _; omega) (by show sl + 0 + 0 ≤ _; omega)
theorem lc_2 (X : gX p s m #[.ref b] c cL_law 10 "GranaryWatchLaw" (kR kTab kA)) (hXs : va_X b L xs s s.heap) (hbl : b < s.heap.size) (hb1 : s.heap.size ≤ b1) (hap : APJ b1 b2 o1 o2) (hl0 : l.stackTraces = false) (hnn : NNAN) (hn2 : NN2) (hn : 6 * n + 6 ≤ L) (hL : L ≤ 3072) (r : Rel S M) (hP : jP dC dI cg kA b1 b2 o1 o2 cL cD (S, M, x, d) s H) (hS : va_S (fun q => s.heap.size ≤ q) s.heap H locs) (hl : lv_has ls 10 [(5, .int (nI (6 * n))), (0, .ref b), (1, .ref (caOf b1 0)), (2, .ref (adOf b2 25)), (3, .ref o1), (4, .ref o2)]) (hcl : cl + 403 ≤ 601024) (hsl : sl + 3826 ≤ 7293034) (K : LK p l e s m below meth c Q dC dI cg kA b b1 b2 o1 o2 n cL cD cl sl) : W p l e room_1 s m #[.ref b] below meth c H locs cl sl Q (F0 m 410 ls []) := by
  have hx := X.hx
  have hb := X.hb
  have hz := hS.1
  have hb2 : s.heap.size ≤ b2 := by
    have := hap.1
    omega
  refine lv_aload_n hx hb dL_law_410 rfl (lv_at hl 2 rfl) ?_
  obtain ⟨S1, M1, y, e1, e2, rr, e7⟩ := s_load r
  refine gCallWI X (gF_ok cOK (fsC hap)) ((vX10_loadGranary e1).lift (fsC hap)) (cwV 0 X.hts (gT_V tw1004 tw1005 tw1006 tw1 tw1007) rfl rfl rfl ⟨rfl, by decide, by decide, by decide +kernel⟩ ⟨Nat.le_of_ble_eq_true rfl, Nat.le_of_ble_eq_true rfl⟩) rfl hP hS (jA2 hb1 hS.1) (cr_rec hP.1 (rfl : kc 0 = 0) rfl cw0 rfl) hl.1 (Nat.le_of_ble_eq_true rfl) ⟨by show cl + 402 ≤ 601024; omega, by show sl + 3819 ≤ 7293034; omega⟩ dL_law_411 (As := []) (rest := []) rfl (fun H locs hP hS => ?_)
  have hP : jP dC dI cg kA b1 b2 o1 o2 cL cD (S1, M, x, d) s H := hP
  refine lv_aload_n hx hb dL_law_414 rfl (lv_at hl 3 rfl) ?_
  refine gCallWI X (gF_ok mOK (fsM hap)) ((gMetIA.of (vX11_loadGranary e2)).lift (fsM hap)) (cwV 0 X.hts (gT_V tw1760 tw1761 tw1762 tw31 tw1763) rfl rfl rfl ⟨rfl, by decide, by decide, by decide +kernel⟩ ⟨Nat.le_of_ble_eq_true rfl, Nat.le_of_ble_eq_true rfl⟩) rfl (j_fm hP) hS (jA3 hb2 hS.1) (mrec hP.2.1) hl.1 (Nat.le_of_ble_eq_true rfl) ⟨by show cl + 402 + 0 ≤ 601024; omega, by show sl + 3819 + 0 ≤ 7293034; omega⟩ dL_law_415 (As := []) (rest := [.int y]) rfl (fun H locs hP hS => ?_)
  have hP := j_of hP
  refine lv_icmp_eq (tgt := 2684) hx hb dL_law_418 (by decide) (fun _ => ?_) (fun c => absurd rfl c)
  exact K S1 M1 x d _ _ _ _ _ rr hP hS hl (by show cl + 402 + 0 ≤ _; omega) (by show sl + 3819 + 0 ≤ _; omega)
theorem lc_3 (X : gX p s m #[.ref b] c cL_law 10 "GranaryWatchLaw" (kR kTab kA)) (hXs : va_X b L xs s s.heap) (hbl : b < s.heap.size) (hb1 : s.heap.size ≤ b1) (hap : APJ b1 b2 o1 o2) (hl0 : l.stackTraces = false) (hnn : NNAN) (hn2 : NN2) (hn : 6 * n + 6 ≤ L) (hL : L ≤ 3072) (r : Rel S M) (hP : jP dC dI cg kA b1 b2 o1 o2 cL cD (S, M, x, d) s H) (hS : va_S (fun q => s.heap.size ≤ q) s.heap H locs) (hl : lv_has ls 10 [(5, .int (nI (6 * n))), (0, .ref b), (1, .ref (caOf b1 0)), (2, .ref (adOf b2 25)), (3, .ref o1), (4, .ref o2)]) (hcl : cl + 403 ≤ 601024) (hsl : sl + 3826 ≤ 7293034) (K : LK p l e s m below meth c Q dC dI cg kA b b1 b2 o1 o2 n cL cD cl sl) : W p l e room_1 s m #[.ref b] below meth c H locs cl sl Q (F0 m 423 ls []) := by
  have hx := X.hx
  have hb := X.hb
  have hz := hS.1
  have hb2 : s.heap.size ≤ b2 := by
    have := hap.1
    omega
  refine lv_aload_n hx hb dL_law_423 rfl (lv_at hl 2 rfl) ?_
  obtain ⟨y, S1, M1, e1, e2, rr, e7⟩ := q_runScript r 
  refine gCallWI X (gF_ok cOK (fsC hap)) ((gMetIA.of (vX10_runScript e1)).lift (fsC hap)) (cwV 0 X.hts (gT_V tw1008 tw1009 tw1010 tw1 tw1011) rfl rfl rfl ⟨rfl, by decide, by decide, by decide +kernel⟩ ⟨Nat.le_of_ble_eq_true rfl, Nat.le_of_ble_eq_true rfl⟩) rfl hP hS (jA2 hb1 hS.1) (cr_rec hP.1 (rfl : kc 0 = 0) rfl cw0 rfl) hl.1 (Nat.le_of_ble_eq_true rfl) ⟨by show cl + 0 ≤ 601024; omega, by show sl + 0 ≤ 7293034; omega⟩ dL_law_424 (As := []) (rest := []) rfl (fun H locs hP hS => ?_)
  have hP : jP dC dI cg kA b1 b2 o1 o2 cL cD (S1, M, x, d) s H := hP
  refine lv_aload_n hx hb dL_law_427 rfl (lv_at hl 3 rfl) ?_
  refine gCallWI X (gF_ok mOK (fsM hap)) ((gMetIA.of (vX11_runScript e2)).lift (fsM hap)) (cwV 0 X.hts (gT_V tw1873 tw1874 tw1875 tw31 tw1876) rfl rfl rfl ⟨rfl, by decide, by decide, by decide +kernel⟩ ⟨Nat.le_of_ble_eq_true rfl, Nat.le_of_ble_eq_true rfl⟩) rfl (j_fm hP) hS (jA3 hb2 hS.1) (mrec hP.2.1) hl.1 (Nat.le_of_ble_eq_true rfl) ⟨by show cl + 0 + 0 ≤ 601024; omega, by show sl + 0 + 0 ≤ 7293034; omega⟩ dL_law_428 (As := []) (rest := [.int y]) rfl (fun H locs hP hS => ?_)
  have hP := j_of hP
  refine lv_icmp_eq (tgt := 2684) hx hb dL_law_431 (by decide) (fun _ => ?_) (fun c => absurd rfl c)
  exact K S1 M1 x d _ _ _ _ _ rr hP hS hl (by show cl + 0 + 0 ≤ _; omega) (by show sl + 0 + 0 ≤ _; omega)
theorem lc_4 (X : gX p s m #[.ref b] c cL_law 10 "GranaryWatchLaw" (kR kTab kA)) (hXs : va_X b L xs s s.heap) (hbl : b < s.heap.size) (hb1 : s.heap.size ≤ b1) (hap : APJ b1 b2 o1 o2) (hl0 : l.stackTraces = false) (hnn : NNAN) (hn2 : NN2) (hn : 6 * n + 6 ≤ L) (hL : L ≤ 3072) (r : Rel S M) (hP : jP dC dI cg kA b1 b2 o1 o2 cL cD (S, M, x, d) s H) (hS : va_S (fun q => s.heap.size ≤ q) s.heap H locs) (hl : lv_has ls 10 [(5, .int (nI (6 * n))), (0, .ref b), (1, .ref (caOf b1 0)), (2, .ref (adOf b2 25)), (3, .ref o1), (4, .ref o2)]) (hcl : cl + 403 ≤ 601024) (hsl : sl + 3826 ≤ 7293034) (K : LK p l e s m below meth c Q dC dI cg kA b b1 b2 o1 o2 n cL cD cl sl) : W p l e room_1 s m #[.ref b] below meth c H locs cl sl Q (F0 m 436 ls []) := by
  have hx := X.hx
  have hb := X.hb
  have hz := hS.1
  have hb2 : s.heap.size ≤ b2 := by
    have := hap.1
    omega
  refine lv_aload_n hx hb dL_law_436 rfl (lv_at hl 2 rfl) ?_
  obtain ⟨y, M1, e1, e2, rr, e7⟩ := q_errorCode r 
  refine gCallWI X (gF_ok cOK (fsC hap)) ((gMetR_IA cOK (vX10_errorCode e1)).lift (fsC hap)) (cwV 0 X.hts (gT_V tw1140 tw1141 tw1142 tw1 tw1143) rfl rfl rfl ⟨rfl, by decide, by decide, by decide +kernel⟩ ⟨Nat.le_of_ble_eq_true rfl, Nat.le_of_ble_eq_true rfl⟩) rfl hP hS (jA2 hb1 hS.1) (cr_rec hP.1 (rfl : kc 0 = 0) rfl cw0 rfl) hl.1 (Nat.le_of_ble_eq_true rfl) ⟨by show cl + 0 ≤ 601024; omega, by show sl + 0 ≤ 7293034; omega⟩ dL_law_437 (As := []) (rest := []) rfl (fun H locs hP hS => ?_)
  have hP : jP dC dI cg kA b1 b2 o1 o2 cL cD (S, M, x, d) s H := hP
  refine lv_aload_n hx hb dL_law_440 rfl (lv_at hl 3 rfl) ?_
  refine gCallWI X (gF_ok mOK (fsM hap)) ((gMetIA.of (vX11_errorCode e2)).lift (fsM hap)) (cwV 0 X.hts (gT_V tw2007 tw2008 tw2009 tw31 tw2010) rfl rfl rfl ⟨rfl, by decide, by decide, by decide +kernel⟩ ⟨Nat.le_of_ble_eq_true rfl, Nat.le_of_ble_eq_true rfl⟩) rfl (j_fm hP) hS (jA3 hb2 hS.1) (mrec hP.2.1) hl.1 (Nat.le_of_ble_eq_true rfl) ⟨by show cl + 0 + 0 ≤ 601024; omega, by show sl + 0 + 0 ≤ 7293034; omega⟩ dL_law_441 (As := []) (rest := [.int y]) rfl (fun H locs hP hS => ?_)
  have hP := j_of hP
  refine lv_icmp_eq (tgt := 2684) hx hb dL_law_444 (by decide) (fun _ => ?_) (fun c => absurd rfl c)
  exact K S M1 x d _ _ _ _ _ rr hP hS hl (by show cl + 0 + 0 ≤ _; omega) (by show sl + 0 + 0 ≤ _; omega)
theorem lc_5 (X : gX p s m #[.ref b] c cL_law 10 "GranaryWatchLaw" (kR kTab kA)) (hXs : va_X b L xs s s.heap) (hbl : b < s.heap.size) (hb1 : s.heap.size ≤ b1) (hap : APJ b1 b2 o1 o2) (hl0 : l.stackTraces = false) (hnn : NNAN) (hn2 : NN2) (hn : 6 * n + 6 ≤ L) (hL : L ≤ 3072) (r : Rel S M) (hP : jP dC dI cg kA b1 b2 o1 o2 cL cD (S, M, x, d) s H) (hS : va_S (fun q => s.heap.size ≤ q) s.heap H locs) (hl : lv_has ls 10 [(5, .int (nI (6 * n))), (0, .ref b), (1, .ref (caOf b1 0)), (2, .ref (adOf b2 25)), (3, .ref o1), (4, .ref o2)]) (hcl : cl + 403 ≤ 601024) (hsl : sl + 3826 ≤ 7293034) (K : LK p l e s m below meth c Q dC dI cg kA b b1 b2 o1 o2 n cL cD cl sl) : W p l e room_1 s m #[.ref b] below meth c H locs cl sl Q (F0 m 449 ls []) := by
  have hx := X.hx
  have hb := X.hb
  have hz := hS.1
  have hb2 : s.heap.size ≤ b2 := by
    have := hap.1
    omega
  refine lv_aload_n hx hb dL_law_449 rfl (lv_at hl 2 rfl) ?_
  obtain ⟨y, M1, e1, e2, rr, e7⟩ := q_errorOffset r 
  refine gCallWI X (gF_ok cOK (fsC hap)) ((gMetR_IA cOK (vX10_errorOffset e1)).lift (fsC hap)) (cwV 0 X.hts (gT_V tw1144 tw1145 tw1146 tw1 tw1147) rfl rfl rfl ⟨rfl, by decide, by decide, by decide +kernel⟩ ⟨Nat.le_of_ble_eq_true rfl, Nat.le_of_ble_eq_true rfl⟩) rfl hP hS (jA2 hb1 hS.1) (cr_rec hP.1 (rfl : kc 0 = 0) rfl cw0 rfl) hl.1 (Nat.le_of_ble_eq_true rfl) ⟨by show cl + 0 ≤ 601024; omega, by show sl + 0 ≤ 7293034; omega⟩ dL_law_450 (As := []) (rest := []) rfl (fun H locs hP hS => ?_)
  have hP : jP dC dI cg kA b1 b2 o1 o2 cL cD (S, M, x, d) s H := hP
  refine lv_aload_n hx hb dL_law_453 rfl (lv_at hl 3 rfl) ?_
  refine gCallWI X (gF_ok mOK (fsM hap)) ((gMetIA.of (vX11_errorOffset e2)).lift (fsM hap)) (cwV 0 X.hts (gT_V tw2011 tw2012 tw2013 tw31 tw2014) rfl rfl rfl ⟨rfl, by decide, by decide, by decide +kernel⟩ ⟨Nat.le_of_ble_eq_true rfl, Nat.le_of_ble_eq_true rfl⟩) rfl (j_fm hP) hS (jA3 hb2 hS.1) (mrec hP.2.1) hl.1 (Nat.le_of_ble_eq_true rfl) ⟨by show cl + 0 + 0 ≤ 601024; omega, by show sl + 0 + 0 ≤ 7293034; omega⟩ dL_law_454 (As := []) (rest := [.int y]) rfl (fun H locs hP hS => ?_)
  have hP := j_of hP
  refine lv_icmp_eq (tgt := 2684) hx hb dL_law_457 (by decide) (fun _ => ?_) (fun c => absurd rfl c)
  exact K S M1 x d _ _ _ _ _ rr hP hS hl (by show cl + 0 + 0 ≤ _; omega) (by show sl + 0 + 0 ≤ _; omega)
theorem lc_6 (X : gX p s m #[.ref b] c cL_law 10 "GranaryWatchLaw" (kR kTab kA)) (hXs : va_X b L xs s s.heap) (hbl : b < s.heap.size) (hb1 : s.heap.size ≤ b1) (hap : APJ b1 b2 o1 o2) (hl0 : l.stackTraces = false) (hnn : NNAN) (hn2 : NN2) (hn : 6 * n + 6 ≤ L) (hL : L ≤ 3072) (r : Rel S M) (hP : jP dC dI cg kA b1 b2 o1 o2 cL cD (S, M, x, d) s H) (hS : va_S (fun q => s.heap.size ≤ q) s.heap H locs) (hl : lv_has ls 10 [(5, .int (nI (6 * n))), (0, .ref b), (1, .ref (caOf b1 0)), (2, .ref (adOf b2 25)), (3, .ref o1), (4, .ref o2)]) (hcl : cl + 403 ≤ 601024) (hsl : sl + 3826 ≤ 7293034) (K : LK p l e s m below meth c Q dC dI cg kA b b1 b2 o1 o2 n cL cD cl sl) : W p l e room_1 s m #[.ref b] below meth c H locs cl sl Q (F0 m 462 ls []) := by
  have hx := X.hx
  have hb := X.hb
  have hz := hS.1
  have hb2 : s.heap.size ≤ b2 := by
    have := hap.1
    omega
  refine lv_aload_n hx hb dL_law_462 rfl (lv_at hl 2 rfl) ?_
  obtain ⟨y, M1, e1, e2, rr, e7⟩ := q_clock r 
  refine gCallWI X (gF_ok cOK (fsC hap)) ((gMetR_IA cOK (vX10_clock e1)).lift (fsC hap)) (cwV 0 X.hts (gT_V tw1148 tw1149 tw1150 tw1 tw1151) rfl rfl rfl ⟨rfl, by decide, by decide, by decide +kernel⟩ ⟨Nat.le_of_ble_eq_true rfl, Nat.le_of_ble_eq_true rfl⟩) rfl hP hS (jA2 hb1 hS.1) (cr_rec hP.1 (rfl : kc 0 = 0) rfl cw0 rfl) hl.1 (Nat.le_of_ble_eq_true rfl) ⟨by show cl + 0 ≤ 601024; omega, by show sl + 0 ≤ 7293034; omega⟩ dL_law_463 (As := []) (rest := []) rfl (fun H locs hP hS => ?_)
  have hP : jP dC dI cg kA b1 b2 o1 o2 cL cD (S, M, x, d) s H := hP
  refine lv_aload_n hx hb dL_law_466 rfl (lv_at hl 3 rfl) ?_
  refine gCallWI X (gF_ok mOK (fsM hap)) ((gMetIA.of (vX11_clock e2)).lift (fsM hap)) (cwV 0 X.hts (gT_V tw2015 tw2016 tw2017 tw31 tw2018) rfl rfl rfl ⟨rfl, by decide, by decide, by decide +kernel⟩ ⟨Nat.le_of_ble_eq_true rfl, Nat.le_of_ble_eq_true rfl⟩) rfl (j_fm hP) hS (jA3 hb2 hS.1) (mrec hP.2.1) hl.1 (Nat.le_of_ble_eq_true rfl) ⟨by show cl + 0 + 0 ≤ 601024; omega, by show sl + 0 + 0 ≤ 7293034; omega⟩ dL_law_467 (As := []) (rest := [.int y]) rfl (fun H locs hP hS => ?_)
  have hP := j_of hP
  refine lv_icmp_eq (tgt := 2684) hx hb dL_law_470 (by decide) (fun _ => ?_) (fun c => absurd rfl c)
  exact K S M1 x d _ _ _ _ _ rr hP hS hl (by show cl + 0 + 0 ≤ _; omega) (by show sl + 0 + 0 ≤ _; omega)
theorem lc_7 (X : gX p s m #[.ref b] c cL_law 10 "GranaryWatchLaw" (kR kTab kA)) (hXs : va_X b L xs s s.heap) (hbl : b < s.heap.size) (hb1 : s.heap.size ≤ b1) (hap : APJ b1 b2 o1 o2) (hl0 : l.stackTraces = false) (hnn : NNAN) (hn2 : NN2) (hn : 6 * n + 6 ≤ L) (hL : L ≤ 3072) (r : Rel S M) (hP : jP dC dI cg kA b1 b2 o1 o2 cL cD (S, M, x, d) s H) (hS : va_S (fun q => s.heap.size ≤ q) s.heap H locs) (hl : lv_has ls 10 [(5, .int (nI (6 * n))), (0, .ref b), (1, .ref (caOf b1 0)), (2, .ref (adOf b2 25)), (3, .ref o1), (4, .ref o2)]) (hcl : cl + 403 ≤ 601024) (hsl : sl + 3826 ≤ 7293034) (K : LK p l e s m below meth c Q dC dI cg kA b b1 b2 o1 o2 n cL cD cl sl) : W p l e room_1 s m #[.ref b] below meth c H locs cl sl Q (F0 m 475 ls []) := by
  have hx := X.hx
  have hb := X.hb
  have hz := hS.1
  have hb2 : s.heap.size ≤ b2 := by
    have := hap.1
    omega
  refine lv_aload_n hx hb dL_law_475 rfl (lv_at hl 2 rfl) ?_
  obtain ⟨y, M1, e1, e2, rr, e7⟩ := q_hourOfDay r 
  refine gCallWI X (gF_ok cOK (fsC hap)) ((gMetR_IA cOK (vX10_hourOfDay e1)).lift (fsC hap)) (cwV 0 X.hts (gT_V tw1152 tw1153 tw1154 tw1 tw1155) rfl rfl rfl ⟨rfl, by decide, by decide, by decide +kernel⟩ ⟨Nat.le_of_ble_eq_true rfl, Nat.le_of_ble_eq_true rfl⟩) rfl hP hS (jA2 hb1 hS.1) (cr_rec hP.1 (rfl : kc 0 = 0) rfl cw0 rfl) hl.1 (Nat.le_of_ble_eq_true rfl) ⟨by show cl + 0 ≤ 601024; omega, by show sl + 0 ≤ 7293034; omega⟩ dL_law_476 (As := []) (rest := []) rfl (fun H locs hP hS => ?_)
  have hP : jP dC dI cg kA b1 b2 o1 o2 cL cD (S, M, x, d) s H := hP
  refine lv_aload_n hx hb dL_law_479 rfl (lv_at hl 3 rfl) ?_
  refine gCallWI X (gF_ok mOK (fsM hap)) ((gMetIA.of (vX11_hourOfDay e2)).lift (fsM hap)) (cwV 0 X.hts (gT_V tw2127 tw2128 tw2129 tw31 tw2130) rfl rfl rfl ⟨rfl, by decide, by decide, by decide +kernel⟩ ⟨Nat.le_of_ble_eq_true rfl, Nat.le_of_ble_eq_true rfl⟩) rfl (j_fm hP) hS (jA3 hb2 hS.1) (mrec hP.2.1) hl.1 (Nat.le_of_ble_eq_true rfl) ⟨by show cl + 0 + 0 ≤ 601024; omega, by show sl + 0 + 0 ≤ 7293034; omega⟩ dL_law_480 (As := []) (rest := [.int y]) rfl (fun H locs hP hS => ?_)
  have hP := j_of hP
  refine lv_icmp_eq (tgt := 2684) hx hb dL_law_483 (by decide) (fun _ => ?_) (fun c => absurd rfl c)
  exact K S M1 x d _ _ _ _ _ rr hP hS hl (by show cl + 0 + 0 ≤ _; omega) (by show sl + 0 + 0 ≤ _; omega)
theorem lc_8 (X : gX p s m #[.ref b] c cL_law 10 "GranaryWatchLaw" (kR kTab kA)) (hXs : va_X b L xs s s.heap) (hbl : b < s.heap.size) (hb1 : s.heap.size ≤ b1) (hap : APJ b1 b2 o1 o2) (hl0 : l.stackTraces = false) (hnn : NNAN) (hn2 : NN2) (hn : 6 * n + 6 ≤ L) (hL : L ≤ 3072) (r : Rel S M) (hP : jP dC dI cg kA b1 b2 o1 o2 cL cD (S, M, x, d) s H) (hS : va_S (fun q => s.heap.size ≤ q) s.heap H locs) (hl : lv_has ls 10 [(5, .int (nI (6 * n))), (0, .ref b), (1, .ref (caOf b1 0)), (2, .ref (adOf b2 25)), (3, .ref o1), (4, .ref o2)]) (hcl : cl + 403 ≤ 601024) (hsl : sl + 3826 ≤ 7293034) (K : LK p l e s m below meth c Q dC dI cg kA b b1 b2 o1 o2 n cL cD cl sl) : W p l e room_1 s m #[.ref b] below meth c H locs cl sl Q (F0 m 488 ls []) := by
  have hx := X.hx
  have hb := X.hb
  have hz := hS.1
  have hb2 : s.heap.size ≤ b2 := by
    have := hap.1
    omega
  refine lv_aload_n hx hb dL_law_488 rfl (lv_at hl 2 rfl) ?_
  obtain ⟨y, M1, e1, e2, rr, e7⟩ := q_catCount r 
  refine gCallWI X (gF_ok cOK (fsC hap)) ((gMetR_IA cOK (vX10_catCount e1)).lift (fsC hap)) (cwV 0 X.hts (gT_V tw1156 tw1157 tw1158 tw1 tw1159) rfl rfl rfl ⟨rfl, by decide, by decide, by decide +kernel⟩ ⟨Nat.le_of_ble_eq_true rfl, Nat.le_of_ble_eq_true rfl⟩) rfl hP hS (jA2 hb1 hS.1) (cr_rec hP.1 (rfl : kc 0 = 0) rfl cw0 rfl) hl.1 (Nat.le_of_ble_eq_true rfl) ⟨by show cl + 0 ≤ 601024; omega, by show sl + 0 ≤ 7293034; omega⟩ dL_law_489 (As := []) (rest := []) rfl (fun H locs hP hS => ?_)
  have hP : jP dC dI cg kA b1 b2 o1 o2 cL cD (S, M, x, d) s H := hP
  refine lv_aload_n hx hb dL_law_492 rfl (lv_at hl 3 rfl) ?_
  refine gCallWI X (gF_ok mOK (fsM hap)) ((gMetIA.of (vX11_catCount e2)).lift (fsM hap)) (cwV 0 X.hts (gT_V tw2019 tw2020 tw2021 tw31 tw2022) rfl rfl rfl ⟨rfl, by decide, by decide, by decide +kernel⟩ ⟨Nat.le_of_ble_eq_true rfl, Nat.le_of_ble_eq_true rfl⟩) rfl (j_fm hP) hS (jA3 hb2 hS.1) (mrec hP.2.1) hl.1 (Nat.le_of_ble_eq_true rfl) ⟨by show cl + 0 + 0 ≤ 601024; omega, by show sl + 0 + 0 ≤ 7293034; omega⟩ dL_law_493 (As := []) (rest := [.int y]) rfl (fun H locs hP hS => ?_)
  have hP := j_of hP
  refine lv_icmp_eq (tgt := 2684) hx hb dL_law_496 (by decide) (fun _ => ?_) (fun c => absurd rfl c)
  exact K S M1 x d _ _ _ _ _ rr hP hS hl (by show cl + 0 + 0 ≤ _; omega) (by show sl + 0 + 0 ≤ _; omega)
theorem lc_9 (X : gX p s m #[.ref b] c cL_law 10 "GranaryWatchLaw" (kR kTab kA)) (hXs : va_X b L xs s s.heap) (hbl : b < s.heap.size) (hb1 : s.heap.size ≤ b1) (hap : APJ b1 b2 o1 o2) (hl0 : l.stackTraces = false) (hnn : NNAN) (hn2 : NN2) (hn : 6 * n + 6 ≤ L) (hL : L ≤ 3072) (r : Rel S M) (hP : jP dC dI cg kA b1 b2 o1 o2 cL cD (S, M, x, d) s H) (hS : va_S (fun q => s.heap.size ≤ q) s.heap H locs) (hl : lv_has ls 10 [(5, .int (nI (6 * n))), (0, .ref b), (1, .ref (caOf b1 0)), (2, .ref (adOf b2 25)), (3, .ref o1), (4, .ref o2)]) (hcl : cl + 403 ≤ 601024) (hsl : sl + 3826 ≤ 7293034) (K : LK p l e s m below meth c Q dC dI cg kA b b1 b2 o1 o2 n cL cD cl sl) : W p l e room_1 s m #[.ref b] below meth c H locs cl sl Q (F0 m 501 ls []) := by
  have hx := X.hx
  have hb := X.hb
  have hz := hS.1
  have hb2 : s.heap.size ≤ b2 := by
    have := hap.1
    omega
  refine lv_aload_n hx hb dL_law_501 rfl (lv_at hl 2 rfl) ?_
  obtain ⟨y, M1, e1, e2, rr, e7⟩ := q_sackCount r 
  refine gCallWI X (gF_ok cOK (fsC hap)) ((gMetR_IA cOK (vX10_sackCount e1)).lift (fsC hap)) (cwV 0 X.hts (gT_V tw1160 tw1161 tw1162 tw1 tw1163) rfl rfl rfl ⟨rfl, by decide, by decide, by decide +kernel⟩ ⟨Nat.le_of_ble_eq_true rfl, Nat.le_of_ble_eq_true rfl⟩) rfl hP hS (jA2 hb1 hS.1) (cr_rec hP.1 (rfl : kc 0 = 0) rfl cw0 rfl) hl.1 (Nat.le_of_ble_eq_true rfl) ⟨by show cl + 0 ≤ 601024; omega, by show sl + 0 ≤ 7293034; omega⟩ dL_law_502 (As := []) (rest := []) rfl (fun H locs hP hS => ?_)
  have hP : jP dC dI cg kA b1 b2 o1 o2 cL cD (S, M, x, d) s H := hP
  refine lv_aload_n hx hb dL_law_505 rfl (lv_at hl 3 rfl) ?_
  refine gCallWI X (gF_ok mOK (fsM hap)) ((gMetIA.of (vX11_sackCount e2)).lift (fsM hap)) (cwV 0 X.hts (gT_V tw2023 tw2024 tw2025 tw31 tw2026) rfl rfl rfl ⟨rfl, by decide, by decide, by decide +kernel⟩ ⟨Nat.le_of_ble_eq_true rfl, Nat.le_of_ble_eq_true rfl⟩) rfl (j_fm hP) hS (jA3 hb2 hS.1) (mrec hP.2.1) hl.1 (Nat.le_of_ble_eq_true rfl) ⟨by show cl + 0 + 0 ≤ 601024; omega, by show sl + 0 + 0 ≤ 7293034; omega⟩ dL_law_506 (As := []) (rest := [.int y]) rfl (fun H locs hP hS => ?_)
  have hP := j_of hP
  refine lv_icmp_eq (tgt := 2684) hx hb dL_law_509 (by decide) (fun _ => ?_) (fun c => absurd rfl c)
  exact K S M1 x d _ _ _ _ _ rr hP hS hl (by show cl + 0 + 0 ≤ _; omega) (by show sl + 0 + 0 ≤ _; omega)
theorem lc_10 (X : gX p s m #[.ref b] c cL_law 10 "GranaryWatchLaw" (kR kTab kA)) (hXs : va_X b L xs s s.heap) (hbl : b < s.heap.size) (hb1 : s.heap.size ≤ b1) (hap : APJ b1 b2 o1 o2) (hl0 : l.stackTraces = false) (hnn : NNAN) (hn2 : NN2) (hn : 6 * n + 6 ≤ L) (hL : L ≤ 3072) (r : Rel S M) (hP : jP dC dI cg kA b1 b2 o1 o2 cL cD (S, M, x, d) s H) (hS : va_S (fun q => s.heap.size ≤ q) s.heap H locs) (hl : lv_has ls 10 [(5, .int (nI (6 * n))), (0, .ref b), (1, .ref (caOf b1 0)), (2, .ref (adOf b2 25)), (3, .ref o1), (4, .ref o2)]) (hcl : cl + 403 ≤ 601024) (hsl : sl + 3826 ≤ 7293034) (K : LK p l e s m below meth c Q dC dI cg kA b b1 b2 o1 o2 n cL cD cl sl) : W p l e room_1 s m #[.ref b] below meth c H locs cl sl Q (F0 m 514 ls []) := by
  have hx := X.hx
  have hb := X.hb
  have hz := hS.1
  have hb2 : s.heap.size ≤ b2 := by
    have := hap.1
    omega
  refine lv_aload_n hx hb dL_law_514 rfl (lv_at hl 2 rfl) ?_
  obtain ⟨y, M1, e1, e2, rr, e7⟩ := q_shiftCount r 
  refine gCallWI X (gF_ok cOK (fsC hap)) ((gMetR_IA cOK (vX10_shiftCount e1)).lift (fsC hap)) (cwV 0 X.hts (gT_V tw1164 tw1165 tw1166 tw1 tw1167) rfl rfl rfl ⟨rfl, by decide, by decide, by decide +kernel⟩ ⟨Nat.le_of_ble_eq_true rfl, Nat.le_of_ble_eq_true rfl⟩) rfl hP hS (jA2 hb1 hS.1) (cr_rec hP.1 (rfl : kc 0 = 0) rfl cw0 rfl) hl.1 (Nat.le_of_ble_eq_true rfl) ⟨by show cl + 0 ≤ 601024; omega, by show sl + 0 ≤ 7293034; omega⟩ dL_law_515 (As := []) (rest := []) rfl (fun H locs hP hS => ?_)
  have hP : jP dC dI cg kA b1 b2 o1 o2 cL cD (S, M, x, d) s H := hP
  refine lv_aload_n hx hb dL_law_518 rfl (lv_at hl 3 rfl) ?_
  refine gCallWI X (gF_ok mOK (fsM hap)) ((gMetIA.of (vX11_shiftCount e2)).lift (fsM hap)) (cwV 0 X.hts (gT_V tw2027 tw2028 tw2029 tw31 tw2030) rfl rfl rfl ⟨rfl, by decide, by decide, by decide +kernel⟩ ⟨Nat.le_of_ble_eq_true rfl, Nat.le_of_ble_eq_true rfl⟩) rfl (j_fm hP) hS (jA3 hb2 hS.1) (mrec hP.2.1) hl.1 (Nat.le_of_ble_eq_true rfl) ⟨by show cl + 0 + 0 ≤ 601024; omega, by show sl + 0 + 0 ≤ 7293034; omega⟩ dL_law_519 (As := []) (rest := [.int y]) rfl (fun H locs hP hS => ?_)
  have hP := j_of hP
  refine lv_icmp_eq (tgt := 2684) hx hb dL_law_522 (by decide) (fun _ => ?_) (fun c => absurd rfl c)
  exact K S M1 x d _ _ _ _ _ rr hP hS hl (by show cl + 0 + 0 ≤ _; omega) (by show sl + 0 + 0 ≤ _; omega)
theorem lc_11 (X : gX p s m #[.ref b] c cL_law 10 "GranaryWatchLaw" (kR kTab kA)) (hXs : va_X b L xs s s.heap) (hbl : b < s.heap.size) (hb1 : s.heap.size ≤ b1) (hap : APJ b1 b2 o1 o2) (hl0 : l.stackTraces = false) (hnn : NNAN) (hn2 : NN2) (hn : 6 * n + 6 ≤ L) (hL : L ≤ 3072) (r : Rel S M) (hP : jP dC dI cg kA b1 b2 o1 o2 cL cD (S, M, x, d) s H) (hS : va_S (fun q => s.heap.size ≤ q) s.heap H locs) (hl : lv_has ls 10 [(5, .int (nI (6 * n))), (0, .ref b), (1, .ref (caOf b1 0)), (2, .ref (adOf b2 25)), (3, .ref o1), (4, .ref o2)]) (hcl : cl + 403 ≤ 601024) (hsl : sl + 3826 ≤ 7293034) (K : LK p l e s m below meth c Q dC dI cg kA b b1 b2 o1 o2 n cL cD cl sl) : W p l e room_1 s m #[.ref b] below meth c H locs cl sl Q (F0 m 527 ls []) := by
  have hx := X.hx
  have hb := X.hb
  have hz := hS.1
  have hb2 : s.heap.size ≤ b2 := by
    have := hap.1
    omega
  refine lv_aload_n hx hb dL_law_527 rfl (lv_at hl 2 rfl) ?_
  refine lv_aload_n hx hb dL_law_528 rfl (lv_at hl 1 rfl) ?_
  refine lv_iload hx hb dL_law_529 (lv_at hl 0 rfl) ?_
  refine lv_iconst (v := 1) hx hb dL_law_531 (by decide) ?_
  refine lv_iadd hx hb dL_law_532 ?_
  rw [show nI (6 * n) + (1 : Int32) = nI (6 * n + 1) from nI_k]
  refine va_sld hx hb hXs hbl (Nat.not_le.mpr hbl) hS (sin hn hL (by decide)) dL_law_533 ?_
  refine lv_aload_n hx hb dL_law_534 rfl (lv_at hl 1 rfl) ?_
  refine lv_iload hx hb dL_law_535 (lv_at hl 0 rfl) ?_
  refine lv_iconst (v := 2) hx hb dL_law_537 (by decide) ?_
  refine lv_iadd hx hb dL_law_538 ?_
  rw [show nI (6 * n) + (2 : Int32) = nI (6 * n + 2) from nI_k]
  refine va_sld hx hb hXs hbl (Nat.not_le.mpr hbl) hS (sin hn hL (by decide)) dL_law_539 ?_
  refine lv_aload_n hx hb dL_law_540 rfl (lv_at hl 4 rfl) ?_
  obtain ⟨y, S1, M1, x1, e2, rr, ek, hM⟩ := xw_catNameByte (dC := dC) (dI := dI) (cg := cg) (kA := kA) (cL := cL) (cD := cD) (x := x) (d := d) hl0 hap r (xs (nI (6 * n + 1)).toNatClampNeg) (xs (nI (6 * n + 2)).toNatClampNeg)
  refine gCallX X jOK hM (vx_cwSW 4 X.hts (gT_X tw1296 tw1297 tw0 tw1298) rfl rfl rfl ⟨by decide, by decide, by decide +kernel⟩ ⟨Nat.le_of_ble_eq_true rfl, Nat.le_of_ble_eq_true rfl⟩) rfl hP hS (jA4 hap hb1 hS.1) hl.1 (Nat.le_of_ble_eq_true rfl) ⟨by show cl + 1 ≤ 601024; omega, by show sl + 6 ≤ 7293034; omega⟩ dL_law_541 (As := [.ref (caOf b1 0), .int (xs (nI (6 * n + 1)).toNatClampNeg), .int (xs (nI (6 * n + 2)).toNatClampNeg), .ref o1]) (rest := []) rfl (fun H locs hP hS => ?_)
  refine lv_istore (lv' := [(6, .int (M1.1 7)), (5, .int (nI (6 * n))), (0, .ref b), (1, .ref (caOf b1 0)), (2, .ref (adOf b2 25)), (3, .ref o1), (4, .ref o2)]) hx hb dL_law_544 hl (by decide) rfl (fun ls hl => ?_)
  refine lv_aload_n hx hb dL_law_546 rfl (lv_at hl 4 rfl) ?_
  refine lv_aload_n hx hb dL_law_547 rfl (lv_at hl 2 rfl) ?_
  refine lv_iload hx hb dL_law_548 (lv_at hl 1 rfl) ?_
  refine lv_iconst (v := 1) hx hb dL_law_550 (by decide) ?_
  refine lv_iadd hx hb dL_law_551 ?_
  rw [show nI (6 * n) + (1 : Int32) = nI (6 * n + 1) from nI_k]
  refine va_sld hx hb hXs hbl (Nat.not_le.mpr hbl) hS (sin hn hL (by decide)) dL_law_552 ?_
  refine lv_aload_n hx hb dL_law_553 rfl (lv_at hl 2 rfl) ?_
  refine lv_iload hx hb dL_law_554 (lv_at hl 1 rfl) ?_
  refine lv_iconst (v := 2) hx hb dL_law_556 (by decide) ?_
  refine lv_iadd hx hb dL_law_557 ?_
  rw [show nI (6 * n) + (2 : Int32) = nI (6 * n + 2) from nI_k]
  refine va_sld hx hb hXs hbl (Nat.not_le.mpr hbl) hS (sin hn hL (by decide)) dL_law_558 ?_
  refine gCallWI X (gF_ok mOK (fsM hap)) ((gMetIA.of (vX11_catNameByte e2)).lift (fsM hap)) (cwV 2 X.hts (gT_V tw2131 tw2132 tw2133 tw31 tw2134) rfl rfl rfl ⟨rfl, by decide, by decide, by decide +kernel⟩ ⟨Nat.le_of_ble_eq_true rfl, Nat.le_of_ble_eq_true rfl⟩) rfl (j_fm hP) hS (jA3 hb2 hS.1) (mrec hP.2.1) hl.1 (Nat.le_of_ble_eq_true rfl) ⟨by show cl + 1 + 0 ≤ 601024; omega, by show sl + 6 + 0 ≤ 7293034; omega⟩ dL_law_559 (As := [.int (xs (nI (6 * n + 1)).toNatClampNeg), .int (xs (nI (6 * n + 2)).toNatClampNeg)]) (rest := []) rfl (fun H locs hP hS => ?_)
  have hP := j_of hP
  refine lv_istore (lv' := [(7, .int y), (6, .int (M1.1 7)), (5, .int (nI (6 * n))), (0, .ref b), (1, .ref (caOf b1 0)), (2, .ref (adOf b2 25)), (3, .ref o1), (4, .ref o2)]) hx hb dL_law_562 hl (by decide) rfl (fun ls hl => ?_)
  refine lv_aload_n hx hb dL_law_564 rfl (lv_at hl 5 rfl) ?_
  refine gCallWI X (gF_ok mOK (fsM hap)) ((gMetR_IA mOK (vX11_thrown (M := M1) (r := M1.1 7) rfl)).lift (fsM hap)) (cwV 0 X.hts (gT_V tw1741 tw1742 tw1743 tw31 tw1744) rfl rfl rfl ⟨rfl, by decide, by decide, by decide +kernel⟩ ⟨Nat.le_of_ble_eq_true rfl, Nat.le_of_ble_eq_true rfl⟩) rfl (j_fm hP) hS (jA3 hb2 hS.1) (mrec hP.2.1) hl.1 (Nat.le_of_ble_eq_true rfl) ⟨by show cl + 1 + 0 + 0 ≤ 601024; omega, by show sl + 6 + 0 + 0 ≤ 7293034; omega⟩ dL_law_565 (As := []) (rest := []) rfl (fun H locs hP hS => ?_)
  have hP := j_of hP
  refine lv_iload hx hb dL_law_568 (lv_at hl 1 rfl) ?_
  refine lv_icmp_eq (tgt := 575) hx hb dL_law_570 (by decide) (fun _ => ?_) (fun c => absurd rfl c)
  refine lv_iload hx hb dL_law_575 (lv_at hl 1 rfl) ?_
  refine lv_if_ne (tgt := 592) hx hb dL_law_577 (by decide) (fun _ => ?_) (fun hk => ?_)
  · refine lv_goto (tgt := 2684) hx hb dL_law_592 (by decide) ?_
    exact K S1 M1 x1 d _ _ _ _ _ rr hP hS (lv_sub hl [2, 3, 4, 5, 6, 7] rfl) (by show cl + 1 + 0 + 0 ≤ _; omega) (by show sl + 6 + 0 + 0 ≤ _; omega)
  have hk : M1.1 7 = 0 := hk
  refine lv_aload_n hx hb dL_law_580 rfl (lv_at hl 6 rfl) ?_
  refine lv_iconst (v := 0) hx hb dL_law_581 (by decide) ?_
  refine j_lald (S := S1) (M := M1) (x := x1) (d := d) X hP dL_law_582 ?_
  refine lv_iload hx hb dL_law_583 (lv_at hl 0 rfl) ?_
  refine lv_i2l hx hb dL_law_585 rfl ?_
  refine W.lcmp hx hb dL_law_586 ?_
  rw [ek hk, lg_cmp_s]
  refine lv_if_eq (tgt := 592) hx hb dL_law_587 (by decide) (fun _ => ?_) (fun c => absurd rfl c)
  refine lv_goto (tgt := 2684) hx hb dL_law_592 (by decide) ?_
  exact K S1 M1 x1 d _ _ _ _ _ rr hP hS (lv_sub hl [2, 3, 4, 5, 6, 7] rfl) (by show cl + 1 + 0 + 0 ≤ _; omega) (by show sl + 6 + 0 + 0 ≤ _; omega)
theorem lc_12 (X : gX p s m #[.ref b] c cL_law 10 "GranaryWatchLaw" (kR kTab kA)) (hXs : va_X b L xs s s.heap) (hbl : b < s.heap.size) (hb1 : s.heap.size ≤ b1) (hap : APJ b1 b2 o1 o2) (hl0 : l.stackTraces = false) (hnn : NNAN) (hn2 : NN2) (hn : 6 * n + 6 ≤ L) (hL : L ≤ 3072) (r : Rel S M) (hP : jP dC dI cg kA b1 b2 o1 o2 cL cD (S, M, x, d) s H) (hS : va_S (fun q => s.heap.size ≤ q) s.heap H locs) (hl : lv_has ls 10 [(5, .int (nI (6 * n))), (0, .ref b), (1, .ref (caOf b1 0)), (2, .ref (adOf b2 25)), (3, .ref o1), (4, .ref o2)]) (hcl : cl + 403 ≤ 601024) (hsl : sl + 3826 ≤ 7293034) (K : LK p l e s m below meth c Q dC dI cg kA b b1 b2 o1 o2 n cL cD cl sl) : W p l e room_1 s m #[.ref b] below meth c H locs cl sl Q (F0 m 595 ls []) := by
  have hx := X.hx
  have hb := X.hb
  have hz := hS.1
  have hb2 : s.heap.size ≤ b2 := by
    have := hap.1
    omega
  refine lv_aload_n hx hb dL_law_595 rfl (lv_at hl 2 rfl) ?_
  refine lv_aload_n hx hb dL_law_596 rfl (lv_at hl 1 rfl) ?_
  refine lv_iload hx hb dL_law_597 (lv_at hl 0 rfl) ?_
  refine lv_iconst (v := 1) hx hb dL_law_599 (by decide) ?_
  refine lv_iadd hx hb dL_law_600 ?_
  rw [show nI (6 * n) + (1 : Int32) = nI (6 * n + 1) from nI_k]
  refine va_sld hx hb hXs hbl (Nat.not_le.mpr hbl) hS (sin hn hL (by decide)) dL_law_601 ?_
  refine lv_aload_n hx hb dL_law_602 rfl (lv_at hl 1 rfl) ?_
  refine lv_iload hx hb dL_law_603 (lv_at hl 0 rfl) ?_
  refine lv_iconst (v := 2) hx hb dL_law_605 (by decide) ?_
  refine lv_iadd hx hb dL_law_606 ?_
  rw [show nI (6 * n) + (2 : Int32) = nI (6 * n + 2) from nI_k]
  refine va_sld hx hb hXs hbl (Nat.not_le.mpr hbl) hS (sin hn hL (by decide)) dL_law_607 ?_
  refine lv_aload_n hx hb dL_law_608 rfl (lv_at hl 4 rfl) ?_
  obtain ⟨y, S1, M1, x1, e2, rr, ek, hM⟩ := xw_sackNameByte (dC := dC) (dI := dI) (cg := cg) (kA := kA) (cL := cL) (cD := cD) (x := x) (d := d) hl0 hap r (xs (nI (6 * n + 1)).toNatClampNeg) (xs (nI (6 * n + 2)).toNatClampNeg)
  refine gCallX X jOK hM (vx_cwSW 4 X.hts (gT_X tw1326 tw1327 tw0 tw1328) rfl rfl rfl ⟨by decide, by decide, by decide +kernel⟩ ⟨Nat.le_of_ble_eq_true rfl, Nat.le_of_ble_eq_true rfl⟩) rfl hP hS (jA4 hap hb1 hS.1) hl.1 (Nat.le_of_ble_eq_true rfl) ⟨by show cl + 1 ≤ 601024; omega, by show sl + 6 ≤ 7293034; omega⟩ dL_law_609 (As := [.ref (caOf b1 0), .int (xs (nI (6 * n + 1)).toNatClampNeg), .int (xs (nI (6 * n + 2)).toNatClampNeg), .ref o1]) (rest := []) rfl (fun H locs hP hS => ?_)
  refine lv_istore (lv' := [(6, .int (M1.1 7)), (5, .int (nI (6 * n))), (0, .ref b), (1, .ref (caOf b1 0)), (2, .ref (adOf b2 25)), (3, .ref o1), (4, .ref o2)]) hx hb dL_law_612 hl (by decide) rfl (fun ls hl => ?_)
  refine lv_aload_n hx hb dL_law_614 rfl (lv_at hl 4 rfl) ?_
  refine lv_aload_n hx hb dL_law_615 rfl (lv_at hl 2 rfl) ?_
  refine lv_iload hx hb dL_law_616 (lv_at hl 1 rfl) ?_
  refine lv_iconst (v := 1) hx hb dL_law_618 (by decide) ?_
  refine lv_iadd hx hb dL_law_619 ?_
  rw [show nI (6 * n) + (1 : Int32) = nI (6 * n + 1) from nI_k]
  refine va_sld hx hb hXs hbl (Nat.not_le.mpr hbl) hS (sin hn hL (by decide)) dL_law_620 ?_
  refine lv_aload_n hx hb dL_law_621 rfl (lv_at hl 2 rfl) ?_
  refine lv_iload hx hb dL_law_622 (lv_at hl 1 rfl) ?_
  refine lv_iconst (v := 2) hx hb dL_law_624 (by decide) ?_
  refine lv_iadd hx hb dL_law_625 ?_
  rw [show nI (6 * n) + (2 : Int32) = nI (6 * n + 2) from nI_k]
  refine va_sld hx hb hXs hbl (Nat.not_le.mpr hbl) hS (sin hn hL (by decide)) dL_law_626 ?_
  refine gCallWI X (gF_ok mOK (fsM hap)) ((gMetIA.of (vX11_sackNameByte e2)).lift (fsM hap)) (cwV 2 X.hts (gT_V tw2135 tw2136 tw2137 tw31 tw2138) rfl rfl rfl ⟨rfl, by decide, by decide, by decide +kernel⟩ ⟨Nat.le_of_ble_eq_true rfl, Nat.le_of_ble_eq_true rfl⟩) rfl (j_fm hP) hS (jA3 hb2 hS.1) (mrec hP.2.1) hl.1 (Nat.le_of_ble_eq_true rfl) ⟨by show cl + 1 + 0 ≤ 601024; omega, by show sl + 6 + 0 ≤ 7293034; omega⟩ dL_law_627 (As := [.int (xs (nI (6 * n + 1)).toNatClampNeg), .int (xs (nI (6 * n + 2)).toNatClampNeg)]) (rest := []) rfl (fun H locs hP hS => ?_)
  have hP := j_of hP
  refine lv_istore (lv' := [(7, .int y), (6, .int (M1.1 7)), (5, .int (nI (6 * n))), (0, .ref b), (1, .ref (caOf b1 0)), (2, .ref (adOf b2 25)), (3, .ref o1), (4, .ref o2)]) hx hb dL_law_630 hl (by decide) rfl (fun ls hl => ?_)
  refine lv_aload_n hx hb dL_law_632 rfl (lv_at hl 5 rfl) ?_
  refine gCallWI X (gF_ok mOK (fsM hap)) ((gMetR_IA mOK (vX11_thrown (M := M1) (r := M1.1 7) rfl)).lift (fsM hap)) (cwV 0 X.hts (gT_V tw1741 tw1742 tw1743 tw31 tw1744) rfl rfl rfl ⟨rfl, by decide, by decide, by decide +kernel⟩ ⟨Nat.le_of_ble_eq_true rfl, Nat.le_of_ble_eq_true rfl⟩) rfl (j_fm hP) hS (jA3 hb2 hS.1) (mrec hP.2.1) hl.1 (Nat.le_of_ble_eq_true rfl) ⟨by show cl + 1 + 0 + 0 ≤ 601024; omega, by show sl + 6 + 0 + 0 ≤ 7293034; omega⟩ dL_law_633 (As := []) (rest := []) rfl (fun H locs hP hS => ?_)
  have hP := j_of hP
  refine lv_iload hx hb dL_law_636 (lv_at hl 1 rfl) ?_
  refine lv_icmp_eq (tgt := 643) hx hb dL_law_638 (by decide) (fun _ => ?_) (fun c => absurd rfl c)
  refine lv_iload hx hb dL_law_643 (lv_at hl 1 rfl) ?_
  refine lv_if_ne (tgt := 660) hx hb dL_law_645 (by decide) (fun _ => ?_) (fun hk => ?_)
  · refine lv_goto (tgt := 2684) hx hb dL_law_660 (by decide) ?_
    exact K S1 M1 x1 d _ _ _ _ _ rr hP hS (lv_sub hl [2, 3, 4, 5, 6, 7] rfl) (by show cl + 1 + 0 + 0 ≤ _; omega) (by show sl + 6 + 0 + 0 ≤ _; omega)
  have hk : M1.1 7 = 0 := hk
  refine lv_aload_n hx hb dL_law_648 rfl (lv_at hl 6 rfl) ?_
  refine lv_iconst (v := 0) hx hb dL_law_649 (by decide) ?_
  refine j_lald (S := S1) (M := M1) (x := x1) (d := d) X hP dL_law_650 ?_
  refine lv_iload hx hb dL_law_651 (lv_at hl 0 rfl) ?_
  refine lv_i2l hx hb dL_law_653 rfl ?_
  refine W.lcmp hx hb dL_law_654 ?_
  rw [ek hk, lg_cmp_s]
  refine lv_if_eq (tgt := 660) hx hb dL_law_655 (by decide) (fun _ => ?_) (fun c => absurd rfl c)
  refine lv_goto (tgt := 2684) hx hb dL_law_660 (by decide) ?_
  exact K S1 M1 x1 d _ _ _ _ _ rr hP hS (lv_sub hl [2, 3, 4, 5, 6, 7] rfl) (by show cl + 1 + 0 + 0 ≤ _; omega) (by show sl + 6 + 0 + 0 ≤ _; omega)
theorem lc_13 (X : gX p s m #[.ref b] c cL_law 10 "GranaryWatchLaw" (kR kTab kA)) (hXs : va_X b L xs s s.heap) (hbl : b < s.heap.size) (hb1 : s.heap.size ≤ b1) (hap : APJ b1 b2 o1 o2) (hl0 : l.stackTraces = false) (hnn : NNAN) (hn2 : NN2) (hn : 6 * n + 6 ≤ L) (hL : L ≤ 3072) (r : Rel S M) (hP : jP dC dI cg kA b1 b2 o1 o2 cL cD (S, M, x, d) s H) (hS : va_S (fun q => s.heap.size ≤ q) s.heap H locs) (hl : lv_has ls 10 [(5, .int (nI (6 * n))), (0, .ref b), (1, .ref (caOf b1 0)), (2, .ref (adOf b2 25)), (3, .ref o1), (4, .ref o2)]) (hcl : cl + 403 ≤ 601024) (hsl : sl + 3826 ≤ 7293034) (K : LK p l e s m below meth c Q dC dI cg kA b b1 b2 o1 o2 n cL cD cl sl) : W p l e room_1 s m #[.ref b] below meth c H locs cl sl Q (F0 m 663 ls []) := by
  have hx := X.hx
  have hb := X.hb
  have hz := hS.1
  have hb2 : s.heap.size ≤ b2 := by
    have := hap.1
    omega
  refine lv_aload_n hx hb dL_law_663 rfl (lv_at hl 2 rfl) ?_
  refine lv_aload_n hx hb dL_law_664 rfl (lv_at hl 1 rfl) ?_
  refine lv_iload hx hb dL_law_665 (lv_at hl 0 rfl) ?_
  refine lv_iconst (v := 1) hx hb dL_law_667 (by decide) ?_
  refine lv_iadd hx hb dL_law_668 ?_
  rw [show nI (6 * n) + (1 : Int32) = nI (6 * n + 1) from nI_k]
  refine va_sld hx hb hXs hbl (Nat.not_le.mpr hbl) hS (sin hn hL (by decide)) dL_law_669 ?_
  refine lv_aload_n hx hb dL_law_670 rfl (lv_at hl 4 rfl) ?_
  obtain ⟨y, S1, M1, x1, e2, rr, ek, hM⟩ := xw_speedOf (dC := dC) (dI := dI) (cg := cg) (kA := kA) (cL := cL) (cD := cD) (x := x) (d := d) hl0 hap r (xs (nI (6 * n + 1)).toNatClampNeg)
  refine gCallX X jOK hM (vx_cwSW 3 X.hts (gT_X tw1338 tw1339 tw0 tw1340) rfl rfl rfl ⟨by decide, by decide, by decide +kernel⟩ ⟨Nat.le_of_ble_eq_true rfl, Nat.le_of_ble_eq_true rfl⟩) rfl hP hS (jA4 hap hb1 hS.1) hl.1 (Nat.le_of_ble_eq_true rfl) ⟨by show cl + 1 ≤ 601024; omega, by show sl + 6 ≤ 7293034; omega⟩ dL_law_671 (As := [.ref (caOf b1 0), .int (xs (nI (6 * n + 1)).toNatClampNeg), .ref o1]) (rest := []) rfl (fun H locs hP hS => ?_)
  refine lv_istore (lv' := [(6, .int (M1.1 7)), (5, .int (nI (6 * n))), (0, .ref b), (1, .ref (caOf b1 0)), (2, .ref (adOf b2 25)), (3, .ref o1), (4, .ref o2)]) hx hb dL_law_674 hl (by decide) rfl (fun ls hl => ?_)
  refine lv_aload_n hx hb dL_law_676 rfl (lv_at hl 4 rfl) ?_
  refine lv_aload_n hx hb dL_law_677 rfl (lv_at hl 2 rfl) ?_
  refine lv_iload hx hb dL_law_678 (lv_at hl 1 rfl) ?_
  refine lv_iconst (v := 1) hx hb dL_law_680 (by decide) ?_
  refine lv_iadd hx hb dL_law_681 ?_
  rw [show nI (6 * n) + (1 : Int32) = nI (6 * n + 1) from nI_k]
  refine va_sld hx hb hXs hbl (Nat.not_le.mpr hbl) hS (sin hn hL (by decide)) dL_law_682 ?_
  refine gCallWI X (gF_ok mOK (fsM hap)) ((gMetIA.of (vX11_speedOf e2)).lift (fsM hap)) (cwV 1 X.hts (gT_V tw2075 tw2076 tw2077 tw31 tw2078) rfl rfl rfl ⟨rfl, by decide, by decide, by decide +kernel⟩ ⟨Nat.le_of_ble_eq_true rfl, Nat.le_of_ble_eq_true rfl⟩) rfl (j_fm hP) hS (jA3 hb2 hS.1) (mrec hP.2.1) hl.1 (Nat.le_of_ble_eq_true rfl) ⟨by show cl + 1 + 0 ≤ 601024; omega, by show sl + 6 + 0 ≤ 7293034; omega⟩ dL_law_683 (As := [.int (xs (nI (6 * n + 1)).toNatClampNeg)]) (rest := []) rfl (fun H locs hP hS => ?_)
  have hP := j_of hP
  refine lv_istore (lv' := [(7, .int y), (6, .int (M1.1 7)), (5, .int (nI (6 * n))), (0, .ref b), (1, .ref (caOf b1 0)), (2, .ref (adOf b2 25)), (3, .ref o1), (4, .ref o2)]) hx hb dL_law_686 hl (by decide) rfl (fun ls hl => ?_)
  refine lv_aload_n hx hb dL_law_688 rfl (lv_at hl 5 rfl) ?_
  refine gCallWI X (gF_ok mOK (fsM hap)) ((gMetR_IA mOK (vX11_thrown (M := M1) (r := M1.1 7) rfl)).lift (fsM hap)) (cwV 0 X.hts (gT_V tw1741 tw1742 tw1743 tw31 tw1744) rfl rfl rfl ⟨rfl, by decide, by decide, by decide +kernel⟩ ⟨Nat.le_of_ble_eq_true rfl, Nat.le_of_ble_eq_true rfl⟩) rfl (j_fm hP) hS (jA3 hb2 hS.1) (mrec hP.2.1) hl.1 (Nat.le_of_ble_eq_true rfl) ⟨by show cl + 1 + 0 + 0 ≤ 601024; omega, by show sl + 6 + 0 + 0 ≤ 7293034; omega⟩ dL_law_689 (As := []) (rest := []) rfl (fun H locs hP hS => ?_)
  have hP := j_of hP
  refine lv_iload hx hb dL_law_692 (lv_at hl 1 rfl) ?_
  refine lv_icmp_eq (tgt := 699) hx hb dL_law_694 (by decide) (fun _ => ?_) (fun c => absurd rfl c)
  refine lv_iload hx hb dL_law_699 (lv_at hl 1 rfl) ?_
  refine lv_if_ne (tgt := 716) hx hb dL_law_701 (by decide) (fun _ => ?_) (fun hk => ?_)
  · refine lv_goto (tgt := 2684) hx hb dL_law_716 (by decide) ?_
    exact K S1 M1 x1 d _ _ _ _ _ rr hP hS (lv_sub hl [2, 3, 4, 5, 6, 7] rfl) (by show cl + 1 + 0 + 0 ≤ _; omega) (by show sl + 6 + 0 + 0 ≤ _; omega)
  have hk : M1.1 7 = 0 := hk
  refine lv_aload_n hx hb dL_law_704 rfl (lv_at hl 6 rfl) ?_
  refine lv_iconst (v := 0) hx hb dL_law_705 (by decide) ?_
  refine j_lald (S := S1) (M := M1) (x := x1) (d := d) X hP dL_law_706 ?_
  refine lv_iload hx hb dL_law_707 (lv_at hl 0 rfl) ?_
  refine lv_i2l hx hb dL_law_709 rfl ?_
  refine W.lcmp hx hb dL_law_710 ?_
  rw [ek hk, lg_cmp_s]
  refine lv_if_eq (tgt := 716) hx hb dL_law_711 (by decide) (fun _ => ?_) (fun c => absurd rfl c)
  refine lv_goto (tgt := 2684) hx hb dL_law_716 (by decide) ?_
  exact K S1 M1 x1 d _ _ _ _ _ rr hP hS (lv_sub hl [2, 3, 4, 5, 6, 7] rfl) (by show cl + 1 + 0 + 0 ≤ _; omega) (by show sl + 6 + 0 + 0 ≤ _; omega)
theorem lc_14 (X : gX p s m #[.ref b] c cL_law 10 "GranaryWatchLaw" (kR kTab kA)) (hXs : va_X b L xs s s.heap) (hbl : b < s.heap.size) (hb1 : s.heap.size ≤ b1) (hap : APJ b1 b2 o1 o2) (hl0 : l.stackTraces = false) (hnn : NNAN) (hn2 : NN2) (hn : 6 * n + 6 ≤ L) (hL : L ≤ 3072) (r : Rel S M) (hP : jP dC dI cg kA b1 b2 o1 o2 cL cD (S, M, x, d) s H) (hS : va_S (fun q => s.heap.size ≤ q) s.heap H locs) (hl : lv_has ls 10 [(5, .int (nI (6 * n))), (0, .ref b), (1, .ref (caOf b1 0)), (2, .ref (adOf b2 25)), (3, .ref o1), (4, .ref o2)]) (hcl : cl + 403 ≤ 601024) (hsl : sl + 3826 ≤ 7293034) (K : LK p l e s m below meth c Q dC dI cg kA b b1 b2 o1 o2 n cL cD cl sl) : W p l e room_1 s m #[.ref b] below meth c H locs cl sl Q (F0 m 719 ls []) := by
  have hx := X.hx
  have hb := X.hb
  have hz := hS.1
  have hb2 : s.heap.size ≤ b2 := by
    have := hap.1
    omega
  refine lv_aload_n hx hb dL_law_719 rfl (lv_at hl 2 rfl) ?_
  refine lv_aload_n hx hb dL_law_720 rfl (lv_at hl 1 rfl) ?_
  refine lv_iload hx hb dL_law_721 (lv_at hl 0 rfl) ?_
  refine lv_iconst (v := 1) hx hb dL_law_723 (by decide) ?_
  refine lv_iadd hx hb dL_law_724 ?_
  rw [show nI (6 * n) + (1 : Int32) = nI (6 * n + 1) from nI_k]
  refine va_sld hx hb hXs hbl (Nat.not_le.mpr hbl) hS (sin hn hL (by decide)) dL_law_725 ?_
  refine lv_aload_n hx hb dL_law_726 rfl (lv_at hl 4 rfl) ?_
  obtain ⟨y, S1, M1, x1, e2, rr, ek, hM⟩ := xw_isLeftPawed (dC := dC) (dI := dI) (cg := cg) (kA := kA) (cL := cL) (cD := cD) (x := x) (d := d) hl0 hap r (xs (nI (6 * n + 1)).toNatClampNeg)
  refine gCallX X jOK hM (vx_cwSW 3 X.hts (gT_X tw1345 tw1346 tw0 tw1347) rfl rfl rfl ⟨by decide, by decide, by decide +kernel⟩ ⟨Nat.le_of_ble_eq_true rfl, Nat.le_of_ble_eq_true rfl⟩) rfl hP hS (jA4 hap hb1 hS.1) hl.1 (Nat.le_of_ble_eq_true rfl) ⟨by show cl + 1 ≤ 601024; omega, by show sl + 6 ≤ 7293034; omega⟩ dL_law_727 (As := [.ref (caOf b1 0), .int (xs (nI (6 * n + 1)).toNatClampNeg), .ref o1]) (rest := []) rfl (fun H locs hP hS => ?_)
  refine lv_istore (lv' := [(6, .int (M1.1 7)), (5, .int (nI (6 * n))), (0, .ref b), (1, .ref (caOf b1 0)), (2, .ref (adOf b2 25)), (3, .ref o1), (4, .ref o2)]) hx hb dL_law_730 hl (by decide) rfl (fun ls hl => ?_)
  refine lv_aload_n hx hb dL_law_732 rfl (lv_at hl 4 rfl) ?_
  refine lv_aload_n hx hb dL_law_733 rfl (lv_at hl 2 rfl) ?_
  refine lv_iload hx hb dL_law_734 (lv_at hl 1 rfl) ?_
  refine lv_iconst (v := 1) hx hb dL_law_736 (by decide) ?_
  refine lv_iadd hx hb dL_law_737 ?_
  rw [show nI (6 * n) + (1 : Int32) = nI (6 * n + 1) from nI_k]
  refine va_sld hx hb hXs hbl (Nat.not_le.mpr hbl) hS (sin hn hL (by decide)) dL_law_738 ?_
  refine gCallWI X (gF_ok mOK (fsM hap)) ((gMetIA.of (vX11_isLeftPawed e2)).lift (fsM hap)) (cwV 1 X.hts (gT_V tw2139 tw2140 tw2141 tw31 tw2142) rfl rfl rfl ⟨rfl, by decide, by decide, by decide +kernel⟩ ⟨Nat.le_of_ble_eq_true rfl, Nat.le_of_ble_eq_true rfl⟩) rfl (j_fm hP) hS (jA3 hb2 hS.1) (mrec hP.2.1) hl.1 (Nat.le_of_ble_eq_true rfl) ⟨by show cl + 1 + 0 ≤ 601024; omega, by show sl + 6 + 0 ≤ 7293034; omega⟩ dL_law_739 (As := [.int (xs (nI (6 * n + 1)).toNatClampNeg)]) (rest := []) rfl (fun H locs hP hS => ?_)
  have hP := j_of hP
  refine lv_istore (lv' := [(7, .int y), (6, .int (M1.1 7)), (5, .int (nI (6 * n))), (0, .ref b), (1, .ref (caOf b1 0)), (2, .ref (adOf b2 25)), (3, .ref o1), (4, .ref o2)]) hx hb dL_law_742 hl (by decide) rfl (fun ls hl => ?_)
  refine lv_aload_n hx hb dL_law_744 rfl (lv_at hl 5 rfl) ?_
  refine gCallWI X (gF_ok mOK (fsM hap)) ((gMetR_IA mOK (vX11_thrown (M := M1) (r := M1.1 7) rfl)).lift (fsM hap)) (cwV 0 X.hts (gT_V tw1741 tw1742 tw1743 tw31 tw1744) rfl rfl rfl ⟨rfl, by decide, by decide, by decide +kernel⟩ ⟨Nat.le_of_ble_eq_true rfl, Nat.le_of_ble_eq_true rfl⟩) rfl (j_fm hP) hS (jA3 hb2 hS.1) (mrec hP.2.1) hl.1 (Nat.le_of_ble_eq_true rfl) ⟨by show cl + 1 + 0 + 0 ≤ 601024; omega, by show sl + 6 + 0 + 0 ≤ 7293034; omega⟩ dL_law_745 (As := []) (rest := []) rfl (fun H locs hP hS => ?_)
  have hP := j_of hP
  refine lv_iload hx hb dL_law_748 (lv_at hl 1 rfl) ?_
  refine lv_icmp_eq (tgt := 755) hx hb dL_law_750 (by decide) (fun _ => ?_) (fun c => absurd rfl c)
  refine lv_iload hx hb dL_law_755 (lv_at hl 1 rfl) ?_
  refine lv_if_ne (tgt := 779) hx hb dL_law_757 (by decide) (fun _ => ?_) (fun hk => ?_)
  · refine lv_goto (tgt := 2684) hx hb dL_law_779 (by decide) ?_
    exact K S1 M1 x1 d _ _ _ _ _ rr hP hS (lv_sub hl [2, 3, 4, 5, 6, 7] rfl) (by show cl + 1 + 0 + 0 ≤ _; omega) (by show sl + 6 + 0 + 0 ≤ _; omega)
  have hk : M1.1 7 = 0 := hk
  refine lv_aload_n hx hb dL_law_760 rfl (lv_at hl 6 rfl) ?_
  refine lv_iconst (v := 0) hx hb dL_law_761 (by decide) ?_
  refine j_lald (S := S1) (M := M1) (x := x1) (d := d) X hP dL_law_762 ?_
  refine lv_iload hx hb dL_law_763 (lv_at hl 0 rfl) ?_
  refine lv_if_eq (tgt := 772) hx hb dL_law_765 (by decide) (fun hy => ?_) (fun hy => ?_)
  · refine lv_lconst (v := 0) hx hb dL_law_772 (by decide) ?_
    refine W.lcmp hx hb dL_law_773 ?_
    rw [ek hk, if_pos hy, lg_cmp_s]
    refine lv_if_eq (tgt := 779) hx hb dL_law_774 (by decide) (fun _ => ?_) (fun c => absurd rfl c)
    refine lv_goto (tgt := 2684) hx hb dL_law_779 (by decide) ?_
    exact K S1 M1 x1 d _ _ _ _ _ rr hP hS (lv_sub hl [2, 3, 4, 5, 6, 7] rfl) (by show cl + 1 + 0 + 0 ≤ _; omega) (by show sl + 6 + 0 + 0 ≤ _; omega)
  · refine lv_lconst (v := 1) hx hb dL_law_768 (by decide) ?_
    refine lv_goto (tgt := 773) hx hb dL_law_769 (by decide) ?_
    refine W.lcmp hx hb dL_law_773 ?_
    rw [ek hk, if_neg hy, lg_cmp_s]
    refine lv_if_eq (tgt := 779) hx hb dL_law_774 (by decide) (fun _ => ?_) (fun c => absurd rfl c)
    refine lv_goto (tgt := 2684) hx hb dL_law_779 (by decide) ?_
    exact K S1 M1 x1 d _ _ _ _ _ rr hP hS (lv_sub hl [2, 3, 4, 5, 6, 7] rfl) (by show cl + 1 + 0 + 0 ≤ _; omega) (by show sl + 6 + 0 + 0 ≤ _; omega)
theorem lc_15 (X : gX p s m #[.ref b] c cL_law 10 "GranaryWatchLaw" (kR kTab kA)) (hXs : va_X b L xs s s.heap) (hbl : b < s.heap.size) (hb1 : s.heap.size ≤ b1) (hap : APJ b1 b2 o1 o2) (hl0 : l.stackTraces = false) (hnn : NNAN) (hn2 : NN2) (hn : 6 * n + 6 ≤ L) (hL : L ≤ 3072) (r : Rel S M) (hP : jP dC dI cg kA b1 b2 o1 o2 cL cD (S, M, x, d) s H) (hS : va_S (fun q => s.heap.size ≤ q) s.heap H locs) (hl : lv_has ls 10 [(5, .int (nI (6 * n))), (0, .ref b), (1, .ref (caOf b1 0)), (2, .ref (adOf b2 25)), (3, .ref o1), (4, .ref o2)]) (hcl : cl + 403 ≤ 601024) (hsl : sl + 3826 ≤ 7293034) (K : LK p l e s m below meth c Q dC dI cg kA b b1 b2 o1 o2 n cL cD cl sl) : W p l e room_1 s m #[.ref b] below meth c H locs cl sl Q (F0 m 782 ls []) := by
  have hx := X.hx
  have hb := X.hb
  have hz := hS.1
  have hb2 : s.heap.size ≤ b2 := by
    have := hap.1
    omega
  refine lv_aload_n hx hb dL_law_782 rfl (lv_at hl 2 rfl) ?_
  refine lv_aload_n hx hb dL_law_783 rfl (lv_at hl 1 rfl) ?_
  refine lv_iload hx hb dL_law_784 (lv_at hl 0 rfl) ?_
  refine lv_iconst (v := 1) hx hb dL_law_786 (by decide) ?_
  refine lv_iadd hx hb dL_law_787 ?_
  rw [show nI (6 * n) + (1 : Int32) = nI (6 * n + 1) from nI_k]
  refine va_sld hx hb hXs hbl (Nat.not_le.mpr hbl) hS (sin hn hL (by decide)) dL_law_788 ?_
  refine lv_aload_n hx hb dL_law_789 rfl (lv_at hl 4 rfl) ?_
  obtain ⟨y, S1, M1, x1, e2, rr, ek, hM⟩ := xw_tirednessOf (dC := dC) (dI := dI) (cg := cg) (kA := kA) (cL := cL) (cD := cD) (x := x) (d := d) hl0 hap r (xs (nI (6 * n + 1)).toNatClampNeg)
  refine gCallX X jOK hM (vx_cwSW 3 X.hts (gT_X tw1352 tw1353 tw0 tw1354) rfl rfl rfl ⟨by decide, by decide, by decide +kernel⟩ ⟨Nat.le_of_ble_eq_true rfl, Nat.le_of_ble_eq_true rfl⟩) rfl hP hS (jA4 hap hb1 hS.1) hl.1 (Nat.le_of_ble_eq_true rfl) ⟨by show cl + 1 ≤ 601024; omega, by show sl + 6 ≤ 7293034; omega⟩ dL_law_790 (As := [.ref (caOf b1 0), .int (xs (nI (6 * n + 1)).toNatClampNeg), .ref o1]) (rest := []) rfl (fun H locs hP hS => ?_)
  refine lv_istore (lv' := [(6, .int (M1.1 7)), (5, .int (nI (6 * n))), (0, .ref b), (1, .ref (caOf b1 0)), (2, .ref (adOf b2 25)), (3, .ref o1), (4, .ref o2)]) hx hb dL_law_793 hl (by decide) rfl (fun ls hl => ?_)
  refine lv_aload_n hx hb dL_law_795 rfl (lv_at hl 4 rfl) ?_
  refine lv_aload_n hx hb dL_law_796 rfl (lv_at hl 2 rfl) ?_
  refine lv_iload hx hb dL_law_797 (lv_at hl 1 rfl) ?_
  refine lv_iconst (v := 1) hx hb dL_law_799 (by decide) ?_
  refine lv_iadd hx hb dL_law_800 ?_
  rw [show nI (6 * n) + (1 : Int32) = nI (6 * n + 1) from nI_k]
  refine va_sld hx hb hXs hbl (Nat.not_le.mpr hbl) hS (sin hn hL (by decide)) dL_law_801 ?_
  refine gCallWI X (gF_ok mOK (fsM hap)) ((gMetIA.of (vX11_tirednessOf e2)).lift (fsM hap)) (cwV 1 X.hts (gT_V tw2087 tw2088 tw2089 tw31 tw2090) rfl rfl rfl ⟨rfl, by decide, by decide, by decide +kernel⟩ ⟨Nat.le_of_ble_eq_true rfl, Nat.le_of_ble_eq_true rfl⟩) rfl (j_fm hP) hS (jA3 hb2 hS.1) (mrec hP.2.1) hl.1 (Nat.le_of_ble_eq_true rfl) ⟨by show cl + 1 + 0 ≤ 601024; omega, by show sl + 6 + 0 ≤ 7293034; omega⟩ dL_law_802 (As := [.int (xs (nI (6 * n + 1)).toNatClampNeg)]) (rest := []) rfl (fun H locs hP hS => ?_)
  have hP := j_of hP
  refine lv_istore (lv' := [(7, .int y), (6, .int (M1.1 7)), (5, .int (nI (6 * n))), (0, .ref b), (1, .ref (caOf b1 0)), (2, .ref (adOf b2 25)), (3, .ref o1), (4, .ref o2)]) hx hb dL_law_805 hl (by decide) rfl (fun ls hl => ?_)
  refine lv_aload_n hx hb dL_law_807 rfl (lv_at hl 5 rfl) ?_
  refine gCallWI X (gF_ok mOK (fsM hap)) ((gMetR_IA mOK (vX11_thrown (M := M1) (r := M1.1 7) rfl)).lift (fsM hap)) (cwV 0 X.hts (gT_V tw1741 tw1742 tw1743 tw31 tw1744) rfl rfl rfl ⟨rfl, by decide, by decide, by decide +kernel⟩ ⟨Nat.le_of_ble_eq_true rfl, Nat.le_of_ble_eq_true rfl⟩) rfl (j_fm hP) hS (jA3 hb2 hS.1) (mrec hP.2.1) hl.1 (Nat.le_of_ble_eq_true rfl) ⟨by show cl + 1 + 0 + 0 ≤ 601024; omega, by show sl + 6 + 0 + 0 ≤ 7293034; omega⟩ dL_law_808 (As := []) (rest := []) rfl (fun H locs hP hS => ?_)
  have hP := j_of hP
  refine lv_iload hx hb dL_law_811 (lv_at hl 1 rfl) ?_
  refine lv_icmp_eq (tgt := 818) hx hb dL_law_813 (by decide) (fun _ => ?_) (fun c => absurd rfl c)
  refine lv_iload hx hb dL_law_818 (lv_at hl 1 rfl) ?_
  refine lv_if_ne (tgt := 835) hx hb dL_law_820 (by decide) (fun _ => ?_) (fun hk => ?_)
  · refine lv_goto (tgt := 2684) hx hb dL_law_835 (by decide) ?_
    exact K S1 M1 x1 d _ _ _ _ _ rr hP hS (lv_sub hl [2, 3, 4, 5, 6, 7] rfl) (by show cl + 1 + 0 + 0 ≤ _; omega) (by show sl + 6 + 0 + 0 ≤ _; omega)
  have hk : M1.1 7 = 0 := hk
  refine lv_aload_n hx hb dL_law_823 rfl (lv_at hl 6 rfl) ?_
  refine lv_iconst (v := 0) hx hb dL_law_824 (by decide) ?_
  refine j_lald (S := S1) (M := M1) (x := x1) (d := d) X hP dL_law_825 ?_
  refine lv_iload hx hb dL_law_826 (lv_at hl 0 rfl) ?_
  refine lv_i2l hx hb dL_law_828 rfl ?_
  refine W.lcmp hx hb dL_law_829 ?_
  rw [ek hk, lg_cmp_s]
  refine lv_if_eq (tgt := 835) hx hb dL_law_830 (by decide) (fun _ => ?_) (fun c => absurd rfl c)
  refine lv_goto (tgt := 2684) hx hb dL_law_835 (by decide) ?_
  exact K S1 M1 x1 d _ _ _ _ _ rr hP hS (lv_sub hl [2, 3, 4, 5, 6, 7] rfl) (by show cl + 1 + 0 + 0 ≤ _; omega) (by show sl + 6 + 0 + 0 ≤ _; omega)
theorem lc_16 (X : gX p s m #[.ref b] c cL_law 10 "GranaryWatchLaw" (kR kTab kA)) (hXs : va_X b L xs s s.heap) (hbl : b < s.heap.size) (hb1 : s.heap.size ≤ b1) (hap : APJ b1 b2 o1 o2) (hl0 : l.stackTraces = false) (hnn : NNAN) (hn2 : NN2) (hn : 6 * n + 6 ≤ L) (hL : L ≤ 3072) (r : Rel S M) (hP : jP dC dI cg kA b1 b2 o1 o2 cL cD (S, M, x, d) s H) (hS : va_S (fun q => s.heap.size ≤ q) s.heap H locs) (hl : lv_has ls 10 [(5, .int (nI (6 * n))), (0, .ref b), (1, .ref (caOf b1 0)), (2, .ref (adOf b2 25)), (3, .ref o1), (4, .ref o2)]) (hcl : cl + 403 ≤ 601024) (hsl : sl + 3826 ≤ 7293034) (K : LK p l e s m below meth c Q dC dI cg kA b b1 b2 o1 o2 n cL cD cl sl) : W p l e room_1 s m #[.ref b] below meth c H locs cl sl Q (F0 m 838 ls []) := by
  have hx := X.hx
  have hb := X.hb
  have hz := hS.1
  have hb2 : s.heap.size ≤ b2 := by
    have := hap.1
    omega
  refine lv_aload_n hx hb dL_law_838 rfl (lv_at hl 2 rfl) ?_
  refine lv_aload_n hx hb dL_law_839 rfl (lv_at hl 1 rfl) ?_
  refine lv_iload hx hb dL_law_840 (lv_at hl 0 rfl) ?_
  refine lv_iconst (v := 1) hx hb dL_law_842 (by decide) ?_
  refine lv_iadd hx hb dL_law_843 ?_
  rw [show nI (6 * n) + (1 : Int32) = nI (6 * n + 1) from nI_k]
  refine va_sld hx hb hXs hbl (Nat.not_le.mpr hbl) hS (sin hn hL (by decide)) dL_law_844 ?_
  refine lv_aload_n hx hb dL_law_845 rfl (lv_at hl 4 rfl) ?_
  obtain ⟨y, S1, M1, x1, e2, rr, ek, hM⟩ := xw_strengthOf (dC := dC) (dI := dI) (cg := cg) (kA := kA) (cL := cL) (cD := cD) (x := x) (d := d) hl0 hap r (xs (nI (6 * n + 1)).toNatClampNeg)
  refine gCallX X jOK hM (vx_cwSW 3 X.hts (gT_X tw1359 tw1360 tw0 tw1361) rfl rfl rfl ⟨by decide, by decide, by decide +kernel⟩ ⟨Nat.le_of_ble_eq_true rfl, Nat.le_of_ble_eq_true rfl⟩) rfl hP hS (jA4 hap hb1 hS.1) hl.1 (Nat.le_of_ble_eq_true rfl) ⟨by show cl + 1 ≤ 601024; omega, by show sl + 6 ≤ 7293034; omega⟩ dL_law_846 (As := [.ref (caOf b1 0), .int (xs (nI (6 * n + 1)).toNatClampNeg), .ref o1]) (rest := []) rfl (fun H locs hP hS => ?_)
  refine lv_istore (lv' := [(6, .int (M1.1 7)), (5, .int (nI (6 * n))), (0, .ref b), (1, .ref (caOf b1 0)), (2, .ref (adOf b2 25)), (3, .ref o1), (4, .ref o2)]) hx hb dL_law_849 hl (by decide) rfl (fun ls hl => ?_)
  refine lv_aload_n hx hb dL_law_851 rfl (lv_at hl 4 rfl) ?_
  refine lv_aload_n hx hb dL_law_852 rfl (lv_at hl 2 rfl) ?_
  refine lv_iload hx hb dL_law_853 (lv_at hl 1 rfl) ?_
  refine lv_iconst (v := 1) hx hb dL_law_855 (by decide) ?_
  refine lv_iadd hx hb dL_law_856 ?_
  rw [show nI (6 * n) + (1 : Int32) = nI (6 * n + 1) from nI_k]
  refine va_sld hx hb hXs hbl (Nat.not_le.mpr hbl) hS (sin hn hL (by decide)) dL_law_857 ?_
  refine gCallWI X (gF_ok mOK (fsM hap)) ((gMetIA.of (vX11_strengthOf e2)).lift (fsM hap)) (cwV 1 X.hts (gT_V tw2091 tw2092 tw2093 tw31 tw2094) rfl rfl rfl ⟨rfl, by decide, by decide, by decide +kernel⟩ ⟨Nat.le_of_ble_eq_true rfl, Nat.le_of_ble_eq_true rfl⟩) rfl (j_fm hP) hS (jA3 hb2 hS.1) (mrec hP.2.1) hl.1 (Nat.le_of_ble_eq_true rfl) ⟨by show cl + 1 + 0 ≤ 601024; omega, by show sl + 6 + 0 ≤ 7293034; omega⟩ dL_law_858 (As := [.int (xs (nI (6 * n + 1)).toNatClampNeg)]) (rest := []) rfl (fun H locs hP hS => ?_)
  have hP := j_of hP
  refine lv_istore (lv' := [(7, .int y), (6, .int (M1.1 7)), (5, .int (nI (6 * n))), (0, .ref b), (1, .ref (caOf b1 0)), (2, .ref (adOf b2 25)), (3, .ref o1), (4, .ref o2)]) hx hb dL_law_861 hl (by decide) rfl (fun ls hl => ?_)
  refine lv_aload_n hx hb dL_law_863 rfl (lv_at hl 5 rfl) ?_
  refine gCallWI X (gF_ok mOK (fsM hap)) ((gMetR_IA mOK (vX11_thrown (M := M1) (r := M1.1 7) rfl)).lift (fsM hap)) (cwV 0 X.hts (gT_V tw1741 tw1742 tw1743 tw31 tw1744) rfl rfl rfl ⟨rfl, by decide, by decide, by decide +kernel⟩ ⟨Nat.le_of_ble_eq_true rfl, Nat.le_of_ble_eq_true rfl⟩) rfl (j_fm hP) hS (jA3 hb2 hS.1) (mrec hP.2.1) hl.1 (Nat.le_of_ble_eq_true rfl) ⟨by show cl + 1 + 0 + 0 ≤ 601024; omega, by show sl + 6 + 0 + 0 ≤ 7293034; omega⟩ dL_law_864 (As := []) (rest := []) rfl (fun H locs hP hS => ?_)
  have hP := j_of hP
  refine lv_iload hx hb dL_law_867 (lv_at hl 1 rfl) ?_
  refine lv_icmp_eq (tgt := 874) hx hb dL_law_869 (by decide) (fun _ => ?_) (fun c => absurd rfl c)
  refine lv_iload hx hb dL_law_874 (lv_at hl 1 rfl) ?_
  refine lv_if_ne (tgt := 891) hx hb dL_law_876 (by decide) (fun _ => ?_) (fun hk => ?_)
  · refine lv_goto (tgt := 2684) hx hb dL_law_891 (by decide) ?_
    exact K S1 M1 x1 d _ _ _ _ _ rr hP hS (lv_sub hl [2, 3, 4, 5, 6, 7] rfl) (by show cl + 1 + 0 + 0 ≤ _; omega) (by show sl + 6 + 0 + 0 ≤ _; omega)
  have hk : M1.1 7 = 0 := hk
  refine lv_aload_n hx hb dL_law_879 rfl (lv_at hl 6 rfl) ?_
  refine lv_iconst (v := 0) hx hb dL_law_880 (by decide) ?_
  refine j_lald (S := S1) (M := M1) (x := x1) (d := d) X hP dL_law_881 ?_
  refine lv_iload hx hb dL_law_882 (lv_at hl 0 rfl) ?_
  refine lv_i2l hx hb dL_law_884 rfl ?_
  refine W.lcmp hx hb dL_law_885 ?_
  rw [ek hk, lg_cmp_s]
  refine lv_if_eq (tgt := 891) hx hb dL_law_886 (by decide) (fun _ => ?_) (fun c => absurd rfl c)
  refine lv_goto (tgt := 2684) hx hb dL_law_891 (by decide) ?_
  exact K S1 M1 x1 d _ _ _ _ _ rr hP hS (lv_sub hl [2, 3, 4, 5, 6, 7] rfl) (by show cl + 1 + 0 + 0 ≤ _; omega) (by show sl + 6 + 0 + 0 ≤ _; omega)
theorem lc_17 (X : gX p s m #[.ref b] c cL_law 10 "GranaryWatchLaw" (kR kTab kA)) (hXs : va_X b L xs s s.heap) (hbl : b < s.heap.size) (hb1 : s.heap.size ≤ b1) (hap : APJ b1 b2 o1 o2) (hl0 : l.stackTraces = false) (hnn : NNAN) (hn2 : NN2) (hn : 6 * n + 6 ≤ L) (hL : L ≤ 3072) (r : Rel S M) (hP : jP dC dI cg kA b1 b2 o1 o2 cL cD (S, M, x, d) s H) (hS : va_S (fun q => s.heap.size ≤ q) s.heap H locs) (hl : lv_has ls 10 [(5, .int (nI (6 * n))), (0, .ref b), (1, .ref (caOf b1 0)), (2, .ref (adOf b2 25)), (3, .ref o1), (4, .ref o2)]) (hcl : cl + 403 ≤ 601024) (hsl : sl + 3826 ≤ 7293034) (K : LK p l e s m below meth c Q dC dI cg kA b b1 b2 o1 o2 n cL cD cl sl) : W p l e room_1 s m #[.ref b] below meth c H locs cl sl Q (F0 m 894 ls []) := by
  have hx := X.hx
  have hb := X.hb
  have hz := hS.1
  have hb2 : s.heap.size ≤ b2 := by
    have := hap.1
    omega
  refine lv_aload_n hx hb dL_law_894 rfl (lv_at hl 2 rfl) ?_
  refine lv_aload_n hx hb dL_law_895 rfl (lv_at hl 1 rfl) ?_
  refine lv_iload hx hb dL_law_896 (lv_at hl 0 rfl) ?_
  refine lv_iconst (v := 1) hx hb dL_law_898 (by decide) ?_
  refine lv_iadd hx hb dL_law_899 ?_
  rw [show nI (6 * n) + (1 : Int32) = nI (6 * n + 1) from nI_k]
  refine va_sld hx hb hXs hbl (Nat.not_le.mpr hbl) hS (sin hn hL (by decide)) dL_law_900 ?_
  refine lv_aload_n hx hb dL_law_901 rfl (lv_at hl 4 rfl) ?_
  obtain ⟨y, S1, M1, x1, e2, rr, ek, hM⟩ := xw_caughtBy (dC := dC) (dI := dI) (cg := cg) (kA := kA) (cL := cL) (cD := cD) (x := x) (d := d) hl0 hap r (xs (nI (6 * n + 1)).toNatClampNeg)
  refine gCallX X jOK hM (vx_cwSW 3 X.hts (gT_X tw1367 tw1368 tw0 tw1369) rfl rfl rfl ⟨by decide, by decide, by decide +kernel⟩ ⟨Nat.le_of_ble_eq_true rfl, Nat.le_of_ble_eq_true rfl⟩) rfl hP hS (jA4 hap hb1 hS.1) hl.1 (Nat.le_of_ble_eq_true rfl) ⟨by show cl + 1 ≤ 601024; omega, by show sl + 6 ≤ 7293034; omega⟩ dL_law_902 (As := [.ref (caOf b1 0), .int (xs (nI (6 * n + 1)).toNatClampNeg), .ref o1]) (rest := []) rfl (fun H locs hP hS => ?_)
  refine lv_istore (lv' := [(6, .int (M1.1 7)), (5, .int (nI (6 * n))), (0, .ref b), (1, .ref (caOf b1 0)), (2, .ref (adOf b2 25)), (3, .ref o1), (4, .ref o2)]) hx hb dL_law_905 hl (by decide) rfl (fun ls hl => ?_)
  refine lv_aload_n hx hb dL_law_907 rfl (lv_at hl 4 rfl) ?_
  refine lv_aload_n hx hb dL_law_908 rfl (lv_at hl 2 rfl) ?_
  refine lv_iload hx hb dL_law_909 (lv_at hl 1 rfl) ?_
  refine lv_iconst (v := 1) hx hb dL_law_911 (by decide) ?_
  refine lv_iadd hx hb dL_law_912 ?_
  rw [show nI (6 * n) + (1 : Int32) = nI (6 * n + 1) from nI_k]
  refine va_sld hx hb hXs hbl (Nat.not_le.mpr hbl) hS (sin hn hL (by decide)) dL_law_913 ?_
  refine gCallWI X (gF_ok mOK (fsM hap)) ((gMetIA.of (vX11_caughtBy e2)).lift (fsM hap)) (cwV 1 X.hts (gT_V tw2095 tw2096 tw2097 tw31 tw2098) rfl rfl rfl ⟨rfl, by decide, by decide, by decide +kernel⟩ ⟨Nat.le_of_ble_eq_true rfl, Nat.le_of_ble_eq_true rfl⟩) rfl (j_fm hP) hS (jA3 hb2 hS.1) (mrec hP.2.1) hl.1 (Nat.le_of_ble_eq_true rfl) ⟨by show cl + 1 + 0 ≤ 601024; omega, by show sl + 6 + 0 ≤ 7293034; omega⟩ dL_law_914 (As := [.int (xs (nI (6 * n + 1)).toNatClampNeg)]) (rest := []) rfl (fun H locs hP hS => ?_)
  have hP := j_of hP
  refine lv_istore (lv' := [(7, .int y), (6, .int (M1.1 7)), (5, .int (nI (6 * n))), (0, .ref b), (1, .ref (caOf b1 0)), (2, .ref (adOf b2 25)), (3, .ref o1), (4, .ref o2)]) hx hb dL_law_917 hl (by decide) rfl (fun ls hl => ?_)
  refine lv_aload_n hx hb dL_law_919 rfl (lv_at hl 5 rfl) ?_
  refine gCallWI X (gF_ok mOK (fsM hap)) ((gMetR_IA mOK (vX11_thrown (M := M1) (r := M1.1 7) rfl)).lift (fsM hap)) (cwV 0 X.hts (gT_V tw1741 tw1742 tw1743 tw31 tw1744) rfl rfl rfl ⟨rfl, by decide, by decide, by decide +kernel⟩ ⟨Nat.le_of_ble_eq_true rfl, Nat.le_of_ble_eq_true rfl⟩) rfl (j_fm hP) hS (jA3 hb2 hS.1) (mrec hP.2.1) hl.1 (Nat.le_of_ble_eq_true rfl) ⟨by show cl + 1 + 0 + 0 ≤ 601024; omega, by show sl + 6 + 0 + 0 ≤ 7293034; omega⟩ dL_law_920 (As := []) (rest := []) rfl (fun H locs hP hS => ?_)
  have hP := j_of hP
  refine lv_iload hx hb dL_law_923 (lv_at hl 1 rfl) ?_
  refine lv_icmp_eq (tgt := 930) hx hb dL_law_925 (by decide) (fun _ => ?_) (fun c => absurd rfl c)
  refine lv_iload hx hb dL_law_930 (lv_at hl 1 rfl) ?_
  refine lv_if_ne (tgt := 947) hx hb dL_law_932 (by decide) (fun _ => ?_) (fun hk => ?_)
  · refine lv_goto (tgt := 2684) hx hb dL_law_947 (by decide) ?_
    exact K S1 M1 x1 d _ _ _ _ _ rr hP hS (lv_sub hl [2, 3, 4, 5, 6, 7] rfl) (by show cl + 1 + 0 + 0 ≤ _; omega) (by show sl + 6 + 0 + 0 ≤ _; omega)
  have hk : M1.1 7 = 0 := hk
  refine lv_aload_n hx hb dL_law_935 rfl (lv_at hl 6 rfl) ?_
  refine lv_iconst (v := 0) hx hb dL_law_936 (by decide) ?_
  refine j_lald (S := S1) (M := M1) (x := x1) (d := d) X hP dL_law_937 ?_
  refine lv_iload hx hb dL_law_938 (lv_at hl 0 rfl) ?_
  refine lv_i2l hx hb dL_law_940 rfl ?_
  refine W.lcmp hx hb dL_law_941 ?_
  rw [ek hk, lg_cmp_s]
  refine lv_if_eq (tgt := 947) hx hb dL_law_942 (by decide) (fun _ => ?_) (fun c => absurd rfl c)
  refine lv_goto (tgt := 2684) hx hb dL_law_947 (by decide) ?_
  exact K S1 M1 x1 d _ _ _ _ _ rr hP hS (lv_sub hl [2, 3, 4, 5, 6, 7] rfl) (by show cl + 1 + 0 + 0 ≤ _; omega) (by show sl + 6 + 0 + 0 ≤ _; omega)
theorem lc_18 (X : gX p s m #[.ref b] c cL_law 10 "GranaryWatchLaw" (kR kTab kA)) (hXs : va_X b L xs s s.heap) (hbl : b < s.heap.size) (hb1 : s.heap.size ≤ b1) (hap : APJ b1 b2 o1 o2) (hl0 : l.stackTraces = false) (hnn : NNAN) (hn2 : NN2) (hn : 6 * n + 6 ≤ L) (hL : L ≤ 3072) (r : Rel S M) (hP : jP dC dI cg kA b1 b2 o1 o2 cL cD (S, M, x, d) s H) (hS : va_S (fun q => s.heap.size ≤ q) s.heap H locs) (hl : lv_has ls 10 [(5, .int (nI (6 * n))), (0, .ref b), (1, .ref (caOf b1 0)), (2, .ref (adOf b2 25)), (3, .ref o1), (4, .ref o2)]) (hcl : cl + 403 ≤ 601024) (hsl : sl + 3826 ≤ 7293034) (K : LK p l e s m below meth c Q dC dI cg kA b b1 b2 o1 o2 n cL cD cl sl) : W p l e room_1 s m #[.ref b] below meth c H locs cl sl Q (F0 m 950 ls []) := by
  have hx := X.hx
  have hb := X.hb
  have hz := hS.1
  have hb2 : s.heap.size ≤ b2 := by
    have := hap.1
    omega
  refine lv_aload_n hx hb dL_law_950 rfl (lv_at hl 2 rfl) ?_
  refine lv_aload_n hx hb dL_law_951 rfl (lv_at hl 1 rfl) ?_
  refine lv_iload hx hb dL_law_952 (lv_at hl 0 rfl) ?_
  refine lv_iconst (v := 1) hx hb dL_law_954 (by decide) ?_
  refine lv_iadd hx hb dL_law_955 ?_
  rw [show nI (6 * n) + (1 : Int32) = nI (6 * n + 1) from nI_k]
  refine va_sld hx hb hXs hbl (Nat.not_le.mpr hbl) hS (sin hn hL (by decide)) dL_law_956 ?_
  refine lv_aload_n hx hb dL_law_957 rfl (lv_at hl 4 rfl) ?_
  obtain ⟨y, S1, M1, x1, e2, rr, ek, hM⟩ := xw_oathsOf (dC := dC) (dI := dI) (cg := cg) (kA := kA) (cL := cL) (cD := cD) (x := x) (d := d) hl0 hap r (xs (nI (6 * n + 1)).toNatClampNeg)
  refine gCallX X jOK hM (vx_cwSW 3 X.hts (gT_X tw1374 tw1375 tw0 tw1376) rfl rfl rfl ⟨by decide, by decide, by decide +kernel⟩ ⟨Nat.le_of_ble_eq_true rfl, Nat.le_of_ble_eq_true rfl⟩) rfl hP hS (jA4 hap hb1 hS.1) hl.1 (Nat.le_of_ble_eq_true rfl) ⟨by show cl + 1 ≤ 601024; omega, by show sl + 6 ≤ 7293034; omega⟩ dL_law_958 (As := [.ref (caOf b1 0), .int (xs (nI (6 * n + 1)).toNatClampNeg), .ref o1]) (rest := []) rfl (fun H locs hP hS => ?_)
  refine lv_istore (lv' := [(6, .int (M1.1 7)), (5, .int (nI (6 * n))), (0, .ref b), (1, .ref (caOf b1 0)), (2, .ref (adOf b2 25)), (3, .ref o1), (4, .ref o2)]) hx hb dL_law_961 hl (by decide) rfl (fun ls hl => ?_)
  refine lv_aload_n hx hb dL_law_963 rfl (lv_at hl 4 rfl) ?_
  refine lv_aload_n hx hb dL_law_964 rfl (lv_at hl 2 rfl) ?_
  refine lv_iload hx hb dL_law_965 (lv_at hl 1 rfl) ?_
  refine lv_iconst (v := 1) hx hb dL_law_967 (by decide) ?_
  refine lv_iadd hx hb dL_law_968 ?_
  rw [show nI (6 * n) + (1 : Int32) = nI (6 * n + 1) from nI_k]
  refine va_sld hx hb hXs hbl (Nat.not_le.mpr hbl) hS (sin hn hL (by decide)) dL_law_969 ?_
  refine gCallWI X (gF_ok mOK (fsM hap)) ((gMetIA.of (vX11_oathsOf e2)).lift (fsM hap)) (cwV 1 X.hts (gT_V tw2099 tw2100 tw2101 tw31 tw2102) rfl rfl rfl ⟨rfl, by decide, by decide, by decide +kernel⟩ ⟨Nat.le_of_ble_eq_true rfl, Nat.le_of_ble_eq_true rfl⟩) rfl (j_fm hP) hS (jA3 hb2 hS.1) (mrec hP.2.1) hl.1 (Nat.le_of_ble_eq_true rfl) ⟨by show cl + 1 + 0 ≤ 601024; omega, by show sl + 6 + 0 ≤ 7293034; omega⟩ dL_law_970 (As := [.int (xs (nI (6 * n + 1)).toNatClampNeg)]) (rest := []) rfl (fun H locs hP hS => ?_)
  have hP := j_of hP
  refine lv_istore (lv' := [(7, .int y), (6, .int (M1.1 7)), (5, .int (nI (6 * n))), (0, .ref b), (1, .ref (caOf b1 0)), (2, .ref (adOf b2 25)), (3, .ref o1), (4, .ref o2)]) hx hb dL_law_973 hl (by decide) rfl (fun ls hl => ?_)
  refine lv_aload_n hx hb dL_law_975 rfl (lv_at hl 5 rfl) ?_
  refine gCallWI X (gF_ok mOK (fsM hap)) ((gMetR_IA mOK (vX11_thrown (M := M1) (r := M1.1 7) rfl)).lift (fsM hap)) (cwV 0 X.hts (gT_V tw1741 tw1742 tw1743 tw31 tw1744) rfl rfl rfl ⟨rfl, by decide, by decide, by decide +kernel⟩ ⟨Nat.le_of_ble_eq_true rfl, Nat.le_of_ble_eq_true rfl⟩) rfl (j_fm hP) hS (jA3 hb2 hS.1) (mrec hP.2.1) hl.1 (Nat.le_of_ble_eq_true rfl) ⟨by show cl + 1 + 0 + 0 ≤ 601024; omega, by show sl + 6 + 0 + 0 ≤ 7293034; omega⟩ dL_law_976 (As := []) (rest := []) rfl (fun H locs hP hS => ?_)
  have hP := j_of hP
  refine lv_iload hx hb dL_law_979 (lv_at hl 1 rfl) ?_
  refine lv_icmp_eq (tgt := 986) hx hb dL_law_981 (by decide) (fun _ => ?_) (fun c => absurd rfl c)
  refine lv_iload hx hb dL_law_986 (lv_at hl 1 rfl) ?_
  refine lv_if_ne (tgt := 1003) hx hb dL_law_988 (by decide) (fun _ => ?_) (fun hk => ?_)
  · refine lv_goto (tgt := 2684) hx hb dL_law_1003 (by decide) ?_
    exact K S1 M1 x1 d _ _ _ _ _ rr hP hS (lv_sub hl [2, 3, 4, 5, 6, 7] rfl) (by show cl + 1 + 0 + 0 ≤ _; omega) (by show sl + 6 + 0 + 0 ≤ _; omega)
  have hk : M1.1 7 = 0 := hk
  refine lv_aload_n hx hb dL_law_991 rfl (lv_at hl 6 rfl) ?_
  refine lv_iconst (v := 0) hx hb dL_law_992 (by decide) ?_
  refine j_lald (S := S1) (M := M1) (x := x1) (d := d) X hP dL_law_993 ?_
  refine lv_iload hx hb dL_law_994 (lv_at hl 0 rfl) ?_
  refine lv_i2l hx hb dL_law_996 rfl ?_
  refine W.lcmp hx hb dL_law_997 ?_
  rw [ek hk, lg_cmp_s]
  refine lv_if_eq (tgt := 1003) hx hb dL_law_998 (by decide) (fun _ => ?_) (fun c => absurd rfl c)
  refine lv_goto (tgt := 2684) hx hb dL_law_1003 (by decide) ?_
  exact K S1 M1 x1 d _ _ _ _ _ rr hP hS (lv_sub hl [2, 3, 4, 5, 6, 7] rfl) (by show cl + 1 + 0 + 0 ≤ _; omega) (by show sl + 6 + 0 + 0 ≤ _; omega)
theorem lc_19 (X : gX p s m #[.ref b] c cL_law 10 "GranaryWatchLaw" (kR kTab kA)) (hXs : va_X b L xs s s.heap) (hbl : b < s.heap.size) (hb1 : s.heap.size ≤ b1) (hap : APJ b1 b2 o1 o2) (hl0 : l.stackTraces = false) (hnn : NNAN) (hn2 : NN2) (hn : 6 * n + 6 ≤ L) (hL : L ≤ 3072) (r : Rel S M) (hP : jP dC dI cg kA b1 b2 o1 o2 cL cD (S, M, x, d) s H) (hS : va_S (fun q => s.heap.size ≤ q) s.heap H locs) (hl : lv_has ls 10 [(5, .int (nI (6 * n))), (0, .ref b), (1, .ref (caOf b1 0)), (2, .ref (adOf b2 25)), (3, .ref o1), (4, .ref o2)]) (hcl : cl + 403 ≤ 601024) (hsl : sl + 3826 ≤ 7293034) (K : LK p l e s m below meth c Q dC dI cg kA b b1 b2 o1 o2 n cL cD cl sl) : W p l e room_1 s m #[.ref b] below meth c H locs cl sl Q (F0 m 1006 ls []) := by
  have hx := X.hx
  have hb := X.hb
  have hz := hS.1
  have hb2 : s.heap.size ≤ b2 := by
    have := hap.1
    omega
  refine lv_aload_n hx hb dL_law_1006 rfl (lv_at hl 2 rfl) ?_
  refine lv_aload_n hx hb dL_law_1007 rfl (lv_at hl 1 rfl) ?_
  refine lv_iload hx hb dL_law_1008 (lv_at hl 0 rfl) ?_
  refine lv_iconst (v := 1) hx hb dL_law_1010 (by decide) ?_
  refine lv_iadd hx hb dL_law_1011 ?_
  rw [show nI (6 * n) + (1 : Int32) = nI (6 * n + 1) from nI_k]
  refine va_sld hx hb hXs hbl (Nat.not_le.mpr hbl) hS (sin hn hL (by decide)) dL_law_1012 ?_
  refine lv_aload_n hx hb dL_law_1013 rfl (lv_at hl 4 rfl) ?_
  obtain ⟨y, S1, M1, x1, e2, rr, ek, hM⟩ := xw_grainIn (dC := dC) (dI := dI) (cg := cg) (kA := kA) (cL := cL) (cD := cD) (x := x) (d := d) hl0 hap r (xs (nI (6 * n + 1)).toNatClampNeg)
  refine gCallX X jOK hM (vx_cwSW 3 X.hts (gT_X tw1381 tw1382 tw0 tw1383) rfl rfl rfl ⟨by decide, by decide, by decide +kernel⟩ ⟨Nat.le_of_ble_eq_true rfl, Nat.le_of_ble_eq_true rfl⟩) rfl hP hS (jA4 hap hb1 hS.1) hl.1 (Nat.le_of_ble_eq_true rfl) ⟨by show cl + 1 ≤ 601024; omega, by show sl + 6 ≤ 7293034; omega⟩ dL_law_1014 (As := [.ref (caOf b1 0), .int (xs (nI (6 * n + 1)).toNatClampNeg), .ref o1]) (rest := []) rfl (fun H locs hP hS => ?_)
  refine lv_istore (lv' := [(6, .int (M1.1 7)), (5, .int (nI (6 * n))), (0, .ref b), (1, .ref (caOf b1 0)), (2, .ref (adOf b2 25)), (3, .ref o1), (4, .ref o2)]) hx hb dL_law_1017 hl (by decide) rfl (fun ls hl => ?_)
  refine lv_aload_n hx hb dL_law_1019 rfl (lv_at hl 4 rfl) ?_
  refine lv_aload_n hx hb dL_law_1020 rfl (lv_at hl 2 rfl) ?_
  refine lv_iload hx hb dL_law_1021 (lv_at hl 1 rfl) ?_
  refine lv_iconst (v := 1) hx hb dL_law_1023 (by decide) ?_
  refine lv_iadd hx hb dL_law_1024 ?_
  rw [show nI (6 * n) + (1 : Int32) = nI (6 * n + 1) from nI_k]
  refine va_sld hx hb hXs hbl (Nat.not_le.mpr hbl) hS (sin hn hL (by decide)) dL_law_1025 ?_
  refine gCallWI X (gF_ok mOK (fsM hap)) ((gMetIA.of (vX11_grainIn e2)).lift (fsM hap)) (cwV 1 X.hts (gT_V tw2111 tw2112 tw2113 tw31 tw2114) rfl rfl rfl ⟨rfl, by decide, by decide, by decide +kernel⟩ ⟨Nat.le_of_ble_eq_true rfl, Nat.le_of_ble_eq_true rfl⟩) rfl (j_fm hP) hS (jA3 hb2 hS.1) (mrec hP.2.1) hl.1 (Nat.le_of_ble_eq_true rfl) ⟨by show cl + 1 + 0 ≤ 601024; omega, by show sl + 6 + 0 ≤ 7293034; omega⟩ dL_law_1026 (As := [.int (xs (nI (6 * n + 1)).toNatClampNeg)]) (rest := []) rfl (fun H locs hP hS => ?_)
  have hP := j_of hP
  refine lv_istore (lv' := [(7, .int y), (6, .int (M1.1 7)), (5, .int (nI (6 * n))), (0, .ref b), (1, .ref (caOf b1 0)), (2, .ref (adOf b2 25)), (3, .ref o1), (4, .ref o2)]) hx hb dL_law_1029 hl (by decide) rfl (fun ls hl => ?_)
  refine lv_aload_n hx hb dL_law_1031 rfl (lv_at hl 5 rfl) ?_
  refine gCallWI X (gF_ok mOK (fsM hap)) ((gMetR_IA mOK (vX11_thrown (M := M1) (r := M1.1 7) rfl)).lift (fsM hap)) (cwV 0 X.hts (gT_V tw1741 tw1742 tw1743 tw31 tw1744) rfl rfl rfl ⟨rfl, by decide, by decide, by decide +kernel⟩ ⟨Nat.le_of_ble_eq_true rfl, Nat.le_of_ble_eq_true rfl⟩) rfl (j_fm hP) hS (jA3 hb2 hS.1) (mrec hP.2.1) hl.1 (Nat.le_of_ble_eq_true rfl) ⟨by show cl + 1 + 0 + 0 ≤ 601024; omega, by show sl + 6 + 0 + 0 ≤ 7293034; omega⟩ dL_law_1032 (As := []) (rest := []) rfl (fun H locs hP hS => ?_)
  have hP := j_of hP
  refine lv_iload hx hb dL_law_1035 (lv_at hl 1 rfl) ?_
  refine lv_icmp_eq (tgt := 1042) hx hb dL_law_1037 (by decide) (fun _ => ?_) (fun c => absurd rfl c)
  refine lv_iload hx hb dL_law_1042 (lv_at hl 1 rfl) ?_
  refine lv_if_ne (tgt := 1059) hx hb dL_law_1044 (by decide) (fun _ => ?_) (fun hk => ?_)
  · refine lv_goto (tgt := 2684) hx hb dL_law_1059 (by decide) ?_
    exact K S1 M1 x1 d _ _ _ _ _ rr hP hS (lv_sub hl [2, 3, 4, 5, 6, 7] rfl) (by show cl + 1 + 0 + 0 ≤ _; omega) (by show sl + 6 + 0 + 0 ≤ _; omega)
  have hk : M1.1 7 = 0 := hk
  refine lv_aload_n hx hb dL_law_1047 rfl (lv_at hl 6 rfl) ?_
  refine lv_iconst (v := 0) hx hb dL_law_1048 (by decide) ?_
  refine j_lald (S := S1) (M := M1) (x := x1) (d := d) X hP dL_law_1049 ?_
  refine lv_iload hx hb dL_law_1050 (lv_at hl 0 rfl) ?_
  refine lv_i2l hx hb dL_law_1052 rfl ?_
  refine W.lcmp hx hb dL_law_1053 ?_
  rw [ek hk, lg_cmp_s]
  refine lv_if_eq (tgt := 1059) hx hb dL_law_1054 (by decide) (fun _ => ?_) (fun c => absurd rfl c)
  refine lv_goto (tgt := 2684) hx hb dL_law_1059 (by decide) ?_
  exact K S1 M1 x1 d _ _ _ _ _ rr hP hS (lv_sub hl [2, 3, 4, 5, 6, 7] rfl) (by show cl + 1 + 0 + 0 ≤ _; omega) (by show sl + 6 + 0 + 0 ≤ _; omega)
theorem lc_20 (X : gX p s m #[.ref b] c cL_law 10 "GranaryWatchLaw" (kR kTab kA)) (hXs : va_X b L xs s s.heap) (hbl : b < s.heap.size) (hb1 : s.heap.size ≤ b1) (hap : APJ b1 b2 o1 o2) (hl0 : l.stackTraces = false) (hnn : NNAN) (hn2 : NN2) (hn : 6 * n + 6 ≤ L) (hL : L ≤ 3072) (r : Rel S M) (hP : jP dC dI cg kA b1 b2 o1 o2 cL cD (S, M, x, d) s H) (hS : va_S (fun q => s.heap.size ≤ q) s.heap H locs) (hl : lv_has ls 10 [(5, .int (nI (6 * n))), (0, .ref b), (1, .ref (caOf b1 0)), (2, .ref (adOf b2 25)), (3, .ref o1), (4, .ref o2)]) (hcl : cl + 403 ≤ 601024) (hsl : sl + 3826 ≤ 7293034) (K : LK p l e s m below meth c Q dC dI cg kA b b1 b2 o1 o2 n cL cD cl sl) : W p l e room_1 s m #[.ref b] below meth c H locs cl sl Q (F0 m 1062 ls []) := by
  have hx := X.hx
  have hb := X.hb
  have hz := hS.1
  have hb2 : s.heap.size ≤ b2 := by
    have := hap.1
    omega
  refine lv_aload_n hx hb dL_law_1062 rfl (lv_at hl 2 rfl) ?_
  refine lv_aload_n hx hb dL_law_1063 rfl (lv_at hl 1 rfl) ?_
  refine lv_iload hx hb dL_law_1064 (lv_at hl 0 rfl) ?_
  refine lv_iconst (v := 1) hx hb dL_law_1066 (by decide) ?_
  refine lv_iadd hx hb dL_law_1067 ?_
  rw [show nI (6 * n) + (1 : Int32) = nI (6 * n + 1) from nI_k]
  refine va_sld hx hb hXs hbl (Nat.not_le.mpr hbl) hS (sin hn hL (by decide)) dL_law_1068 ?_
  refine lv_aload_n hx hb dL_law_1069 rfl (lv_at hl 4 rfl) ?_
  obtain ⟨y, S1, M1, x1, e2, rr, ek, hM⟩ := xw_miceIn (dC := dC) (dI := dI) (cg := cg) (kA := kA) (cL := cL) (cD := cD) (x := x) (d := d) hl0 hap r (xs (nI (6 * n + 1)).toNatClampNeg)
  refine gCallX X jOK hM (vx_cwSW 3 X.hts (gT_X tw1388 tw1389 tw0 tw1390) rfl rfl rfl ⟨by decide, by decide, by decide +kernel⟩ ⟨Nat.le_of_ble_eq_true rfl, Nat.le_of_ble_eq_true rfl⟩) rfl hP hS (jA4 hap hb1 hS.1) hl.1 (Nat.le_of_ble_eq_true rfl) ⟨by show cl + 1 ≤ 601024; omega, by show sl + 6 ≤ 7293034; omega⟩ dL_law_1070 (As := [.ref (caOf b1 0), .int (xs (nI (6 * n + 1)).toNatClampNeg), .ref o1]) (rest := []) rfl (fun H locs hP hS => ?_)
  refine lv_istore (lv' := [(6, .int (M1.1 7)), (5, .int (nI (6 * n))), (0, .ref b), (1, .ref (caOf b1 0)), (2, .ref (adOf b2 25)), (3, .ref o1), (4, .ref o2)]) hx hb dL_law_1073 hl (by decide) rfl (fun ls hl => ?_)
  refine lv_aload_n hx hb dL_law_1075 rfl (lv_at hl 4 rfl) ?_
  refine lv_aload_n hx hb dL_law_1076 rfl (lv_at hl 2 rfl) ?_
  refine lv_iload hx hb dL_law_1077 (lv_at hl 1 rfl) ?_
  refine lv_iconst (v := 1) hx hb dL_law_1079 (by decide) ?_
  refine lv_iadd hx hb dL_law_1080 ?_
  rw [show nI (6 * n) + (1 : Int32) = nI (6 * n + 1) from nI_k]
  refine va_sld hx hb hXs hbl (Nat.not_le.mpr hbl) hS (sin hn hL (by decide)) dL_law_1081 ?_
  refine gCallWI X (gF_ok mOK (fsM hap)) ((gMetIA.of (vX11_miceIn e2)).lift (fsM hap)) (cwV 1 X.hts (gT_V tw2119 tw2120 tw2121 tw31 tw2122) rfl rfl rfl ⟨rfl, by decide, by decide, by decide +kernel⟩ ⟨Nat.le_of_ble_eq_true rfl, Nat.le_of_ble_eq_true rfl⟩) rfl (j_fm hP) hS (jA3 hb2 hS.1) (mrec hP.2.1) hl.1 (Nat.le_of_ble_eq_true rfl) ⟨by show cl + 1 + 0 ≤ 601024; omega, by show sl + 6 + 0 ≤ 7293034; omega⟩ dL_law_1082 (As := [.int (xs (nI (6 * n + 1)).toNatClampNeg)]) (rest := []) rfl (fun H locs hP hS => ?_)
  have hP := j_of hP
  refine lv_istore (lv' := [(7, .int y), (6, .int (M1.1 7)), (5, .int (nI (6 * n))), (0, .ref b), (1, .ref (caOf b1 0)), (2, .ref (adOf b2 25)), (3, .ref o1), (4, .ref o2)]) hx hb dL_law_1085 hl (by decide) rfl (fun ls hl => ?_)
  refine lv_aload_n hx hb dL_law_1087 rfl (lv_at hl 5 rfl) ?_
  refine gCallWI X (gF_ok mOK (fsM hap)) ((gMetR_IA mOK (vX11_thrown (M := M1) (r := M1.1 7) rfl)).lift (fsM hap)) (cwV 0 X.hts (gT_V tw1741 tw1742 tw1743 tw31 tw1744) rfl rfl rfl ⟨rfl, by decide, by decide, by decide +kernel⟩ ⟨Nat.le_of_ble_eq_true rfl, Nat.le_of_ble_eq_true rfl⟩) rfl (j_fm hP) hS (jA3 hb2 hS.1) (mrec hP.2.1) hl.1 (Nat.le_of_ble_eq_true rfl) ⟨by show cl + 1 + 0 + 0 ≤ 601024; omega, by show sl + 6 + 0 + 0 ≤ 7293034; omega⟩ dL_law_1088 (As := []) (rest := []) rfl (fun H locs hP hS => ?_)
  have hP := j_of hP
  refine lv_iload hx hb dL_law_1091 (lv_at hl 1 rfl) ?_
  refine lv_icmp_eq (tgt := 1098) hx hb dL_law_1093 (by decide) (fun _ => ?_) (fun c => absurd rfl c)
  refine lv_iload hx hb dL_law_1098 (lv_at hl 1 rfl) ?_
  refine lv_if_ne (tgt := 1115) hx hb dL_law_1100 (by decide) (fun _ => ?_) (fun hk => ?_)
  · refine lv_goto (tgt := 2684) hx hb dL_law_1115 (by decide) ?_
    exact K S1 M1 x1 d _ _ _ _ _ rr hP hS (lv_sub hl [2, 3, 4, 5, 6, 7] rfl) (by show cl + 1 + 0 + 0 ≤ _; omega) (by show sl + 6 + 0 + 0 ≤ _; omega)
  have hk : M1.1 7 = 0 := hk
  refine lv_aload_n hx hb dL_law_1103 rfl (lv_at hl 6 rfl) ?_
  refine lv_iconst (v := 0) hx hb dL_law_1104 (by decide) ?_
  refine j_lald (S := S1) (M := M1) (x := x1) (d := d) X hP dL_law_1105 ?_
  refine lv_iload hx hb dL_law_1106 (lv_at hl 0 rfl) ?_
  refine lv_i2l hx hb dL_law_1108 rfl ?_
  refine W.lcmp hx hb dL_law_1109 ?_
  rw [ek hk, lg_cmp_s]
  refine lv_if_eq (tgt := 1115) hx hb dL_law_1110 (by decide) (fun _ => ?_) (fun c => absurd rfl c)
  refine lv_goto (tgt := 2684) hx hb dL_law_1115 (by decide) ?_
  exact K S1 M1 x1 d _ _ _ _ _ rr hP hS (lv_sub hl [2, 3, 4, 5, 6, 7] rfl) (by show cl + 1 + 0 + 0 ≤ _; omega) (by show sl + 6 + 0 + 0 ≤ _; omega)
theorem lc_21 (X : gX p s m #[.ref b] c cL_law 10 "GranaryWatchLaw" (kR kTab kA)) (hXs : va_X b L xs s s.heap) (hbl : b < s.heap.size) (hb1 : s.heap.size ≤ b1) (hap : APJ b1 b2 o1 o2) (hl0 : l.stackTraces = false) (hnn : NNAN) (hn2 : NN2) (hn : 6 * n + 6 ≤ L) (hL : L ≤ 3072) (r : Rel S M) (hP : jP dC dI cg kA b1 b2 o1 o2 cL cD (S, M, x, d) s H) (hS : va_S (fun q => s.heap.size ≤ q) s.heap H locs) (hl : lv_has ls 10 [(5, .int (nI (6 * n))), (0, .ref b), (1, .ref (caOf b1 0)), (2, .ref (adOf b2 25)), (3, .ref o1), (4, .ref o2)]) (hcl : cl + 403 ≤ 601024) (hsl : sl + 3826 ≤ 7293034) (K : LK p l e s m below meth c Q dC dI cg kA b b1 b2 o1 o2 n cL cD cl sl) : W p l e room_1 s m #[.ref b] below meth c H locs cl sl Q (F0 m 1118 ls []) := by
  have hx := X.hx
  have hb := X.hb
  have hz := hS.1
  have hb2 : s.heap.size ≤ b2 := by
    have := hap.1
    omega
  refine lv_aload_n hx hb dL_law_1118 rfl (lv_at hl 2 rfl) ?_
  refine lv_aload_n hx hb dL_law_1119 rfl (lv_at hl 1 rfl) ?_
  refine lv_iload hx hb dL_law_1120 (lv_at hl 0 rfl) ?_
  refine lv_iconst (v := 1) hx hb dL_law_1122 (by decide) ?_
  refine lv_iadd hx hb dL_law_1123 ?_
  rw [show nI (6 * n) + (1 : Int32) = nI (6 * n + 1) from nI_k]
  refine va_sld hx hb hXs hbl (Nat.not_le.mpr hbl) hS (sin hn hL (by decide)) dL_law_1124 ?_
  refine lv_aload_n hx hb dL_law_1125 rfl (lv_at hl 4 rfl) ?_
  obtain ⟨y, S1, M1, x1, e2, rr, ek, hM⟩ := xw_isOpen (dC := dC) (dI := dI) (cg := cg) (kA := kA) (cL := cL) (cD := cD) (x := x) (d := d) hl0 hap r (xs (nI (6 * n + 1)).toNatClampNeg)
  refine gCallX X jOK hM (vx_cwSW 3 X.hts (gT_X tw1395 tw1396 tw0 tw1397) rfl rfl rfl ⟨by decide, by decide, by decide +kernel⟩ ⟨Nat.le_of_ble_eq_true rfl, Nat.le_of_ble_eq_true rfl⟩) rfl hP hS (jA4 hap hb1 hS.1) hl.1 (Nat.le_of_ble_eq_true rfl) ⟨by show cl + 1 ≤ 601024; omega, by show sl + 6 ≤ 7293034; omega⟩ dL_law_1126 (As := [.ref (caOf b1 0), .int (xs (nI (6 * n + 1)).toNatClampNeg), .ref o1]) (rest := []) rfl (fun H locs hP hS => ?_)
  refine lv_istore (lv' := [(6, .int (M1.1 7)), (5, .int (nI (6 * n))), (0, .ref b), (1, .ref (caOf b1 0)), (2, .ref (adOf b2 25)), (3, .ref o1), (4, .ref o2)]) hx hb dL_law_1129 hl (by decide) rfl (fun ls hl => ?_)
  refine lv_aload_n hx hb dL_law_1131 rfl (lv_at hl 4 rfl) ?_
  refine lv_aload_n hx hb dL_law_1132 rfl (lv_at hl 2 rfl) ?_
  refine lv_iload hx hb dL_law_1133 (lv_at hl 1 rfl) ?_
  refine lv_iconst (v := 1) hx hb dL_law_1135 (by decide) ?_
  refine lv_iadd hx hb dL_law_1136 ?_
  rw [show nI (6 * n) + (1 : Int32) = nI (6 * n + 1) from nI_k]
  refine va_sld hx hb hXs hbl (Nat.not_le.mpr hbl) hS (sin hn hL (by decide)) dL_law_1137 ?_
  refine gCallWI X (gF_ok mOK (fsM hap)) ((gMetIA.of (vX11_isOpen e2)).lift (fsM hap)) (cwV 1 X.hts (gT_V tw2143 tw2144 tw2145 tw31 tw2146) rfl rfl rfl ⟨rfl, by decide, by decide, by decide +kernel⟩ ⟨Nat.le_of_ble_eq_true rfl, Nat.le_of_ble_eq_true rfl⟩) rfl (j_fm hP) hS (jA3 hb2 hS.1) (mrec hP.2.1) hl.1 (Nat.le_of_ble_eq_true rfl) ⟨by show cl + 1 + 0 ≤ 601024; omega, by show sl + 6 + 0 ≤ 7293034; omega⟩ dL_law_1138 (As := [.int (xs (nI (6 * n + 1)).toNatClampNeg)]) (rest := []) rfl (fun H locs hP hS => ?_)
  have hP := j_of hP
  refine lv_istore (lv' := [(7, .int y), (6, .int (M1.1 7)), (5, .int (nI (6 * n))), (0, .ref b), (1, .ref (caOf b1 0)), (2, .ref (adOf b2 25)), (3, .ref o1), (4, .ref o2)]) hx hb dL_law_1141 hl (by decide) rfl (fun ls hl => ?_)
  refine lv_aload_n hx hb dL_law_1143 rfl (lv_at hl 5 rfl) ?_
  refine gCallWI X (gF_ok mOK (fsM hap)) ((gMetR_IA mOK (vX11_thrown (M := M1) (r := M1.1 7) rfl)).lift (fsM hap)) (cwV 0 X.hts (gT_V tw1741 tw1742 tw1743 tw31 tw1744) rfl rfl rfl ⟨rfl, by decide, by decide, by decide +kernel⟩ ⟨Nat.le_of_ble_eq_true rfl, Nat.le_of_ble_eq_true rfl⟩) rfl (j_fm hP) hS (jA3 hb2 hS.1) (mrec hP.2.1) hl.1 (Nat.le_of_ble_eq_true rfl) ⟨by show cl + 1 + 0 + 0 ≤ 601024; omega, by show sl + 6 + 0 + 0 ≤ 7293034; omega⟩ dL_law_1144 (As := []) (rest := []) rfl (fun H locs hP hS => ?_)
  have hP := j_of hP
  refine lv_iload hx hb dL_law_1147 (lv_at hl 1 rfl) ?_
  refine lv_icmp_eq (tgt := 1154) hx hb dL_law_1149 (by decide) (fun _ => ?_) (fun c => absurd rfl c)
  refine lv_iload hx hb dL_law_1154 (lv_at hl 1 rfl) ?_
  refine lv_if_ne (tgt := 1178) hx hb dL_law_1156 (by decide) (fun _ => ?_) (fun hk => ?_)
  · refine lv_goto (tgt := 2684) hx hb dL_law_1178 (by decide) ?_
    exact K S1 M1 x1 d _ _ _ _ _ rr hP hS (lv_sub hl [2, 3, 4, 5, 6, 7] rfl) (by show cl + 1 + 0 + 0 ≤ _; omega) (by show sl + 6 + 0 + 0 ≤ _; omega)
  have hk : M1.1 7 = 0 := hk
  refine lv_aload_n hx hb dL_law_1159 rfl (lv_at hl 6 rfl) ?_
  refine lv_iconst (v := 0) hx hb dL_law_1160 (by decide) ?_
  refine j_lald (S := S1) (M := M1) (x := x1) (d := d) X hP dL_law_1161 ?_
  refine lv_iload hx hb dL_law_1162 (lv_at hl 0 rfl) ?_
  refine lv_if_eq (tgt := 1171) hx hb dL_law_1164 (by decide) (fun hy => ?_) (fun hy => ?_)
  · refine lv_lconst (v := 0) hx hb dL_law_1171 (by decide) ?_
    refine W.lcmp hx hb dL_law_1172 ?_
    rw [ek hk, if_pos hy, lg_cmp_s]
    refine lv_if_eq (tgt := 1178) hx hb dL_law_1173 (by decide) (fun _ => ?_) (fun c => absurd rfl c)
    refine lv_goto (tgt := 2684) hx hb dL_law_1178 (by decide) ?_
    exact K S1 M1 x1 d _ _ _ _ _ rr hP hS (lv_sub hl [2, 3, 4, 5, 6, 7] rfl) (by show cl + 1 + 0 + 0 ≤ _; omega) (by show sl + 6 + 0 + 0 ≤ _; omega)
  · refine lv_lconst (v := 1) hx hb dL_law_1167 (by decide) ?_
    refine lv_goto (tgt := 1172) hx hb dL_law_1168 (by decide) ?_
    refine W.lcmp hx hb dL_law_1172 ?_
    rw [ek hk, if_neg hy, lg_cmp_s]
    refine lv_if_eq (tgt := 1178) hx hb dL_law_1173 (by decide) (fun _ => ?_) (fun c => absurd rfl c)
    refine lv_goto (tgt := 2684) hx hb dL_law_1178 (by decide) ?_
    exact K S1 M1 x1 d _ _ _ _ _ rr hP hS (lv_sub hl [2, 3, 4, 5, 6, 7] rfl) (by show cl + 1 + 0 + 0 ≤ _; omega) (by show sl + 6 + 0 + 0 ≤ _; omega)
theorem lc_22 (X : gX p s m #[.ref b] c cL_law 10 "GranaryWatchLaw" (kR kTab kA)) (hXs : va_X b L xs s s.heap) (hbl : b < s.heap.size) (hb1 : s.heap.size ≤ b1) (hap : APJ b1 b2 o1 o2) (hl0 : l.stackTraces = false) (hnn : NNAN) (hn2 : NN2) (hn : 6 * n + 6 ≤ L) (hL : L ≤ 3072) (r : Rel S M) (hP : jP dC dI cg kA b1 b2 o1 o2 cL cD (S, M, x, d) s H) (hS : va_S (fun q => s.heap.size ≤ q) s.heap H locs) (hl : lv_has ls 10 [(5, .int (nI (6 * n))), (0, .ref b), (1, .ref (caOf b1 0)), (2, .ref (adOf b2 25)), (3, .ref o1), (4, .ref o2)]) (hcl : cl + 403 ≤ 601024) (hsl : sl + 3826 ≤ 7293034) (K : LK p l e s m below meth c Q dC dI cg kA b b1 b2 o1 o2 n cL cD cl sl) : W p l e room_1 s m #[.ref b] below meth c H locs cl sl Q (F0 m 1181 ls []) := by
  have hx := X.hx
  have hb := X.hb
  have hz := hS.1
  have hb2 : s.heap.size ≤ b2 := by
    have := hap.1
    omega
  refine lv_aload_n hx hb dL_law_1181 rfl (lv_at hl 2 rfl) ?_
  refine lv_aload_n hx hb dL_law_1182 rfl (lv_at hl 1 rfl) ?_
  refine lv_iload hx hb dL_law_1183 (lv_at hl 0 rfl) ?_
  refine lv_iconst (v := 1) hx hb dL_law_1185 (by decide) ?_
  refine lv_iadd hx hb dL_law_1186 ?_
  rw [show nI (6 * n) + (1 : Int32) = nI (6 * n + 1) from nI_k]
  refine va_sld hx hb hXs hbl (Nat.not_le.mpr hbl) hS (sin hn hL (by decide)) dL_law_1187 ?_
  refine lv_aload_n hx hb dL_law_1188 rfl (lv_at hl 4 rfl) ?_
  obtain ⟨y, S1, M1, x1, e2, rr, ek, hM⟩ := xw_eatenFrom (dC := dC) (dI := dI) (cg := cg) (kA := kA) (cL := cL) (cD := cD) (x := x) (d := d) hl0 hap r (xs (nI (6 * n + 1)).toNatClampNeg)
  refine gCallX X jOK hM (vx_cwSW 3 X.hts (gT_X tw1402 tw1403 tw0 tw1404) rfl rfl rfl ⟨by decide, by decide, by decide +kernel⟩ ⟨Nat.le_of_ble_eq_true rfl, Nat.le_of_ble_eq_true rfl⟩) rfl hP hS (jA4 hap hb1 hS.1) hl.1 (Nat.le_of_ble_eq_true rfl) ⟨by show cl + 1 ≤ 601024; omega, by show sl + 6 ≤ 7293034; omega⟩ dL_law_1189 (As := [.ref (caOf b1 0), .int (xs (nI (6 * n + 1)).toNatClampNeg), .ref o1]) (rest := []) rfl (fun H locs hP hS => ?_)
  refine lv_istore (lv' := [(6, .int (M1.1 7)), (5, .int (nI (6 * n))), (0, .ref b), (1, .ref (caOf b1 0)), (2, .ref (adOf b2 25)), (3, .ref o1), (4, .ref o2)]) hx hb dL_law_1192 hl (by decide) rfl (fun ls hl => ?_)
  refine lv_aload_n hx hb dL_law_1194 rfl (lv_at hl 4 rfl) ?_
  refine lv_aload_n hx hb dL_law_1195 rfl (lv_at hl 2 rfl) ?_
  refine lv_iload hx hb dL_law_1196 (lv_at hl 1 rfl) ?_
  refine lv_iconst (v := 1) hx hb dL_law_1198 (by decide) ?_
  refine lv_iadd hx hb dL_law_1199 ?_
  rw [show nI (6 * n) + (1 : Int32) = nI (6 * n + 1) from nI_k]
  refine va_sld hx hb hXs hbl (Nat.not_le.mpr hbl) hS (sin hn hL (by decide)) dL_law_1200 ?_
  refine gCallWI X (gF_ok mOK (fsM hap)) ((gMetIA.of (vX11_eatenFrom e2)).lift (fsM hap)) (cwV 1 X.hts (gT_V tw2123 tw2124 tw2125 tw31 tw2126) rfl rfl rfl ⟨rfl, by decide, by decide, by decide +kernel⟩ ⟨Nat.le_of_ble_eq_true rfl, Nat.le_of_ble_eq_true rfl⟩) rfl (j_fm hP) hS (jA3 hb2 hS.1) (mrec hP.2.1) hl.1 (Nat.le_of_ble_eq_true rfl) ⟨by show cl + 1 + 0 ≤ 601024; omega, by show sl + 6 + 0 ≤ 7293034; omega⟩ dL_law_1201 (As := [.int (xs (nI (6 * n + 1)).toNatClampNeg)]) (rest := []) rfl (fun H locs hP hS => ?_)
  have hP := j_of hP
  refine lv_istore (lv' := [(7, .int y), (6, .int (M1.1 7)), (5, .int (nI (6 * n))), (0, .ref b), (1, .ref (caOf b1 0)), (2, .ref (adOf b2 25)), (3, .ref o1), (4, .ref o2)]) hx hb dL_law_1204 hl (by decide) rfl (fun ls hl => ?_)
  refine lv_aload_n hx hb dL_law_1206 rfl (lv_at hl 5 rfl) ?_
  refine gCallWI X (gF_ok mOK (fsM hap)) ((gMetR_IA mOK (vX11_thrown (M := M1) (r := M1.1 7) rfl)).lift (fsM hap)) (cwV 0 X.hts (gT_V tw1741 tw1742 tw1743 tw31 tw1744) rfl rfl rfl ⟨rfl, by decide, by decide, by decide +kernel⟩ ⟨Nat.le_of_ble_eq_true rfl, Nat.le_of_ble_eq_true rfl⟩) rfl (j_fm hP) hS (jA3 hb2 hS.1) (mrec hP.2.1) hl.1 (Nat.le_of_ble_eq_true rfl) ⟨by show cl + 1 + 0 + 0 ≤ 601024; omega, by show sl + 6 + 0 + 0 ≤ 7293034; omega⟩ dL_law_1207 (As := []) (rest := []) rfl (fun H locs hP hS => ?_)
  have hP := j_of hP
  refine lv_iload hx hb dL_law_1210 (lv_at hl 1 rfl) ?_
  refine lv_icmp_eq (tgt := 1217) hx hb dL_law_1212 (by decide) (fun _ => ?_) (fun c => absurd rfl c)
  refine lv_iload hx hb dL_law_1217 (lv_at hl 1 rfl) ?_
  refine lv_if_ne (tgt := 1234) hx hb dL_law_1219 (by decide) (fun _ => ?_) (fun hk => ?_)
  · refine lv_goto (tgt := 2684) hx hb dL_law_1234 (by decide) ?_
    exact K S1 M1 x1 d _ _ _ _ _ rr hP hS (lv_sub hl [2, 3, 4, 5, 6, 7] rfl) (by show cl + 1 + 0 + 0 ≤ _; omega) (by show sl + 6 + 0 + 0 ≤ _; omega)
  have hk : M1.1 7 = 0 := hk
  refine lv_aload_n hx hb dL_law_1222 rfl (lv_at hl 6 rfl) ?_
  refine lv_iconst (v := 0) hx hb dL_law_1223 (by decide) ?_
  refine j_lald (S := S1) (M := M1) (x := x1) (d := d) X hP dL_law_1224 ?_
  refine lv_iload hx hb dL_law_1225 (lv_at hl 0 rfl) ?_
  refine lv_i2l hx hb dL_law_1227 rfl ?_
  refine W.lcmp hx hb dL_law_1228 ?_
  rw [ek hk, lg_cmp_s]
  refine lv_if_eq (tgt := 1234) hx hb dL_law_1229 (by decide) (fun _ => ?_) (fun c => absurd rfl c)
  refine lv_goto (tgt := 2684) hx hb dL_law_1234 (by decide) ?_
  exact K S1 M1 x1 d _ _ _ _ _ rr hP hS (lv_sub hl [2, 3, 4, 5, 6, 7] rfl) (by show cl + 1 + 0 + 0 ≤ _; omega) (by show sl + 6 + 0 + 0 ≤ _; omega)
theorem lc_23 (X : gX p s m #[.ref b] c cL_law 10 "GranaryWatchLaw" (kR kTab kA)) (hXs : va_X b L xs s s.heap) (hbl : b < s.heap.size) (hb1 : s.heap.size ≤ b1) (hap : APJ b1 b2 o1 o2) (hl0 : l.stackTraces = false) (hnn : NNAN) (hn2 : NN2) (hn : 6 * n + 6 ≤ L) (hL : L ≤ 3072) (r : Rel S M) (hP : jP dC dI cg kA b1 b2 o1 o2 cL cD (S, M, x, d) s H) (hS : va_S (fun q => s.heap.size ≤ q) s.heap H locs) (hl : lv_has ls 10 [(5, .int (nI (6 * n))), (0, .ref b), (1, .ref (caOf b1 0)), (2, .ref (adOf b2 25)), (3, .ref o1), (4, .ref o2)]) (hcl : cl + 403 ≤ 601024) (hsl : sl + 3826 ≤ 7293034) (K : LK p l e s m below meth c Q dC dI cg kA b b1 b2 o1 o2 n cL cD cl sl) : W p l e room_1 s m #[.ref b] below meth c H locs cl sl Q (F0 m 1237 ls []) := by
  have hx := X.hx
  have hb := X.hb
  have hz := hS.1
  have hb2 : s.heap.size ≤ b2 := by
    have := hap.1
    omega
  refine lv_aload_n hx hb dL_law_1237 rfl (lv_at hl 2 rfl) ?_
  obtain ⟨y, M1, e1, e2, rr, e7⟩ := q_swornCat r 
  refine gCallWI X (gF_ok cOK (fsC hap)) ((gMetR_IA cOK (vX10_swornCat e1)).lift (fsC hap)) (cwV 0 X.hts (gT_V tw1168 tw1169 tw1170 tw1 tw1171) rfl rfl rfl ⟨rfl, by decide, by decide, by decide +kernel⟩ ⟨Nat.le_of_ble_eq_true rfl, Nat.le_of_ble_eq_true rfl⟩) rfl hP hS (jA2 hb1 hS.1) (cr_rec hP.1 (rfl : kc 0 = 0) rfl cw0 rfl) hl.1 (Nat.le_of_ble_eq_true rfl) ⟨by show cl + 0 ≤ 601024; omega, by show sl + 0 ≤ 7293034; omega⟩ dL_law_1238 (As := []) (rest := []) rfl (fun H locs hP hS => ?_)
  have hP : jP dC dI cg kA b1 b2 o1 o2 cL cD (S, M, x, d) s H := hP
  refine lv_aload_n hx hb dL_law_1241 rfl (lv_at hl 3 rfl) ?_
  refine gCallWI X (gF_ok mOK (fsM hap)) ((gMetIA.of (vX11_swornCat e2)).lift (fsM hap)) (cwV 0 X.hts (gT_V tw2031 tw2032 tw2033 tw31 tw2034) rfl rfl rfl ⟨rfl, by decide, by decide, by decide +kernel⟩ ⟨Nat.le_of_ble_eq_true rfl, Nat.le_of_ble_eq_true rfl⟩) rfl (j_fm hP) hS (jA3 hb2 hS.1) (mrec hP.2.1) hl.1 (Nat.le_of_ble_eq_true rfl) ⟨by show cl + 0 + 0 ≤ 601024; omega, by show sl + 0 + 0 ≤ 7293034; omega⟩ dL_law_1242 (As := []) (rest := [.int y]) rfl (fun H locs hP hS => ?_)
  have hP := j_of hP
  refine lv_icmp_eq (tgt := 2684) hx hb dL_law_1245 (by decide) (fun _ => ?_) (fun c => absurd rfl c)
  exact K S M1 x d _ _ _ _ _ rr hP hS hl (by show cl + 0 + 0 ≤ _; omega) (by show sl + 0 + 0 ≤ _; omega)
theorem lc_24 (X : gX p s m #[.ref b] c cL_law 10 "GranaryWatchLaw" (kR kTab kA)) (hXs : va_X b L xs s s.heap) (hbl : b < s.heap.size) (hb1 : s.heap.size ≤ b1) (hap : APJ b1 b2 o1 o2) (hl0 : l.stackTraces = false) (hnn : NNAN) (hn2 : NN2) (hn : 6 * n + 6 ≤ L) (hL : L ≤ 3072) (r : Rel S M) (hP : jP dC dI cg kA b1 b2 o1 o2 cL cD (S, M, x, d) s H) (hS : va_S (fun q => s.heap.size ≤ q) s.heap H locs) (hl : lv_has ls 10 [(5, .int (nI (6 * n))), (0, .ref b), (1, .ref (caOf b1 0)), (2, .ref (adOf b2 25)), (3, .ref o1), (4, .ref o2)]) (hcl : cl + 403 ≤ 601024) (hsl : sl + 3826 ≤ 7293034) (K : LK p l e s m below meth c Q dC dI cg kA b b1 b2 o1 o2 n cL cD cl sl) : W p l e room_1 s m #[.ref b] below meth c H locs cl sl Q (F0 m 1250 ls []) := by
  have hx := X.hx
  have hb := X.hb
  have hz := hS.1
  have hb2 : s.heap.size ≤ b2 := by
    have := hap.1
    omega
  refine lv_aload_n hx hb dL_law_1250 rfl (lv_at hl 2 rfl) ?_
  obtain ⟨y, M1, e1, e2, rr, e7⟩ := q_currentShift r 
  refine gCallWI X (gF_ok cOK (fsC hap)) ((gMetR_IA cOK (vX10_currentShift e1)).lift (fsC hap)) (cwV 0 X.hts (gT_V tw1172 tw1173 tw1174 tw1 tw1175) rfl rfl rfl ⟨rfl, by decide, by decide, by decide +kernel⟩ ⟨Nat.le_of_ble_eq_true rfl, Nat.le_of_ble_eq_true rfl⟩) rfl hP hS (jA2 hb1 hS.1) (cr_rec hP.1 (rfl : kc 0 = 0) rfl cw0 rfl) hl.1 (Nat.le_of_ble_eq_true rfl) ⟨by show cl + 0 ≤ 601024; omega, by show sl + 0 ≤ 7293034; omega⟩ dL_law_1251 (As := []) (rest := []) rfl (fun H locs hP hS => ?_)
  have hP : jP dC dI cg kA b1 b2 o1 o2 cL cD (S, M, x, d) s H := hP
  refine lv_aload_n hx hb dL_law_1254 rfl (lv_at hl 3 rfl) ?_
  refine gCallWI X (gF_ok mOK (fsM hap)) ((gMetIA.of (vX11_currentShift e2)).lift (fsM hap)) (cwV 0 X.hts (gT_V tw2035 tw2036 tw2037 tw31 tw2038) rfl rfl rfl ⟨rfl, by decide, by decide, by decide +kernel⟩ ⟨Nat.le_of_ble_eq_true rfl, Nat.le_of_ble_eq_true rfl⟩) rfl (j_fm hP) hS (jA3 hb2 hS.1) (mrec hP.2.1) hl.1 (Nat.le_of_ble_eq_true rfl) ⟨by show cl + 0 + 0 ≤ 601024; omega, by show sl + 0 + 0 ≤ 7293034; omega⟩ dL_law_1255 (As := []) (rest := [.int y]) rfl (fun H locs hP hS => ?_)
  have hP := j_of hP
  refine lv_icmp_eq (tgt := 2684) hx hb dL_law_1258 (by decide) (fun _ => ?_) (fun c => absurd rfl c)
  exact K S M1 x d _ _ _ _ _ rr hP hS hl (by show cl + 0 + 0 ≤ _; omega) (by show sl + 0 + 0 ≤ _; omega)
theorem lc_25 (X : gX p s m #[.ref b] c cL_law 10 "GranaryWatchLaw" (kR kTab kA)) (hXs : va_X b L xs s s.heap) (hbl : b < s.heap.size) (hb1 : s.heap.size ≤ b1) (hap : APJ b1 b2 o1 o2) (hl0 : l.stackTraces = false) (hnn : NNAN) (hn2 : NN2) (hn : 6 * n + 6 ≤ L) (hL : L ≤ 3072) (r : Rel S M) (hP : jP dC dI cg kA b1 b2 o1 o2 cL cD (S, M, x, d) s H) (hS : va_S (fun q => s.heap.size ≤ q) s.heap H locs) (hl : lv_has ls 10 [(5, .int (nI (6 * n))), (0, .ref b), (1, .ref (caOf b1 0)), (2, .ref (adOf b2 25)), (3, .ref o1), (4, .ref o2)]) (hcl : cl + 403 ≤ 601024) (hsl : sl + 3826 ≤ 7293034) (K : LK p l e s m below meth c Q dC dI cg kA b b1 b2 o1 o2 n cL cD cl sl) : W p l e room_1 s m #[.ref b] below meth c H locs cl sl Q (F0 m 1263 ls []) := by
  have hx := X.hx
  have hb := X.hb
  have hz := hS.1
  have hb2 : s.heap.size ≤ b2 := by
    have := hap.1
    omega
  refine lv_aload_n hx hb dL_law_1263 rfl (lv_at hl 2 rfl) ?_
  obtain ⟨y, M1, e1, e2, rr, e7⟩ := q_hoursLeft r 
  refine gCallWI X (gF_ok cOK (fsC hap)) ((gMetR_IA cOK (vX10_hoursLeft e1)).lift (fsC hap)) (cwV 0 X.hts (gT_V tw1176 tw1177 tw1178 tw1 tw1179) rfl rfl rfl ⟨rfl, by decide, by decide, by decide +kernel⟩ ⟨Nat.le_of_ble_eq_true rfl, Nat.le_of_ble_eq_true rfl⟩) rfl hP hS (jA2 hb1 hS.1) (cr_rec hP.1 (rfl : kc 0 = 0) rfl cw0 rfl) hl.1 (Nat.le_of_ble_eq_true rfl) ⟨by show cl + 0 ≤ 601024; omega, by show sl + 0 ≤ 7293034; omega⟩ dL_law_1264 (As := []) (rest := []) rfl (fun H locs hP hS => ?_)
  have hP : jP dC dI cg kA b1 b2 o1 o2 cL cD (S, M, x, d) s H := hP
  refine lv_aload_n hx hb dL_law_1267 rfl (lv_at hl 3 rfl) ?_
  refine gCallWI X (gF_ok mOK (fsM hap)) ((gMetIA.of (vX11_hoursLeft e2)).lift (fsM hap)) (cwV 0 X.hts (gT_V tw2039 tw2040 tw2041 tw31 tw2042) rfl rfl rfl ⟨rfl, by decide, by decide, by decide +kernel⟩ ⟨Nat.le_of_ble_eq_true rfl, Nat.le_of_ble_eq_true rfl⟩) rfl (j_fm hP) hS (jA3 hb2 hS.1) (mrec hP.2.1) hl.1 (Nat.le_of_ble_eq_true rfl) ⟨by show cl + 0 + 0 ≤ 601024; omega, by show sl + 0 + 0 ≤ 7293034; omega⟩ dL_law_1268 (As := []) (rest := [.int y]) rfl (fun H locs hP hS => ?_)
  have hP := j_of hP
  refine lv_icmp_eq (tgt := 2684) hx hb dL_law_1271 (by decide) (fun _ => ?_) (fun c => absurd rfl c)
  exact K S M1 x d _ _ _ _ _ rr hP hS hl (by show cl + 0 + 0 ≤ _; omega) (by show sl + 0 + 0 ≤ _; omega)
theorem lc_26 (X : gX p s m #[.ref b] c cL_law 10 "GranaryWatchLaw" (kR kTab kA)) (hXs : va_X b L xs s s.heap) (hbl : b < s.heap.size) (hb1 : s.heap.size ≤ b1) (hap : APJ b1 b2 o1 o2) (hl0 : l.stackTraces = false) (hnn : NNAN) (hn2 : NN2) (hn : 6 * n + 6 ≤ L) (hL : L ≤ 3072) (r : Rel S M) (hP : jP dC dI cg kA b1 b2 o1 o2 cL cD (S, M, x, d) s H) (hS : va_S (fun q => s.heap.size ≤ q) s.heap H locs) (hl : lv_has ls 10 [(5, .int (nI (6 * n))), (0, .ref b), (1, .ref (caOf b1 0)), (2, .ref (adOf b2 25)), (3, .ref o1), (4, .ref o2)]) (hcl : cl + 403 ≤ 601024) (hsl : sl + 3826 ≤ 7293034) (K : LK p l e s m below meth c Q dC dI cg kA b b1 b2 o1 o2 n cL cD cl sl) : W p l e room_1 s m #[.ref b] below meth c H locs cl sl Q (F0 m 1276 ls []) := by
  have hx := X.hx
  have hb := X.hb
  have hz := hS.1
  have hb2 : s.heap.size ≤ b2 := by
    have := hap.1
    omega
  refine lv_aload_n hx hb dL_law_1276 rfl (lv_at hl 2 rfl) ?_
  refine lv_aload_n hx hb dL_law_1277 rfl (lv_at hl 1 rfl) ?_
  refine lv_iload hx hb dL_law_1278 (lv_at hl 0 rfl) ?_
  refine lv_iconst (v := 1) hx hb dL_law_1280 (by decide) ?_
  refine lv_iadd hx hb dL_law_1281 ?_
  rw [show nI (6 * n) + (1 : Int32) = nI (6 * n + 1) from nI_k]
  refine va_sld hx hb hXs hbl (Nat.not_le.mpr hbl) hS (sin hn hL (by decide)) dL_law_1282 ?_
  refine lv_aload_n hx hb dL_law_1283 rfl (lv_at hl 4 rfl) ?_
  obtain ⟨y, S1, M1, x1, e2, rr, ek, hM⟩ := xw_catOfShift (dC := dC) (dI := dI) (cg := cg) (kA := kA) (cL := cL) (cD := cD) (x := x) (d := d) hl0 hap r (xs (nI (6 * n + 1)).toNatClampNeg)
  refine gCallX X jOK hM (vx_cwSW 3 X.hts (gT_X tw1409 tw1410 tw0 tw1411) rfl rfl rfl ⟨by decide, by decide, by decide +kernel⟩ ⟨Nat.le_of_ble_eq_true rfl, Nat.le_of_ble_eq_true rfl⟩) rfl hP hS (jA4 hap hb1 hS.1) hl.1 (Nat.le_of_ble_eq_true rfl) ⟨by show cl + 1 ≤ 601024; omega, by show sl + 6 ≤ 7293034; omega⟩ dL_law_1284 (As := [.ref (caOf b1 0), .int (xs (nI (6 * n + 1)).toNatClampNeg), .ref o1]) (rest := []) rfl (fun H locs hP hS => ?_)
  refine lv_istore (lv' := [(6, .int (M1.1 7)), (5, .int (nI (6 * n))), (0, .ref b), (1, .ref (caOf b1 0)), (2, .ref (adOf b2 25)), (3, .ref o1), (4, .ref o2)]) hx hb dL_law_1287 hl (by decide) rfl (fun ls hl => ?_)
  refine lv_aload_n hx hb dL_law_1289 rfl (lv_at hl 4 rfl) ?_
  refine lv_aload_n hx hb dL_law_1290 rfl (lv_at hl 2 rfl) ?_
  refine lv_iload hx hb dL_law_1291 (lv_at hl 1 rfl) ?_
  refine lv_iconst (v := 1) hx hb dL_law_1293 (by decide) ?_
  refine lv_iadd hx hb dL_law_1294 ?_
  rw [show nI (6 * n) + (1 : Int32) = nI (6 * n + 1) from nI_k]
  refine va_sld hx hb hXs hbl (Nat.not_le.mpr hbl) hS (sin hn hL (by decide)) dL_law_1295 ?_
  refine gCallWI X (gF_ok mOK (fsM hap)) ((gMetIA.of (vX11_catOfShift e2)).lift (fsM hap)) (cwV 1 X.hts (gT_V tw2147 tw2148 tw2149 tw31 tw2150) rfl rfl rfl ⟨rfl, by decide, by decide, by decide +kernel⟩ ⟨Nat.le_of_ble_eq_true rfl, Nat.le_of_ble_eq_true rfl⟩) rfl (j_fm hP) hS (jA3 hb2 hS.1) (mrec hP.2.1) hl.1 (Nat.le_of_ble_eq_true rfl) ⟨by show cl + 1 + 0 ≤ 601024; omega, by show sl + 6 + 0 ≤ 7293034; omega⟩ dL_law_1296 (As := [.int (xs (nI (6 * n + 1)).toNatClampNeg)]) (rest := []) rfl (fun H locs hP hS => ?_)
  have hP := j_of hP
  refine lv_istore (lv' := [(7, .int y), (6, .int (M1.1 7)), (5, .int (nI (6 * n))), (0, .ref b), (1, .ref (caOf b1 0)), (2, .ref (adOf b2 25)), (3, .ref o1), (4, .ref o2)]) hx hb dL_law_1299 hl (by decide) rfl (fun ls hl => ?_)
  refine lv_aload_n hx hb dL_law_1301 rfl (lv_at hl 5 rfl) ?_
  refine gCallWI X (gF_ok mOK (fsM hap)) ((gMetR_IA mOK (vX11_thrown (M := M1) (r := M1.1 7) rfl)).lift (fsM hap)) (cwV 0 X.hts (gT_V tw1741 tw1742 tw1743 tw31 tw1744) rfl rfl rfl ⟨rfl, by decide, by decide, by decide +kernel⟩ ⟨Nat.le_of_ble_eq_true rfl, Nat.le_of_ble_eq_true rfl⟩) rfl (j_fm hP) hS (jA3 hb2 hS.1) (mrec hP.2.1) hl.1 (Nat.le_of_ble_eq_true rfl) ⟨by show cl + 1 + 0 + 0 ≤ 601024; omega, by show sl + 6 + 0 + 0 ≤ 7293034; omega⟩ dL_law_1302 (As := []) (rest := []) rfl (fun H locs hP hS => ?_)
  have hP := j_of hP
  refine lv_iload hx hb dL_law_1305 (lv_at hl 1 rfl) ?_
  refine lv_icmp_eq (tgt := 1312) hx hb dL_law_1307 (by decide) (fun _ => ?_) (fun c => absurd rfl c)
  refine lv_iload hx hb dL_law_1312 (lv_at hl 1 rfl) ?_
  refine lv_if_ne (tgt := 1329) hx hb dL_law_1314 (by decide) (fun _ => ?_) (fun hk => ?_)
  · refine lv_goto (tgt := 2684) hx hb dL_law_1329 (by decide) ?_
    exact K S1 M1 x1 d _ _ _ _ _ rr hP hS (lv_sub hl [2, 3, 4, 5, 6, 7] rfl) (by show cl + 1 + 0 + 0 ≤ _; omega) (by show sl + 6 + 0 + 0 ≤ _; omega)
  have hk : M1.1 7 = 0 := hk
  refine lv_aload_n hx hb dL_law_1317 rfl (lv_at hl 6 rfl) ?_
  refine lv_iconst (v := 0) hx hb dL_law_1318 (by decide) ?_
  refine j_lald (S := S1) (M := M1) (x := x1) (d := d) X hP dL_law_1319 ?_
  refine lv_iload hx hb dL_law_1320 (lv_at hl 0 rfl) ?_
  refine lv_i2l hx hb dL_law_1322 rfl ?_
  refine W.lcmp hx hb dL_law_1323 ?_
  rw [ek hk, lg_cmp_s]
  refine lv_if_eq (tgt := 1329) hx hb dL_law_1324 (by decide) (fun _ => ?_) (fun c => absurd rfl c)
  refine lv_goto (tgt := 2684) hx hb dL_law_1329 (by decide) ?_
  exact K S1 M1 x1 d _ _ _ _ _ rr hP hS (lv_sub hl [2, 3, 4, 5, 6, 7] rfl) (by show cl + 1 + 0 + 0 ≤ _; omega) (by show sl + 6 + 0 + 0 ≤ _; omega)
theorem lc_27 (X : gX p s m #[.ref b] c cL_law 10 "GranaryWatchLaw" (kR kTab kA)) (hXs : va_X b L xs s s.heap) (hbl : b < s.heap.size) (hb1 : s.heap.size ≤ b1) (hap : APJ b1 b2 o1 o2) (hl0 : l.stackTraces = false) (hnn : NNAN) (hn2 : NN2) (hn : 6 * n + 6 ≤ L) (hL : L ≤ 3072) (r : Rel S M) (hP : jP dC dI cg kA b1 b2 o1 o2 cL cD (S, M, x, d) s H) (hS : va_S (fun q => s.heap.size ≤ q) s.heap H locs) (hl : lv_has ls 10 [(5, .int (nI (6 * n))), (0, .ref b), (1, .ref (caOf b1 0)), (2, .ref (adOf b2 25)), (3, .ref o1), (4, .ref o2)]) (hcl : cl + 403 ≤ 601024) (hsl : sl + 3826 ≤ 7293034) (K : LK p l e s m below meth c Q dC dI cg kA b b1 b2 o1 o2 n cL cD cl sl) : W p l e room_1 s m #[.ref b] below meth c H locs cl sl Q (F0 m 1332 ls []) := by
  have hx := X.hx
  have hb := X.hb
  have hz := hS.1
  have hb2 : s.heap.size ≤ b2 := by
    have := hap.1
    omega
  refine lv_aload_n hx hb dL_law_1332 rfl (lv_at hl 2 rfl) ?_
  refine lv_aload_n hx hb dL_law_1333 rfl (lv_at hl 1 rfl) ?_
  refine lv_iload hx hb dL_law_1334 (lv_at hl 0 rfl) ?_
  refine lv_iconst (v := 1) hx hb dL_law_1336 (by decide) ?_
  refine lv_iadd hx hb dL_law_1337 ?_
  rw [show nI (6 * n) + (1 : Int32) = nI (6 * n + 1) from nI_k]
  refine va_sld hx hb hXs hbl (Nat.not_le.mpr hbl) hS (sin hn hL (by decide)) dL_law_1338 ?_
  refine lv_aload_n hx hb dL_law_1339 rfl (lv_at hl 4 rfl) ?_
  obtain ⟨y, S1, M1, x1, e2, rr, ek, hM⟩ := xw_hoursOfShift (dC := dC) (dI := dI) (cg := cg) (kA := kA) (cL := cL) (cD := cD) (x := x) (d := d) hl0 hap r (xs (nI (6 * n + 1)).toNatClampNeg)
  refine gCallX X jOK hM (vx_cwSW 3 X.hts (gT_X tw1421 tw1422 tw0 tw1423) rfl rfl rfl ⟨by decide, by decide, by decide +kernel⟩ ⟨Nat.le_of_ble_eq_true rfl, Nat.le_of_ble_eq_true rfl⟩) rfl hP hS (jA4 hap hb1 hS.1) hl.1 (Nat.le_of_ble_eq_true rfl) ⟨by show cl + 1 ≤ 601024; omega, by show sl + 6 ≤ 7293034; omega⟩ dL_law_1340 (As := [.ref (caOf b1 0), .int (xs (nI (6 * n + 1)).toNatClampNeg), .ref o1]) (rest := []) rfl (fun H locs hP hS => ?_)
  refine lv_istore (lv' := [(6, .int (M1.1 7)), (5, .int (nI (6 * n))), (0, .ref b), (1, .ref (caOf b1 0)), (2, .ref (adOf b2 25)), (3, .ref o1), (4, .ref o2)]) hx hb dL_law_1343 hl (by decide) rfl (fun ls hl => ?_)
  refine lv_aload_n hx hb dL_law_1345 rfl (lv_at hl 4 rfl) ?_
  refine lv_aload_n hx hb dL_law_1346 rfl (lv_at hl 2 rfl) ?_
  refine lv_iload hx hb dL_law_1347 (lv_at hl 1 rfl) ?_
  refine lv_iconst (v := 1) hx hb dL_law_1349 (by decide) ?_
  refine lv_iadd hx hb dL_law_1350 ?_
  rw [show nI (6 * n) + (1 : Int32) = nI (6 * n + 1) from nI_k]
  refine va_sld hx hb hXs hbl (Nat.not_le.mpr hbl) hS (sin hn hL (by decide)) dL_law_1351 ?_
  refine gCallWI X (gF_ok mOK (fsM hap)) ((gMetIA.of (vX11_hoursOfShift e2)).lift (fsM hap)) (cwV 1 X.hts (gT_V tw2155 tw2156 tw2157 tw31 tw2158) rfl rfl rfl ⟨rfl, by decide, by decide, by decide +kernel⟩ ⟨Nat.le_of_ble_eq_true rfl, Nat.le_of_ble_eq_true rfl⟩) rfl (j_fm hP) hS (jA3 hb2 hS.1) (mrec hP.2.1) hl.1 (Nat.le_of_ble_eq_true rfl) ⟨by show cl + 1 + 0 ≤ 601024; omega, by show sl + 6 + 0 ≤ 7293034; omega⟩ dL_law_1352 (As := [.int (xs (nI (6 * n + 1)).toNatClampNeg)]) (rest := []) rfl (fun H locs hP hS => ?_)
  have hP := j_of hP
  refine lv_istore (lv' := [(7, .int y), (6, .int (M1.1 7)), (5, .int (nI (6 * n))), (0, .ref b), (1, .ref (caOf b1 0)), (2, .ref (adOf b2 25)), (3, .ref o1), (4, .ref o2)]) hx hb dL_law_1355 hl (by decide) rfl (fun ls hl => ?_)
  refine lv_aload_n hx hb dL_law_1357 rfl (lv_at hl 5 rfl) ?_
  refine gCallWI X (gF_ok mOK (fsM hap)) ((gMetR_IA mOK (vX11_thrown (M := M1) (r := M1.1 7) rfl)).lift (fsM hap)) (cwV 0 X.hts (gT_V tw1741 tw1742 tw1743 tw31 tw1744) rfl rfl rfl ⟨rfl, by decide, by decide, by decide +kernel⟩ ⟨Nat.le_of_ble_eq_true rfl, Nat.le_of_ble_eq_true rfl⟩) rfl (j_fm hP) hS (jA3 hb2 hS.1) (mrec hP.2.1) hl.1 (Nat.le_of_ble_eq_true rfl) ⟨by show cl + 1 + 0 + 0 ≤ 601024; omega, by show sl + 6 + 0 + 0 ≤ 7293034; omega⟩ dL_law_1358 (As := []) (rest := []) rfl (fun H locs hP hS => ?_)
  have hP := j_of hP
  refine lv_iload hx hb dL_law_1361 (lv_at hl 1 rfl) ?_
  refine lv_icmp_eq (tgt := 1368) hx hb dL_law_1363 (by decide) (fun _ => ?_) (fun c => absurd rfl c)
  refine lv_iload hx hb dL_law_1368 (lv_at hl 1 rfl) ?_
  refine lv_if_ne (tgt := 1385) hx hb dL_law_1370 (by decide) (fun _ => ?_) (fun hk => ?_)
  · refine lv_goto (tgt := 2684) hx hb dL_law_1385 (by decide) ?_
    exact K S1 M1 x1 d _ _ _ _ _ rr hP hS (lv_sub hl [2, 3, 4, 5, 6, 7] rfl) (by show cl + 1 + 0 + 0 ≤ _; omega) (by show sl + 6 + 0 + 0 ≤ _; omega)
  have hk : M1.1 7 = 0 := hk
  refine lv_aload_n hx hb dL_law_1373 rfl (lv_at hl 6 rfl) ?_
  refine lv_iconst (v := 0) hx hb dL_law_1374 (by decide) ?_
  refine j_lald (S := S1) (M := M1) (x := x1) (d := d) X hP dL_law_1375 ?_
  refine lv_iload hx hb dL_law_1376 (lv_at hl 0 rfl) ?_
  refine lv_i2l hx hb dL_law_1378 rfl ?_
  refine W.lcmp hx hb dL_law_1379 ?_
  rw [ek hk, lg_cmp_s]
  refine lv_if_eq (tgt := 1385) hx hb dL_law_1380 (by decide) (fun _ => ?_) (fun c => absurd rfl c)
  refine lv_goto (tgt := 2684) hx hb dL_law_1385 (by decide) ?_
  exact K S1 M1 x1 d _ _ _ _ _ rr hP hS (lv_sub hl [2, 3, 4, 5, 6, 7] rfl) (by show cl + 1 + 0 + 0 ≤ _; omega) (by show sl + 6 + 0 + 0 ≤ _; omega)
theorem lc_28 (X : gX p s m #[.ref b] c cL_law 10 "GranaryWatchLaw" (kR kTab kA)) (hXs : va_X b L xs s s.heap) (hbl : b < s.heap.size) (hb1 : s.heap.size ≤ b1) (hap : APJ b1 b2 o1 o2) (hl0 : l.stackTraces = false) (hnn : NNAN) (hn2 : NN2) (hn : 6 * n + 6 ≤ L) (hL : L ≤ 3072) (r : Rel S M) (hP : jP dC dI cg kA b1 b2 o1 o2 cL cD (S, M, x, d) s H) (hS : va_S (fun q => s.heap.size ≤ q) s.heap H locs) (hl : lv_has ls 10 [(5, .int (nI (6 * n))), (0, .ref b), (1, .ref (caOf b1 0)), (2, .ref (adOf b2 25)), (3, .ref o1), (4, .ref o2)]) (hcl : cl + 403 ≤ 601024) (hsl : sl + 3826 ≤ 7293034) (K : LK p l e s m below meth c Q dC dI cg kA b b1 b2 o1 o2 n cL cD cl sl) : W p l e room_1 s m #[.ref b] below meth c H locs cl sl Q (F0 m 1388 ls []) := by
  have hx := X.hx
  have hb := X.hb
  have hz := hS.1
  have hb2 : s.heap.size ≤ b2 := by
    have := hap.1
    omega
  refine lv_aload_n hx hb dL_law_1388 rfl (lv_at hl 2 rfl) ?_
  refine lv_aload_n hx hb dL_law_1389 rfl (lv_at hl 1 rfl) ?_
  refine lv_iload hx hb dL_law_1390 (lv_at hl 0 rfl) ?_
  refine lv_iconst (v := 1) hx hb dL_law_1392 (by decide) ?_
  refine lv_iadd hx hb dL_law_1393 ?_
  rw [show nI (6 * n) + (1 : Int32) = nI (6 * n + 1) from nI_k]
  refine va_sld hx hb hXs hbl (Nat.not_le.mpr hbl) hS (sin hn hL (by decide)) dL_law_1394 ?_
  refine lv_aload_n hx hb dL_law_1395 rfl (lv_at hl 4 rfl) ?_
  obtain ⟨y, S1, M1, x1, e2, rr, ek, hM⟩ := xw_oathReason (dC := dC) (dI := dI) (cg := cg) (kA := kA) (cL := cL) (cD := cD) (x := x) (d := d) hl0 hap r (xs (nI (6 * n + 1)).toNatClampNeg)
  refine gCallX X jOK hM (vx_cwSW 3 X.hts (gT_X tw1428 tw1429 tw0 tw1430) rfl rfl rfl ⟨by decide, by decide, by decide +kernel⟩ ⟨Nat.le_of_ble_eq_true rfl, Nat.le_of_ble_eq_true rfl⟩) rfl hP hS (jA4 hap hb1 hS.1) hl.1 (Nat.le_of_ble_eq_true rfl) ⟨by show cl + 1 ≤ 601024; omega, by show sl + 6 ≤ 7293034; omega⟩ dL_law_1396 (As := [.ref (caOf b1 0), .int (xs (nI (6 * n + 1)).toNatClampNeg), .ref o1]) (rest := []) rfl (fun H locs hP hS => ?_)
  refine lv_istore (lv' := [(6, .int (M1.1 7)), (5, .int (nI (6 * n))), (0, .ref b), (1, .ref (caOf b1 0)), (2, .ref (adOf b2 25)), (3, .ref o1), (4, .ref o2)]) hx hb dL_law_1399 hl (by decide) rfl (fun ls hl => ?_)
  refine lv_aload_n hx hb dL_law_1401 rfl (lv_at hl 4 rfl) ?_
  refine lv_aload_n hx hb dL_law_1402 rfl (lv_at hl 2 rfl) ?_
  refine lv_iload hx hb dL_law_1403 (lv_at hl 1 rfl) ?_
  refine lv_iconst (v := 1) hx hb dL_law_1405 (by decide) ?_
  refine lv_iadd hx hb dL_law_1406 ?_
  rw [show nI (6 * n) + (1 : Int32) = nI (6 * n + 1) from nI_k]
  refine va_sld hx hb hXs hbl (Nat.not_le.mpr hbl) hS (sin hn hL (by decide)) dL_law_1407 ?_
  refine gCallWI X (gF_ok mOK (fsM hap)) ((gMetIA.of (vX11_oathReason e2)).lift (fsM hap)) (cwV 1 X.hts (gT_V tw2103 tw2104 tw2105 tw31 tw2106) rfl rfl rfl ⟨rfl, by decide, by decide, by decide +kernel⟩ ⟨Nat.le_of_ble_eq_true rfl, Nat.le_of_ble_eq_true rfl⟩) rfl (j_fm hP) hS (jA3 hb2 hS.1) (mrec hP.2.1) hl.1 (Nat.le_of_ble_eq_true rfl) ⟨by show cl + 1 + 0 ≤ 601024; omega, by show sl + 6 + 0 ≤ 7293034; omega⟩ dL_law_1408 (As := [.int (xs (nI (6 * n + 1)).toNatClampNeg)]) (rest := []) rfl (fun H locs hP hS => ?_)
  have hP := j_of hP
  refine lv_istore (lv' := [(7, .int y), (6, .int (M1.1 7)), (5, .int (nI (6 * n))), (0, .ref b), (1, .ref (caOf b1 0)), (2, .ref (adOf b2 25)), (3, .ref o1), (4, .ref o2)]) hx hb dL_law_1411 hl (by decide) rfl (fun ls hl => ?_)
  refine lv_aload_n hx hb dL_law_1413 rfl (lv_at hl 5 rfl) ?_
  refine gCallWI X (gF_ok mOK (fsM hap)) ((gMetR_IA mOK (vX11_thrown (M := M1) (r := M1.1 7) rfl)).lift (fsM hap)) (cwV 0 X.hts (gT_V tw1741 tw1742 tw1743 tw31 tw1744) rfl rfl rfl ⟨rfl, by decide, by decide, by decide +kernel⟩ ⟨Nat.le_of_ble_eq_true rfl, Nat.le_of_ble_eq_true rfl⟩) rfl (j_fm hP) hS (jA3 hb2 hS.1) (mrec hP.2.1) hl.1 (Nat.le_of_ble_eq_true rfl) ⟨by show cl + 1 + 0 + 0 ≤ 601024; omega, by show sl + 6 + 0 + 0 ≤ 7293034; omega⟩ dL_law_1414 (As := []) (rest := []) rfl (fun H locs hP hS => ?_)
  have hP := j_of hP
  refine lv_iload hx hb dL_law_1417 (lv_at hl 1 rfl) ?_
  refine lv_icmp_eq (tgt := 1424) hx hb dL_law_1419 (by decide) (fun _ => ?_) (fun c => absurd rfl c)
  refine lv_iload hx hb dL_law_1424 (lv_at hl 1 rfl) ?_
  refine lv_if_ne (tgt := 1441) hx hb dL_law_1426 (by decide) (fun _ => ?_) (fun hk => ?_)
  · refine lv_goto (tgt := 2684) hx hb dL_law_1441 (by decide) ?_
    exact K S1 M1 x1 d _ _ _ _ _ rr hP hS (lv_sub hl [2, 3, 4, 5, 6, 7] rfl) (by show cl + 1 + 0 + 0 ≤ _; omega) (by show sl + 6 + 0 + 0 ≤ _; omega)
  have hk : M1.1 7 = 0 := hk
  refine lv_aload_n hx hb dL_law_1429 rfl (lv_at hl 6 rfl) ?_
  refine lv_iconst (v := 0) hx hb dL_law_1430 (by decide) ?_
  refine j_lald (S := S1) (M := M1) (x := x1) (d := d) X hP dL_law_1431 ?_
  refine lv_iload hx hb dL_law_1432 (lv_at hl 0 rfl) ?_
  refine lv_i2l hx hb dL_law_1434 rfl ?_
  refine W.lcmp hx hb dL_law_1435 ?_
  rw [ek hk, lg_cmp_s]
  refine lv_if_eq (tgt := 1441) hx hb dL_law_1436 (by decide) (fun _ => ?_) (fun c => absurd rfl c)
  refine lv_goto (tgt := 2684) hx hb dL_law_1441 (by decide) ?_
  exact K S1 M1 x1 d _ _ _ _ _ rr hP hS (lv_sub hl [2, 3, 4, 5, 6, 7] rfl) (by show cl + 1 + 0 + 0 ≤ _; omega) (by show sl + 6 + 0 + 0 ≤ _; omega)
theorem lc_29 (X : gX p s m #[.ref b] c cL_law 10 "GranaryWatchLaw" (kR kTab kA)) (hXs : va_X b L xs s s.heap) (hbl : b < s.heap.size) (hb1 : s.heap.size ≤ b1) (hap : APJ b1 b2 o1 o2) (hl0 : l.stackTraces = false) (hnn : NNAN) (hn2 : NN2) (hn : 6 * n + 6 ≤ L) (hL : L ≤ 3072) (r : Rel S M) (hP : jP dC dI cg kA b1 b2 o1 o2 cL cD (S, M, x, d) s H) (hS : va_S (fun q => s.heap.size ≤ q) s.heap H locs) (hl : lv_has ls 10 [(5, .int (nI (6 * n))), (0, .ref b), (1, .ref (caOf b1 0)), (2, .ref (adOf b2 25)), (3, .ref o1), (4, .ref o2)]) (hcl : cl + 403 ≤ 601024) (hsl : sl + 3826 ≤ 7293034) (K : LK p l e s m below meth c Q dC dI cg kA b b1 b2 o1 o2 n cL cD cl sl) : W p l e room_1 s m #[.ref b] below meth c H locs cl sl Q (F0 m 1444 ls []) := by
  have hx := X.hx
  have hb := X.hb
  have hz := hS.1
  have hb2 : s.heap.size ≤ b2 := by
    have := hap.1
    omega
  refine lv_aload_n hx hb dL_law_1444 rfl (lv_at hl 2 rfl) ?_
  obtain ⟨y, M1, e1, e2, rr, e7⟩ := q_huntingSack r 
  refine gCallWI X (gF_ok cOK (fsC hap)) ((gMetR_IA cOK (vX10_huntingSack e1)).lift (fsC hap)) (cwV 0 X.hts (gT_V tw1180 tw1181 tw1182 tw1 tw1183) rfl rfl rfl ⟨rfl, by decide, by decide, by decide +kernel⟩ ⟨Nat.le_of_ble_eq_true rfl, Nat.le_of_ble_eq_true rfl⟩) rfl hP hS (jA2 hb1 hS.1) (cr_rec hP.1 (rfl : kc 0 = 0) rfl cw0 rfl) hl.1 (Nat.le_of_ble_eq_true rfl) ⟨by show cl + 0 ≤ 601024; omega, by show sl + 0 ≤ 7293034; omega⟩ dL_law_1445 (As := []) (rest := []) rfl (fun H locs hP hS => ?_)
  have hP : jP dC dI cg kA b1 b2 o1 o2 cL cD (S, M, x, d) s H := hP
  refine lv_aload_n hx hb dL_law_1448 rfl (lv_at hl 3 rfl) ?_
  refine gCallWI X (gF_ok mOK (fsM hap)) ((gMetIA.of (vX11_huntingSack e2)).lift (fsM hap)) (cwV 0 X.hts (gT_V tw2159 tw2160 tw2161 tw31 tw2162) rfl rfl rfl ⟨rfl, by decide, by decide, by decide +kernel⟩ ⟨Nat.le_of_ble_eq_true rfl, Nat.le_of_ble_eq_true rfl⟩) rfl (j_fm hP) hS (jA3 hb2 hS.1) (mrec hP.2.1) hl.1 (Nat.le_of_ble_eq_true rfl) ⟨by show cl + 0 + 0 ≤ 601024; omega, by show sl + 0 + 0 ≤ 7293034; omega⟩ dL_law_1449 (As := []) (rest := [.int y]) rfl (fun H locs hP hS => ?_)
  have hP := j_of hP
  refine lv_icmp_eq (tgt := 2684) hx hb dL_law_1452 (by decide) (fun _ => ?_) (fun c => absurd rfl c)
  exact K S M1 x d _ _ _ _ _ rr hP hS hl (by show cl + 0 + 0 ≤ _; omega) (by show sl + 0 + 0 ≤ _; omega)
theorem lc_30 (X : gX p s m #[.ref b] c cL_law 10 "GranaryWatchLaw" (kR kTab kA)) (hXs : va_X b L xs s s.heap) (hbl : b < s.heap.size) (hb1 : s.heap.size ≤ b1) (hap : APJ b1 b2 o1 o2) (hl0 : l.stackTraces = false) (hnn : NNAN) (hn2 : NN2) (hn : 6 * n + 6 ≤ L) (hL : L ≤ 3072) (r : Rel S M) (hP : jP dC dI cg kA b1 b2 o1 o2 cL cD (S, M, x, d) s H) (hS : va_S (fun q => s.heap.size ≤ q) s.heap H locs) (hl : lv_has ls 10 [(5, .int (nI (6 * n))), (0, .ref b), (1, .ref (caOf b1 0)), (2, .ref (adOf b2 25)), (3, .ref o1), (4, .ref o2)]) (hcl : cl + 403 ≤ 601024) (hsl : sl + 3826 ≤ 7293034) (K : LK p l e s m below meth c Q dC dI cg kA b b1 b2 o1 o2 n cL cD cl sl) : W p l e room_1 s m #[.ref b] below meth c H locs cl sl Q (F0 m 1457 ls []) := by
  have hx := X.hx
  have hb := X.hb
  have hz := hS.1
  have hb2 : s.heap.size ≤ b2 := by
    have := hap.1
    omega
  refine lv_aload_n hx hb dL_law_1457 rfl (lv_at hl 2 rfl) ?_
  obtain ⟨y, M1, e1, e2, rr, e7⟩ := q_eventCount r 
  refine gCallWI X (gF_ok cOK (fsC hap)) ((gMetR_IA cOK (vX10_eventCount e1)).lift (fsC hap)) (cwV 0 X.hts (gT_V tw1185 tw1186 tw1187 tw1 tw1188) rfl rfl rfl ⟨rfl, by decide, by decide, by decide +kernel⟩ ⟨Nat.le_of_ble_eq_true rfl, Nat.le_of_ble_eq_true rfl⟩) rfl hP hS (jA2 hb1 hS.1) (cr_rec hP.1 (rfl : kc 0 = 0) rfl cw0 rfl) hl.1 (Nat.le_of_ble_eq_true rfl) ⟨by show cl + 0 ≤ 601024; omega, by show sl + 0 ≤ 7293034; omega⟩ dL_law_1458 (As := []) (rest := []) rfl (fun H locs hP hS => ?_)
  have hP : jP dC dI cg kA b1 b2 o1 o2 cL cD (S, M, x, d) s H := hP
  refine lv_aload_n hx hb dL_law_1461 rfl (lv_at hl 3 rfl) ?_
  refine gCallWI X (gF_ok mOK (fsM hap)) ((gMetIA.of (vX11_eventCount e2)).lift (fsM hap)) (cwV 0 X.hts (gT_V tw2043 tw2044 tw2045 tw31 tw2046) rfl rfl rfl ⟨rfl, by decide, by decide, by decide +kernel⟩ ⟨Nat.le_of_ble_eq_true rfl, Nat.le_of_ble_eq_true rfl⟩) rfl (j_fm hP) hS (jA3 hb2 hS.1) (mrec hP.2.1) hl.1 (Nat.le_of_ble_eq_true rfl) ⟨by show cl + 0 + 0 ≤ 601024; omega, by show sl + 0 + 0 ≤ 7293034; omega⟩ dL_law_1462 (As := []) (rest := [.int y]) rfl (fun H locs hP hS => ?_)
  have hP := j_of hP
  refine lv_icmp_eq (tgt := 2684) hx hb dL_law_1465 (by decide) (fun _ => ?_) (fun c => absurd rfl c)
  exact K S M1 x d _ _ _ _ _ rr hP hS hl (by show cl + 0 + 0 ≤ _; omega) (by show sl + 0 + 0 ≤ _; omega)
theorem lc_31 (X : gX p s m #[.ref b] c cL_law 10 "GranaryWatchLaw" (kR kTab kA)) (hXs : va_X b L xs s s.heap) (hbl : b < s.heap.size) (hb1 : s.heap.size ≤ b1) (hap : APJ b1 b2 o1 o2) (hl0 : l.stackTraces = false) (hnn : NNAN) (hn2 : NN2) (hn : 6 * n + 6 ≤ L) (hL : L ≤ 3072) (r : Rel S M) (hP : jP dC dI cg kA b1 b2 o1 o2 cL cD (S, M, x, d) s H) (hS : va_S (fun q => s.heap.size ≤ q) s.heap H locs) (hl : lv_has ls 10 [(5, .int (nI (6 * n))), (0, .ref b), (1, .ref (caOf b1 0)), (2, .ref (adOf b2 25)), (3, .ref o1), (4, .ref o2)]) (hcl : cl + 403 ≤ 601024) (hsl : sl + 3826 ≤ 7293034) (K : LK p l e s m below meth c Q dC dI cg kA b b1 b2 o1 o2 n cL cD cl sl) : W p l e room_1 s m #[.ref b] below meth c H locs cl sl Q (F0 m 1470 ls []) := by
  have hx := X.hx
  have hb := X.hb
  have hz := hS.1
  have hb2 : s.heap.size ≤ b2 := by
    have := hap.1
    omega
  refine lv_aload_n hx hb dL_law_1470 rfl (lv_at hl 2 rfl) ?_
  refine lv_aload_n hx hb dL_law_1471 rfl (lv_at hl 1 rfl) ?_
  refine lv_iload hx hb dL_law_1472 (lv_at hl 0 rfl) ?_
  refine lv_iconst (v := 1) hx hb dL_law_1474 (by decide) ?_
  refine lv_iadd hx hb dL_law_1475 ?_
  rw [show nI (6 * n) + (1 : Int32) = nI (6 * n + 1) from nI_k]
  refine va_sld hx hb hXs hbl (Nat.not_le.mpr hbl) hS (sin hn hL (by decide)) dL_law_1476 ?_
  obtain ⟨y, M1, e1, e2, rr, e7⟩ := q_eventKind r (xs (nI (6 * n + 1)).toNatClampNeg)
  refine gCallWI X (gF_ok cOK (fsC hap)) ((gMetR_IA cOK (vX10_eventKind e1)).lift (fsC hap)) (cwV 1 X.hts (gT_V tw1189 tw1190 tw1191 tw1 tw1192) rfl rfl rfl ⟨rfl, by decide, by decide, by decide +kernel⟩ ⟨Nat.le_of_ble_eq_true rfl, Nat.le_of_ble_eq_true rfl⟩) rfl hP hS (jA2 hb1 hS.1) (cr_rec hP.1 (rfl : kc 0 = 0) rfl cw0 rfl) hl.1 (Nat.le_of_ble_eq_true rfl) ⟨by show cl + 0 ≤ 601024; omega, by show sl + 0 ≤ 7293034; omega⟩ dL_law_1477 (As := [.int (xs (nI (6 * n + 1)).toNatClampNeg)]) (rest := []) rfl (fun H locs hP hS => ?_)
  have hP : jP dC dI cg kA b1 b2 o1 o2 cL cD (S, M, x, d) s H := hP
  refine lv_aload_n hx hb dL_law_1480 rfl (lv_at hl 3 rfl) ?_
  refine lv_aload_n hx hb dL_law_1481 rfl (lv_at hl 1 rfl) ?_
  refine lv_iload hx hb dL_law_1482 (lv_at hl 0 rfl) ?_
  refine lv_iconst (v := 1) hx hb dL_law_1484 (by decide) ?_
  refine lv_iadd hx hb dL_law_1485 ?_
  rw [show nI (6 * n) + (1 : Int32) = nI (6 * n + 1) from nI_k]
  refine va_sld hx hb hXs hbl (Nat.not_le.mpr hbl) hS (sin hn hL (by decide)) dL_law_1486 ?_
  refine gCallWI X (gF_ok mOK (fsM hap)) ((gMetIA.of (vX11_eventKind e2)).lift (fsM hap)) (cwV 1 X.hts (gT_V tw2163 tw2164 tw2165 tw31 tw2166) rfl rfl rfl ⟨rfl, by decide, by decide, by decide +kernel⟩ ⟨Nat.le_of_ble_eq_true rfl, Nat.le_of_ble_eq_true rfl⟩) rfl (j_fm hP) hS (jA3 hb2 hS.1) (mrec hP.2.1) hl.1 (Nat.le_of_ble_eq_true rfl) ⟨by show cl + 0 + 0 ≤ 601024; omega, by show sl + 0 + 0 ≤ 7293034; omega⟩ dL_law_1487 (As := [.int (xs (nI (6 * n + 1)).toNatClampNeg)]) (rest := [.int y]) rfl (fun H locs hP hS => ?_)
  have hP := j_of hP
  refine lv_icmp_eq (tgt := 2684) hx hb dL_law_1490 (by decide) (fun _ => ?_) (fun c => absurd rfl c)
  exact K S M1 x d _ _ _ _ _ rr hP hS hl (by show cl + 0 + 0 ≤ _; omega) (by show sl + 0 + 0 ≤ _; omega)
theorem lc_32 (X : gX p s m #[.ref b] c cL_law 10 "GranaryWatchLaw" (kR kTab kA)) (hXs : va_X b L xs s s.heap) (hbl : b < s.heap.size) (hb1 : s.heap.size ≤ b1) (hap : APJ b1 b2 o1 o2) (hl0 : l.stackTraces = false) (hnn : NNAN) (hn2 : NN2) (hn : 6 * n + 6 ≤ L) (hL : L ≤ 3072) (r : Rel S M) (hP : jP dC dI cg kA b1 b2 o1 o2 cL cD (S, M, x, d) s H) (hS : va_S (fun q => s.heap.size ≤ q) s.heap H locs) (hl : lv_has ls 10 [(5, .int (nI (6 * n))), (0, .ref b), (1, .ref (caOf b1 0)), (2, .ref (adOf b2 25)), (3, .ref o1), (4, .ref o2)]) (hcl : cl + 403 ≤ 601024) (hsl : sl + 3826 ≤ 7293034) (K : LK p l e s m below meth c Q dC dI cg kA b b1 b2 o1 o2 n cL cD cl sl) : W p l e room_1 s m #[.ref b] below meth c H locs cl sl Q (F0 m 1495 ls []) := by
  have hx := X.hx
  have hb := X.hb
  have hz := hS.1
  have hb2 : s.heap.size ≤ b2 := by
    have := hap.1
    omega
  refine lv_aload_n hx hb dL_law_1495 rfl (lv_at hl 2 rfl) ?_
  refine lv_aload_n hx hb dL_law_1496 rfl (lv_at hl 1 rfl) ?_
  refine lv_iload hx hb dL_law_1497 (lv_at hl 0 rfl) ?_
  refine lv_iconst (v := 1) hx hb dL_law_1499 (by decide) ?_
  refine lv_iadd hx hb dL_law_1500 ?_
  rw [show nI (6 * n) + (1 : Int32) = nI (6 * n + 1) from nI_k]
  refine va_sld hx hb hXs hbl (Nat.not_le.mpr hbl) hS (sin hn hL (by decide)) dL_law_1501 ?_
  obtain ⟨y, M1, e1, e2, rr, e7⟩ := q_eventCat r (xs (nI (6 * n + 1)).toNatClampNeg)
  refine gCallWI X (gF_ok cOK (fsC hap)) ((gMetR_IA cOK (vX10_eventCat e1)).lift (fsC hap)) (cwV 1 X.hts (gT_V tw1204 tw1205 tw1206 tw1 tw1207) rfl rfl rfl ⟨rfl, by decide, by decide, by decide +kernel⟩ ⟨Nat.le_of_ble_eq_true rfl, Nat.le_of_ble_eq_true rfl⟩) rfl hP hS (jA2 hb1 hS.1) (cr_rec hP.1 (rfl : kc 0 = 0) rfl cw0 rfl) hl.1 (Nat.le_of_ble_eq_true rfl) ⟨by show cl + 0 ≤ 601024; omega, by show sl + 0 ≤ 7293034; omega⟩ dL_law_1502 (As := [.int (xs (nI (6 * n + 1)).toNatClampNeg)]) (rest := []) rfl (fun H locs hP hS => ?_)
  have hP : jP dC dI cg kA b1 b2 o1 o2 cL cD (S, M, x, d) s H := hP
  refine lv_aload_n hx hb dL_law_1505 rfl (lv_at hl 3 rfl) ?_
  refine lv_aload_n hx hb dL_law_1506 rfl (lv_at hl 1 rfl) ?_
  refine lv_iload hx hb dL_law_1507 (lv_at hl 0 rfl) ?_
  refine lv_iconst (v := 1) hx hb dL_law_1509 (by decide) ?_
  refine lv_iadd hx hb dL_law_1510 ?_
  rw [show nI (6 * n) + (1 : Int32) = nI (6 * n + 1) from nI_k]
  refine va_sld hx hb hXs hbl (Nat.not_le.mpr hbl) hS (sin hn hL (by decide)) dL_law_1511 ?_
  refine gCallWI X (gF_ok mOK (fsM hap)) ((gMetIA.of (vX11_eventCat e2)).lift (fsM hap)) (cwV 1 X.hts (gT_V tw2171 tw2172 tw2173 tw31 tw2174) rfl rfl rfl ⟨rfl, by decide, by decide, by decide +kernel⟩ ⟨Nat.le_of_ble_eq_true rfl, Nat.le_of_ble_eq_true rfl⟩) rfl (j_fm hP) hS (jA3 hb2 hS.1) (mrec hP.2.1) hl.1 (Nat.le_of_ble_eq_true rfl) ⟨by show cl + 0 + 0 ≤ 601024; omega, by show sl + 0 + 0 ≤ 7293034; omega⟩ dL_law_1512 (As := [.int (xs (nI (6 * n + 1)).toNatClampNeg)]) (rest := [.int y]) rfl (fun H locs hP hS => ?_)
  have hP := j_of hP
  refine lv_icmp_eq (tgt := 2684) hx hb dL_law_1515 (by decide) (fun _ => ?_) (fun c => absurd rfl c)
  exact K S M1 x d _ _ _ _ _ rr hP hS hl (by show cl + 0 + 0 ≤ _; omega) (by show sl + 0 + 0 ≤ _; omega)
theorem lc_33 (X : gX p s m #[.ref b] c cL_law 10 "GranaryWatchLaw" (kR kTab kA)) (hXs : va_X b L xs s s.heap) (hbl : b < s.heap.size) (hb1 : s.heap.size ≤ b1) (hap : APJ b1 b2 o1 o2) (hl0 : l.stackTraces = false) (hnn : NNAN) (hn2 : NN2) (hn : 6 * n + 6 ≤ L) (hL : L ≤ 3072) (r : Rel S M) (hP : jP dC dI cg kA b1 b2 o1 o2 cL cD (S, M, x, d) s H) (hS : va_S (fun q => s.heap.size ≤ q) s.heap H locs) (hl : lv_has ls 10 [(5, .int (nI (6 * n))), (0, .ref b), (1, .ref (caOf b1 0)), (2, .ref (adOf b2 25)), (3, .ref o1), (4, .ref o2)]) (hcl : cl + 403 ≤ 601024) (hsl : sl + 3826 ≤ 7293034) (K : LK p l e s m below meth c Q dC dI cg kA b b1 b2 o1 o2 n cL cD cl sl) : W p l e room_1 s m #[.ref b] below meth c H locs cl sl Q (F0 m 1520 ls []) := by
  have hx := X.hx
  have hb := X.hb
  have hz := hS.1
  have hb2 : s.heap.size ≤ b2 := by
    have := hap.1
    omega
  refine lv_aload_n hx hb dL_law_1520 rfl (lv_at hl 2 rfl) ?_
  refine lv_aload_n hx hb dL_law_1521 rfl (lv_at hl 1 rfl) ?_
  refine lv_iload hx hb dL_law_1522 (lv_at hl 0 rfl) ?_
  refine lv_iconst (v := 1) hx hb dL_law_1524 (by decide) ?_
  refine lv_iadd hx hb dL_law_1525 ?_
  rw [show nI (6 * n) + (1 : Int32) = nI (6 * n + 1) from nI_k]
  refine va_sld hx hb hXs hbl (Nat.not_le.mpr hbl) hS (sin hn hL (by decide)) dL_law_1526 ?_
  obtain ⟨y, M1, e1, e2, rr, e7⟩ := q_eventNumber r (xs (nI (6 * n + 1)).toNatClampNeg)
  refine gCallWI X (gF_ok cOK (fsC hap)) ((gMetR_IA cOK (vX10_eventNumber e1)).lift (fsC hap)) (cwV 1 X.hts (gT_V tw1208 tw1209 tw1210 tw1 tw1211) rfl rfl rfl ⟨rfl, by decide, by decide, by decide +kernel⟩ ⟨Nat.le_of_ble_eq_true rfl, Nat.le_of_ble_eq_true rfl⟩) rfl hP hS (jA2 hb1 hS.1) (cr_rec hP.1 (rfl : kc 0 = 0) rfl cw0 rfl) hl.1 (Nat.le_of_ble_eq_true rfl) ⟨by show cl + 0 ≤ 601024; omega, by show sl + 0 ≤ 7293034; omega⟩ dL_law_1527 (As := [.int (xs (nI (6 * n + 1)).toNatClampNeg)]) (rest := []) rfl (fun H locs hP hS => ?_)
  have hP : jP dC dI cg kA b1 b2 o1 o2 cL cD (S, M, x, d) s H := hP
  refine lv_aload_n hx hb dL_law_1530 rfl (lv_at hl 3 rfl) ?_
  refine lv_aload_n hx hb dL_law_1531 rfl (lv_at hl 1 rfl) ?_
  refine lv_iload hx hb dL_law_1532 (lv_at hl 0 rfl) ?_
  refine lv_iconst (v := 1) hx hb dL_law_1534 (by decide) ?_
  refine lv_iadd hx hb dL_law_1535 ?_
  rw [show nI (6 * n) + (1 : Int32) = nI (6 * n + 1) from nI_k]
  refine va_sld hx hb hXs hbl (Nat.not_le.mpr hbl) hS (sin hn hL (by decide)) dL_law_1536 ?_
  refine gCallWI X (gF_ok mOK (fsM hap)) ((gMetIA.of (vX11_eventNumber e2)).lift (fsM hap)) (cwV 1 X.hts (gT_V tw2175 tw2176 tw2177 tw31 tw2178) rfl rfl rfl ⟨rfl, by decide, by decide, by decide +kernel⟩ ⟨Nat.le_of_ble_eq_true rfl, Nat.le_of_ble_eq_true rfl⟩) rfl (j_fm hP) hS (jA3 hb2 hS.1) (mrec hP.2.1) hl.1 (Nat.le_of_ble_eq_true rfl) ⟨by show cl + 0 + 0 ≤ 601024; omega, by show sl + 0 + 0 ≤ 7293034; omega⟩ dL_law_1537 (As := [.int (xs (nI (6 * n + 1)).toNatClampNeg)]) (rest := [.int y]) rfl (fun H locs hP hS => ?_)
  have hP := j_of hP
  refine lv_icmp_eq (tgt := 2684) hx hb dL_law_1540 (by decide) (fun _ => ?_) (fun c => absurd rfl c)
  exact K S M1 x d _ _ _ _ _ rr hP hS hl (by show cl + 0 + 0 ≤ _; omega) (by show sl + 0 + 0 ≤ _; omega)
theorem lc_34 (X : gX p s m #[.ref b] c cL_law 10 "GranaryWatchLaw" (kR kTab kA)) (hXs : va_X b L xs s s.heap) (hbl : b < s.heap.size) (hb1 : s.heap.size ≤ b1) (hap : APJ b1 b2 o1 o2) (hl0 : l.stackTraces = false) (hnn : NNAN) (hn2 : NN2) (hn : 6 * n + 6 ≤ L) (hL : L ≤ 3072) (r : Rel S M) (hP : jP dC dI cg kA b1 b2 o1 o2 cL cD (S, M, x, d) s H) (hS : va_S (fun q => s.heap.size ≤ q) s.heap H locs) (hl : lv_has ls 10 [(5, .int (nI (6 * n))), (0, .ref b), (1, .ref (caOf b1 0)), (2, .ref (adOf b2 25)), (3, .ref o1), (4, .ref o2)]) (hcl : cl + 403 ≤ 601024) (hsl : sl + 3826 ≤ 7293034) (K : LK p l e s m below meth c Q dC dI cg kA b b1 b2 o1 o2 n cL cD cl sl) : W p l e room_1 s m #[.ref b] below meth c H locs cl sl Q (F0 m 1545 ls []) := by
  have hx := X.hx
  have hb := X.hb
  have hz := hS.1
  have hb2 : s.heap.size ≤ b2 := by
    have := hap.1
    omega
  refine lv_aload_n hx hb dL_law_1545 rfl (lv_at hl 2 rfl) ?_
  obtain ⟨y, M1, e1, e2, rr, e7⟩ := q_milk r 
  refine gCallWI X (gF_ok cOK (fsC hap)) ((gMetR_IA cOK (vX10_milk e1)).lift (fsC hap)) (cwV 0 X.hts (gT_V tw1212 tw1213 tw1214 tw1 tw1215) rfl rfl rfl ⟨rfl, by decide, by decide, by decide +kernel⟩ ⟨Nat.le_of_ble_eq_true rfl, Nat.le_of_ble_eq_true rfl⟩) rfl hP hS (jA2 hb1 hS.1) (cr_rec hP.1 (rfl : kc 0 = 0) rfl cw0 rfl) hl.1 (Nat.le_of_ble_eq_true rfl) ⟨by show cl + 0 ≤ 601024; omega, by show sl + 0 ≤ 7293034; omega⟩ dL_law_1546 (As := []) (rest := []) rfl (fun H locs hP hS => ?_)
  have hP : jP dC dI cg kA b1 b2 o1 o2 cL cD (S, M, x, d) s H := hP
  refine lv_aload_n hx hb dL_law_1549 rfl (lv_at hl 3 rfl) ?_
  refine gCallWI X (gF_ok mOK (fsM hap)) ((gMetIA.of (vX11_milk e2)).lift (fsM hap)) (cwV 0 X.hts (gT_V tw2047 tw2048 tw2049 tw31 tw2050) rfl rfl rfl ⟨rfl, by decide, by decide, by decide +kernel⟩ ⟨Nat.le_of_ble_eq_true rfl, Nat.le_of_ble_eq_true rfl⟩) rfl (j_fm hP) hS (jA3 hb2 hS.1) (mrec hP.2.1) hl.1 (Nat.le_of_ble_eq_true rfl) ⟨by show cl + 0 + 0 ≤ 601024; omega, by show sl + 0 + 0 ≤ 7293034; omega⟩ dL_law_1550 (As := []) (rest := [.int y]) rfl (fun H locs hP hS => ?_)
  have hP := j_of hP
  refine lv_icmp_eq (tgt := 2684) hx hb dL_law_1553 (by decide) (fun _ => ?_) (fun c => absurd rfl c)
  exact K S M1 x d _ _ _ _ _ rr hP hS hl (by show cl + 0 + 0 ≤ _; omega) (by show sl + 0 + 0 ≤ _; omega)
theorem lc_35 (X : gX p s m #[.ref b] c cL_law 10 "GranaryWatchLaw" (kR kTab kA)) (hXs : va_X b L xs s s.heap) (hbl : b < s.heap.size) (hb1 : s.heap.size ≤ b1) (hap : APJ b1 b2 o1 o2) (hl0 : l.stackTraces = false) (hnn : NNAN) (hn2 : NN2) (hn : 6 * n + 6 ≤ L) (hL : L ≤ 3072) (r : Rel S M) (hP : jP dC dI cg kA b1 b2 o1 o2 cL cD (S, M, x, d) s H) (hS : va_S (fun q => s.heap.size ≤ q) s.heap H locs) (hl : lv_has ls 10 [(5, .int (nI (6 * n))), (0, .ref b), (1, .ref (caOf b1 0)), (2, .ref (adOf b2 25)), (3, .ref o1), (4, .ref o2)]) (hcl : cl + 403 ≤ 601024) (hsl : sl + 3826 ≤ 7293034) (K : LK p l e s m below meth c Q dC dI cg kA b b1 b2 o1 o2 n cL cD cl sl) : W p l e room_1 s m #[.ref b] below meth c H locs cl sl Q (F0 m 1558 ls []) := by
  have hx := X.hx
  have hb := X.hb
  have hz := hS.1
  have hb2 : s.heap.size ≤ b2 := by
    have := hap.1
    omega
  refine lv_aload_n hx hb dL_law_1558 rfl (lv_at hl 2 rfl) ?_
  refine lv_aload_n hx hb dL_law_1559 rfl (lv_at hl 1 rfl) ?_
  refine lv_iload hx hb dL_law_1560 (lv_at hl 0 rfl) ?_
  refine lv_iconst (v := 1) hx hb dL_law_1562 (by decide) ?_
  refine lv_iadd hx hb dL_law_1563 ?_
  rw [show nI (6 * n) + (1 : Int32) = nI (6 * n + 1) from nI_k]
  refine va_sld hx hb hXs hbl (Nat.not_le.mpr hbl) hS (sin hn hL (by decide)) dL_law_1564 ?_
  refine lv_aload_n hx hb dL_law_1565 rfl (lv_at hl 1 rfl) ?_
  refine lv_iload hx hb dL_law_1566 (lv_at hl 0 rfl) ?_
  refine lv_iconst (v := 2) hx hb dL_law_1568 (by decide) ?_
  refine lv_iadd hx hb dL_law_1569 ?_
  rw [show nI (6 * n) + (2 : Int32) = nI (6 * n + 2) from nI_k]
  refine va_sld hx hb hXs hbl (Nat.not_le.mpr hbl) hS (sin hn hL (by decide)) dL_law_1570 ?_
  refine lv_aload_n hx hb dL_law_1571 rfl (lv_at hl 4 rfl) ?_
  obtain ⟨y, S1, M1, x1, e2, rr, ek, hM⟩ := xw_miceAfter (dC := dC) (dI := dI) (cg := cg) (kA := kA) (cL := cL) (cD := cD) (x := x) (d := d) hl0 hap r (xs (nI (6 * n + 1)).toNatClampNeg) (xs (nI (6 * n + 2)).toNatClampNeg)
  refine gCallX X jOK hM (vx_cwSW 4 X.hts (gT_X tw1436 tw1437 tw0 tw1438) rfl rfl rfl ⟨by decide, by decide, by decide +kernel⟩ ⟨Nat.le_of_ble_eq_true rfl, Nat.le_of_ble_eq_true rfl⟩) rfl hP hS (jA4 hap hb1 hS.1) hl.1 (Nat.le_of_ble_eq_true rfl) ⟨by show cl + 1 ≤ 601024; omega, by show sl + 6 ≤ 7293034; omega⟩ dL_law_1572 (As := [.ref (caOf b1 0), .int (xs (nI (6 * n + 1)).toNatClampNeg), .int (xs (nI (6 * n + 2)).toNatClampNeg), .ref o1]) (rest := []) rfl (fun H locs hP hS => ?_)
  refine lv_istore (lv' := [(6, .int (M1.1 7)), (5, .int (nI (6 * n))), (0, .ref b), (1, .ref (caOf b1 0)), (2, .ref (adOf b2 25)), (3, .ref o1), (4, .ref o2)]) hx hb dL_law_1575 hl (by decide) rfl (fun ls hl => ?_)
  refine lv_aload_n hx hb dL_law_1577 rfl (lv_at hl 4 rfl) ?_
  refine lv_aload_n hx hb dL_law_1578 rfl (lv_at hl 2 rfl) ?_
  refine lv_iload hx hb dL_law_1579 (lv_at hl 1 rfl) ?_
  refine lv_iconst (v := 1) hx hb dL_law_1581 (by decide) ?_
  refine lv_iadd hx hb dL_law_1582 ?_
  rw [show nI (6 * n) + (1 : Int32) = nI (6 * n + 1) from nI_k]
  refine va_sld hx hb hXs hbl (Nat.not_le.mpr hbl) hS (sin hn hL (by decide)) dL_law_1583 ?_
  refine lv_aload_n hx hb dL_law_1584 rfl (lv_at hl 2 rfl) ?_
  refine lv_iload hx hb dL_law_1585 (lv_at hl 1 rfl) ?_
  refine lv_iconst (v := 2) hx hb dL_law_1587 (by decide) ?_
  refine lv_iadd hx hb dL_law_1588 ?_
  rw [show nI (6 * n) + (2 : Int32) = nI (6 * n + 2) from nI_k]
  refine va_sld hx hb hXs hbl (Nat.not_le.mpr hbl) hS (sin hn hL (by decide)) dL_law_1589 ?_
  refine gCallWI X (gF_ok mOK (fsM hap)) ((gMetIA.of (vX11_miceAfter e2)).lift (fsM hap)) (cwV 2 X.hts (gT_V tw2179 tw2180 tw2181 tw31 tw2182) rfl rfl rfl ⟨rfl, by decide, by decide, by decide +kernel⟩ ⟨Nat.le_of_ble_eq_true rfl, Nat.le_of_ble_eq_true rfl⟩) rfl (j_fm hP) hS (jA3 hb2 hS.1) (mrec hP.2.1) hl.1 (Nat.le_of_ble_eq_true rfl) ⟨by show cl + 1 + 0 ≤ 601024; omega, by show sl + 6 + 0 ≤ 7293034; omega⟩ dL_law_1590 (As := [.int (xs (nI (6 * n + 1)).toNatClampNeg), .int (xs (nI (6 * n + 2)).toNatClampNeg)]) (rest := []) rfl (fun H locs hP hS => ?_)
  have hP := j_of hP
  refine lv_istore (lv' := [(7, .int y), (6, .int (M1.1 7)), (5, .int (nI (6 * n))), (0, .ref b), (1, .ref (caOf b1 0)), (2, .ref (adOf b2 25)), (3, .ref o1), (4, .ref o2)]) hx hb dL_law_1593 hl (by decide) rfl (fun ls hl => ?_)
  refine lv_aload_n hx hb dL_law_1595 rfl (lv_at hl 5 rfl) ?_
  refine gCallWI X (gF_ok mOK (fsM hap)) ((gMetR_IA mOK (vX11_thrown (M := M1) (r := M1.1 7) rfl)).lift (fsM hap)) (cwV 0 X.hts (gT_V tw1741 tw1742 tw1743 tw31 tw1744) rfl rfl rfl ⟨rfl, by decide, by decide, by decide +kernel⟩ ⟨Nat.le_of_ble_eq_true rfl, Nat.le_of_ble_eq_true rfl⟩) rfl (j_fm hP) hS (jA3 hb2 hS.1) (mrec hP.2.1) hl.1 (Nat.le_of_ble_eq_true rfl) ⟨by show cl + 1 + 0 + 0 ≤ 601024; omega, by show sl + 6 + 0 + 0 ≤ 7293034; omega⟩ dL_law_1596 (As := []) (rest := []) rfl (fun H locs hP hS => ?_)
  have hP := j_of hP
  refine lv_iload hx hb dL_law_1599 (lv_at hl 1 rfl) ?_
  refine lv_icmp_eq (tgt := 1606) hx hb dL_law_1601 (by decide) (fun _ => ?_) (fun c => absurd rfl c)
  refine lv_iload hx hb dL_law_1606 (lv_at hl 1 rfl) ?_
  refine lv_if_ne (tgt := 1623) hx hb dL_law_1608 (by decide) (fun _ => ?_) (fun hk => ?_)
  · refine lv_goto (tgt := 2684) hx hb dL_law_1623 (by decide) ?_
    exact K S1 M1 x1 d _ _ _ _ _ rr hP hS (lv_sub hl [2, 3, 4, 5, 6, 7] rfl) (by show cl + 1 + 0 + 0 ≤ _; omega) (by show sl + 6 + 0 + 0 ≤ _; omega)
  have hk : M1.1 7 = 0 := hk
  refine lv_aload_n hx hb dL_law_1611 rfl (lv_at hl 6 rfl) ?_
  refine lv_iconst (v := 0) hx hb dL_law_1612 (by decide) ?_
  refine j_lald (S := S1) (M := M1) (x := x1) (d := d) X hP dL_law_1613 ?_
  refine lv_iload hx hb dL_law_1614 (lv_at hl 0 rfl) ?_
  refine lv_i2l hx hb dL_law_1616 rfl ?_
  refine W.lcmp hx hb dL_law_1617 ?_
  rw [ek hk, lg_cmp_s]
  refine lv_if_eq (tgt := 1623) hx hb dL_law_1618 (by decide) (fun _ => ?_) (fun c => absurd rfl c)
  refine lv_goto (tgt := 2684) hx hb dL_law_1623 (by decide) ?_
  exact K S1 M1 x1 d _ _ _ _ _ rr hP hS (lv_sub hl [2, 3, 4, 5, 6, 7] rfl) (by show cl + 1 + 0 + 0 ≤ _; omega) (by show sl + 6 + 0 + 0 ≤ _; omega)
theorem lc_36 (X : gX p s m #[.ref b] c cL_law 10 "GranaryWatchLaw" (kR kTab kA)) (hXs : va_X b L xs s s.heap) (hbl : b < s.heap.size) (hb1 : s.heap.size ≤ b1) (hap : APJ b1 b2 o1 o2) (hl0 : l.stackTraces = false) (hnn : NNAN) (hn2 : NN2) (hn : 6 * n + 6 ≤ L) (hL : L ≤ 3072) (r : Rel S M) (hP : jP dC dI cg kA b1 b2 o1 o2 cL cD (S, M, x, d) s H) (hS : va_S (fun q => s.heap.size ≤ q) s.heap H locs) (hl : lv_has ls 10 [(5, .int (nI (6 * n))), (0, .ref b), (1, .ref (caOf b1 0)), (2, .ref (adOf b2 25)), (3, .ref o1), (4, .ref o2)]) (hcl : cl + 403 ≤ 601024) (hsl : sl + 3826 ≤ 7293034) (K : LK p l e s m below meth c Q dC dI cg kA b b1 b2 o1 o2 n cL cD cl sl) : W p l e room_1 s m #[.ref b] below meth c H locs cl sl Q (F0 m 1626 ls []) := by
  have hx := X.hx
  have hb := X.hb
  have hz := hS.1
  have hb2 : s.heap.size ≤ b2 := by
    have := hap.1
    omega
  refine lv_aload_n hx hb dL_law_1626 rfl (lv_at hl 2 rfl) ?_
  refine lv_aload_n hx hb dL_law_1627 rfl (lv_at hl 1 rfl) ?_
  refine lv_iload hx hb dL_law_1628 (lv_at hl 0 rfl) ?_
  refine lv_iconst (v := 1) hx hb dL_law_1630 (by decide) ?_
  refine lv_iadd hx hb dL_law_1631 ?_
  rw [show nI (6 * n) + (1 : Int32) = nI (6 * n + 1) from nI_k]
  refine va_sld hx hb hXs hbl (Nat.not_le.mpr hbl) hS (sin hn hL (by decide)) dL_law_1632 ?_
  refine lv_aload_n hx hb dL_law_1633 rfl (lv_at hl 1 rfl) ?_
  refine lv_iload hx hb dL_law_1634 (lv_at hl 0 rfl) ?_
  refine lv_iconst (v := 2) hx hb dL_law_1636 (by decide) ?_
  refine lv_iadd hx hb dL_law_1637 ?_
  rw [show nI (6 * n) + (2 : Int32) = nI (6 * n + 2) from nI_k]
  refine va_sld hx hb hXs hbl (Nat.not_le.mpr hbl) hS (sin hn hL (by decide)) dL_law_1638 ?_
  refine lv_aload_n hx hb dL_law_1639 rfl (lv_at hl 4 rfl) ?_
  obtain ⟨y, S1, M1, x1, e2, rr, ek, hM⟩ := xw_grainAfter (dC := dC) (dI := dI) (cg := cg) (kA := kA) (cL := cL) (cD := cD) (x := x) (d := d) hl0 hap r (xs (nI (6 * n + 1)).toNatClampNeg) (xs (nI (6 * n + 2)).toNatClampNeg)
  refine gCallX X jOK hM (vx_cwSW 4 X.hts (gT_X tw1455 tw1456 tw0 tw1457) rfl rfl rfl ⟨by decide, by decide, by decide +kernel⟩ ⟨Nat.le_of_ble_eq_true rfl, Nat.le_of_ble_eq_true rfl⟩) rfl hP hS (jA4 hap hb1 hS.1) hl.1 (Nat.le_of_ble_eq_true rfl) ⟨by show cl + 1 ≤ 601024; omega, by show sl + 6 ≤ 7293034; omega⟩ dL_law_1640 (As := [.ref (caOf b1 0), .int (xs (nI (6 * n + 1)).toNatClampNeg), .int (xs (nI (6 * n + 2)).toNatClampNeg), .ref o1]) (rest := []) rfl (fun H locs hP hS => ?_)
  refine lv_istore (lv' := [(6, .int (M1.1 7)), (5, .int (nI (6 * n))), (0, .ref b), (1, .ref (caOf b1 0)), (2, .ref (adOf b2 25)), (3, .ref o1), (4, .ref o2)]) hx hb dL_law_1643 hl (by decide) rfl (fun ls hl => ?_)
  refine lv_aload_n hx hb dL_law_1645 rfl (lv_at hl 4 rfl) ?_
  refine lv_aload_n hx hb dL_law_1646 rfl (lv_at hl 2 rfl) ?_
  refine lv_iload hx hb dL_law_1647 (lv_at hl 1 rfl) ?_
  refine lv_iconst (v := 1) hx hb dL_law_1649 (by decide) ?_
  refine lv_iadd hx hb dL_law_1650 ?_
  rw [show nI (6 * n) + (1 : Int32) = nI (6 * n + 1) from nI_k]
  refine va_sld hx hb hXs hbl (Nat.not_le.mpr hbl) hS (sin hn hL (by decide)) dL_law_1651 ?_
  refine lv_aload_n hx hb dL_law_1652 rfl (lv_at hl 2 rfl) ?_
  refine lv_iload hx hb dL_law_1653 (lv_at hl 1 rfl) ?_
  refine lv_iconst (v := 2) hx hb dL_law_1655 (by decide) ?_
  refine lv_iadd hx hb dL_law_1656 ?_
  rw [show nI (6 * n) + (2 : Int32) = nI (6 * n + 2) from nI_k]
  refine va_sld hx hb hXs hbl (Nat.not_le.mpr hbl) hS (sin hn hL (by decide)) dL_law_1657 ?_
  refine gCallWI X (gF_ok mOK (fsM hap)) ((gMetIA.of (vX11_grainAfter e2)).lift (fsM hap)) (cwV 2 X.hts (gT_V tw2199 tw2200 tw2201 tw31 tw2202) rfl rfl rfl ⟨rfl, by decide, by decide, by decide +kernel⟩ ⟨Nat.le_of_ble_eq_true rfl, Nat.le_of_ble_eq_true rfl⟩) rfl (j_fm hP) hS (jA3 hb2 hS.1) (mrec hP.2.1) hl.1 (Nat.le_of_ble_eq_true rfl) ⟨by show cl + 1 + 0 ≤ 601024; omega, by show sl + 6 + 0 ≤ 7293034; omega⟩ dL_law_1658 (As := [.int (xs (nI (6 * n + 1)).toNatClampNeg), .int (xs (nI (6 * n + 2)).toNatClampNeg)]) (rest := []) rfl (fun H locs hP hS => ?_)
  have hP := j_of hP
  refine lv_istore (lv' := [(7, .int y), (6, .int (M1.1 7)), (5, .int (nI (6 * n))), (0, .ref b), (1, .ref (caOf b1 0)), (2, .ref (adOf b2 25)), (3, .ref o1), (4, .ref o2)]) hx hb dL_law_1661 hl (by decide) rfl (fun ls hl => ?_)
  refine lv_aload_n hx hb dL_law_1663 rfl (lv_at hl 5 rfl) ?_
  refine gCallWI X (gF_ok mOK (fsM hap)) ((gMetR_IA mOK (vX11_thrown (M := M1) (r := M1.1 7) rfl)).lift (fsM hap)) (cwV 0 X.hts (gT_V tw1741 tw1742 tw1743 tw31 tw1744) rfl rfl rfl ⟨rfl, by decide, by decide, by decide +kernel⟩ ⟨Nat.le_of_ble_eq_true rfl, Nat.le_of_ble_eq_true rfl⟩) rfl (j_fm hP) hS (jA3 hb2 hS.1) (mrec hP.2.1) hl.1 (Nat.le_of_ble_eq_true rfl) ⟨by show cl + 1 + 0 + 0 ≤ 601024; omega, by show sl + 6 + 0 + 0 ≤ 7293034; omega⟩ dL_law_1664 (As := []) (rest := []) rfl (fun H locs hP hS => ?_)
  have hP := j_of hP
  refine lv_iload hx hb dL_law_1667 (lv_at hl 1 rfl) ?_
  refine lv_icmp_eq (tgt := 1674) hx hb dL_law_1669 (by decide) (fun _ => ?_) (fun c => absurd rfl c)
  refine lv_iload hx hb dL_law_1674 (lv_at hl 1 rfl) ?_
  refine lv_if_ne (tgt := 1691) hx hb dL_law_1676 (by decide) (fun _ => ?_) (fun hk => ?_)
  · refine lv_goto (tgt := 2684) hx hb dL_law_1691 (by decide) ?_
    exact K S1 M1 x1 d _ _ _ _ _ rr hP hS (lv_sub hl [2, 3, 4, 5, 6, 7] rfl) (by show cl + 1 + 0 + 0 ≤ _; omega) (by show sl + 6 + 0 + 0 ≤ _; omega)
  have hk : M1.1 7 = 0 := hk
  refine lv_aload_n hx hb dL_law_1679 rfl (lv_at hl 6 rfl) ?_
  refine lv_iconst (v := 0) hx hb dL_law_1680 (by decide) ?_
  refine j_lald (S := S1) (M := M1) (x := x1) (d := d) X hP dL_law_1681 ?_
  refine lv_iload hx hb dL_law_1682 (lv_at hl 0 rfl) ?_
  refine lv_i2l hx hb dL_law_1684 rfl ?_
  refine W.lcmp hx hb dL_law_1685 ?_
  rw [ek hk, lg_cmp_s]
  refine lv_if_eq (tgt := 1691) hx hb dL_law_1686 (by decide) (fun _ => ?_) (fun c => absurd rfl c)
  refine lv_goto (tgt := 2684) hx hb dL_law_1691 (by decide) ?_
  exact K S1 M1 x1 d _ _ _ _ _ rr hP hS (lv_sub hl [2, 3, 4, 5, 6, 7] rfl) (by show cl + 1 + 0 + 0 ≤ _; omega) (by show sl + 6 + 0 + 0 ≤ _; omega)
theorem lc_37 (X : gX p s m #[.ref b] c cL_law 10 "GranaryWatchLaw" (kR kTab kA)) (hXs : va_X b L xs s s.heap) (hbl : b < s.heap.size) (hb1 : s.heap.size ≤ b1) (hap : APJ b1 b2 o1 o2) (hl0 : l.stackTraces = false) (hnn : NNAN) (hn2 : NN2) (hn : 6 * n + 6 ≤ L) (hL : L ≤ 3072) (r : Rel S M) (hP : jP dC dI cg kA b1 b2 o1 o2 cL cD (S, M, x, d) s H) (hS : va_S (fun q => s.heap.size ≤ q) s.heap H locs) (hl : lv_has ls 10 [(5, .int (nI (6 * n))), (0, .ref b), (1, .ref (caOf b1 0)), (2, .ref (adOf b2 25)), (3, .ref o1), (4, .ref o2)]) (hcl : cl + 403 ≤ 601024) (hsl : sl + 3826 ≤ 7293034) (K : LK p l e s m below meth c Q dC dI cg kA b b1 b2 o1 o2 n cL cD cl sl) : W p l e room_1 s m #[.ref b] below meth c H locs cl sl Q (F0 m 1694 ls []) := by
  have hx := X.hx
  have hb := X.hb
  have hz := hS.1
  have hb2 : s.heap.size ≤ b2 := by
    have := hap.1
    omega
  refine lv_aload_n hx hb dL_law_1694 rfl (lv_at hl 2 rfl) ?_
  refine lv_aload_n hx hb dL_law_1695 rfl (lv_at hl 1 rfl) ?_
  refine lv_iload hx hb dL_law_1696 (lv_at hl 0 rfl) ?_
  refine lv_iconst (v := 1) hx hb dL_law_1698 (by decide) ?_
  refine lv_iadd hx hb dL_law_1699 ?_
  rw [show nI (6 * n) + (1 : Int32) = nI (6 * n + 1) from nI_k]
  refine va_sld hx hb hXs hbl (Nat.not_le.mpr hbl) hS (sin hn hL (by decide)) dL_law_1700 ?_
  refine lv_aload_n hx hb dL_law_1701 rfl (lv_at hl 4 rfl) ?_
  obtain ⟨y, S1, M1, x1, e2, rr, ek, hM⟩ := xw_swornAfter (dC := dC) (dI := dI) (cg := cg) (kA := kA) (cL := cL) (cD := cD) (x := x) (d := d) hl0 hap r (xs (nI (6 * n + 1)).toNatClampNeg)
  refine gCallX X jOK hM (vx_cwSW 3 X.hts (gT_X tw1462 tw1463 tw0 tw1464) rfl rfl rfl ⟨by decide, by decide, by decide +kernel⟩ ⟨Nat.le_of_ble_eq_true rfl, Nat.le_of_ble_eq_true rfl⟩) rfl hP hS (jA4 hap hb1 hS.1) hl.1 (Nat.le_of_ble_eq_true rfl) ⟨by show cl + 1 ≤ 601024; omega, by show sl + 6 ≤ 7293034; omega⟩ dL_law_1702 (As := [.ref (caOf b1 0), .int (xs (nI (6 * n + 1)).toNatClampNeg), .ref o1]) (rest := []) rfl (fun H locs hP hS => ?_)
  refine lv_istore (lv' := [(6, .int (M1.1 7)), (5, .int (nI (6 * n))), (0, .ref b), (1, .ref (caOf b1 0)), (2, .ref (adOf b2 25)), (3, .ref o1), (4, .ref o2)]) hx hb dL_law_1705 hl (by decide) rfl (fun ls hl => ?_)
  refine lv_aload_n hx hb dL_law_1707 rfl (lv_at hl 4 rfl) ?_
  refine lv_aload_n hx hb dL_law_1708 rfl (lv_at hl 2 rfl) ?_
  refine lv_iload hx hb dL_law_1709 (lv_at hl 1 rfl) ?_
  refine lv_iconst (v := 1) hx hb dL_law_1711 (by decide) ?_
  refine lv_iadd hx hb dL_law_1712 ?_
  rw [show nI (6 * n) + (1 : Int32) = nI (6 * n + 1) from nI_k]
  refine va_sld hx hb hXs hbl (Nat.not_le.mpr hbl) hS (sin hn hL (by decide)) dL_law_1713 ?_
  refine gCallWI X (gF_ok mOK (fsM hap)) ((gMetIA.of (vX11_swornAfter e2)).lift (fsM hap)) (cwV 1 X.hts (gT_V tw2203 tw2204 tw2205 tw31 tw2206) rfl rfl rfl ⟨rfl, by decide, by decide, by decide +kernel⟩ ⟨Nat.le_of_ble_eq_true rfl, Nat.le_of_ble_eq_true rfl⟩) rfl (j_fm hP) hS (jA3 hb2 hS.1) (mrec hP.2.1) hl.1 (Nat.le_of_ble_eq_true rfl) ⟨by show cl + 1 + 0 ≤ 601024; omega, by show sl + 6 + 0 ≤ 7293034; omega⟩ dL_law_1714 (As := [.int (xs (nI (6 * n + 1)).toNatClampNeg)]) (rest := []) rfl (fun H locs hP hS => ?_)
  have hP := j_of hP
  refine lv_istore (lv' := [(7, .int y), (6, .int (M1.1 7)), (5, .int (nI (6 * n))), (0, .ref b), (1, .ref (caOf b1 0)), (2, .ref (adOf b2 25)), (3, .ref o1), (4, .ref o2)]) hx hb dL_law_1717 hl (by decide) rfl (fun ls hl => ?_)
  refine lv_aload_n hx hb dL_law_1719 rfl (lv_at hl 5 rfl) ?_
  refine gCallWI X (gF_ok mOK (fsM hap)) ((gMetR_IA mOK (vX11_thrown (M := M1) (r := M1.1 7) rfl)).lift (fsM hap)) (cwV 0 X.hts (gT_V tw1741 tw1742 tw1743 tw31 tw1744) rfl rfl rfl ⟨rfl, by decide, by decide, by decide +kernel⟩ ⟨Nat.le_of_ble_eq_true rfl, Nat.le_of_ble_eq_true rfl⟩) rfl (j_fm hP) hS (jA3 hb2 hS.1) (mrec hP.2.1) hl.1 (Nat.le_of_ble_eq_true rfl) ⟨by show cl + 1 + 0 + 0 ≤ 601024; omega, by show sl + 6 + 0 + 0 ≤ 7293034; omega⟩ dL_law_1720 (As := []) (rest := []) rfl (fun H locs hP hS => ?_)
  have hP := j_of hP
  refine lv_iload hx hb dL_law_1723 (lv_at hl 1 rfl) ?_
  refine lv_icmp_eq (tgt := 1730) hx hb dL_law_1725 (by decide) (fun _ => ?_) (fun c => absurd rfl c)
  refine lv_iload hx hb dL_law_1730 (lv_at hl 1 rfl) ?_
  refine lv_if_ne (tgt := 1747) hx hb dL_law_1732 (by decide) (fun _ => ?_) (fun hk => ?_)
  · refine lv_goto (tgt := 2684) hx hb dL_law_1747 (by decide) ?_
    exact K S1 M1 x1 d _ _ _ _ _ rr hP hS (lv_sub hl [2, 3, 4, 5, 6, 7] rfl) (by show cl + 1 + 0 + 0 ≤ _; omega) (by show sl + 6 + 0 + 0 ≤ _; omega)
  have hk : M1.1 7 = 0 := hk
  refine lv_aload_n hx hb dL_law_1735 rfl (lv_at hl 6 rfl) ?_
  refine lv_iconst (v := 0) hx hb dL_law_1736 (by decide) ?_
  refine j_lald (S := S1) (M := M1) (x := x1) (d := d) X hP dL_law_1737 ?_
  refine lv_iload hx hb dL_law_1738 (lv_at hl 0 rfl) ?_
  refine lv_i2l hx hb dL_law_1740 rfl ?_
  refine W.lcmp hx hb dL_law_1741 ?_
  rw [ek hk, lg_cmp_s]
  refine lv_if_eq (tgt := 1747) hx hb dL_law_1742 (by decide) (fun _ => ?_) (fun c => absurd rfl c)
  refine lv_goto (tgt := 2684) hx hb dL_law_1747 (by decide) ?_
  exact K S1 M1 x1 d _ _ _ _ _ rr hP hS (lv_sub hl [2, 3, 4, 5, 6, 7] rfl) (by show cl + 1 + 0 + 0 ≤ _; omega) (by show sl + 6 + 0 + 0 ≤ _; omega)
theorem lc_38 (X : gX p s m #[.ref b] c cL_law 10 "GranaryWatchLaw" (kR kTab kA)) (hXs : va_X b L xs s s.heap) (hbl : b < s.heap.size) (hb1 : s.heap.size ≤ b1) (hap : APJ b1 b2 o1 o2) (hl0 : l.stackTraces = false) (hnn : NNAN) (hn2 : NN2) (hn : 6 * n + 6 ≤ L) (hL : L ≤ 3072) (r : Rel S M) (hP : jP dC dI cg kA b1 b2 o1 o2 cL cD (S, M, x, d) s H) (hS : va_S (fun q => s.heap.size ≤ q) s.heap H locs) (hl : lv_has ls 10 [(5, .int (nI (6 * n))), (0, .ref b), (1, .ref (caOf b1 0)), (2, .ref (adOf b2 25)), (3, .ref o1), (4, .ref o2)]) (hcl : cl + 403 ≤ 601024) (hsl : sl + 3826 ≤ 7293034) (K : LK p l e s m below meth c Q dC dI cg kA b b1 b2 o1 o2 n cL cD cl sl) : W p l e room_1 s m #[.ref b] below meth c H locs cl sl Q (F0 m 1750 ls []) := by
  have hx := X.hx
  have hb := X.hb
  have hz := hS.1
  have hb2 : s.heap.size ≤ b2 := by
    have := hap.1
    omega
  refine lv_aload_n hx hb dL_law_1750 rfl (lv_at hl 2 rfl) ?_
  obtain ⟨y, S1, M1, e1, e2, rr, e7⟩ := q_hoursUntilUnguarded r 
  refine gCallWI X (gF_ok cOK (fsC hap)) ((gMetIA.of (vX10_hoursUntilUnguarded e1)).lift (fsC hap)) (cwV 0 X.hts (gT_V tw1216 tw1217 tw1218 tw1 tw1219) rfl rfl rfl ⟨rfl, by decide, by decide, by decide +kernel⟩ ⟨Nat.le_of_ble_eq_true rfl, Nat.le_of_ble_eq_true rfl⟩) rfl hP hS (jA2 hb1 hS.1) (cr_rec hP.1 (rfl : kc 0 = 0) rfl cw0 rfl) hl.1 (Nat.le_of_ble_eq_true rfl) ⟨by show cl + 0 ≤ 601024; omega, by show sl + 0 ≤ 7293034; omega⟩ dL_law_1751 (As := []) (rest := []) rfl (fun H locs hP hS => ?_)
  have hP : jP dC dI cg kA b1 b2 o1 o2 cL cD (S1, M, x, d) s H := hP
  refine lv_aload_n hx hb dL_law_1754 rfl (lv_at hl 3 rfl) ?_
  refine gCallWI X (gF_ok mOK (fsM hap)) ((gMetIA.of (vX11_hoursUntilUnguarded e2)).lift (fsM hap)) (cwV 0 X.hts (gT_V tw2207 tw2208 tw2209 tw31 tw2210) rfl rfl rfl ⟨rfl, by decide, by decide, by decide +kernel⟩ ⟨Nat.le_of_ble_eq_true rfl, Nat.le_of_ble_eq_true rfl⟩) rfl (j_fm hP) hS (jA3 hb2 hS.1) (mrec hP.2.1) hl.1 (Nat.le_of_ble_eq_true rfl) ⟨by show cl + 0 + 0 ≤ 601024; omega, by show sl + 0 + 0 ≤ 7293034; omega⟩ dL_law_1755 (As := []) (rest := [.int y]) rfl (fun H locs hP hS => ?_)
  have hP := j_of hP
  refine lv_icmp_eq (tgt := 2684) hx hb dL_law_1758 (by decide) (fun _ => ?_) (fun c => absurd rfl c)
  exact K S1 M1 x d _ _ _ _ _ rr hP hS hl (by show cl + 0 + 0 ≤ _; omega) (by show sl + 0 + 0 ≤ _; omega)
theorem lc_39 (X : gX p s m #[.ref b] c cL_law 10 "GranaryWatchLaw" (kR kTab kA)) (hXs : va_X b L xs s s.heap) (hbl : b < s.heap.size) (hb1 : s.heap.size ≤ b1) (hap : APJ b1 b2 o1 o2) (hl0 : l.stackTraces = false) (hnn : NNAN) (hn2 : NN2) (hn : 6 * n + 6 ≤ L) (hL : L ≤ 3072) (r : Rel S M) (hP : jP dC dI cg kA b1 b2 o1 o2 cL cD (S, M, x, d) s H) (hS : va_S (fun q => s.heap.size ≤ q) s.heap H locs) (hl : lv_has ls 10 [(5, .int (nI (6 * n))), (0, .ref b), (1, .ref (caOf b1 0)), (2, .ref (adOf b2 25)), (3, .ref o1), (4, .ref o2)]) (hcl : cl + 403 ≤ 601024) (hsl : sl + 3826 ≤ 7293034) (K : LK p l e s m below meth c Q dC dI cg kA b b1 b2 o1 o2 n cL cD cl sl) : W p l e room_1 s m #[.ref b] below meth c H locs cl sl Q (F0 m 1763 ls []) := by
  have hx := X.hx
  have hb := X.hb
  have hz := hS.1
  have hb2 : s.heap.size ≤ b2 := by
    have := hap.1
    omega
  refine lv_aload_n hx hb dL_law_1763 rfl (lv_at hl 2 rfl) ?_
  refine lv_aload_n hx hb dL_law_1764 rfl (lv_at hl 1 rfl) ?_
  refine lv_iload hx hb dL_law_1765 (lv_at hl 0 rfl) ?_
  refine lv_iconst (v := 1) hx hb dL_law_1767 (by decide) ?_
  refine lv_iadd hx hb dL_law_1768 ?_
  rw [show nI (6 * n) + (1 : Int32) = nI (6 * n + 1) from nI_k]
  refine va_sld hx hb hXs hbl (Nat.not_le.mpr hbl) hS (sin hn hL (by decide)) dL_law_1769 ?_
  refine lv_aload_n hx hb dL_law_1770 rfl (lv_at hl 4 rfl) ?_
  obtain ⟨y, S1, M1, x1, e2, rr, ek, hM⟩ := xw_hoursUntilEmpty (dC := dC) (dI := dI) (cg := cg) (kA := kA) (cL := cL) (cD := cD) (x := x) (d := d) hl0 hap r (xs (nI (6 * n + 1)).toNatClampNeg)
  refine gCallX X jOK hM (vx_cwSW 3 X.hts (gT_X tw1469 tw1470 tw0 tw1471) rfl rfl rfl ⟨by decide, by decide, by decide +kernel⟩ ⟨Nat.le_of_ble_eq_true rfl, Nat.le_of_ble_eq_true rfl⟩) rfl hP hS (jA4 hap hb1 hS.1) hl.1 (Nat.le_of_ble_eq_true rfl) ⟨by show cl + 1 ≤ 601024; omega, by show sl + 6 ≤ 7293034; omega⟩ dL_law_1771 (As := [.ref (caOf b1 0), .int (xs (nI (6 * n + 1)).toNatClampNeg), .ref o1]) (rest := []) rfl (fun H locs hP hS => ?_)
  refine lv_istore (lv' := [(6, .int (M1.1 7)), (5, .int (nI (6 * n))), (0, .ref b), (1, .ref (caOf b1 0)), (2, .ref (adOf b2 25)), (3, .ref o1), (4, .ref o2)]) hx hb dL_law_1774 hl (by decide) rfl (fun ls hl => ?_)
  refine lv_aload_n hx hb dL_law_1776 rfl (lv_at hl 4 rfl) ?_
  refine lv_aload_n hx hb dL_law_1777 rfl (lv_at hl 2 rfl) ?_
  refine lv_iload hx hb dL_law_1778 (lv_at hl 1 rfl) ?_
  refine lv_iconst (v := 1) hx hb dL_law_1780 (by decide) ?_
  refine lv_iadd hx hb dL_law_1781 ?_
  rw [show nI (6 * n) + (1 : Int32) = nI (6 * n + 1) from nI_k]
  refine va_sld hx hb hXs hbl (Nat.not_le.mpr hbl) hS (sin hn hL (by decide)) dL_law_1782 ?_
  refine gCallWI X (gF_ok mOK (fsM hap)) ((gMetIA.of (vX11_hoursUntilEmpty e2)).lift (fsM hap)) (cwV 1 X.hts (gT_V tw2215 tw2216 tw2217 tw31 tw2218) rfl rfl rfl ⟨rfl, by decide, by decide, by decide +kernel⟩ ⟨Nat.le_of_ble_eq_true rfl, Nat.le_of_ble_eq_true rfl⟩) rfl (j_fm hP) hS (jA3 hb2 hS.1) (mrec hP.2.1) hl.1 (Nat.le_of_ble_eq_true rfl) ⟨by show cl + 1 + 0 ≤ 601024; omega, by show sl + 6 + 0 ≤ 7293034; omega⟩ dL_law_1783 (As := [.int (xs (nI (6 * n + 1)).toNatClampNeg)]) (rest := []) rfl (fun H locs hP hS => ?_)
  have hP := j_of hP
  refine lv_istore (lv' := [(7, .int y), (6, .int (M1.1 7)), (5, .int (nI (6 * n))), (0, .ref b), (1, .ref (caOf b1 0)), (2, .ref (adOf b2 25)), (3, .ref o1), (4, .ref o2)]) hx hb dL_law_1786 hl (by decide) rfl (fun ls hl => ?_)
  refine lv_aload_n hx hb dL_law_1788 rfl (lv_at hl 5 rfl) ?_
  refine gCallWI X (gF_ok mOK (fsM hap)) ((gMetR_IA mOK (vX11_thrown (M := M1) (r := M1.1 7) rfl)).lift (fsM hap)) (cwV 0 X.hts (gT_V tw1741 tw1742 tw1743 tw31 tw1744) rfl rfl rfl ⟨rfl, by decide, by decide, by decide +kernel⟩ ⟨Nat.le_of_ble_eq_true rfl, Nat.le_of_ble_eq_true rfl⟩) rfl (j_fm hP) hS (jA3 hb2 hS.1) (mrec hP.2.1) hl.1 (Nat.le_of_ble_eq_true rfl) ⟨by show cl + 1 + 0 + 0 ≤ 601024; omega, by show sl + 6 + 0 + 0 ≤ 7293034; omega⟩ dL_law_1789 (As := []) (rest := []) rfl (fun H locs hP hS => ?_)
  have hP := j_of hP
  refine lv_iload hx hb dL_law_1792 (lv_at hl 1 rfl) ?_
  refine lv_icmp_eq (tgt := 1799) hx hb dL_law_1794 (by decide) (fun _ => ?_) (fun c => absurd rfl c)
  refine lv_iload hx hb dL_law_1799 (lv_at hl 1 rfl) ?_
  refine lv_if_ne (tgt := 1816) hx hb dL_law_1801 (by decide) (fun _ => ?_) (fun hk => ?_)
  · refine lv_goto (tgt := 2684) hx hb dL_law_1816 (by decide) ?_
    exact K S1 M1 x1 d _ _ _ _ _ rr hP hS (lv_sub hl [2, 3, 4, 5, 6, 7] rfl) (by show cl + 1 + 0 + 0 ≤ _; omega) (by show sl + 6 + 0 + 0 ≤ _; omega)
  have hk : M1.1 7 = 0 := hk
  refine lv_aload_n hx hb dL_law_1804 rfl (lv_at hl 6 rfl) ?_
  refine lv_iconst (v := 0) hx hb dL_law_1805 (by decide) ?_
  refine j_lald (S := S1) (M := M1) (x := x1) (d := d) X hP dL_law_1806 ?_
  refine lv_iload hx hb dL_law_1807 (lv_at hl 0 rfl) ?_
  refine lv_i2l hx hb dL_law_1809 rfl ?_
  refine W.lcmp hx hb dL_law_1810 ?_
  rw [ek hk, lg_cmp_s]
  refine lv_if_eq (tgt := 1816) hx hb dL_law_1811 (by decide) (fun _ => ?_) (fun c => absurd rfl c)
  refine lv_goto (tgt := 2684) hx hb dL_law_1816 (by decide) ?_
  exact K S1 M1 x1 d _ _ _ _ _ rr hP hS (lv_sub hl [2, 3, 4, 5, 6, 7] rfl) (by show cl + 1 + 0 + 0 ≤ _; omega) (by show sl + 6 + 0 + 0 ≤ _; omega)
theorem lc_40 (X : gX p s m #[.ref b] c cL_law 10 "GranaryWatchLaw" (kR kTab kA)) (hXs : va_X b L xs s s.heap) (hbl : b < s.heap.size) (hb1 : s.heap.size ≤ b1) (hap : APJ b1 b2 o1 o2) (hl0 : l.stackTraces = false) (hnn : NNAN) (hn2 : NN2) (hn : 6 * n + 6 ≤ L) (hL : L ≤ 3072) (r : Rel S M) (hP : jP dC dI cg kA b1 b2 o1 o2 cL cD (S, M, x, d) s H) (hS : va_S (fun q => s.heap.size ≤ q) s.heap H locs) (hl : lv_has ls 10 [(5, .int (nI (6 * n))), (0, .ref b), (1, .ref (caOf b1 0)), (2, .ref (adOf b2 25)), (3, .ref o1), (4, .ref o2)]) (hcl : cl + 403 ≤ 601024) (hsl : sl + 3826 ≤ 7293034) (K : LK p l e s m below meth c Q dC dI cg kA b b1 b2 o1 o2 n cL cD cl sl) : W p l e room_1 s m #[.ref b] below meth c H locs cl sl Q (F0 m 1819 ls []) := by
  have hx := X.hx
  have hb := X.hb
  have hz := hS.1
  have hb2 : s.heap.size ≤ b2 := by
    have := hap.1
    omega
  refine lv_aload_n hx hb dL_law_1819 rfl (lv_at hl 2 rfl) ?_
  refine lv_aload_n hx hb dL_law_1820 rfl (lv_at hl 1 rfl) ?_
  refine lv_iload hx hb dL_law_1821 (lv_at hl 0 rfl) ?_
  refine lv_iconst (v := 1) hx hb dL_law_1823 (by decide) ?_
  refine lv_iadd hx hb dL_law_1824 ?_
  rw [show nI (6 * n) + (1 : Int32) = nI (6 * n + 1) from nI_k]
  refine va_sld hx hb hXs hbl (Nat.not_le.mpr hbl) hS (sin hn hL (by decide)) dL_law_1825 ?_
  refine lv_aload_n hx hb dL_law_1826 rfl (lv_at hl 4 rfl) ?_
  obtain ⟨y, S1, M1, x1, e2, rr, ek, hM⟩ := xw_caughtWithin (dC := dC) (dI := dI) (cg := cg) (kA := kA) (cL := cL) (cD := cD) (x := x) (d := d) hl0 hap r (xs (nI (6 * n + 1)).toNatClampNeg)
  refine gCallX X jOK hM (vx_cwSW 3 X.hts (gT_X tw1476 tw1477 tw0 tw1478) rfl rfl rfl ⟨by decide, by decide, by decide +kernel⟩ ⟨Nat.le_of_ble_eq_true rfl, Nat.le_of_ble_eq_true rfl⟩) rfl hP hS (jA4 hap hb1 hS.1) hl.1 (Nat.le_of_ble_eq_true rfl) ⟨by show cl + 1 ≤ 601024; omega, by show sl + 6 ≤ 7293034; omega⟩ dL_law_1827 (As := [.ref (caOf b1 0), .int (xs (nI (6 * n + 1)).toNatClampNeg), .ref o1]) (rest := []) rfl (fun H locs hP hS => ?_)
  refine lv_istore (lv' := [(6, .int (M1.1 7)), (5, .int (nI (6 * n))), (0, .ref b), (1, .ref (caOf b1 0)), (2, .ref (adOf b2 25)), (3, .ref o1), (4, .ref o2)]) hx hb dL_law_1830 hl (by decide) rfl (fun ls hl => ?_)
  refine lv_aload_n hx hb dL_law_1832 rfl (lv_at hl 4 rfl) ?_
  refine lv_aload_n hx hb dL_law_1833 rfl (lv_at hl 2 rfl) ?_
  refine lv_iload hx hb dL_law_1834 (lv_at hl 1 rfl) ?_
  refine lv_iconst (v := 1) hx hb dL_law_1836 (by decide) ?_
  refine lv_iadd hx hb dL_law_1837 ?_
  rw [show nI (6 * n) + (1 : Int32) = nI (6 * n + 1) from nI_k]
  refine va_sld hx hb hXs hbl (Nat.not_le.mpr hbl) hS (sin hn hL (by decide)) dL_law_1838 ?_
  refine gCallWI X (gF_ok mOK (fsM hap)) ((gMetIA.of (vX11_caughtWithin e2)).lift (fsM hap)) (cwV 1 X.hts (gT_V tw2219 tw2220 tw2221 tw31 tw2222) rfl rfl rfl ⟨rfl, by decide, by decide, by decide +kernel⟩ ⟨Nat.le_of_ble_eq_true rfl, Nat.le_of_ble_eq_true rfl⟩) rfl (j_fm hP) hS (jA3 hb2 hS.1) (mrec hP.2.1) hl.1 (Nat.le_of_ble_eq_true rfl) ⟨by show cl + 1 + 0 ≤ 601024; omega, by show sl + 6 + 0 ≤ 7293034; omega⟩ dL_law_1839 (As := [.int (xs (nI (6 * n + 1)).toNatClampNeg)]) (rest := []) rfl (fun H locs hP hS => ?_)
  have hP := j_of hP
  refine lv_istore (lv' := [(7, .int y), (6, .int (M1.1 7)), (5, .int (nI (6 * n))), (0, .ref b), (1, .ref (caOf b1 0)), (2, .ref (adOf b2 25)), (3, .ref o1), (4, .ref o2)]) hx hb dL_law_1842 hl (by decide) rfl (fun ls hl => ?_)
  refine lv_aload_n hx hb dL_law_1844 rfl (lv_at hl 5 rfl) ?_
  refine gCallWI X (gF_ok mOK (fsM hap)) ((gMetR_IA mOK (vX11_thrown (M := M1) (r := M1.1 7) rfl)).lift (fsM hap)) (cwV 0 X.hts (gT_V tw1741 tw1742 tw1743 tw31 tw1744) rfl rfl rfl ⟨rfl, by decide, by decide, by decide +kernel⟩ ⟨Nat.le_of_ble_eq_true rfl, Nat.le_of_ble_eq_true rfl⟩) rfl (j_fm hP) hS (jA3 hb2 hS.1) (mrec hP.2.1) hl.1 (Nat.le_of_ble_eq_true rfl) ⟨by show cl + 1 + 0 + 0 ≤ 601024; omega, by show sl + 6 + 0 + 0 ≤ 7293034; omega⟩ dL_law_1845 (As := []) (rest := []) rfl (fun H locs hP hS => ?_)
  have hP := j_of hP
  refine lv_iload hx hb dL_law_1848 (lv_at hl 1 rfl) ?_
  refine lv_icmp_eq (tgt := 1855) hx hb dL_law_1850 (by decide) (fun _ => ?_) (fun c => absurd rfl c)
  refine lv_iload hx hb dL_law_1855 (lv_at hl 1 rfl) ?_
  refine lv_if_ne (tgt := 1872) hx hb dL_law_1857 (by decide) (fun _ => ?_) (fun hk => ?_)
  · refine lv_goto (tgt := 2684) hx hb dL_law_1872 (by decide) ?_
    exact K S1 M1 x1 d _ _ _ _ _ rr hP hS (lv_sub hl [2, 3, 4, 5, 6, 7] rfl) (by show cl + 1 + 0 + 0 ≤ _; omega) (by show sl + 6 + 0 + 0 ≤ _; omega)
  have hk : M1.1 7 = 0 := hk
  refine lv_aload_n hx hb dL_law_1860 rfl (lv_at hl 6 rfl) ?_
  refine lv_iconst (v := 0) hx hb dL_law_1861 (by decide) ?_
  refine j_lald (S := S1) (M := M1) (x := x1) (d := d) X hP dL_law_1862 ?_
  refine lv_iload hx hb dL_law_1863 (lv_at hl 0 rfl) ?_
  refine lv_i2l hx hb dL_law_1865 rfl ?_
  refine W.lcmp hx hb dL_law_1866 ?_
  rw [ek hk, lg_cmp_s]
  refine lv_if_eq (tgt := 1872) hx hb dL_law_1867 (by decide) (fun _ => ?_) (fun c => absurd rfl c)
  refine lv_goto (tgt := 2684) hx hb dL_law_1872 (by decide) ?_
  exact K S1 M1 x1 d _ _ _ _ _ rr hP hS (lv_sub hl [2, 3, 4, 5, 6, 7] rfl) (by show cl + 1 + 0 + 0 ≤ _; omega) (by show sl + 6 + 0 + 0 ≤ _; omega)
theorem lc_41 (X : gX p s m #[.ref b] c cL_law 10 "GranaryWatchLaw" (kR kTab kA)) (hXs : va_X b L xs s s.heap) (hbl : b < s.heap.size) (hb1 : s.heap.size ≤ b1) (hap : APJ b1 b2 o1 o2) (hl0 : l.stackTraces = false) (hnn : NNAN) (hn2 : NN2) (hn : 6 * n + 6 ≤ L) (hL : L ≤ 3072) (r : Rel S M) (hP : jP dC dI cg kA b1 b2 o1 o2 cL cD (S, M, x, d) s H) (hS : va_S (fun q => s.heap.size ≤ q) s.heap H locs) (hl : lv_has ls 10 [(5, .int (nI (6 * n))), (0, .ref b), (1, .ref (caOf b1 0)), (2, .ref (adOf b2 25)), (3, .ref o1), (4, .ref o2)]) (hcl : cl + 403 ≤ 601024) (hsl : sl + 3826 ≤ 7293034) (K : LK p l e s m below meth c Q dC dI cg kA b b1 b2 o1 o2 n cL cD cl sl) : W p l e room_1 s m #[.ref b] below meth c H locs cl sl Q (F0 m 1875 ls []) := by
  have hx := X.hx
  have hb := X.hb
  have hz := hS.1
  have hb2 : s.heap.size ≤ b2 := by
    have := hap.1
    omega
  refine lv_aload_n hx hb dL_law_1875 rfl (lv_at hl 2 rfl) ?_
  refine lv_aload_n hx hb dL_law_1876 rfl (lv_at hl 1 rfl) ?_
  refine lv_iload hx hb dL_law_1877 (lv_at hl 0 rfl) ?_
  refine lv_iconst (v := 1) hx hb dL_law_1879 (by decide) ?_
  refine lv_iadd hx hb dL_law_1880 ?_
  rw [show nI (6 * n) + (1 : Int32) = nI (6 * n + 1) from nI_k]
  refine va_sld hx hb hXs hbl (Nat.not_le.mpr hbl) hS (sin hn hL (by decide)) dL_law_1881 ?_
  refine lv_aload_n hx hb dL_law_1882 rfl (lv_at hl 4 rfl) ?_
  obtain ⟨y, S1, M1, x1, e2, rr, ek, hM⟩ := xw_bestFlapToChange (dC := dC) (dI := dI) (cg := cg) (kA := kA) (cL := cL) (cD := cD) (x := x) (d := d) hl0 hap r (xs (nI (6 * n + 1)).toNatClampNeg)
  refine gCallX X jOK hM (vx_cwSW 3 X.hts (gT_X tw1483 tw1484 tw0 tw1485) rfl rfl rfl ⟨by decide, by decide, by decide +kernel⟩ ⟨Nat.le_of_ble_eq_true rfl, Nat.le_of_ble_eq_true rfl⟩) rfl hP hS (jA4 hap hb1 hS.1) hl.1 (Nat.le_of_ble_eq_true rfl) ⟨by show cl + 1 ≤ 601024; omega, by show sl + 6 ≤ 7293034; omega⟩ dL_law_1883 (As := [.ref (caOf b1 0), .int (xs (nI (6 * n + 1)).toNatClampNeg), .ref o1]) (rest := []) rfl (fun H locs hP hS => ?_)
  refine lv_istore (lv' := [(6, .int (M1.1 7)), (5, .int (nI (6 * n))), (0, .ref b), (1, .ref (caOf b1 0)), (2, .ref (adOf b2 25)), (3, .ref o1), (4, .ref o2)]) hx hb dL_law_1886 hl (by decide) rfl (fun ls hl => ?_)
  refine lv_aload_n hx hb dL_law_1888 rfl (lv_at hl 4 rfl) ?_
  refine lv_aload_n hx hb dL_law_1889 rfl (lv_at hl 2 rfl) ?_
  refine lv_iload hx hb dL_law_1890 (lv_at hl 1 rfl) ?_
  refine lv_iconst (v := 1) hx hb dL_law_1892 (by decide) ?_
  refine lv_iadd hx hb dL_law_1893 ?_
  rw [show nI (6 * n) + (1 : Int32) = nI (6 * n + 1) from nI_k]
  refine va_sld hx hb hXs hbl (Nat.not_le.mpr hbl) hS (sin hn hL (by decide)) dL_law_1894 ?_
  refine gCallWI X (gF_ok mOK (fsM hap)) ((gMetIA.of (vX11_bestFlapToChange e2)).lift (fsM hap)) (cwV 1 X.hts (gT_V tw2223 tw2224 tw2225 tw31 tw2226) rfl rfl rfl ⟨rfl, by decide, by decide, by decide +kernel⟩ ⟨Nat.le_of_ble_eq_true rfl, Nat.le_of_ble_eq_true rfl⟩) rfl (j_fm hP) hS (jA3 hb2 hS.1) (mrec hP.2.1) hl.1 (Nat.le_of_ble_eq_true rfl) ⟨by show cl + 1 + 0 ≤ 601024; omega, by show sl + 6 + 0 ≤ 7293034; omega⟩ dL_law_1895 (As := [.int (xs (nI (6 * n + 1)).toNatClampNeg)]) (rest := []) rfl (fun H locs hP hS => ?_)
  have hP := j_of hP
  refine lv_istore (lv' := [(7, .int y), (6, .int (M1.1 7)), (5, .int (nI (6 * n))), (0, .ref b), (1, .ref (caOf b1 0)), (2, .ref (adOf b2 25)), (3, .ref o1), (4, .ref o2)]) hx hb dL_law_1898 hl (by decide) rfl (fun ls hl => ?_)
  refine lv_aload_n hx hb dL_law_1900 rfl (lv_at hl 5 rfl) ?_
  refine gCallWI X (gF_ok mOK (fsM hap)) ((gMetR_IA mOK (vX11_thrown (M := M1) (r := M1.1 7) rfl)).lift (fsM hap)) (cwV 0 X.hts (gT_V tw1741 tw1742 tw1743 tw31 tw1744) rfl rfl rfl ⟨rfl, by decide, by decide, by decide +kernel⟩ ⟨Nat.le_of_ble_eq_true rfl, Nat.le_of_ble_eq_true rfl⟩) rfl (j_fm hP) hS (jA3 hb2 hS.1) (mrec hP.2.1) hl.1 (Nat.le_of_ble_eq_true rfl) ⟨by show cl + 1 + 0 + 0 ≤ 601024; omega, by show sl + 6 + 0 + 0 ≤ 7293034; omega⟩ dL_law_1901 (As := []) (rest := []) rfl (fun H locs hP hS => ?_)
  have hP := j_of hP
  refine lv_iload hx hb dL_law_1904 (lv_at hl 1 rfl) ?_
  refine lv_icmp_eq (tgt := 1911) hx hb dL_law_1906 (by decide) (fun _ => ?_) (fun c => absurd rfl c)
  refine lv_iload hx hb dL_law_1911 (lv_at hl 1 rfl) ?_
  refine lv_if_ne (tgt := 1928) hx hb dL_law_1913 (by decide) (fun _ => ?_) (fun hk => ?_)
  · refine lv_goto (tgt := 2684) hx hb dL_law_1928 (by decide) ?_
    exact K S1 M1 x1 d _ _ _ _ _ rr hP hS (lv_sub hl [2, 3, 4, 5, 6, 7] rfl) (by show cl + 1 + 0 + 0 ≤ _; omega) (by show sl + 6 + 0 + 0 ≤ _; omega)
  have hk : M1.1 7 = 0 := hk
  refine lv_aload_n hx hb dL_law_1916 rfl (lv_at hl 6 rfl) ?_
  refine lv_iconst (v := 0) hx hb dL_law_1917 (by decide) ?_
  refine j_lald (S := S1) (M := M1) (x := x1) (d := d) X hP dL_law_1918 ?_
  refine lv_iload hx hb dL_law_1919 (lv_at hl 0 rfl) ?_
  refine lv_i2l hx hb dL_law_1921 rfl ?_
  refine W.lcmp hx hb dL_law_1922 ?_
  rw [ek hk, lg_cmp_s]
  refine lv_if_eq (tgt := 1928) hx hb dL_law_1923 (by decide) (fun _ => ?_) (fun c => absurd rfl c)
  refine lv_goto (tgt := 2684) hx hb dL_law_1928 (by decide) ?_
  exact K S1 M1 x1 d _ _ _ _ _ rr hP hS (lv_sub hl [2, 3, 4, 5, 6, 7] rfl) (by show cl + 1 + 0 + 0 ≤ _; omega) (by show sl + 6 + 0 + 0 ≤ _; omega)
theorem lc_42 (X : gX p s m #[.ref b] c cL_law 10 "GranaryWatchLaw" (kR kTab kA)) (hXs : va_X b L xs s s.heap) (hbl : b < s.heap.size) (hb1 : s.heap.size ≤ b1) (hap : APJ b1 b2 o1 o2) (hl0 : l.stackTraces = false) (hnn : NNAN) (hn2 : NN2) (hn : 6 * n + 6 ≤ L) (hL : L ≤ 3072) (r : Rel S M) (hP : jP dC dI cg kA b1 b2 o1 o2 cL cD (S, M, x, d) s H) (hS : va_S (fun q => s.heap.size ≤ q) s.heap H locs) (hl : lv_has ls 10 [(5, .int (nI (6 * n))), (0, .ref b), (1, .ref (caOf b1 0)), (2, .ref (adOf b2 25)), (3, .ref o1), (4, .ref o2)]) (hcl : cl + 403 ≤ 601024) (hsl : sl + 3826 ≤ 7293034) (K : LK p l e s m below meth c Q dC dI cg kA b b1 b2 o1 o2 n cL cD cl sl) : W p l e room_1 s m #[.ref b] below meth c H locs cl sl Q (F0 m 1931 ls []) := by
  have hx := X.hx
  have hb := X.hb
  have hz := hS.1
  have hb2 : s.heap.size ≤ b2 := by
    have := hap.1
    omega
  refine lv_aload_n hx hb dL_law_1931 rfl (lv_at hl 2 rfl) ?_
  obtain ⟨y, M1, e1, e2, rr, e7⟩ := q_totalCaught r 
  refine gCallWI X (gF_ok cOK (fsC hap)) ((gMetR_IA cOK (vX10_totalCaught e1)).lift (fsC hap)) (cwV 0 X.hts (gT_V tw1221 tw1222 tw1223 tw1 tw1224) rfl rfl rfl ⟨rfl, by decide, by decide, by decide +kernel⟩ ⟨Nat.le_of_ble_eq_true rfl, Nat.le_of_ble_eq_true rfl⟩) rfl hP hS (jA2 hb1 hS.1) (cr_rec hP.1 (rfl : kc 0 = 0) rfl cw0 rfl) hl.1 (Nat.le_of_ble_eq_true rfl) ⟨by show cl + 0 ≤ 601024; omega, by show sl + 0 ≤ 7293034; omega⟩ dL_law_1932 (As := []) (rest := []) rfl (fun H locs hP hS => ?_)
  have hP : jP dC dI cg kA b1 b2 o1 o2 cL cD (S, M, x, d) s H := hP
  refine lv_aload_n hx hb dL_law_1935 rfl (lv_at hl 3 rfl) ?_
  refine gCallWI X (gF_ok mOK (fsM hap)) ((gMetIA.of (vX11_totalCaught e2)).lift (fsM hap)) (cwV 0 X.hts (gT_V tw2051 tw2052 tw2053 tw31 tw2054) rfl rfl rfl ⟨rfl, by decide, by decide, by decide +kernel⟩ ⟨Nat.le_of_ble_eq_true rfl, Nat.le_of_ble_eq_true rfl⟩) rfl (j_fm hP) hS (jA3 hb2 hS.1) (mrec hP.2.1) hl.1 (Nat.le_of_ble_eq_true rfl) ⟨by show cl + 0 + 0 ≤ 601024; omega, by show sl + 0 + 0 ≤ 7293034; omega⟩ dL_law_1936 (As := []) (rest := [.int y]) rfl (fun H locs hP hS => ?_)
  have hP := j_of hP
  refine lv_icmp_eq (tgt := 2684) hx hb dL_law_1939 (by decide) (fun _ => ?_) (fun c => absurd rfl c)
  exact K S M1 x d _ _ _ _ _ rr hP hS hl (by show cl + 0 + 0 ≤ _; omega) (by show sl + 0 + 0 ≤ _; omega)
theorem lc_43 (X : gX p s m #[.ref b] c cL_law 10 "GranaryWatchLaw" (kR kTab kA)) (hXs : va_X b L xs s s.heap) (hbl : b < s.heap.size) (hb1 : s.heap.size ≤ b1) (hap : APJ b1 b2 o1 o2) (hl0 : l.stackTraces = false) (hnn : NNAN) (hn2 : NN2) (hn : 6 * n + 6 ≤ L) (hL : L ≤ 3072) (r : Rel S M) (hP : jP dC dI cg kA b1 b2 o1 o2 cL cD (S, M, x, d) s H) (hS : va_S (fun q => s.heap.size ≤ q) s.heap H locs) (hl : lv_has ls 10 [(5, .int (nI (6 * n))), (0, .ref b), (1, .ref (caOf b1 0)), (2, .ref (adOf b2 25)), (3, .ref o1), (4, .ref o2)]) (hcl : cl + 403 ≤ 601024) (hsl : sl + 3826 ≤ 7293034) (K : LK p l e s m below meth c Q dC dI cg kA b b1 b2 o1 o2 n cL cD cl sl) : W p l e room_1 s m #[.ref b] below meth c H locs cl sl Q (F0 m 1944 ls []) := by
  have hx := X.hx
  have hb := X.hb
  have hz := hS.1
  have hb2 : s.heap.size ≤ b2 := by
    have := hap.1
    omega
  refine lv_aload_n hx hb dL_law_1944 rfl (lv_at hl 2 rfl) ?_
  obtain ⟨y, M1, e1, e2, rr, e7⟩ := q_totalEaten r 
  refine gCallWI X (gF_ok cOK (fsC hap)) ((gMetR_IA cOK (vX10_totalEaten e1)).lift (fsC hap)) (cwV 0 X.hts (gT_V tw1225 tw1226 tw1227 tw1 tw1228) rfl rfl rfl ⟨rfl, by decide, by decide, by decide +kernel⟩ ⟨Nat.le_of_ble_eq_true rfl, Nat.le_of_ble_eq_true rfl⟩) rfl hP hS (jA2 hb1 hS.1) (cr_rec hP.1 (rfl : kc 0 = 0) rfl cw0 rfl) hl.1 (Nat.le_of_ble_eq_true rfl) ⟨by show cl + 0 ≤ 601024; omega, by show sl + 0 ≤ 7293034; omega⟩ dL_law_1945 (As := []) (rest := []) rfl (fun H locs hP hS => ?_)
  have hP : jP dC dI cg kA b1 b2 o1 o2 cL cD (S, M, x, d) s H := hP
  refine lv_aload_n hx hb dL_law_1948 rfl (lv_at hl 3 rfl) ?_
  refine gCallWI X (gF_ok mOK (fsM hap)) ((gMetIA.of (vX11_totalEaten e2)).lift (fsM hap)) (cwV 0 X.hts (gT_V tw2055 tw2056 tw2057 tw31 tw2058) rfl rfl rfl ⟨rfl, by decide, by decide, by decide +kernel⟩ ⟨Nat.le_of_ble_eq_true rfl, Nat.le_of_ble_eq_true rfl⟩) rfl (j_fm hP) hS (jA3 hb2 hS.1) (mrec hP.2.1) hl.1 (Nat.le_of_ble_eq_true rfl) ⟨by show cl + 0 + 0 ≤ 601024; omega, by show sl + 0 + 0 ≤ 7293034; omega⟩ dL_law_1949 (As := []) (rest := [.int y]) rfl (fun H locs hP hS => ?_)
  have hP := j_of hP
  refine lv_icmp_eq (tgt := 2684) hx hb dL_law_1952 (by decide) (fun _ => ?_) (fun c => absurd rfl c)
  exact K S M1 x d _ _ _ _ _ rr hP hS hl (by show cl + 0 + 0 ≤ _; omega) (by show sl + 0 + 0 ≤ _; omega)
theorem lc_44 (X : gX p s m #[.ref b] c cL_law 10 "GranaryWatchLaw" (kR kTab kA)) (hXs : va_X b L xs s s.heap) (hbl : b < s.heap.size) (hb1 : s.heap.size ≤ b1) (hap : APJ b1 b2 o1 o2) (hl0 : l.stackTraces = false) (hnn : NNAN) (hn2 : NN2) (hn : 6 * n + 6 ≤ L) (hL : L ≤ 3072) (r : Rel S M) (hP : jP dC dI cg kA b1 b2 o1 o2 cL cD (S, M, x, d) s H) (hS : va_S (fun q => s.heap.size ≤ q) s.heap H locs) (hl : lv_has ls 10 [(5, .int (nI (6 * n))), (0, .ref b), (1, .ref (caOf b1 0)), (2, .ref (adOf b2 25)), (3, .ref o1), (4, .ref o2)]) (hcl : cl + 403 ≤ 601024) (hsl : sl + 3826 ≤ 7293034) (K : LK p l e s m below meth c Q dC dI cg kA b b1 b2 o1 o2 n cL cD cl sl) : W p l e room_1 s m #[.ref b] below meth c H locs cl sl Q (F0 m 1957 ls []) := by
  have hx := X.hx
  have hb := X.hb
  have hz := hS.1
  have hb2 : s.heap.size ≤ b2 := by
    have := hap.1
    omega
  refine lv_aload_n hx hb dL_law_1957 rfl (lv_at hl 2 rfl) ?_
  obtain ⟨y, M1, e1, e2, rr, e7⟩ := q_totalBorn r 
  refine gCallWI X (gF_ok cOK (fsC hap)) ((gMetR_IA cOK (vX10_totalBorn e1)).lift (fsC hap)) (cwV 0 X.hts (gT_V tw1229 tw1230 tw1231 tw1 tw1232) rfl rfl rfl ⟨rfl, by decide, by decide, by decide +kernel⟩ ⟨Nat.le_of_ble_eq_true rfl, Nat.le_of_ble_eq_true rfl⟩) rfl hP hS (jA2 hb1 hS.1) (cr_rec hP.1 (rfl : kc 0 = 0) rfl cw0 rfl) hl.1 (Nat.le_of_ble_eq_true rfl) ⟨by show cl + 0 ≤ 601024; omega, by show sl + 0 ≤ 7293034; omega⟩ dL_law_1958 (As := []) (rest := []) rfl (fun H locs hP hS => ?_)
  have hP : jP dC dI cg kA b1 b2 o1 o2 cL cD (S, M, x, d) s H := hP
  refine lv_aload_n hx hb dL_law_1961 rfl (lv_at hl 3 rfl) ?_
  refine gCallWI X (gF_ok mOK (fsM hap)) ((gMetIA.of (vX11_totalBorn e2)).lift (fsM hap)) (cwV 0 X.hts (gT_V tw2059 tw2060 tw2061 tw31 tw2062) rfl rfl rfl ⟨rfl, by decide, by decide, by decide +kernel⟩ ⟨Nat.le_of_ble_eq_true rfl, Nat.le_of_ble_eq_true rfl⟩) rfl (j_fm hP) hS (jA3 hb2 hS.1) (mrec hP.2.1) hl.1 (Nat.le_of_ble_eq_true rfl) ⟨by show cl + 0 + 0 ≤ 601024; omega, by show sl + 0 + 0 ≤ 7293034; omega⟩ dL_law_1962 (As := []) (rest := [.int y]) rfl (fun H locs hP hS => ?_)
  have hP := j_of hP
  refine lv_icmp_eq (tgt := 2684) hx hb dL_law_1965 (by decide) (fun _ => ?_) (fun c => absurd rfl c)
  exact K S M1 x d _ _ _ _ _ rr hP hS hl (by show cl + 0 + 0 ≤ _; omega) (by show sl + 0 + 0 ≤ _; omega)
theorem lc_45 (X : gX p s m #[.ref b] c cL_law 10 "GranaryWatchLaw" (kR kTab kA)) (hXs : va_X b L xs s s.heap) (hbl : b < s.heap.size) (hb1 : s.heap.size ≤ b1) (hap : APJ b1 b2 o1 o2) (hl0 : l.stackTraces = false) (hnn : NNAN) (hn2 : NN2) (hn : 6 * n + 6 ≤ L) (hL : L ≤ 3072) (r : Rel S M) (hP : jP dC dI cg kA b1 b2 o1 o2 cL cD (S, M, x, d) s H) (hS : va_S (fun q => s.heap.size ≤ q) s.heap H locs) (hl : lv_has ls 10 [(5, .int (nI (6 * n))), (0, .ref b), (1, .ref (caOf b1 0)), (2, .ref (adOf b2 25)), (3, .ref o1), (4, .ref o2)]) (hcl : cl + 403 ≤ 601024) (hsl : sl + 3826 ≤ 7293034) (K : LK p l e s m below meth c Q dC dI cg kA b b1 b2 o1 o2 n cL cD cl sl) : W p l e room_1 s m #[.ref b] below meth c H locs cl sl Q (F0 m 1970 ls []) := by
  have hx := X.hx
  have hb := X.hb
  have hz := hS.1
  have hb2 : s.heap.size ≤ b2 := by
    have := hap.1
    omega
  refine lv_aload_n hx hb dL_law_1970 rfl (lv_at hl 2 rfl) ?_
  obtain ⟨y, M1, e1, e2, rr, e7⟩ := q_totalStarved r 
  refine gCallWI X (gF_ok cOK (fsC hap)) ((gMetR_IA cOK (vX10_totalStarved e1)).lift (fsC hap)) (cwV 0 X.hts (gT_V tw1233 tw1234 tw1235 tw1 tw1236) rfl rfl rfl ⟨rfl, by decide, by decide, by decide +kernel⟩ ⟨Nat.le_of_ble_eq_true rfl, Nat.le_of_ble_eq_true rfl⟩) rfl hP hS (jA2 hb1 hS.1) (cr_rec hP.1 (rfl : kc 0 = 0) rfl cw0 rfl) hl.1 (Nat.le_of_ble_eq_true rfl) ⟨by show cl + 0 ≤ 601024; omega, by show sl + 0 ≤ 7293034; omega⟩ dL_law_1971 (As := []) (rest := []) rfl (fun H locs hP hS => ?_)
  have hP : jP dC dI cg kA b1 b2 o1 o2 cL cD (S, M, x, d) s H := hP
  refine lv_aload_n hx hb dL_law_1974 rfl (lv_at hl 3 rfl) ?_
  refine gCallWI X (gF_ok mOK (fsM hap)) ((gMetIA.of (vX11_totalStarved e2)).lift (fsM hap)) (cwV 0 X.hts (gT_V tw2063 tw2064 tw2065 tw31 tw2066) rfl rfl rfl ⟨rfl, by decide, by decide, by decide +kernel⟩ ⟨Nat.le_of_ble_eq_true rfl, Nat.le_of_ble_eq_true rfl⟩) rfl (j_fm hP) hS (jA3 hb2 hS.1) (mrec hP.2.1) hl.1 (Nat.le_of_ble_eq_true rfl) ⟨by show cl + 0 + 0 ≤ 601024; omega, by show sl + 0 + 0 ≤ 7293034; omega⟩ dL_law_1975 (As := []) (rest := [.int y]) rfl (fun H locs hP hS => ?_)
  have hP := j_of hP
  refine lv_icmp_eq (tgt := 2684) hx hb dL_law_1978 (by decide) (fun _ => ?_) (fun c => absurd rfl c)
  exact K S M1 x d _ _ _ _ _ rr hP hS hl (by show cl + 0 + 0 ≤ _; omega) (by show sl + 0 + 0 ≤ _; omega)
theorem lc_46 (X : gX p s m #[.ref b] c cL_law 10 "GranaryWatchLaw" (kR kTab kA)) (hXs : va_X b L xs s s.heap) (hbl : b < s.heap.size) (hb1 : s.heap.size ≤ b1) (hap : APJ b1 b2 o1 o2) (hl0 : l.stackTraces = false) (hnn : NNAN) (hn2 : NN2) (hn : 6 * n + 6 ≤ L) (hL : L ≤ 3072) (r : Rel S M) (hP : jP dC dI cg kA b1 b2 o1 o2 cL cD (S, M, x, d) s H) (hS : va_S (fun q => s.heap.size ≤ q) s.heap H locs) (hl : lv_has ls 10 [(5, .int (nI (6 * n))), (0, .ref b), (1, .ref (caOf b1 0)), (2, .ref (adOf b2 25)), (3, .ref o1), (4, .ref o2)]) (hcl : cl + 403 ≤ 601024) (hsl : sl + 3826 ≤ 7293034) (K : LK p l e s m below meth c Q dC dI cg kA b b1 b2 o1 o2 n cL cD cl sl) : W p l e room_1 s m #[.ref b] below meth c H locs cl sl Q (F0 m 1983 ls []) := by
  have hx := X.hx
  have hb := X.hb
  have hz := hS.1
  have hb2 : s.heap.size ≤ b2 := by
    have := hap.1
    omega
  refine lv_aload_n hx hb dL_law_1983 rfl (lv_at hl 2 rfl) ?_
  obtain ⟨y, M1, e1, e2, rr, e7⟩ := q_totalOaths r 
  refine gCallWI X (gF_ok cOK (fsC hap)) ((gMetR_IA cOK (vX10_totalOaths e1)).lift (fsC hap)) (cwV 0 X.hts (gT_V tw1237 tw1238 tw1239 tw1 tw1240) rfl rfl rfl ⟨rfl, by decide, by decide, by decide +kernel⟩ ⟨Nat.le_of_ble_eq_true rfl, Nat.le_of_ble_eq_true rfl⟩) rfl hP hS (jA2 hb1 hS.1) (cr_rec hP.1 (rfl : kc 0 = 0) rfl cw0 rfl) hl.1 (Nat.le_of_ble_eq_true rfl) ⟨by show cl + 0 ≤ 601024; omega, by show sl + 0 ≤ 7293034; omega⟩ dL_law_1984 (As := []) (rest := []) rfl (fun H locs hP hS => ?_)
  have hP : jP dC dI cg kA b1 b2 o1 o2 cL cD (S, M, x, d) s H := hP
  refine lv_aload_n hx hb dL_law_1987 rfl (lv_at hl 3 rfl) ?_
  refine gCallWI X (gF_ok mOK (fsM hap)) ((gMetIA.of (vX11_totalOaths e2)).lift (fsM hap)) (cwV 0 X.hts (gT_V tw2067 tw2068 tw2069 tw31 tw2070) rfl rfl rfl ⟨rfl, by decide, by decide, by decide +kernel⟩ ⟨Nat.le_of_ble_eq_true rfl, Nat.le_of_ble_eq_true rfl⟩) rfl (j_fm hP) hS (jA3 hb2 hS.1) (mrec hP.2.1) hl.1 (Nat.le_of_ble_eq_true rfl) ⟨by show cl + 0 + 0 ≤ 601024; omega, by show sl + 0 + 0 ≤ 7293034; omega⟩ dL_law_1988 (As := []) (rest := [.int y]) rfl (fun H locs hP hS => ?_)
  have hP := j_of hP
  refine lv_icmp_eq (tgt := 2684) hx hb dL_law_1991 (by decide) (fun _ => ?_) (fun c => absurd rfl c)
  exact K S M1 x d _ _ _ _ _ rr hP hS hl (by show cl + 0 + 0 ≤ _; omega) (by show sl + 0 + 0 ≤ _; omega)
theorem lc_47 (X : gX p s m #[.ref b] c cL_law 10 "GranaryWatchLaw" (kR kTab kA)) (hXs : va_X b L xs s s.heap) (hbl : b < s.heap.size) (hb1 : s.heap.size ≤ b1) (hap : APJ b1 b2 o1 o2) (hl0 : l.stackTraces = false) (hnn : NNAN) (hn2 : NN2) (hn : 6 * n + 6 ≤ L) (hL : L ≤ 3072) (r : Rel S M) (hP : jP dC dI cg kA b1 b2 o1 o2 cL cD (S, M, x, d) s H) (hS : va_S (fun q => s.heap.size ≤ q) s.heap H locs) (hl : lv_has ls 10 [(5, .int (nI (6 * n))), (0, .ref b), (1, .ref (caOf b1 0)), (2, .ref (adOf b2 25)), (3, .ref o1), (4, .ref o2)]) (hcl : cl + 403 ≤ 601024) (hsl : sl + 3826 ≤ 7293034) (K : LK p l e s m below meth c Q dC dI cg kA b b1 b2 o1 o2 n cL cD cl sl) : W p l e room_1 s m #[.ref b] below meth c H locs cl sl Q (F0 m 1996 ls []) := by
  have hx := X.hx
  have hb := X.hb
  have hz := hS.1
  have hb2 : s.heap.size ≤ b2 := by
    have := hap.1
    omega
  refine lv_aload_n hx hb dL_law_1996 rfl (lv_at hl 2 rfl) ?_
  obtain ⟨y, M1, e1, e2, rr, e7⟩ := q_totalRefusals r 
  refine gCallWI X (gF_ok cOK (fsC hap)) ((gMetR_IA cOK (vX10_totalRefusals e1)).lift (fsC hap)) (cwV 0 X.hts (gT_V tw1241 tw1242 tw1243 tw1 tw1244) rfl rfl rfl ⟨rfl, by decide, by decide, by decide +kernel⟩ ⟨Nat.le_of_ble_eq_true rfl, Nat.le_of_ble_eq_true rfl⟩) rfl hP hS (jA2 hb1 hS.1) (cr_rec hP.1 (rfl : kc 0 = 0) rfl cw0 rfl) hl.1 (Nat.le_of_ble_eq_true rfl) ⟨by show cl + 0 ≤ 601024; omega, by show sl + 0 ≤ 7293034; omega⟩ dL_law_1997 (As := []) (rest := []) rfl (fun H locs hP hS => ?_)
  have hP : jP dC dI cg kA b1 b2 o1 o2 cL cD (S, M, x, d) s H := hP
  refine lv_aload_n hx hb dL_law_2000 rfl (lv_at hl 3 rfl) ?_
  refine gCallWI X (gF_ok mOK (fsM hap)) ((gMetIA.of (vX11_totalRefusals e2)).lift (fsM hap)) (cwV 0 X.hts (gT_V tw2071 tw2072 tw2073 tw31 tw2074) rfl rfl rfl ⟨rfl, by decide, by decide, by decide +kernel⟩ ⟨Nat.le_of_ble_eq_true rfl, Nat.le_of_ble_eq_true rfl⟩) rfl (j_fm hP) hS (jA3 hb2 hS.1) (mrec hP.2.1) hl.1 (Nat.le_of_ble_eq_true rfl) ⟨by show cl + 0 + 0 ≤ 601024; omega, by show sl + 0 + 0 ≤ 7293034; omega⟩ dL_law_2001 (As := []) (rest := [.int y]) rfl (fun H locs hP hS => ?_)
  have hP := j_of hP
  refine lv_icmp_eq (tgt := 2684) hx hb dL_law_2004 (by decide) (fun _ => ?_) (fun c => absurd rfl c)
  exact K S M1 x d _ _ _ _ _ rr hP hS hl (by show cl + 0 + 0 ≤ _; omega) (by show sl + 0 + 0 ≤ _; omega)
theorem lc_48 (X : gX p s m #[.ref b] c cL_law 10 "GranaryWatchLaw" (kR kTab kA)) (hXs : va_X b L xs s s.heap) (hbl : b < s.heap.size) (hb1 : s.heap.size ≤ b1) (hap : APJ b1 b2 o1 o2) (hl0 : l.stackTraces = false) (hnn : NNAN) (hn2 : NN2) (hn : 6 * n + 6 ≤ L) (hL : L ≤ 3072) (r : Rel S M) (hP : jP dC dI cg kA b1 b2 o1 o2 cL cD (S, M, x, d) s H) (hS : va_S (fun q => s.heap.size ≤ q) s.heap H locs) (hl : lv_has ls 10 [(5, .int (nI (6 * n))), (0, .ref b), (1, .ref (caOf b1 0)), (2, .ref (adOf b2 25)), (3, .ref o1), (4, .ref o2)]) (hcl : cl + 403 ≤ 601024) (hsl : sl + 3826 ≤ 7293034) (K : LK p l e s m below meth c Q dC dI cg kA b b1 b2 o1 o2 n cL cD cl sl) : W p l e room_1 s m #[.ref b] below meth c H locs cl sl Q (F0 m 2009 ls []) := by
  have hx := X.hx
  have hb := X.hb
  have hz := hS.1
  have hb2 : s.heap.size ≤ b2 := by
    have := hap.1
    omega
  refine lv_aload_n hx hb dL_law_2009 rfl (lv_at hl 2 rfl) ?_
  obtain ⟨y, M1, e1, e2, rr, e7⟩ := q_isConsistent r 
  refine gCallWI X (gF_ok cOK (fsC hap)) ((gMetR_IA cOK (vX10_isConsistent e1)).lift (fsC hap)) (cwV 0 X.hts (gT_V tw1245 tw1246 tw1247 tw1 tw1248) rfl rfl rfl ⟨rfl, by decide, by decide, by decide +kernel⟩ ⟨Nat.le_of_ble_eq_true rfl, Nat.le_of_ble_eq_true rfl⟩) rfl hP hS (jA2 hb1 hS.1) (cr_rec hP.1 (rfl : kc 0 = 0) rfl cw0 rfl) hl.1 (Nat.le_of_ble_eq_true rfl) ⟨by show cl + 0 ≤ 601024; omega, by show sl + 0 ≤ 7293034; omega⟩ dL_law_2010 (As := []) (rest := []) rfl (fun H locs hP hS => ?_)
  have hP : jP dC dI cg kA b1 b2 o1 o2 cL cD (S, M, x, d) s H := hP
  refine lv_aload_n hx hb dL_law_2013 rfl (lv_at hl 3 rfl) ?_
  refine gCallWI X (gF_ok mOK (fsM hap)) ((gMetIA.of (vX11_isConsistent e2)).lift (fsM hap)) (cwV 0 X.hts (gT_V tw2235 tw2236 tw2237 tw31 tw2238) rfl rfl rfl ⟨rfl, by decide, by decide, by decide +kernel⟩ ⟨Nat.le_of_ble_eq_true rfl, Nat.le_of_ble_eq_true rfl⟩) rfl (j_fm hP) hS (jA3 hb2 hS.1) (mrec hP.2.1) hl.1 (Nat.le_of_ble_eq_true rfl) ⟨by show cl + 0 + 0 ≤ 601024; omega, by show sl + 0 + 0 ≤ 7293034; omega⟩ dL_law_2014 (As := []) (rest := [.int y]) rfl (fun H locs hP hS => ?_)
  have hP := j_of hP
  refine lv_icmp_eq (tgt := 2684) hx hb dL_law_2017 (by decide) (fun _ => ?_) (fun c => absurd rfl c)
  exact K S M1 x d _ _ _ _ _ rr hP hS hl (by show cl + 0 + 0 ≤ _; omega) (by show sl + 0 + 0 ≤ _; omega)
theorem lc_49 (X : gX p s m #[.ref b] c cL_law 10 "GranaryWatchLaw" (kR kTab kA)) (hXs : va_X b L xs s s.heap) (hbl : b < s.heap.size) (hb1 : s.heap.size ≤ b1) (hap : APJ b1 b2 o1 o2) (hl0 : l.stackTraces = false) (hnn : NNAN) (hn2 : NN2) (hn : 6 * n + 6 ≤ L) (hL : L ≤ 3072) (r : Rel S M) (hP : jP dC dI cg kA b1 b2 o1 o2 cL cD (S, M, x, d) s H) (hS : va_S (fun q => s.heap.size ≤ q) s.heap H locs) (hl : lv_has ls 10 [(5, .int (nI (6 * n))), (0, .ref b), (1, .ref (caOf b1 0)), (2, .ref (adOf b2 25)), (3, .ref o1), (4, .ref o2)]) (hcl : cl + 403 ≤ 601024) (hsl : sl + 3826 ≤ 7293034) (K : LK p l e s m below meth c Q dC dI cg kA b b1 b2 o1 o2 n cL cD cl sl) : W p l e room_1 s m #[.ref b] below meth c H locs cl sl Q (F0 m 2022 ls []) := by
  have hx := X.hx
  have hb := X.hb
  have hz := hS.1
  have hb2 : s.heap.size ≤ b2 := by
    have := hap.1
    omega
  refine lv_aload_n hx hb dL_law_2022 rfl (lv_at hl 2 rfl) ?_
  obtain ⟨y, M1, e1, e2, rr, e7, hv⟩ := q_averageTiredness hnn r
  refine gCallWD X (gF_ok cOK (fsC hap)) ((vX10_averageTiredness hnn e1).lift (fsC hap)) (cwV 0 X.hts (gT_V tw1265 tw1266 tw1267 tw1 tw1268) rfl rfl rfl ⟨rfl, by decide, by decide, by decide +kernel⟩ ⟨Nat.le_of_ble_eq_true rfl, Nat.le_of_ble_eq_true rfl⟩) rfl hP hS (jA2 hb1 hS.1) (cr_rec hP.1 (rfl : kc 0 = 0) rfl cw0 rfl) hl.1 (Nat.le_of_ble_eq_true rfl) ⟨by show cl + 0 ≤ 601024; omega, by show sl + 0 ≤ 7293034; omega⟩ dL_law_2023 (As := []) (rest := []) rfl (fun H locs hP hS => ?_)
  have hP : jP dC dI cg kA b1 b2 o1 o2 cL cD (S, M, x, d) s H := hP
  refine lv_dstore (lv' := [(6, .double y), (5, .int (nI (6 * n))), (0, .ref b), (1, .ref (caOf b1 0)), (2, .ref (adOf b2 25)), (3, .ref o1), (4, .ref o2)]) hx hb dL_law_2026 hl (by decide) rfl (fun ls hl => ?_)
  refine lv_aload_n hx hb dL_law_2028 rfl (lv_at hl 4 rfl) ?_
  refine gCallWD X (gF_ok mOK (fsM hap)) ((vX11_averageTiredness hnn e2).lift (fsM hap)) (cwV 0 X.hts (gT_V tw2243 tw2244 tw2245 tw31 tw2246) rfl rfl rfl ⟨rfl, by decide, by decide, by decide +kernel⟩ ⟨Nat.le_of_ble_eq_true rfl, Nat.le_of_ble_eq_true rfl⟩) rfl (j_fm hP) hS (jA3 hb2 hS.1) (mrec hP.2.1) hl.1 (Nat.le_of_ble_eq_true rfl) ⟨by show cl + 0 + 0 ≤ 601024; omega, by show sl + 0 + 0 ≤ 7293034; omega⟩ dL_law_2029 (As := []) (rest := []) rfl (fun H locs hP hS => ?_)
  have hP := j_of hP
  refine lv_dstore (lv' := [(8, .double y), (6, .double y), (5, .int (nI (6 * n))), (0, .ref b), (1, .ref (caOf b1 0)), (2, .ref (adOf b2 25)), (3, .ref o1), (4, .ref o2)]) hx hb dL_law_2032 hl (by decide) rfl (fun ls hl => ?_)
  refine lv_dload hx hb dL_law_2034 (lv_at hl 1 rfl) ?_
  refine lv_dload hx hb dL_law_2036 (lv_at hl 0 rfl) ?_
  refine lv_dcmp hx hb dL_law_2038 ?_
  rw [hn2.2 hv]
  refine lv_if_eq (tgt := 2060) hx hb dL_law_2039 (by decide) (fun _ => ?_) (fun c => absurd rfl c)
  refine lv_goto (tgt := 2684) hx hb dL_law_2060 (by decide) ?_
  exact K S M1 x d _ _ _ _ _ rr hP hS (lv_sub hl [2, 3, 4, 5, 6, 7] rfl) (by show cl + 0 + 0 ≤ _; omega) (by show sl + 0 + 0 ≤ _; omega)
theorem lc_50 (X : gX p s m #[.ref b] c cL_law 10 "GranaryWatchLaw" (kR kTab kA)) (hXs : va_X b L xs s s.heap) (hbl : b < s.heap.size) (hb1 : s.heap.size ≤ b1) (hap : APJ b1 b2 o1 o2) (hl0 : l.stackTraces = false) (hnn : NNAN) (hn2 : NN2) (hn : 6 * n + 6 ≤ L) (hL : L ≤ 3072) (r : Rel S M) (hP : jP dC dI cg kA b1 b2 o1 o2 cL cD (S, M, x, d) s H) (hS : va_S (fun q => s.heap.size ≤ q) s.heap H locs) (hl : lv_has ls 10 [(5, .int (nI (6 * n))), (0, .ref b), (1, .ref (caOf b1 0)), (2, .ref (adOf b2 25)), (3, .ref o1), (4, .ref o2)]) (hcl : cl + 403 ≤ 601024) (hsl : sl + 3826 ≤ 7293034) (K : LK p l e s m below meth c Q dC dI cg kA b b1 b2 o1 o2 n cL cD cl sl) : W p l e room_1 s m #[.ref b] below meth c H locs cl sl Q (F0 m 2063 ls []) := by
  have hx := X.hx
  have hb := X.hb
  have hz := hS.1
  have hb2 : s.heap.size ≤ b2 := by
    have := hap.1
    omega
  refine lv_aload_n hx hb dL_law_2063 rfl (lv_at hl 2 rfl) ?_
  refine lv_aload_n hx hb dL_law_2064 rfl (lv_at hl 1 rfl) ?_
  refine lv_iload hx hb dL_law_2065 (lv_at hl 0 rfl) ?_
  refine lv_iconst (v := 1) hx hb dL_law_2067 (by decide) ?_
  refine lv_iadd hx hb dL_law_2068 ?_
  rw [show nI (6 * n) + (1 : Int32) = nI (6 * n + 1) from nI_k]
  refine va_sld hx hb hXs hbl (Nat.not_le.mpr hbl) hS (sin hn hL (by decide)) dL_law_2069 ?_
  refine lv_aload hx hb dL_law_2070 (lv_at hl 5 rfl) ?_
  obtain ⟨y, S1, M1, d1, e2, rr, ek, hM⟩ := xw_shareOf (dC := dC) (dI := dI) (cg := cg) (kA := kA) (cL := cL) (cD := cD) (x := x) (d := d) hl0 hap hnn hn2 r (xs (nI (6 * n + 1)).toNatClampNeg)
  refine gCallX X jOK hM (vx_cwSW 3 X.hts (gT_X tw1495 tw1496 tw0 tw1497) rfl rfl rfl ⟨by decide, by decide, by decide +kernel⟩ ⟨Nat.le_of_ble_eq_true rfl, Nat.le_of_ble_eq_true rfl⟩) rfl hP hS (jA4 hap hb1 hS.1) hl.1 (Nat.le_of_ble_eq_true rfl) ⟨by show cl + 1 ≤ 601024; omega, by show sl + 6 ≤ 7293034; omega⟩ dL_law_2072 (As := [.ref (caOf b1 0), .int (xs (nI (6 * n + 1)).toNatClampNeg), .ref o2]) (rest := []) rfl (fun H locs hP hS => ?_)
  refine lv_istore (lv' := [(6, .int (M1.1 7)), (5, .int (nI (6 * n))), (0, .ref b), (1, .ref (caOf b1 0)), (2, .ref (adOf b2 25)), (3, .ref o1), (4, .ref o2)]) hx hb dL_law_2075 hl (by decide) rfl (fun ls hl => ?_)
  refine lv_aload_n hx hb dL_law_2077 rfl (lv_at hl 4 rfl) ?_
  refine lv_aload_n hx hb dL_law_2078 rfl (lv_at hl 2 rfl) ?_
  refine lv_iload hx hb dL_law_2079 (lv_at hl 1 rfl) ?_
  refine lv_iconst (v := 1) hx hb dL_law_2081 (by decide) ?_
  refine lv_iadd hx hb dL_law_2082 ?_
  rw [show nI (6 * n) + (1 : Int32) = nI (6 * n + 1) from nI_k]
  refine va_sld hx hb hXs hbl (Nat.not_le.mpr hbl) hS (sin hn hL (by decide)) dL_law_2083 ?_
  refine gCallWF X (gF_ok mOK (fsM hap)) ((vX11_shareOf hnn e2).lift (fsM hap)) (cwV 1 X.hts (gT_V tw2247 tw2248 tw2249 tw31 tw2250) rfl rfl rfl ⟨rfl, by decide, by decide, by decide +kernel⟩ ⟨Nat.le_of_ble_eq_true rfl, Nat.le_of_ble_eq_true rfl⟩) rfl (j_fm hP) hS (jA3 hb2 hS.1) (mrec hP.2.1) hl.1 (Nat.le_of_ble_eq_true rfl) ⟨by show cl + 1 + 0 ≤ 601024; omega, by show sl + 6 + 0 ≤ 7293034; omega⟩ dL_law_2084 (As := [.int (xs (nI (6 * n + 1)).toNatClampNeg)]) (rest := []) rfl (fun H locs hP hS => ?_)
  have hP := j_of hP
  refine lv_fstore (lv' := [(7, .float y), (6, .int (M1.1 7)), (5, .int (nI (6 * n))), (0, .ref b), (1, .ref (caOf b1 0)), (2, .ref (adOf b2 25)), (3, .ref o1), (4, .ref o2)]) hx hb dL_law_2087 hl (by decide) rfl (fun ls hl => ?_)
  refine lv_aload_n hx hb dL_law_2089 rfl (lv_at hl 5 rfl) ?_
  refine gCallWI X (gF_ok mOK (fsM hap)) ((gMetR_IA mOK (vX11_thrown (M := M1) (r := M1.1 7) rfl)).lift (fsM hap)) (cwV 0 X.hts (gT_V tw1741 tw1742 tw1743 tw31 tw1744) rfl rfl rfl ⟨rfl, by decide, by decide, by decide +kernel⟩ ⟨Nat.le_of_ble_eq_true rfl, Nat.le_of_ble_eq_true rfl⟩) rfl (j_fm hP) hS (jA3 hb2 hS.1) (mrec hP.2.1) hl.1 (Nat.le_of_ble_eq_true rfl) ⟨by show cl + 1 + 0 + 0 ≤ 601024; omega, by show sl + 6 + 0 + 0 ≤ 7293034; omega⟩ dL_law_2090 (As := []) (rest := []) rfl (fun H locs hP hS => ?_)
  have hP := j_of hP
  refine lv_iload hx hb dL_law_2093 (lv_at hl 1 rfl) ?_
  refine lv_icmp_eq (tgt := 2100) hx hb dL_law_2095 (by decide) (fun _ => ?_) (fun c => absurd rfl c)
  refine lv_iload hx hb dL_law_2100 (lv_at hl 1 rfl) ?_
  refine lv_if_ne (tgt := 2138) hx hb dL_law_2102 (by decide) (fun _ => ?_) (fun hk => ?_)
  · refine lv_goto (tgt := 2684) hx hb dL_law_2138 (by decide) ?_
    exact K S1 M1 x d1 _ _ _ _ _ rr hP hS (lv_sub hl [2, 3, 4, 5, 6, 7] rfl) (by show cl + 1 + 0 + 0 ≤ _; omega) (by show sl + 6 + 0 + 0 ≤ _; omega)
  have hk : M1.1 7 = 0 := hk
  refine lv_aload hx hb dL_law_2105 (lv_at hl 7 rfl) ?_
  refine lv_iconst (v := 0) hx hb dL_law_2107 (by decide) ?_
  refine j_dald (S := S1) (M := M1) (x := x) (d := d1) X hP dL_law_2108 ?_
  refine lv_fload hx hb dL_law_2109 (lv_at hl 0 rfl) ?_
  refine lv_f2d hx hb dL_law_2111 (by rw [← (ek hk).1]; exact (ek hk).2) ?_
  refine lv_dcmp hx hb dL_law_2112 ?_
  rw [← (ek hk).1, hn2.2 (ek hk).2]
  refine lv_if_eq (tgt := 2138) hx hb dL_law_2113 (by decide) (fun _ => ?_) (fun c => absurd rfl c)
  refine lv_goto (tgt := 2684) hx hb dL_law_2138 (by decide) ?_
  exact K S1 M1 x d1 _ _ _ _ _ rr hP hS (lv_sub hl [2, 3, 4, 5, 6, 7] rfl) (by show cl + 1 + 0 + 0 ≤ _; omega) (by show sl + 6 + 0 + 0 ≤ _; omega)
theorem lc_51 (X : gX p s m #[.ref b] c cL_law 10 "GranaryWatchLaw" (kR kTab kA)) (hXs : va_X b L xs s s.heap) (hbl : b < s.heap.size) (hb1 : s.heap.size ≤ b1) (hap : APJ b1 b2 o1 o2) (hl0 : l.stackTraces = false) (hnn : NNAN) (hn2 : NN2) (hn : 6 * n + 6 ≤ L) (hL : L ≤ 3072) (r : Rel S M) (hP : jP dC dI cg kA b1 b2 o1 o2 cL cD (S, M, x, d) s H) (hS : va_S (fun q => s.heap.size ≤ q) s.heap H locs) (hl : lv_has ls 10 [(5, .int (nI (6 * n))), (0, .ref b), (1, .ref (caOf b1 0)), (2, .ref (adOf b2 25)), (3, .ref o1), (4, .ref o2)]) (hcl : cl + 403 ≤ 601024) (hsl : sl + 3826 ≤ 7293034) (K : LK p l e s m below meth c Q dC dI cg kA b b1 b2 o1 o2 n cL cD cl sl) : W p l e room_1 s m #[.ref b] below meth c H locs cl sl Q (F0 m 2141 ls []) := by
  have hx := X.hx
  have hb := X.hb
  have hz := hS.1
  have hb2 : s.heap.size ≤ b2 := by
    have := hap.1
    omega
  refine lv_aload_n hx hb dL_law_2141 rfl (lv_at hl 2 rfl) ?_
  refine lv_aload_n hx hb dL_law_2142 rfl (lv_at hl 1 rfl) ?_
  refine lv_iload hx hb dL_law_2143 (lv_at hl 0 rfl) ?_
  refine lv_iconst (v := 1) hx hb dL_law_2145 (by decide) ?_
  refine lv_iadd hx hb dL_law_2146 ?_
  rw [show nI (6 * n) + (1 : Int32) = nI (6 * n + 1) from nI_k]
  refine va_sld hx hb hXs hbl (Nat.not_le.mpr hbl) hS (sin hn hL (by decide)) dL_law_2147 ?_
  refine lv_aload_n hx hb dL_law_2148 rfl (lv_at hl 4 rfl) ?_
  obtain ⟨y, S1, M1, x1, e2, rr, ek, hM⟩ := xw_letPass (dC := dC) (dI := dI) (cg := cg) (kA := kA) (cL := cL) (cD := cD) (x := x) (d := d) hl0 hap r (xs (nI (6 * n + 1)).toNatClampNeg)
  refine gCallX X jOK hM (vx_cwSW 3 X.hts (gT_X tw1502 tw1503 tw0 tw1504) rfl rfl rfl ⟨by decide, by decide, by decide +kernel⟩ ⟨Nat.le_of_ble_eq_true rfl, Nat.le_of_ble_eq_true rfl⟩) rfl hP hS (jA4 hap hb1 hS.1) hl.1 (Nat.le_of_ble_eq_true rfl) ⟨by show cl + 1 ≤ 601024; omega, by show sl + 6 ≤ 7293034; omega⟩ dL_law_2149 (As := [.ref (caOf b1 0), .int (xs (nI (6 * n + 1)).toNatClampNeg), .ref o1]) (rest := []) rfl (fun H locs hP hS => ?_)
  refine lv_istore (lv' := [(6, .int (M1.1 7)), (5, .int (nI (6 * n))), (0, .ref b), (1, .ref (caOf b1 0)), (2, .ref (adOf b2 25)), (3, .ref o1), (4, .ref o2)]) hx hb dL_law_2152 hl (by decide) rfl (fun ls hl => ?_)
  refine lv_aload_n hx hb dL_law_2154 rfl (lv_at hl 4 rfl) ?_
  refine lv_aload_n hx hb dL_law_2155 rfl (lv_at hl 2 rfl) ?_
  refine lv_iload hx hb dL_law_2156 (lv_at hl 1 rfl) ?_
  refine lv_iconst (v := 1) hx hb dL_law_2158 (by decide) ?_
  refine lv_iadd hx hb dL_law_2159 ?_
  rw [show nI (6 * n) + (1 : Int32) = nI (6 * n + 1) from nI_k]
  refine va_sld hx hb hXs hbl (Nat.not_le.mpr hbl) hS (sin hn hL (by decide)) dL_law_2160 ?_
  refine gCallWI X (gF_ok mOK (fsM hap)) ((gMetIA.of (vX11_letPass e2)).lift (fsM hap)) (cwV 1 X.hts (gT_V tw2251 tw2252 tw2253 tw31 tw2254) rfl rfl rfl ⟨rfl, by decide, by decide, by decide +kernel⟩ ⟨Nat.le_of_ble_eq_true rfl, Nat.le_of_ble_eq_true rfl⟩) rfl (j_fm hP) hS (jA3 hb2 hS.1) (mrec hP.2.1) hl.1 (Nat.le_of_ble_eq_true rfl) ⟨by show cl + 1 + 0 ≤ 601024; omega, by show sl + 6 + 0 ≤ 7293034; omega⟩ dL_law_2161 (As := [.int (xs (nI (6 * n + 1)).toNatClampNeg)]) (rest := []) rfl (fun H locs hP hS => ?_)
  have hP := j_of hP
  refine lv_istore (lv' := [(7, .int y), (6, .int (M1.1 7)), (5, .int (nI (6 * n))), (0, .ref b), (1, .ref (caOf b1 0)), (2, .ref (adOf b2 25)), (3, .ref o1), (4, .ref o2)]) hx hb dL_law_2164 hl (by decide) rfl (fun ls hl => ?_)
  refine lv_aload_n hx hb dL_law_2166 rfl (lv_at hl 5 rfl) ?_
  refine gCallWI X (gF_ok mOK (fsM hap)) ((gMetR_IA mOK (vX11_thrown (M := M1) (r := M1.1 7) rfl)).lift (fsM hap)) (cwV 0 X.hts (gT_V tw1741 tw1742 tw1743 tw31 tw1744) rfl rfl rfl ⟨rfl, by decide, by decide, by decide +kernel⟩ ⟨Nat.le_of_ble_eq_true rfl, Nat.le_of_ble_eq_true rfl⟩) rfl (j_fm hP) hS (jA3 hb2 hS.1) (mrec hP.2.1) hl.1 (Nat.le_of_ble_eq_true rfl) ⟨by show cl + 1 + 0 + 0 ≤ 601024; omega, by show sl + 6 + 0 + 0 ≤ 7293034; omega⟩ dL_law_2167 (As := []) (rest := []) rfl (fun H locs hP hS => ?_)
  have hP := j_of hP
  refine lv_iload hx hb dL_law_2170 (lv_at hl 1 rfl) ?_
  refine lv_icmp_eq (tgt := 2177) hx hb dL_law_2172 (by decide) (fun _ => ?_) (fun c => absurd rfl c)
  refine lv_iload hx hb dL_law_2177 (lv_at hl 1 rfl) ?_
  refine lv_if_ne (tgt := 2194) hx hb dL_law_2179 (by decide) (fun _ => ?_) (fun hk => ?_)
  · refine lv_goto (tgt := 2684) hx hb dL_law_2194 (by decide) ?_
    exact K S1 M1 x1 d _ _ _ _ _ rr hP hS (lv_sub hl [2, 3, 4, 5, 6, 7] rfl) (by show cl + 1 + 0 + 0 ≤ _; omega) (by show sl + 6 + 0 + 0 ≤ _; omega)
  have hk : M1.1 7 = 0 := hk
  refine lv_aload_n hx hb dL_law_2182 rfl (lv_at hl 6 rfl) ?_
  refine lv_iconst (v := 0) hx hb dL_law_2183 (by decide) ?_
  refine j_lald (S := S1) (M := M1) (x := x1) (d := d) X hP dL_law_2184 ?_
  refine lv_iload hx hb dL_law_2185 (lv_at hl 0 rfl) ?_
  refine lv_i2l hx hb dL_law_2187 rfl ?_
  refine W.lcmp hx hb dL_law_2188 ?_
  rw [ek hk, lg_cmp_s]
  refine lv_if_eq (tgt := 2194) hx hb dL_law_2189 (by decide) (fun _ => ?_) (fun c => absurd rfl c)
  refine lv_goto (tgt := 2684) hx hb dL_law_2194 (by decide) ?_
  exact K S1 M1 x1 d _ _ _ _ _ rr hP hS (lv_sub hl [2, 3, 4, 5, 6, 7] rfl) (by show cl + 1 + 0 + 0 ≤ _; omega) (by show sl + 6 + 0 + 0 ≤ _; omega)
theorem lc_52 (X : gX p s m #[.ref b] c cL_law 10 "GranaryWatchLaw" (kR kTab kA)) (hXs : va_X b L xs s s.heap) (hbl : b < s.heap.size) (hb1 : s.heap.size ≤ b1) (hap : APJ b1 b2 o1 o2) (hl0 : l.stackTraces = false) (hnn : NNAN) (hn2 : NN2) (hn : 6 * n + 6 ≤ L) (hL : L ≤ 3072) (r : Rel S M) (hP : jP dC dI cg kA b1 b2 o1 o2 cL cD (S, M, x, d) s H) (hS : va_S (fun q => s.heap.size ≤ q) s.heap H locs) (hl : lv_has ls 10 [(5, .int (nI (6 * n))), (0, .ref b), (1, .ref (caOf b1 0)), (2, .ref (adOf b2 25)), (3, .ref o1), (4, .ref o2)]) (hcl : cl + 403 ≤ 601024) (hsl : sl + 3826 ≤ 7293034) (K : LK p l e s m below meth c Q dC dI cg kA b b1 b2 o1 o2 n cL cD cl sl) : W p l e room_1 s m #[.ref b] below meth c H locs cl sl Q (F0 m 2197 ls []) := by
  have hx := X.hx
  have hb := X.hb
  have hz := hS.1
  have hb2 : s.heap.size ≤ b2 := by
    have := hap.1
    omega
  refine lv_aload_n hx hb dL_law_2197 rfl (lv_at hl 2 rfl) ?_
  refine lv_aload_n hx hb dL_law_2198 rfl (lv_at hl 1 rfl) ?_
  refine lv_iload hx hb dL_law_2199 (lv_at hl 0 rfl) ?_
  refine lv_iconst (v := 1) hx hb dL_law_2201 (by decide) ?_
  refine lv_iadd hx hb dL_law_2202 ?_
  rw [show nI (6 * n) + (1 : Int32) = nI (6 * n + 1) from nI_k]
  refine va_sld hx hb hXs hbl (Nat.not_le.mpr hbl) hS (sin hn hL (by decide)) dL_law_2203 ?_
  refine lv_aload_n hx hb dL_law_2204 rfl (lv_at hl 4 rfl) ?_
  obtain ⟨y, S1, M1, x1, e2, rr, ek, hM⟩ := xw_openFlap (dC := dC) (dI := dI) (cg := cg) (kA := kA) (cL := cL) (cD := cD) (x := x) (d := d) hl0 hap r (xs (nI (6 * n + 1)).toNatClampNeg)
  refine gCallX X jOK hM (vx_cwSW 3 X.hts (gT_X tw1532 tw1533 tw0 tw1534) rfl rfl rfl ⟨by decide, by decide, by decide +kernel⟩ ⟨Nat.le_of_ble_eq_true rfl, Nat.le_of_ble_eq_true rfl⟩) rfl hP hS (jA4 hap hb1 hS.1) hl.1 (Nat.le_of_ble_eq_true rfl) ⟨by show cl + 1 ≤ 601024; omega, by show sl + 6 ≤ 7293034; omega⟩ dL_law_2205 (As := [.ref (caOf b1 0), .int (xs (nI (6 * n + 1)).toNatClampNeg), .ref o1]) (rest := []) rfl (fun H locs hP hS => ?_)
  refine lv_istore (lv' := [(6, .int (M1.1 7)), (5, .int (nI (6 * n))), (0, .ref b), (1, .ref (caOf b1 0)), (2, .ref (adOf b2 25)), (3, .ref o1), (4, .ref o2)]) hx hb dL_law_2208 hl (by decide) rfl (fun ls hl => ?_)
  refine lv_aload_n hx hb dL_law_2210 rfl (lv_at hl 4 rfl) ?_
  refine lv_aload_n hx hb dL_law_2211 rfl (lv_at hl 2 rfl) ?_
  refine lv_iload hx hb dL_law_2212 (lv_at hl 1 rfl) ?_
  refine lv_iconst (v := 1) hx hb dL_law_2214 (by decide) ?_
  refine lv_iadd hx hb dL_law_2215 ?_
  rw [show nI (6 * n) + (1 : Int32) = nI (6 * n + 1) from nI_k]
  refine va_sld hx hb hXs hbl (Nat.not_le.mpr hbl) hS (sin hn hL (by decide)) dL_law_2216 ?_
  refine gCallWI X (gF_ok mOK (fsM hap)) ((gMetIA.of (vX11_openFlap e2)).lift (fsM hap)) (cwV 1 X.hts (gT_V tw2255 tw2256 tw2257 tw31 tw2258) rfl rfl rfl ⟨rfl, by decide, by decide, by decide +kernel⟩ ⟨Nat.le_of_ble_eq_true rfl, Nat.le_of_ble_eq_true rfl⟩) rfl (j_fm hP) hS (jA3 hb2 hS.1) (mrec hP.2.1) hl.1 (Nat.le_of_ble_eq_true rfl) ⟨by show cl + 1 + 0 ≤ 601024; omega, by show sl + 6 + 0 ≤ 7293034; omega⟩ dL_law_2217 (As := [.int (xs (nI (6 * n + 1)).toNatClampNeg)]) (rest := []) rfl (fun H locs hP hS => ?_)
  have hP := j_of hP
  refine lv_istore (lv' := [(7, .int y), (6, .int (M1.1 7)), (5, .int (nI (6 * n))), (0, .ref b), (1, .ref (caOf b1 0)), (2, .ref (adOf b2 25)), (3, .ref o1), (4, .ref o2)]) hx hb dL_law_2220 hl (by decide) rfl (fun ls hl => ?_)
  refine lv_aload_n hx hb dL_law_2222 rfl (lv_at hl 5 rfl) ?_
  refine gCallWI X (gF_ok mOK (fsM hap)) ((gMetR_IA mOK (vX11_thrown (M := M1) (r := M1.1 7) rfl)).lift (fsM hap)) (cwV 0 X.hts (gT_V tw1741 tw1742 tw1743 tw31 tw1744) rfl rfl rfl ⟨rfl, by decide, by decide, by decide +kernel⟩ ⟨Nat.le_of_ble_eq_true rfl, Nat.le_of_ble_eq_true rfl⟩) rfl (j_fm hP) hS (jA3 hb2 hS.1) (mrec hP.2.1) hl.1 (Nat.le_of_ble_eq_true rfl) ⟨by show cl + 1 + 0 + 0 ≤ 601024; omega, by show sl + 6 + 0 + 0 ≤ 7293034; omega⟩ dL_law_2223 (As := []) (rest := []) rfl (fun H locs hP hS => ?_)
  have hP := j_of hP
  refine lv_iload hx hb dL_law_2226 (lv_at hl 1 rfl) ?_
  refine lv_icmp_eq (tgt := 2233) hx hb dL_law_2228 (by decide) (fun _ => ?_) (fun c => absurd rfl c)
  refine lv_iload hx hb dL_law_2233 (lv_at hl 1 rfl) ?_
  refine lv_if_ne (tgt := 2250) hx hb dL_law_2235 (by decide) (fun _ => ?_) (fun hk => ?_)
  · refine lv_goto (tgt := 2684) hx hb dL_law_2250 (by decide) ?_
    exact K S1 M1 x1 d _ _ _ _ _ rr hP hS (lv_sub hl [2, 3, 4, 5, 6, 7] rfl) (by show cl + 1 + 0 + 0 ≤ _; omega) (by show sl + 6 + 0 + 0 ≤ _; omega)
  have hk : M1.1 7 = 0 := hk
  refine lv_aload_n hx hb dL_law_2238 rfl (lv_at hl 6 rfl) ?_
  refine lv_iconst (v := 0) hx hb dL_law_2239 (by decide) ?_
  refine j_lald (S := S1) (M := M1) (x := x1) (d := d) X hP dL_law_2240 ?_
  refine lv_iload hx hb dL_law_2241 (lv_at hl 0 rfl) ?_
  refine lv_i2l hx hb dL_law_2243 rfl ?_
  refine W.lcmp hx hb dL_law_2244 ?_
  rw [ek hk, lg_cmp_s]
  refine lv_if_eq (tgt := 2250) hx hb dL_law_2245 (by decide) (fun _ => ?_) (fun c => absurd rfl c)
  refine lv_goto (tgt := 2684) hx hb dL_law_2250 (by decide) ?_
  exact K S1 M1 x1 d _ _ _ _ _ rr hP hS (lv_sub hl [2, 3, 4, 5, 6, 7] rfl) (by show cl + 1 + 0 + 0 ≤ _; omega) (by show sl + 6 + 0 + 0 ≤ _; omega)
theorem lc_53 (X : gX p s m #[.ref b] c cL_law 10 "GranaryWatchLaw" (kR kTab kA)) (hXs : va_X b L xs s s.heap) (hbl : b < s.heap.size) (hb1 : s.heap.size ≤ b1) (hap : APJ b1 b2 o1 o2) (hl0 : l.stackTraces = false) (hnn : NNAN) (hn2 : NN2) (hn : 6 * n + 6 ≤ L) (hL : L ≤ 3072) (r : Rel S M) (hP : jP dC dI cg kA b1 b2 o1 o2 cL cD (S, M, x, d) s H) (hS : va_S (fun q => s.heap.size ≤ q) s.heap H locs) (hl : lv_has ls 10 [(5, .int (nI (6 * n))), (0, .ref b), (1, .ref (caOf b1 0)), (2, .ref (adOf b2 25)), (3, .ref o1), (4, .ref o2)]) (hcl : cl + 403 ≤ 601024) (hsl : sl + 3826 ≤ 7293034) (K : LK p l e s m below meth c Q dC dI cg kA b b1 b2 o1 o2 n cL cD cl sl) : W p l e room_1 s m #[.ref b] below meth c H locs cl sl Q (F0 m 2253 ls []) := by
  have hx := X.hx
  have hb := X.hb
  have hz := hS.1
  have hb2 : s.heap.size ≤ b2 := by
    have := hap.1
    omega
  refine lv_aload_n hx hb dL_law_2253 rfl (lv_at hl 2 rfl) ?_
  refine lv_aload_n hx hb dL_law_2254 rfl (lv_at hl 1 rfl) ?_
  refine lv_iload hx hb dL_law_2255 (lv_at hl 0 rfl) ?_
  refine lv_iconst (v := 1) hx hb dL_law_2257 (by decide) ?_
  refine lv_iadd hx hb dL_law_2258 ?_
  rw [show nI (6 * n) + (1 : Int32) = nI (6 * n + 1) from nI_k]
  refine va_sld hx hb hXs hbl (Nat.not_le.mpr hbl) hS (sin hn hL (by decide)) dL_law_2259 ?_
  refine lv_aload_n hx hb dL_law_2260 rfl (lv_at hl 4 rfl) ?_
  obtain ⟨y, S1, M1, x1, e2, rr, ek, hM⟩ := xw_shutFlap (dC := dC) (dI := dI) (cg := cg) (kA := kA) (cL := cL) (cD := cD) (x := x) (d := d) hl0 hap r (xs (nI (6 * n + 1)).toNatClampNeg)
  refine gCallX X jOK hM (vx_cwSW 3 X.hts (gT_X tw1539 tw1540 tw0 tw1541) rfl rfl rfl ⟨by decide, by decide, by decide +kernel⟩ ⟨Nat.le_of_ble_eq_true rfl, Nat.le_of_ble_eq_true rfl⟩) rfl hP hS (jA4 hap hb1 hS.1) hl.1 (Nat.le_of_ble_eq_true rfl) ⟨by show cl + 1 ≤ 601024; omega, by show sl + 6 ≤ 7293034; omega⟩ dL_law_2261 (As := [.ref (caOf b1 0), .int (xs (nI (6 * n + 1)).toNatClampNeg), .ref o1]) (rest := []) rfl (fun H locs hP hS => ?_)
  refine lv_istore (lv' := [(6, .int (M1.1 7)), (5, .int (nI (6 * n))), (0, .ref b), (1, .ref (caOf b1 0)), (2, .ref (adOf b2 25)), (3, .ref o1), (4, .ref o2)]) hx hb dL_law_2264 hl (by decide) rfl (fun ls hl => ?_)
  refine lv_aload_n hx hb dL_law_2266 rfl (lv_at hl 4 rfl) ?_
  refine lv_aload_n hx hb dL_law_2267 rfl (lv_at hl 2 rfl) ?_
  refine lv_iload hx hb dL_law_2268 (lv_at hl 1 rfl) ?_
  refine lv_iconst (v := 1) hx hb dL_law_2270 (by decide) ?_
  refine lv_iadd hx hb dL_law_2271 ?_
  rw [show nI (6 * n) + (1 : Int32) = nI (6 * n + 1) from nI_k]
  refine va_sld hx hb hXs hbl (Nat.not_le.mpr hbl) hS (sin hn hL (by decide)) dL_law_2272 ?_
  refine gCallWI X (gF_ok mOK (fsM hap)) ((gMetIA.of (vX11_shutFlap e2)).lift (fsM hap)) (cwV 1 X.hts (gT_V tw2259 tw2260 tw2261 tw31 tw2262) rfl rfl rfl ⟨rfl, by decide, by decide, by decide +kernel⟩ ⟨Nat.le_of_ble_eq_true rfl, Nat.le_of_ble_eq_true rfl⟩) rfl (j_fm hP) hS (jA3 hb2 hS.1) (mrec hP.2.1) hl.1 (Nat.le_of_ble_eq_true rfl) ⟨by show cl + 1 + 0 ≤ 601024; omega, by show sl + 6 + 0 ≤ 7293034; omega⟩ dL_law_2273 (As := [.int (xs (nI (6 * n + 1)).toNatClampNeg)]) (rest := []) rfl (fun H locs hP hS => ?_)
  have hP := j_of hP
  refine lv_istore (lv' := [(7, .int y), (6, .int (M1.1 7)), (5, .int (nI (6 * n))), (0, .ref b), (1, .ref (caOf b1 0)), (2, .ref (adOf b2 25)), (3, .ref o1), (4, .ref o2)]) hx hb dL_law_2276 hl (by decide) rfl (fun ls hl => ?_)
  refine lv_aload_n hx hb dL_law_2278 rfl (lv_at hl 5 rfl) ?_
  refine gCallWI X (gF_ok mOK (fsM hap)) ((gMetR_IA mOK (vX11_thrown (M := M1) (r := M1.1 7) rfl)).lift (fsM hap)) (cwV 0 X.hts (gT_V tw1741 tw1742 tw1743 tw31 tw1744) rfl rfl rfl ⟨rfl, by decide, by decide, by decide +kernel⟩ ⟨Nat.le_of_ble_eq_true rfl, Nat.le_of_ble_eq_true rfl⟩) rfl (j_fm hP) hS (jA3 hb2 hS.1) (mrec hP.2.1) hl.1 (Nat.le_of_ble_eq_true rfl) ⟨by show cl + 1 + 0 + 0 ≤ 601024; omega, by show sl + 6 + 0 + 0 ≤ 7293034; omega⟩ dL_law_2279 (As := []) (rest := []) rfl (fun H locs hP hS => ?_)
  have hP := j_of hP
  refine lv_iload hx hb dL_law_2282 (lv_at hl 1 rfl) ?_
  refine lv_icmp_eq (tgt := 2289) hx hb dL_law_2284 (by decide) (fun _ => ?_) (fun c => absurd rfl c)
  refine lv_iload hx hb dL_law_2289 (lv_at hl 1 rfl) ?_
  refine lv_if_ne (tgt := 2306) hx hb dL_law_2291 (by decide) (fun _ => ?_) (fun hk => ?_)
  · refine lv_goto (tgt := 2684) hx hb dL_law_2306 (by decide) ?_
    exact K S1 M1 x1 d _ _ _ _ _ rr hP hS (lv_sub hl [2, 3, 4, 5, 6, 7] rfl) (by show cl + 1 + 0 + 0 ≤ _; omega) (by show sl + 6 + 0 + 0 ≤ _; omega)
  have hk : M1.1 7 = 0 := hk
  refine lv_aload_n hx hb dL_law_2294 rfl (lv_at hl 6 rfl) ?_
  refine lv_iconst (v := 0) hx hb dL_law_2295 (by decide) ?_
  refine j_lald (S := S1) (M := M1) (x := x1) (d := d) X hP dL_law_2296 ?_
  refine lv_iload hx hb dL_law_2297 (lv_at hl 0 rfl) ?_
  refine lv_i2l hx hb dL_law_2299 rfl ?_
  refine W.lcmp hx hb dL_law_2300 ?_
  rw [ek hk, lg_cmp_s]
  refine lv_if_eq (tgt := 2306) hx hb dL_law_2301 (by decide) (fun _ => ?_) (fun c => absurd rfl c)
  refine lv_goto (tgt := 2684) hx hb dL_law_2306 (by decide) ?_
  exact K S1 M1 x1 d _ _ _ _ _ rr hP hS (lv_sub hl [2, 3, 4, 5, 6, 7] rfl) (by show cl + 1 + 0 + 0 ≤ _; omega) (by show sl + 6 + 0 + 0 ≤ _; omega)
theorem lc_54 (X : gX p s m #[.ref b] c cL_law 10 "GranaryWatchLaw" (kR kTab kA)) (hXs : va_X b L xs s s.heap) (hbl : b < s.heap.size) (hb1 : s.heap.size ≤ b1) (hap : APJ b1 b2 o1 o2) (hl0 : l.stackTraces = false) (hnn : NNAN) (hn2 : NN2) (hn : 6 * n + 6 ≤ L) (hL : L ≤ 3072) (r : Rel S M) (hP : jP dC dI cg kA b1 b2 o1 o2 cL cD (S, M, x, d) s H) (hS : va_S (fun q => s.heap.size ≤ q) s.heap H locs) (hl : lv_has ls 10 [(5, .int (nI (6 * n))), (0, .ref b), (1, .ref (caOf b1 0)), (2, .ref (adOf b2 25)), (3, .ref o1), (4, .ref o2)]) (hcl : cl + 403 ≤ 601024) (hsl : sl + 3826 ≤ 7293034) (K : LK p l e s m below meth c Q dC dI cg kA b b1 b2 o1 o2 n cL cD cl sl) : W p l e room_1 s m #[.ref b] below meth c H locs cl sl Q (F0 m 2309 ls []) := by
  have hx := X.hx
  have hb := X.hb
  have hz := hS.1
  have hb2 : s.heap.size ≤ b2 := by
    have := hap.1
    omega
  refine lv_aload_n hx hb dL_law_2309 rfl (lv_at hl 2 rfl) ?_
  refine lv_aload_n hx hb dL_law_2310 rfl (lv_at hl 1 rfl) ?_
  refine lv_iload hx hb dL_law_2311 (lv_at hl 0 rfl) ?_
  refine lv_iconst (v := 1) hx hb dL_law_2313 (by decide) ?_
  refine lv_iadd hx hb dL_law_2314 ?_
  rw [show nI (6 * n) + (1 : Int32) = nI (6 * n + 1) from nI_k]
  refine va_sld hx hb hXs hbl (Nat.not_le.mpr hbl) hS (sin hn hL (by decide)) dL_law_2315 ?_
  refine lv_aload_n hx hb dL_law_2316 rfl (lv_at hl 1 rfl) ?_
  refine lv_iload hx hb dL_law_2317 (lv_at hl 0 rfl) ?_
  refine lv_iconst (v := 2) hx hb dL_law_2319 (by decide) ?_
  refine lv_iadd hx hb dL_law_2320 ?_
  rw [show nI (6 * n) + (2 : Int32) = nI (6 * n + 2) from nI_k]
  refine va_sld hx hb hXs hbl (Nat.not_le.mpr hbl) hS (sin hn hL (by decide)) dL_law_2321 ?_
  refine lv_aload_n hx hb dL_law_2322 rfl (lv_at hl 4 rfl) ?_
  obtain ⟨y, S1, M1, x1, e2, rr, ek, hM⟩ := xw_addMice (dC := dC) (dI := dI) (cg := cg) (kA := kA) (cL := cL) (cD := cD) (x := x) (d := d) hl0 hap r (xs (nI (6 * n + 1)).toNatClampNeg) (xs (nI (6 * n + 2)).toNatClampNeg)
  refine gCallX X jOK hM (vx_cwSW 4 X.hts (gT_X tw1546 tw1547 tw0 tw1548) rfl rfl rfl ⟨by decide, by decide, by decide +kernel⟩ ⟨Nat.le_of_ble_eq_true rfl, Nat.le_of_ble_eq_true rfl⟩) rfl hP hS (jA4 hap hb1 hS.1) hl.1 (Nat.le_of_ble_eq_true rfl) ⟨by show cl + 1 ≤ 601024; omega, by show sl + 6 ≤ 7293034; omega⟩ dL_law_2323 (As := [.ref (caOf b1 0), .int (xs (nI (6 * n + 1)).toNatClampNeg), .int (xs (nI (6 * n + 2)).toNatClampNeg), .ref o1]) (rest := []) rfl (fun H locs hP hS => ?_)
  refine lv_istore (lv' := [(6, .int (M1.1 7)), (5, .int (nI (6 * n))), (0, .ref b), (1, .ref (caOf b1 0)), (2, .ref (adOf b2 25)), (3, .ref o1), (4, .ref o2)]) hx hb dL_law_2326 hl (by decide) rfl (fun ls hl => ?_)
  refine lv_aload_n hx hb dL_law_2328 rfl (lv_at hl 4 rfl) ?_
  refine lv_aload_n hx hb dL_law_2329 rfl (lv_at hl 2 rfl) ?_
  refine lv_iload hx hb dL_law_2330 (lv_at hl 1 rfl) ?_
  refine lv_iconst (v := 1) hx hb dL_law_2332 (by decide) ?_
  refine lv_iadd hx hb dL_law_2333 ?_
  rw [show nI (6 * n) + (1 : Int32) = nI (6 * n + 1) from nI_k]
  refine va_sld hx hb hXs hbl (Nat.not_le.mpr hbl) hS (sin hn hL (by decide)) dL_law_2334 ?_
  refine lv_aload_n hx hb dL_law_2335 rfl (lv_at hl 2 rfl) ?_
  refine lv_iload hx hb dL_law_2336 (lv_at hl 1 rfl) ?_
  refine lv_iconst (v := 2) hx hb dL_law_2338 (by decide) ?_
  refine lv_iadd hx hb dL_law_2339 ?_
  rw [show nI (6 * n) + (2 : Int32) = nI (6 * n + 2) from nI_k]
  refine va_sld hx hb hXs hbl (Nat.not_le.mpr hbl) hS (sin hn hL (by decide)) dL_law_2340 ?_
  refine gCallWI X (gF_ok mOK (fsM hap)) ((gMetIA.of (vX11_addMice e2)).lift (fsM hap)) (cwV 2 X.hts (gT_V tw2263 tw2264 tw2265 tw31 tw2266) rfl rfl rfl ⟨rfl, by decide, by decide, by decide +kernel⟩ ⟨Nat.le_of_ble_eq_true rfl, Nat.le_of_ble_eq_true rfl⟩) rfl (j_fm hP) hS (jA3 hb2 hS.1) (mrec hP.2.1) hl.1 (Nat.le_of_ble_eq_true rfl) ⟨by show cl + 1 + 0 ≤ 601024; omega, by show sl + 6 + 0 ≤ 7293034; omega⟩ dL_law_2341 (As := [.int (xs (nI (6 * n + 1)).toNatClampNeg), .int (xs (nI (6 * n + 2)).toNatClampNeg)]) (rest := []) rfl (fun H locs hP hS => ?_)
  have hP := j_of hP
  refine lv_istore (lv' := [(7, .int y), (6, .int (M1.1 7)), (5, .int (nI (6 * n))), (0, .ref b), (1, .ref (caOf b1 0)), (2, .ref (adOf b2 25)), (3, .ref o1), (4, .ref o2)]) hx hb dL_law_2344 hl (by decide) rfl (fun ls hl => ?_)
  refine lv_aload_n hx hb dL_law_2346 rfl (lv_at hl 5 rfl) ?_
  refine gCallWI X (gF_ok mOK (fsM hap)) ((gMetR_IA mOK (vX11_thrown (M := M1) (r := M1.1 7) rfl)).lift (fsM hap)) (cwV 0 X.hts (gT_V tw1741 tw1742 tw1743 tw31 tw1744) rfl rfl rfl ⟨rfl, by decide, by decide, by decide +kernel⟩ ⟨Nat.le_of_ble_eq_true rfl, Nat.le_of_ble_eq_true rfl⟩) rfl (j_fm hP) hS (jA3 hb2 hS.1) (mrec hP.2.1) hl.1 (Nat.le_of_ble_eq_true rfl) ⟨by show cl + 1 + 0 + 0 ≤ 601024; omega, by show sl + 6 + 0 + 0 ≤ 7293034; omega⟩ dL_law_2347 (As := []) (rest := []) rfl (fun H locs hP hS => ?_)
  have hP := j_of hP
  refine lv_iload hx hb dL_law_2350 (lv_at hl 1 rfl) ?_
  refine lv_icmp_eq (tgt := 2357) hx hb dL_law_2352 (by decide) (fun _ => ?_) (fun c => absurd rfl c)
  refine lv_iload hx hb dL_law_2357 (lv_at hl 1 rfl) ?_
  refine lv_if_ne (tgt := 2374) hx hb dL_law_2359 (by decide) (fun _ => ?_) (fun hk => ?_)
  · refine lv_goto (tgt := 2684) hx hb dL_law_2374 (by decide) ?_
    exact K S1 M1 x1 d _ _ _ _ _ rr hP hS (lv_sub hl [2, 3, 4, 5, 6, 7] rfl) (by show cl + 1 + 0 + 0 ≤ _; omega) (by show sl + 6 + 0 + 0 ≤ _; omega)
  have hk : M1.1 7 = 0 := hk
  refine lv_aload_n hx hb dL_law_2362 rfl (lv_at hl 6 rfl) ?_
  refine lv_iconst (v := 0) hx hb dL_law_2363 (by decide) ?_
  refine j_lald (S := S1) (M := M1) (x := x1) (d := d) X hP dL_law_2364 ?_
  refine lv_iload hx hb dL_law_2365 (lv_at hl 0 rfl) ?_
  refine lv_i2l hx hb dL_law_2367 rfl ?_
  refine W.lcmp hx hb dL_law_2368 ?_
  rw [ek hk, lg_cmp_s]
  refine lv_if_eq (tgt := 2374) hx hb dL_law_2369 (by decide) (fun _ => ?_) (fun c => absurd rfl c)
  refine lv_goto (tgt := 2684) hx hb dL_law_2374 (by decide) ?_
  exact K S1 M1 x1 d _ _ _ _ _ rr hP hS (lv_sub hl [2, 3, 4, 5, 6, 7] rfl) (by show cl + 1 + 0 + 0 ≤ _; omega) (by show sl + 6 + 0 + 0 ≤ _; omega)
theorem lc_55 (X : gX p s m #[.ref b] c cL_law 10 "GranaryWatchLaw" (kR kTab kA)) (hXs : va_X b L xs s s.heap) (hbl : b < s.heap.size) (hb1 : s.heap.size ≤ b1) (hap : APJ b1 b2 o1 o2) (hl0 : l.stackTraces = false) (hnn : NNAN) (hn2 : NN2) (hn : 6 * n + 6 ≤ L) (hL : L ≤ 3072) (r : Rel S M) (hP : jP dC dI cg kA b1 b2 o1 o2 cL cD (S, M, x, d) s H) (hS : va_S (fun q => s.heap.size ≤ q) s.heap H locs) (hl : lv_has ls 10 [(5, .int (nI (6 * n))), (0, .ref b), (1, .ref (caOf b1 0)), (2, .ref (adOf b2 25)), (3, .ref o1), (4, .ref o2)]) (hcl : cl + 403 ≤ 601024) (hsl : sl + 3826 ≤ 7293034) (K : LK p l e s m below meth c Q dC dI cg kA b b1 b2 o1 o2 n cL cD cl sl) : W p l e room_1 s m #[.ref b] below meth c H locs cl sl Q (F0 m 2377 ls []) := by
  have hx := X.hx
  have hb := X.hb
  have hz := hS.1
  have hb2 : s.heap.size ≤ b2 := by
    have := hap.1
    omega
  refine lv_aload_n hx hb dL_law_2377 rfl (lv_at hl 2 rfl) ?_
  refine lv_aload_n hx hb dL_law_2378 rfl (lv_at hl 1 rfl) ?_
  refine lv_iload hx hb dL_law_2379 (lv_at hl 0 rfl) ?_
  refine lv_iconst (v := 1) hx hb dL_law_2381 (by decide) ?_
  refine lv_iadd hx hb dL_law_2382 ?_
  rw [show nI (6 * n) + (1 : Int32) = nI (6 * n + 1) from nI_k]
  refine va_sld hx hb hXs hbl (Nat.not_le.mpr hbl) hS (sin hn hL (by decide)) dL_law_2383 ?_
  refine lv_aload_n hx hb dL_law_2384 rfl (lv_at hl 1 rfl) ?_
  refine lv_iload hx hb dL_law_2385 (lv_at hl 0 rfl) ?_
  refine lv_iconst (v := 2) hx hb dL_law_2387 (by decide) ?_
  refine lv_iadd hx hb dL_law_2388 ?_
  rw [show nI (6 * n) + (2 : Int32) = nI (6 * n + 2) from nI_k]
  refine va_sld hx hb hXs hbl (Nat.not_le.mpr hbl) hS (sin hn hL (by decide)) dL_law_2389 ?_
  refine lv_aload_n hx hb dL_law_2390 rfl (lv_at hl 4 rfl) ?_
  obtain ⟨y, S1, M1, x1, e2, rr, ek, hM⟩ := xw_addGrain (dC := dC) (dI := dI) (cg := cg) (kA := kA) (cL := cL) (cD := cD) (x := x) (d := d) hl0 hap r (xs (nI (6 * n + 1)).toNatClampNeg) (xs (nI (6 * n + 2)).toNatClampNeg)
  refine gCallX X jOK hM (vx_cwSW 4 X.hts (gT_X tw1553 tw1554 tw0 tw1555) rfl rfl rfl ⟨by decide, by decide, by decide +kernel⟩ ⟨Nat.le_of_ble_eq_true rfl, Nat.le_of_ble_eq_true rfl⟩) rfl hP hS (jA4 hap hb1 hS.1) hl.1 (Nat.le_of_ble_eq_true rfl) ⟨by show cl + 1 ≤ 601024; omega, by show sl + 6 ≤ 7293034; omega⟩ dL_law_2391 (As := [.ref (caOf b1 0), .int (xs (nI (6 * n + 1)).toNatClampNeg), .int (xs (nI (6 * n + 2)).toNatClampNeg), .ref o1]) (rest := []) rfl (fun H locs hP hS => ?_)
  refine lv_istore (lv' := [(6, .int (M1.1 7)), (5, .int (nI (6 * n))), (0, .ref b), (1, .ref (caOf b1 0)), (2, .ref (adOf b2 25)), (3, .ref o1), (4, .ref o2)]) hx hb dL_law_2394 hl (by decide) rfl (fun ls hl => ?_)
  refine lv_aload_n hx hb dL_law_2396 rfl (lv_at hl 4 rfl) ?_
  refine lv_aload_n hx hb dL_law_2397 rfl (lv_at hl 2 rfl) ?_
  refine lv_iload hx hb dL_law_2398 (lv_at hl 1 rfl) ?_
  refine lv_iconst (v := 1) hx hb dL_law_2400 (by decide) ?_
  refine lv_iadd hx hb dL_law_2401 ?_
  rw [show nI (6 * n) + (1 : Int32) = nI (6 * n + 1) from nI_k]
  refine va_sld hx hb hXs hbl (Nat.not_le.mpr hbl) hS (sin hn hL (by decide)) dL_law_2402 ?_
  refine lv_aload_n hx hb dL_law_2403 rfl (lv_at hl 2 rfl) ?_
  refine lv_iload hx hb dL_law_2404 (lv_at hl 1 rfl) ?_
  refine lv_iconst (v := 2) hx hb dL_law_2406 (by decide) ?_
  refine lv_iadd hx hb dL_law_2407 ?_
  rw [show nI (6 * n) + (2 : Int32) = nI (6 * n + 2) from nI_k]
  refine va_sld hx hb hXs hbl (Nat.not_le.mpr hbl) hS (sin hn hL (by decide)) dL_law_2408 ?_
  refine gCallWI X (gF_ok mOK (fsM hap)) ((gMetIA.of (vX11_addGrain e2)).lift (fsM hap)) (cwV 2 X.hts (gT_V tw2267 tw2268 tw2269 tw31 tw2270) rfl rfl rfl ⟨rfl, by decide, by decide, by decide +kernel⟩ ⟨Nat.le_of_ble_eq_true rfl, Nat.le_of_ble_eq_true rfl⟩) rfl (j_fm hP) hS (jA3 hb2 hS.1) (mrec hP.2.1) hl.1 (Nat.le_of_ble_eq_true rfl) ⟨by show cl + 1 + 0 ≤ 601024; omega, by show sl + 6 + 0 ≤ 7293034; omega⟩ dL_law_2409 (As := [.int (xs (nI (6 * n + 1)).toNatClampNeg), .int (xs (nI (6 * n + 2)).toNatClampNeg)]) (rest := []) rfl (fun H locs hP hS => ?_)
  have hP := j_of hP
  refine lv_istore (lv' := [(7, .int y), (6, .int (M1.1 7)), (5, .int (nI (6 * n))), (0, .ref b), (1, .ref (caOf b1 0)), (2, .ref (adOf b2 25)), (3, .ref o1), (4, .ref o2)]) hx hb dL_law_2412 hl (by decide) rfl (fun ls hl => ?_)
  refine lv_aload_n hx hb dL_law_2414 rfl (lv_at hl 5 rfl) ?_
  refine gCallWI X (gF_ok mOK (fsM hap)) ((gMetR_IA mOK (vX11_thrown (M := M1) (r := M1.1 7) rfl)).lift (fsM hap)) (cwV 0 X.hts (gT_V tw1741 tw1742 tw1743 tw31 tw1744) rfl rfl rfl ⟨rfl, by decide, by decide, by decide +kernel⟩ ⟨Nat.le_of_ble_eq_true rfl, Nat.le_of_ble_eq_true rfl⟩) rfl (j_fm hP) hS (jA3 hb2 hS.1) (mrec hP.2.1) hl.1 (Nat.le_of_ble_eq_true rfl) ⟨by show cl + 1 + 0 + 0 ≤ 601024; omega, by show sl + 6 + 0 + 0 ≤ 7293034; omega⟩ dL_law_2415 (As := []) (rest := []) rfl (fun H locs hP hS => ?_)
  have hP := j_of hP
  refine lv_iload hx hb dL_law_2418 (lv_at hl 1 rfl) ?_
  refine lv_icmp_eq (tgt := 2425) hx hb dL_law_2420 (by decide) (fun _ => ?_) (fun c => absurd rfl c)
  refine lv_iload hx hb dL_law_2425 (lv_at hl 1 rfl) ?_
  refine lv_if_ne (tgt := 2442) hx hb dL_law_2427 (by decide) (fun _ => ?_) (fun hk => ?_)
  · refine lv_goto (tgt := 2684) hx hb dL_law_2442 (by decide) ?_
    exact K S1 M1 x1 d _ _ _ _ _ rr hP hS (lv_sub hl [2, 3, 4, 5, 6, 7] rfl) (by show cl + 1 + 0 + 0 ≤ _; omega) (by show sl + 6 + 0 + 0 ≤ _; omega)
  have hk : M1.1 7 = 0 := hk
  refine lv_aload_n hx hb dL_law_2430 rfl (lv_at hl 6 rfl) ?_
  refine lv_iconst (v := 0) hx hb dL_law_2431 (by decide) ?_
  refine j_lald (S := S1) (M := M1) (x := x1) (d := d) X hP dL_law_2432 ?_
  refine lv_iload hx hb dL_law_2433 (lv_at hl 0 rfl) ?_
  refine lv_i2l hx hb dL_law_2435 rfl ?_
  refine W.lcmp hx hb dL_law_2436 ?_
  rw [ek hk, lg_cmp_s]
  refine lv_if_eq (tgt := 2442) hx hb dL_law_2437 (by decide) (fun _ => ?_) (fun c => absurd rfl c)
  refine lv_goto (tgt := 2684) hx hb dL_law_2442 (by decide) ?_
  exact K S1 M1 x1 d _ _ _ _ _ rr hP hS (lv_sub hl [2, 3, 4, 5, 6, 7] rfl) (by show cl + 1 + 0 + 0 ≤ _; omega) (by show sl + 6 + 0 + 0 ≤ _; omega)
theorem lc_56 (X : gX p s m #[.ref b] c cL_law 10 "GranaryWatchLaw" (kR kTab kA)) (hXs : va_X b L xs s s.heap) (hbl : b < s.heap.size) (hb1 : s.heap.size ≤ b1) (hap : APJ b1 b2 o1 o2) (hl0 : l.stackTraces = false) (hnn : NNAN) (hn2 : NN2) (hn : 6 * n + 6 ≤ L) (hL : L ≤ 3072) (r : Rel S M) (hP : jP dC dI cg kA b1 b2 o1 o2 cL cD (S, M, x, d) s H) (hS : va_S (fun q => s.heap.size ≤ q) s.heap H locs) (hl : lv_has ls 10 [(5, .int (nI (6 * n))), (0, .ref b), (1, .ref (caOf b1 0)), (2, .ref (adOf b2 25)), (3, .ref o1), (4, .ref o2)]) (hcl : cl + 403 ≤ 601024) (hsl : sl + 3826 ≤ 7293034) (K : LK p l e s m below meth c Q dC dI cg kA b b1 b2 o1 o2 n cL cD cl sl) : W p l e room_1 s m #[.ref b] below meth c H locs cl sl Q (F0 m 2445 ls []) := by
  have hx := X.hx
  have hb := X.hb
  have hz := hS.1
  have hb2 : s.heap.size ≤ b2 := by
    have := hap.1
    omega
  refine lv_aload_n hx hb dL_law_2445 rfl (lv_at hl 2 rfl) ?_
  refine lv_aload_n hx hb dL_law_2446 rfl (lv_at hl 4 rfl) ?_
  obtain ⟨y, S1, M1, x1, e2, rr, ek, hM⟩ := xw_dismiss (dC := dC) (dI := dI) (cg := cg) (kA := kA) (cL := cL) (cD := cD) (x := x) (d := d) hl0 hap r 
  refine gCallX X jOK hM (vx_cwSW 2 X.hts (gT_X tw1560 tw1561 tw0 tw1562) rfl rfl rfl ⟨by decide, by decide, by decide +kernel⟩ ⟨Nat.le_of_ble_eq_true rfl, Nat.le_of_ble_eq_true rfl⟩) rfl hP hS (jA4 hap hb1 hS.1) hl.1 (Nat.le_of_ble_eq_true rfl) ⟨by show cl + 1 ≤ 601024; omega, by show sl + 6 ≤ 7293034; omega⟩ dL_law_2447 (As := [.ref (caOf b1 0), .ref o1]) (rest := []) rfl (fun H locs hP hS => ?_)
  refine lv_istore (lv' := [(6, .int (M1.1 7)), (5, .int (nI (6 * n))), (0, .ref b), (1, .ref (caOf b1 0)), (2, .ref (adOf b2 25)), (3, .ref o1), (4, .ref o2)]) hx hb dL_law_2450 hl (by decide) rfl (fun ls hl => ?_)
  refine lv_aload_n hx hb dL_law_2452 rfl (lv_at hl 4 rfl) ?_
  refine gCallWI X (gF_ok mOK (fsM hap)) ((gMetIA.of (vX11_dismiss e2)).lift (fsM hap)) (cwV 0 X.hts (gT_V tw2271 tw2272 tw2273 tw31 tw2274) rfl rfl rfl ⟨rfl, by decide, by decide, by decide +kernel⟩ ⟨Nat.le_of_ble_eq_true rfl, Nat.le_of_ble_eq_true rfl⟩) rfl (j_fm hP) hS (jA3 hb2 hS.1) (mrec hP.2.1) hl.1 (Nat.le_of_ble_eq_true rfl) ⟨by show cl + 1 + 0 ≤ 601024; omega, by show sl + 6 + 0 ≤ 7293034; omega⟩ dL_law_2453 (As := []) (rest := []) rfl (fun H locs hP hS => ?_)
  have hP := j_of hP
  refine lv_istore (lv' := [(7, .int y), (6, .int (M1.1 7)), (5, .int (nI (6 * n))), (0, .ref b), (1, .ref (caOf b1 0)), (2, .ref (adOf b2 25)), (3, .ref o1), (4, .ref o2)]) hx hb dL_law_2456 hl (by decide) rfl (fun ls hl => ?_)
  refine lv_aload_n hx hb dL_law_2458 rfl (lv_at hl 5 rfl) ?_
  refine gCallWI X (gF_ok mOK (fsM hap)) ((gMetR_IA mOK (vX11_thrown (M := M1) (r := M1.1 7) rfl)).lift (fsM hap)) (cwV 0 X.hts (gT_V tw1741 tw1742 tw1743 tw31 tw1744) rfl rfl rfl ⟨rfl, by decide, by decide, by decide +kernel⟩ ⟨Nat.le_of_ble_eq_true rfl, Nat.le_of_ble_eq_true rfl⟩) rfl (j_fm hP) hS (jA3 hb2 hS.1) (mrec hP.2.1) hl.1 (Nat.le_of_ble_eq_true rfl) ⟨by show cl + 1 + 0 + 0 ≤ 601024; omega, by show sl + 6 + 0 + 0 ≤ 7293034; omega⟩ dL_law_2459 (As := []) (rest := []) rfl (fun H locs hP hS => ?_)
  have hP := j_of hP
  refine lv_iload hx hb dL_law_2462 (lv_at hl 1 rfl) ?_
  refine lv_icmp_eq (tgt := 2469) hx hb dL_law_2464 (by decide) (fun _ => ?_) (fun c => absurd rfl c)
  refine lv_iload hx hb dL_law_2469 (lv_at hl 1 rfl) ?_
  refine lv_if_ne (tgt := 2486) hx hb dL_law_2471 (by decide) (fun _ => ?_) (fun hk => ?_)
  · refine lv_goto (tgt := 2684) hx hb dL_law_2486 (by decide) ?_
    exact K S1 M1 x1 d _ _ _ _ _ rr hP hS (lv_sub hl [2, 3, 4, 5, 6, 7] rfl) (by show cl + 1 + 0 + 0 ≤ _; omega) (by show sl + 6 + 0 + 0 ≤ _; omega)
  have hk : M1.1 7 = 0 := hk
  refine lv_aload_n hx hb dL_law_2474 rfl (lv_at hl 6 rfl) ?_
  refine lv_iconst (v := 0) hx hb dL_law_2475 (by decide) ?_
  refine j_lald (S := S1) (M := M1) (x := x1) (d := d) X hP dL_law_2476 ?_
  refine lv_iload hx hb dL_law_2477 (lv_at hl 0 rfl) ?_
  refine lv_i2l hx hb dL_law_2479 rfl ?_
  refine W.lcmp hx hb dL_law_2480 ?_
  rw [ek hk, lg_cmp_s]
  refine lv_if_eq (tgt := 2486) hx hb dL_law_2481 (by decide) (fun _ => ?_) (fun c => absurd rfl c)
  refine lv_goto (tgt := 2684) hx hb dL_law_2486 (by decide) ?_
  exact K S1 M1 x1 d _ _ _ _ _ rr hP hS (lv_sub hl [2, 3, 4, 5, 6, 7] rfl) (by show cl + 1 + 0 + 0 ≤ _; omega) (by show sl + 6 + 0 + 0 ≤ _; omega)
theorem lc_57 (X : gX p s m #[.ref b] c cL_law 10 "GranaryWatchLaw" (kR kTab kA)) (hXs : va_X b L xs s s.heap) (hbl : b < s.heap.size) (hb1 : s.heap.size ≤ b1) (hap : APJ b1 b2 o1 o2) (hl0 : l.stackTraces = false) (hnn : NNAN) (hn2 : NN2) (hn : 6 * n + 6 ≤ L) (hL : L ≤ 3072) (r : Rel S M) (hP : jP dC dI cg kA b1 b2 o1 o2 cL cD (S, M, x, d) s H) (hS : va_S (fun q => s.heap.size ≤ q) s.heap H locs) (hl : lv_has ls 10 [(5, .int (nI (6 * n))), (0, .ref b), (1, .ref (caOf b1 0)), (2, .ref (adOf b2 25)), (3, .ref o1), (4, .ref o2)]) (hcl : cl + 403 ≤ 601024) (hsl : sl + 3826 ≤ 7293034) (K : LK p l e s m below meth c Q dC dI cg kA b b1 b2 o1 o2 n cL cD cl sl) : W p l e room_1 s m #[.ref b] below meth c H locs cl sl Q (F0 m 2489 ls []) := by
  have hx := X.hx
  have hb := X.hb
  have hz := hS.1
  have hb2 : s.heap.size ≤ b2 := by
    have := hap.1
    omega
  refine lv_aload_n hx hb dL_law_2489 rfl (lv_at hl 2 rfl) ?_
  refine lv_aload_n hx hb dL_law_2490 rfl (lv_at hl 1 rfl) ?_
  refine lv_iload hx hb dL_law_2491 (lv_at hl 0 rfl) ?_
  refine lv_iconst (v := 1) hx hb dL_law_2493 (by decide) ?_
  refine lv_iadd hx hb dL_law_2494 ?_
  rw [show nI (6 * n) + (1 : Int32) = nI (6 * n + 1) from nI_k]
  refine va_sld hx hb hXs hbl (Nat.not_le.mpr hbl) hS (sin hn hL (by decide)) dL_law_2495 ?_
  refine lv_aload_n hx hb dL_law_2496 rfl (lv_at hl 4 rfl) ?_
  obtain ⟨y, S1, M1, x1, e2, rr, ek, hM⟩ := xw_setMilk (dC := dC) (dI := dI) (cg := cg) (kA := kA) (cL := cL) (cD := cD) (x := x) (d := d) hl0 hap r (xs (nI (6 * n + 1)).toNatClampNeg)
  refine gCallX X jOK hM (vx_cwSW 3 X.hts (gT_X tw1567 tw1568 tw0 tw1569) rfl rfl rfl ⟨by decide, by decide, by decide +kernel⟩ ⟨Nat.le_of_ble_eq_true rfl, Nat.le_of_ble_eq_true rfl⟩) rfl hP hS (jA4 hap hb1 hS.1) hl.1 (Nat.le_of_ble_eq_true rfl) ⟨by show cl + 1 ≤ 601024; omega, by show sl + 6 ≤ 7293034; omega⟩ dL_law_2497 (As := [.ref (caOf b1 0), .int (xs (nI (6 * n + 1)).toNatClampNeg), .ref o1]) (rest := []) rfl (fun H locs hP hS => ?_)
  refine lv_istore (lv' := [(6, .int (M1.1 7)), (5, .int (nI (6 * n))), (0, .ref b), (1, .ref (caOf b1 0)), (2, .ref (adOf b2 25)), (3, .ref o1), (4, .ref o2)]) hx hb dL_law_2500 hl (by decide) rfl (fun ls hl => ?_)
  refine lv_aload_n hx hb dL_law_2502 rfl (lv_at hl 4 rfl) ?_
  refine lv_aload_n hx hb dL_law_2503 rfl (lv_at hl 2 rfl) ?_
  refine lv_iload hx hb dL_law_2504 (lv_at hl 1 rfl) ?_
  refine lv_iconst (v := 1) hx hb dL_law_2506 (by decide) ?_
  refine lv_iadd hx hb dL_law_2507 ?_
  rw [show nI (6 * n) + (1 : Int32) = nI (6 * n + 1) from nI_k]
  refine va_sld hx hb hXs hbl (Nat.not_le.mpr hbl) hS (sin hn hL (by decide)) dL_law_2508 ?_
  refine gCallWI X (gF_ok mOK (fsM hap)) ((gMetIA.of (vX11_setMilk e2)).lift (fsM hap)) (cwV 1 X.hts (gT_V tw2275 tw2276 tw2277 tw31 tw2278) rfl rfl rfl ⟨rfl, by decide, by decide, by decide +kernel⟩ ⟨Nat.le_of_ble_eq_true rfl, Nat.le_of_ble_eq_true rfl⟩) rfl (j_fm hP) hS (jA3 hb2 hS.1) (mrec hP.2.1) hl.1 (Nat.le_of_ble_eq_true rfl) ⟨by show cl + 1 + 0 ≤ 601024; omega, by show sl + 6 + 0 ≤ 7293034; omega⟩ dL_law_2509 (As := [.int (xs (nI (6 * n + 1)).toNatClampNeg)]) (rest := []) rfl (fun H locs hP hS => ?_)
  have hP := j_of hP
  refine lv_istore (lv' := [(7, .int y), (6, .int (M1.1 7)), (5, .int (nI (6 * n))), (0, .ref b), (1, .ref (caOf b1 0)), (2, .ref (adOf b2 25)), (3, .ref o1), (4, .ref o2)]) hx hb dL_law_2512 hl (by decide) rfl (fun ls hl => ?_)
  refine lv_aload_n hx hb dL_law_2514 rfl (lv_at hl 5 rfl) ?_
  refine gCallWI X (gF_ok mOK (fsM hap)) ((gMetR_IA mOK (vX11_thrown (M := M1) (r := M1.1 7) rfl)).lift (fsM hap)) (cwV 0 X.hts (gT_V tw1741 tw1742 tw1743 tw31 tw1744) rfl rfl rfl ⟨rfl, by decide, by decide, by decide +kernel⟩ ⟨Nat.le_of_ble_eq_true rfl, Nat.le_of_ble_eq_true rfl⟩) rfl (j_fm hP) hS (jA3 hb2 hS.1) (mrec hP.2.1) hl.1 (Nat.le_of_ble_eq_true rfl) ⟨by show cl + 1 + 0 + 0 ≤ 601024; omega, by show sl + 6 + 0 + 0 ≤ 7293034; omega⟩ dL_law_2515 (As := []) (rest := []) rfl (fun H locs hP hS => ?_)
  have hP := j_of hP
  refine lv_iload hx hb dL_law_2518 (lv_at hl 1 rfl) ?_
  refine lv_icmp_eq (tgt := 2525) hx hb dL_law_2520 (by decide) (fun _ => ?_) (fun c => absurd rfl c)
  refine lv_iload hx hb dL_law_2525 (lv_at hl 1 rfl) ?_
  refine lv_if_ne (tgt := 2542) hx hb dL_law_2527 (by decide) (fun _ => ?_) (fun hk => ?_)
  · refine lv_goto (tgt := 2684) hx hb dL_law_2542 (by decide) ?_
    exact K S1 M1 x1 d _ _ _ _ _ rr hP hS (lv_sub hl [2, 3, 4, 5, 6, 7] rfl) (by show cl + 1 + 0 + 0 ≤ _; omega) (by show sl + 6 + 0 + 0 ≤ _; omega)
  have hk : M1.1 7 = 0 := hk
  refine lv_aload_n hx hb dL_law_2530 rfl (lv_at hl 6 rfl) ?_
  refine lv_iconst (v := 0) hx hb dL_law_2531 (by decide) ?_
  refine j_lald (S := S1) (M := M1) (x := x1) (d := d) X hP dL_law_2532 ?_
  refine lv_iload hx hb dL_law_2533 (lv_at hl 0 rfl) ?_
  refine lv_i2l hx hb dL_law_2535 rfl ?_
  refine W.lcmp hx hb dL_law_2536 ?_
  rw [ek hk, lg_cmp_s]
  refine lv_if_eq (tgt := 2542) hx hb dL_law_2537 (by decide) (fun _ => ?_) (fun c => absurd rfl c)
  refine lv_goto (tgt := 2684) hx hb dL_law_2542 (by decide) ?_
  exact K S1 M1 x1 d _ _ _ _ _ rr hP hS (lv_sub hl [2, 3, 4, 5, 6, 7] rfl) (by show cl + 1 + 0 + 0 ≤ _; omega) (by show sl + 6 + 0 + 0 ≤ _; omega)
theorem lc_58 (X : gX p s m #[.ref b] c cL_law 10 "GranaryWatchLaw" (kR kTab kA)) (hXs : va_X b L xs s s.heap) (hbl : b < s.heap.size) (hb1 : s.heap.size ≤ b1) (hap : APJ b1 b2 o1 o2) (hl0 : l.stackTraces = false) (hnn : NNAN) (hn2 : NN2) (hn : 6 * n + 6 ≤ L) (hL : L ≤ 3072) (r : Rel S M) (hP : jP dC dI cg kA b1 b2 o1 o2 cL cD (S, M, x, d) s H) (hS : va_S (fun q => s.heap.size ≤ q) s.heap H locs) (hl : lv_has ls 10 [(5, .int (nI (6 * n))), (0, .ref b), (1, .ref (caOf b1 0)), (2, .ref (adOf b2 25)), (3, .ref o1), (4, .ref o2)]) (hcl : cl + 403 ≤ 601024) (hsl : sl + 3826 ≤ 7293034) (K : LK p l e s m below meth c Q dC dI cg kA b b1 b2 o1 o2 n cL cD cl sl) : W p l e room_1 s m #[.ref b] below meth c H locs cl sl Q (F0 m 2545 ls []) := by
  have hx := X.hx
  have hb := X.hb
  have hz := hS.1
  have hb2 : s.heap.size ≤ b2 := by
    have := hap.1
    omega
  refine lv_aload_n hx hb dL_law_2545 rfl (lv_at hl 2 rfl) ?_
  refine lv_aload_n hx hb dL_law_2546 rfl (lv_at hl 4 rfl) ?_
  obtain ⟨y, S1, M1, x1, e2, rr, ek, hM⟩ := xw_undo (dC := dC) (dI := dI) (cg := cg) (kA := kA) (cL := cL) (cD := cD) (x := x) (d := d) hl0 hap r 
  refine gCallX X jOK hM (vx_cwSW 2 X.hts (gT_X tw1574 tw1575 tw0 tw1576) rfl rfl rfl ⟨by decide, by decide, by decide +kernel⟩ ⟨Nat.le_of_ble_eq_true rfl, Nat.le_of_ble_eq_true rfl⟩) rfl hP hS (jA4 hap hb1 hS.1) hl.1 (Nat.le_of_ble_eq_true rfl) ⟨by show cl + 1 ≤ 601024; omega, by show sl + 6 ≤ 7293034; omega⟩ dL_law_2547 (As := [.ref (caOf b1 0), .ref o1]) (rest := []) rfl (fun H locs hP hS => ?_)
  refine lv_istore (lv' := [(6, .int (M1.1 7)), (5, .int (nI (6 * n))), (0, .ref b), (1, .ref (caOf b1 0)), (2, .ref (adOf b2 25)), (3, .ref o1), (4, .ref o2)]) hx hb dL_law_2550 hl (by decide) rfl (fun ls hl => ?_)
  refine lv_aload_n hx hb dL_law_2552 rfl (lv_at hl 4 rfl) ?_
  refine gCallWI X (gF_ok mOK (fsM hap)) ((gMetIA.of (vX11_undo e2)).lift (fsM hap)) (cwV 0 X.hts (gT_V tw2279 tw2280 tw2281 tw31 tw2282) rfl rfl rfl ⟨rfl, by decide, by decide, by decide +kernel⟩ ⟨Nat.le_of_ble_eq_true rfl, Nat.le_of_ble_eq_true rfl⟩) rfl (j_fm hP) hS (jA3 hb2 hS.1) (mrec hP.2.1) hl.1 (Nat.le_of_ble_eq_true rfl) ⟨by show cl + 1 + 0 ≤ 601024; omega, by show sl + 6 + 0 ≤ 7293034; omega⟩ dL_law_2553 (As := []) (rest := []) rfl (fun H locs hP hS => ?_)
  have hP := j_of hP
  refine lv_istore (lv' := [(7, .int y), (6, .int (M1.1 7)), (5, .int (nI (6 * n))), (0, .ref b), (1, .ref (caOf b1 0)), (2, .ref (adOf b2 25)), (3, .ref o1), (4, .ref o2)]) hx hb dL_law_2556 hl (by decide) rfl (fun ls hl => ?_)
  refine lv_aload_n hx hb dL_law_2558 rfl (lv_at hl 5 rfl) ?_
  refine gCallWI X (gF_ok mOK (fsM hap)) ((gMetR_IA mOK (vX11_thrown (M := M1) (r := M1.1 7) rfl)).lift (fsM hap)) (cwV 0 X.hts (gT_V tw1741 tw1742 tw1743 tw31 tw1744) rfl rfl rfl ⟨rfl, by decide, by decide, by decide +kernel⟩ ⟨Nat.le_of_ble_eq_true rfl, Nat.le_of_ble_eq_true rfl⟩) rfl (j_fm hP) hS (jA3 hb2 hS.1) (mrec hP.2.1) hl.1 (Nat.le_of_ble_eq_true rfl) ⟨by show cl + 1 + 0 + 0 ≤ 601024; omega, by show sl + 6 + 0 + 0 ≤ 7293034; omega⟩ dL_law_2559 (As := []) (rest := []) rfl (fun H locs hP hS => ?_)
  have hP := j_of hP
  refine lv_iload hx hb dL_law_2562 (lv_at hl 1 rfl) ?_
  refine lv_icmp_eq (tgt := 2569) hx hb dL_law_2564 (by decide) (fun _ => ?_) (fun c => absurd rfl c)
  refine lv_iload hx hb dL_law_2569 (lv_at hl 1 rfl) ?_
  refine lv_if_ne (tgt := 2586) hx hb dL_law_2571 (by decide) (fun _ => ?_) (fun hk => ?_)
  · refine lv_goto (tgt := 2684) hx hb dL_law_2586 (by decide) ?_
    exact K S1 M1 x1 d _ _ _ _ _ rr hP hS (lv_sub hl [2, 3, 4, 5, 6, 7] rfl) (by show cl + 1 + 0 + 0 ≤ _; omega) (by show sl + 6 + 0 + 0 ≤ _; omega)
  have hk : M1.1 7 = 0 := hk
  refine lv_aload_n hx hb dL_law_2574 rfl (lv_at hl 6 rfl) ?_
  refine lv_iconst (v := 0) hx hb dL_law_2575 (by decide) ?_
  refine j_lald (S := S1) (M := M1) (x := x1) (d := d) X hP dL_law_2576 ?_
  refine lv_iload hx hb dL_law_2577 (lv_at hl 0 rfl) ?_
  refine lv_i2l hx hb dL_law_2579 rfl ?_
  refine W.lcmp hx hb dL_law_2580 ?_
  rw [ek hk, lg_cmp_s]
  refine lv_if_eq (tgt := 2586) hx hb dL_law_2581 (by decide) (fun _ => ?_) (fun c => absurd rfl c)
  refine lv_goto (tgt := 2684) hx hb dL_law_2586 (by decide) ?_
  exact K S1 M1 x1 d _ _ _ _ _ rr hP hS (lv_sub hl [2, 3, 4, 5, 6, 7] rfl) (by show cl + 1 + 0 + 0 ≤ _; omega) (by show sl + 6 + 0 + 0 ≤ _; omega)
theorem lc_59 (X : gX p s m #[.ref b] c cL_law 10 "GranaryWatchLaw" (kR kTab kA)) (hXs : va_X b L xs s s.heap) (hbl : b < s.heap.size) (hb1 : s.heap.size ≤ b1) (hap : APJ b1 b2 o1 o2) (hl0 : l.stackTraces = false) (hnn : NNAN) (hn2 : NN2) (hn : 6 * n + 6 ≤ L) (hL : L ≤ 3072) (r : Rel S M) (hP : jP dC dI cg kA b1 b2 o1 o2 cL cD (S, M, x, d) s H) (hS : va_S (fun q => s.heap.size ≤ q) s.heap H locs) (hl : lv_has ls 10 [(5, .int (nI (6 * n))), (0, .ref b), (1, .ref (caOf b1 0)), (2, .ref (adOf b2 25)), (3, .ref o1), (4, .ref o2)]) (hcl : cl + 403 ≤ 601024) (hsl : sl + 3826 ≤ 7293034) (K : LK p l e s m below meth c Q dC dI cg kA b b1 b2 o1 o2 n cL cD cl sl) : W p l e room_1 s m #[.ref b] below meth c H locs cl sl Q (F0 m 2589 ls []) := by
  have hx := X.hx
  have hb := X.hb
  have hz := hS.1
  have hb2 : s.heap.size ≤ b2 := by
    have := hap.1
    omega
  refine lv_aload_n hx hb dL_law_2589 rfl (lv_at hl 2 rfl) ?_
  obtain ⟨y, S1, M1, e1, e2, rr, e7⟩ := q_writeSacks r 
  refine gCallWI X (gF_ok cOK (fsC hap)) ((gMetIA.of (vX10_writeSacks e1)).lift (fsC hap)) (cwV 0 X.hts (gT_V tw1269 tw1270 tw1271 tw1 tw1272) rfl rfl rfl ⟨rfl, by decide, by decide, by decide +kernel⟩ ⟨Nat.le_of_ble_eq_true rfl, Nat.le_of_ble_eq_true rfl⟩) rfl hP hS (jA2 hb1 hS.1) (cr_rec hP.1 (rfl : kc 0 = 0) rfl cw0 rfl) hl.1 (Nat.le_of_ble_eq_true rfl) ⟨by show cl + 0 ≤ 601024; omega, by show sl + 0 ≤ 7293034; omega⟩ dL_law_2590 (As := []) (rest := []) rfl (fun H locs hP hS => ?_)
  have hP : jP dC dI cg kA b1 b2 o1 o2 cL cD (S1, M, x, d) s H := hP
  refine lv_aload_n hx hb dL_law_2593 rfl (lv_at hl 3 rfl) ?_
  refine gCallWI X (gF_ok mOK (fsM hap)) ((gMetIA.of (vX11_writeSacks e2)).lift (fsM hap)) (cwV 0 X.hts (gT_V tw2283 tw2284 tw2285 tw31 tw2286) rfl rfl rfl ⟨rfl, by decide, by decide, by decide +kernel⟩ ⟨Nat.le_of_ble_eq_true rfl, Nat.le_of_ble_eq_true rfl⟩) rfl (j_fm hP) hS (jA3 hb2 hS.1) (mrec hP.2.1) hl.1 (Nat.le_of_ble_eq_true rfl) ⟨by show cl + 0 + 0 ≤ 601024; omega, by show sl + 0 + 0 ≤ 7293034; omega⟩ dL_law_2594 (As := []) (rest := [.int y]) rfl (fun H locs hP hS => ?_)
  have hP := j_of hP
  refine lv_icmp_eq (tgt := 2684) hx hb dL_law_2597 (by decide) (fun _ => ?_) (fun c => absurd rfl c)
  exact K S1 M1 x d _ _ _ _ _ rr hP hS hl (by show cl + 0 + 0 ≤ _; omega) (by show sl + 0 + 0 ≤ _; omega)
theorem lc_60 (X : gX p s m #[.ref b] c cL_law 10 "GranaryWatchLaw" (kR kTab kA)) (hXs : va_X b L xs s s.heap) (hbl : b < s.heap.size) (hb1 : s.heap.size ≤ b1) (hap : APJ b1 b2 o1 o2) (hl0 : l.stackTraces = false) (hnn : NNAN) (hn2 : NN2) (hn : 6 * n + 6 ≤ L) (hL : L ≤ 3072) (r : Rel S M) (hP : jP dC dI cg kA b1 b2 o1 o2 cL cD (S, M, x, d) s H) (hS : va_S (fun q => s.heap.size ≤ q) s.heap H locs) (hl : lv_has ls 10 [(5, .int (nI (6 * n))), (0, .ref b), (1, .ref (caOf b1 0)), (2, .ref (adOf b2 25)), (3, .ref o1), (4, .ref o2)]) (hcl : cl + 403 ≤ 601024) (hsl : sl + 3826 ≤ 7293034) (K : LK p l e s m below meth c Q dC dI cg kA b b1 b2 o1 o2 n cL cD cl sl) : W p l e room_1 s m #[.ref b] below meth c H locs cl sl Q (F0 m 2602 ls []) := by
  have hx := X.hx
  have hb := X.hb
  have hz := hS.1
  have hb2 : s.heap.size ≤ b2 := by
    have := hap.1
    omega
  refine lv_aload_n hx hb dL_law_2602 rfl (lv_at hl 2 rfl) ?_
  refine lv_aload_n hx hb dL_law_2603 rfl (lv_at hl 1 rfl) ?_
  refine lv_iload hx hb dL_law_2604 (lv_at hl 0 rfl) ?_
  refine lv_iconst (v := 1) hx hb dL_law_2606 (by decide) ?_
  refine lv_iadd hx hb dL_law_2607 ?_
  rw [show nI (6 * n) + (1 : Int32) = nI (6 * n + 1) from nI_k]
  refine va_sld hx hb hXs hbl (Nat.not_le.mpr hbl) hS (sin hn hL (by decide)) dL_law_2608 ?_
  obtain ⟨y, M1, e1, e2, rr, e7⟩ := q_outputByte r (xs (nI (6 * n + 1)).toNatClampNeg)
  refine gCallWI X (gF_ok cOK (fsC hap)) ((gMetR_IA cOK (vX10_outputByte e1)).lift (fsC hap)) (cwV 1 X.hts (gT_V tw1288 tw1289 tw1290 tw1 tw1291) rfl rfl rfl ⟨rfl, by decide, by decide, by decide +kernel⟩ ⟨Nat.le_of_ble_eq_true rfl, Nat.le_of_ble_eq_true rfl⟩) rfl hP hS (jA2 hb1 hS.1) (cr_rec hP.1 (rfl : kc 0 = 0) rfl cw0 rfl) hl.1 (Nat.le_of_ble_eq_true rfl) ⟨by show cl + 0 ≤ 601024; omega, by show sl + 0 ≤ 7293034; omega⟩ dL_law_2609 (As := [.int (xs (nI (6 * n + 1)).toNatClampNeg)]) (rest := []) rfl (fun H locs hP hS => ?_)
  have hP : jP dC dI cg kA b1 b2 o1 o2 cL cD (S, M, x, d) s H := hP
  refine lv_aload_n hx hb dL_law_2612 rfl (lv_at hl 3 rfl) ?_
  refine lv_aload_n hx hb dL_law_2613 rfl (lv_at hl 1 rfl) ?_
  refine lv_iload hx hb dL_law_2614 (lv_at hl 0 rfl) ?_
  refine lv_iconst (v := 1) hx hb dL_law_2616 (by decide) ?_
  refine lv_iadd hx hb dL_law_2617 ?_
  rw [show nI (6 * n) + (1 : Int32) = nI (6 * n + 1) from nI_k]
  refine va_sld hx hb hXs hbl (Nat.not_le.mpr hbl) hS (sin hn hL (by decide)) dL_law_2618 ?_
  refine gCallWI X (gF_ok mOK (fsM hap)) ((gMetIA.of (vX11_outputByte e2)).lift (fsM hap)) (cwV 1 X.hts (gT_V tw2295 tw2296 tw2297 tw31 tw2298) rfl rfl rfl ⟨rfl, by decide, by decide, by decide +kernel⟩ ⟨Nat.le_of_ble_eq_true rfl, Nat.le_of_ble_eq_true rfl⟩) rfl (j_fm hP) hS (jA3 hb2 hS.1) (mrec hP.2.1) hl.1 (Nat.le_of_ble_eq_true rfl) ⟨by show cl + 0 + 0 ≤ 601024; omega, by show sl + 0 + 0 ≤ 7293034; omega⟩ dL_law_2619 (As := [.int (xs (nI (6 * n + 1)).toNatClampNeg)]) (rest := [.int y]) rfl (fun H locs hP hS => ?_)
  have hP := j_of hP
  refine lv_icmp_eq (tgt := 2684) hx hb dL_law_2622 (by decide) (fun _ => ?_) (fun c => absurd rfl c)
  exact K S M1 x d _ _ _ _ _ rr hP hS hl (by show cl + 0 + 0 ≤ _; omega) (by show sl + 0 + 0 ≤ _; omega)
theorem lc_61 (X : gX p s m #[.ref b] c cL_law 10 "GranaryWatchLaw" (kR kTab kA)) (hXs : va_X b L xs s s.heap) (hbl : b < s.heap.size) (hb1 : s.heap.size ≤ b1) (hap : APJ b1 b2 o1 o2) (hl0 : l.stackTraces = false) (hnn : NNAN) (hn2 : NN2) (hn : 6 * n + 6 ≤ L) (hL : L ≤ 3072) (r : Rel S M) (hP : jP dC dI cg kA b1 b2 o1 o2 cL cD (S, M, x, d) s H) (hS : va_S (fun q => s.heap.size ≤ q) s.heap H locs) (hl : lv_has ls 10 [(5, .int (nI (6 * n))), (0, .ref b), (1, .ref (caOf b1 0)), (2, .ref (adOf b2 25)), (3, .ref o1), (4, .ref o2)]) (hcl : cl + 403 ≤ 601024) (hsl : sl + 3826 ≤ 7293034) (K : LK p l e s m below meth c Q dC dI cg kA b b1 b2 o1 o2 n cL cD cl sl) : W p l e room_1 s m #[.ref b] below meth c H locs cl sl Q (F0 m 2627 ls []) := by
  have hx := X.hx
  have hb := X.hb
  have hz := hS.1
  have hb2 : s.heap.size ≤ b2 := by
    have := hap.1
    omega
  refine lv_aload_n hx hb dL_law_2627 rfl (lv_at hl 2 rfl) ?_
  obtain ⟨y, S1, M1, e1, e2, rr, e7⟩ := q_saveState r 
  refine gCallWI X (gF_ok cOK (fsC hap)) ((gMetIA.of (vX10_saveState e1)).lift (fsC hap)) (cwV 0 X.hts (gT_V tw1292 tw1293 tw1294 tw1 tw1295) rfl rfl rfl ⟨rfl, by decide, by decide, by decide +kernel⟩ ⟨Nat.le_of_ble_eq_true rfl, Nat.le_of_ble_eq_true rfl⟩) rfl hP hS (jA2 hb1 hS.1) (cr_rec hP.1 (rfl : kc 0 = 0) rfl cw0 rfl) hl.1 (Nat.le_of_ble_eq_true rfl) ⟨by show cl + 0 ≤ 601024; omega, by show sl + 0 ≤ 7293034; omega⟩ dL_law_2628 (As := []) (rest := []) rfl (fun H locs hP hS => ?_)
  have hP : jP dC dI cg kA b1 b2 o1 o2 cL cD (S1, M, x, d) s H := hP
  refine lv_aload_n hx hb dL_law_2631 rfl (lv_at hl 3 rfl) ?_
  refine gCallWI X (gF_ok mOK (fsM hap)) ((gMetIA.of (vX11_saveState e2)).lift (fsM hap)) (cwV 0 X.hts (gT_V tw2299 tw2300 tw2301 tw31 tw2302) rfl rfl rfl ⟨rfl, by decide, by decide, by decide +kernel⟩ ⟨Nat.le_of_ble_eq_true rfl, Nat.le_of_ble_eq_true rfl⟩) rfl (j_fm hP) hS (jA3 hb2 hS.1) (mrec hP.2.1) hl.1 (Nat.le_of_ble_eq_true rfl) ⟨by show cl + 0 + 0 ≤ 601024; omega, by show sl + 0 + 0 ≤ 7293034; omega⟩ dL_law_2632 (As := []) (rest := [.int y]) rfl (fun H locs hP hS => ?_)
  have hP := j_of hP
  refine lv_icmp_eq (tgt := 2684) hx hb dL_law_2635 (by decide) (fun _ => ?_) (fun c => absurd rfl c)
  exact K S1 M1 x d _ _ _ _ _ rr hP hS hl (by show cl + 0 + 0 ≤ _; omega) (by show sl + 0 + 0 ≤ _; omega)
theorem lc_62 (X : gX p s m #[.ref b] c cL_law 10 "GranaryWatchLaw" (kR kTab kA)) (hXs : va_X b L xs s s.heap) (hbl : b < s.heap.size) (hb1 : s.heap.size ≤ b1) (hap : APJ b1 b2 o1 o2) (hl0 : l.stackTraces = false) (hnn : NNAN) (hn2 : NN2) (hn : 6 * n + 6 ≤ L) (hL : L ≤ 3072) (r : Rel S M) (hP : jP dC dI cg kA b1 b2 o1 o2 cL cD (S, M, x, d) s H) (hS : va_S (fun q => s.heap.size ≤ q) s.heap H locs) (hl : lv_has ls 10 [(5, .int (nI (6 * n))), (0, .ref b), (1, .ref (caOf b1 0)), (2, .ref (adOf b2 25)), (3, .ref o1), (4, .ref o2)]) (hcl : cl + 403 ≤ 601024) (hsl : sl + 3826 ≤ 7293034) (K : LK p l e s m below meth c Q dC dI cg kA b b1 b2 o1 o2 n cL cD cl sl) : W p l e room_1 s m #[.ref b] below meth c H locs cl sl Q (F0 m 2640 ls []) := by
  have hx := X.hx
  have hb := X.hb
  have hz := hS.1
  have hb2 : s.heap.size ≤ b2 := by
    have := hap.1
    omega
  refine lv_aload_n hx hb dL_law_2640 rfl (lv_at hl 2 rfl) ?_
  refine lv_aload_n hx hb dL_law_2641 rfl (lv_at hl 4 rfl) ?_
  obtain ⟨y, S1, M1, x1, e2, rr, ek, hM⟩ := xw_restoreState (dC := dC) (dI := dI) (cg := cg) (kA := kA) (cL := cL) (cD := cD) (x := x) (d := d) hl0 hap r 
  refine gCallX X jOK hM (vx_cwSW 2 X.hts (gT_X tw1599 tw1600 tw0 tw1601) rfl rfl rfl ⟨by decide, by decide, by decide +kernel⟩ ⟨Nat.le_of_ble_eq_true rfl, Nat.le_of_ble_eq_true rfl⟩) rfl hP hS (jA4 hap hb1 hS.1) hl.1 (Nat.le_of_ble_eq_true rfl) ⟨by show cl + 1 ≤ 601024; omega, by show sl + 6 ≤ 7293034; omega⟩ dL_law_2642 (As := [.ref (caOf b1 0), .ref o1]) (rest := []) rfl (fun H locs hP hS => ?_)
  refine lv_istore (lv' := [(6, .int (M1.1 7)), (5, .int (nI (6 * n))), (0, .ref b), (1, .ref (caOf b1 0)), (2, .ref (adOf b2 25)), (3, .ref o1), (4, .ref o2)]) hx hb dL_law_2645 hl (by decide) rfl (fun ls hl => ?_)
  refine lv_aload_n hx hb dL_law_2647 rfl (lv_at hl 4 rfl) ?_
  refine gCallWI X (gF_ok mOK (fsM hap)) ((gMetIA.of (vX11_restoreState e2)).lift (fsM hap)) (cwV 0 X.hts (gT_V tw2303 tw2304 tw2305 tw31 tw2306) rfl rfl rfl ⟨rfl, by decide, by decide, by decide +kernel⟩ ⟨Nat.le_of_ble_eq_true rfl, Nat.le_of_ble_eq_true rfl⟩) rfl (j_fm hP) hS (jA3 hb2 hS.1) (mrec hP.2.1) hl.1 (Nat.le_of_ble_eq_true rfl) ⟨by show cl + 1 + 0 ≤ 601024; omega, by show sl + 6 + 0 ≤ 7293034; omega⟩ dL_law_2648 (As := []) (rest := []) rfl (fun H locs hP hS => ?_)
  have hP := j_of hP
  refine lv_istore (lv' := [(7, .int y), (6, .int (M1.1 7)), (5, .int (nI (6 * n))), (0, .ref b), (1, .ref (caOf b1 0)), (2, .ref (adOf b2 25)), (3, .ref o1), (4, .ref o2)]) hx hb dL_law_2651 hl (by decide) rfl (fun ls hl => ?_)
  refine lv_aload_n hx hb dL_law_2653 rfl (lv_at hl 5 rfl) ?_
  refine gCallWI X (gF_ok mOK (fsM hap)) ((gMetR_IA mOK (vX11_thrown (M := M1) (r := M1.1 7) rfl)).lift (fsM hap)) (cwV 0 X.hts (gT_V tw1741 tw1742 tw1743 tw31 tw1744) rfl rfl rfl ⟨rfl, by decide, by decide, by decide +kernel⟩ ⟨Nat.le_of_ble_eq_true rfl, Nat.le_of_ble_eq_true rfl⟩) rfl (j_fm hP) hS (jA3 hb2 hS.1) (mrec hP.2.1) hl.1 (Nat.le_of_ble_eq_true rfl) ⟨by show cl + 1 + 0 + 0 ≤ 601024; omega, by show sl + 6 + 0 + 0 ≤ 7293034; omega⟩ dL_law_2654 (As := []) (rest := []) rfl (fun H locs hP hS => ?_)
  have hP := j_of hP
  refine lv_iload hx hb dL_law_2657 (lv_at hl 1 rfl) ?_
  refine lv_icmp_eq (tgt := 2664) hx hb dL_law_2659 (by decide) (fun _ => ?_) (fun c => absurd rfl c)
  refine lv_iload hx hb dL_law_2664 (lv_at hl 1 rfl) ?_
  refine lv_if_ne (tgt := 2681) hx hb dL_law_2666 (by decide) (fun _ => ?_) (fun hk => ?_)
  · refine lv_goto (tgt := 2684) hx hb dL_law_2681 (by decide) ?_
    exact K S1 M1 x1 d _ _ _ _ _ rr hP hS (lv_sub hl [2, 3, 4, 5, 6, 7] rfl) (by show cl + 1 + 0 + 0 ≤ _; omega) (by show sl + 6 + 0 + 0 ≤ _; omega)
  have hk : M1.1 7 = 0 := hk
  refine lv_aload_n hx hb dL_law_2669 rfl (lv_at hl 6 rfl) ?_
  refine lv_iconst (v := 0) hx hb dL_law_2670 (by decide) ?_
  refine j_lald (S := S1) (M := M1) (x := x1) (d := d) X hP dL_law_2671 ?_
  refine lv_iload hx hb dL_law_2672 (lv_at hl 0 rfl) ?_
  refine lv_i2l hx hb dL_law_2674 rfl ?_
  refine W.lcmp hx hb dL_law_2675 ?_
  rw [ek hk, lg_cmp_s]
  refine lv_if_eq (tgt := 2681) hx hb dL_law_2676 (by decide) (fun _ => ?_) (fun c => absurd rfl c)
  refine lv_goto (tgt := 2684) hx hb dL_law_2681 (by decide) ?_
  exact K S1 M1 x1 d _ _ _ _ _ rr hP hS (lv_sub hl [2, 3, 4, 5, 6, 7] rfl) (by show cl + 1 + 0 + 0 ≤ _; omega) (by show sl + 6 + 0 + 0 ≤ _; omega)
end LAW
