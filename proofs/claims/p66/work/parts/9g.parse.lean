theorem tw14 : (Jvm.Cond.initialized "GranaryWatch$Setup") ∈ TBG := tb_t 14 (by decide +kernel) (by decide +kernel)
theorem tw216 : (Jvm.Cond.fieldLink "GranaryWatch$Setup" (101 : Nat) "GranaryWatch$Cat" "name" "Ljava/lang/String;") ∈ TBG := tb_t 216 (by decide +kernel) (by decide +kernel)
theorem tw219 : (Jvm.Cond.fieldLink "GranaryWatch$Setup" (112 : Nat) "GranaryWatch$Cat" "speed" "I") ∈ TBG := tb_t 219 (by decide +kernel) (by decide +kernel)
theorem tw221 : (Jvm.Cond.fieldLink "GranaryWatch$Setup" (123 : Nat) "GranaryWatch$Cat" "left" "Z") ∈ TBG := tb_t 221 (by decide +kernel) (by decide +kernel)
theorem tw252 : (Jvm.Cond.fieldLink "GranaryWatch$Setup" (141 : Nat) "GranaryWatch$Sack" "name" "Ljava/lang/String;") ∈ TBG := tb_t 252 (by decide +kernel) (by decide +kernel)
theorem tw255 : (Jvm.Cond.fieldLink "GranaryWatch$Setup" (142 : Nat) "GranaryWatch$Sack" "grain" "I") ∈ TBG := tb_t 255 (by decide +kernel) (by decide +kernel)
theorem tw260 : (Jvm.Cond.fieldLink "GranaryWatch$Setup" (145 : Nat) "GranaryWatch$Sack" "mice" "I") ∈ TBG := tb_t 260 (by decide +kernel) (by decide +kernel)
theorem tw264 : (Jvm.Cond.fieldLink "GranaryWatch$Setup" (152 : Nat) "GranaryWatch$Sack" "open" "Z") ∈ TBG := tb_t 264 (by decide +kernel) (by decide +kernel)
theorem tw449 : (Jvm.Cond.methodLink "GranaryWatch" (65 : Nat) ({ cls := "GranaryWatch$Setup", name := "parse", desc := "()Z" } : Jvm.MethodName)) ∈ TBG := tb_t 449 (by decide +kernel) (by decide +kernel)
theorem tw450 : (Jvm.Cond.instanceMethod ({ cls := "GranaryWatch$Setup", name := "parse", desc := "()Z" } : Jvm.MethodName)) ∈ TBG := tb_t 450 (by decide +kernel) (by decide +kernel)
theorem tw451 : (Jvm.Cond.selects "GranaryWatch$Setup" ({ cls := "GranaryWatch$Setup", name := "parse", desc := "()Z" } : Jvm.MethodName) ({ cls := "GranaryWatch$Setup", name := "parse", desc := "()Z" } : Jvm.MethodName)) ∈ TBG := tb_t 451 (by decide +kernel) (by decide +kernel)
theorem tw452 : (Jvm.Cond.code ({ cls := "GranaryWatch$Setup", name := "parse", desc := "()Z" } : Jvm.MethodName) prog_8_method_2_code (2 : Nat) (Option.some Jvm.ClassFile.FieldType.boolean)) ∈ TBG := tb_t 452 (by decide +kernel) (by decide +kernel)
theorem tw453 : (Jvm.Cond.methodLink "GranaryWatch$Setup" (19 : Nat) ({ cls := "GranaryWatch$Text", name := "begin", desc := "()V" } : Jvm.MethodName)) ∈ TBG := tb_t 453 (by decide +kernel) (by decide +kernel)
theorem tw454 : (Jvm.Cond.instanceMethod ({ cls := "GranaryWatch$Text", name := "begin", desc := "()V" } : Jvm.MethodName)) ∈ TBG := tb_t 454 (by decide +kernel) (by decide +kernel)
theorem tw455 : (Jvm.Cond.selects "GranaryWatch$Text" ({ cls := "GranaryWatch$Text", name := "begin", desc := "()V" } : Jvm.MethodName) ({ cls := "GranaryWatch$Text", name := "begin", desc := "()V" } : Jvm.MethodName)) ∈ TBG := tb_t 455 (by decide +kernel) (by decide +kernel)
theorem tw456 : (Jvm.Cond.code ({ cls := "GranaryWatch$Text", name := "begin", desc := "()V" } : Jvm.MethodName) prog_10_method_5_code (1 : Nat) (Option.none : Option Jvm.ClassFile.FieldType)) ∈ TBG := tb_t 456 (by decide +kernel) (by decide +kernel)
theorem tw457 : (Jvm.Cond.methodLink "GranaryWatch$Setup" (24 : Nat) ({ cls := "GranaryWatch$Granary", name := "clear", desc := "()V" } : Jvm.MethodName)) ∈ TBG := tb_t 457 (by decide +kernel) (by decide +kernel)
theorem tw458 : (Jvm.Cond.instanceMethod ({ cls := "GranaryWatch$Granary", name := "clear", desc := "()V" } : Jvm.MethodName)) ∈ TBG := tb_t 458 (by decide +kernel) (by decide +kernel)
theorem tw459 : (Jvm.Cond.selects "GranaryWatch$Granary" ({ cls := "GranaryWatch$Granary", name := "clear", desc := "()V" } : Jvm.MethodName) ({ cls := "GranaryWatch$Granary", name := "clear", desc := "()V" } : Jvm.MethodName)) ∈ TBG := tb_t 459 (by decide +kernel) (by decide +kernel)
theorem tw460 : (Jvm.Cond.code ({ cls := "GranaryWatch$Granary", name := "clear", desc := "()V" } : Jvm.MethodName) prog_4_method_3_code (1 : Nat) (Option.none : Option Jvm.ClassFile.FieldType)) ∈ TBG := tb_t 460 (by decide +kernel) (by decide +kernel)
theorem tw469 : (Jvm.Cond.methodLink "GranaryWatch$Setup" (33 : Nat) ({ cls := "GranaryWatch$Text", name := "advance", desc := "()Z" } : Jvm.MethodName)) ∈ TBG := tb_t 469 (by decide +kernel) (by decide +kernel)
theorem tw480 : (Jvm.Cond.methodLink "GranaryWatch$Setup" (37 : Nat) ({ cls := "GranaryWatch$Setup", name := "readStatement", desc := "()Z" } : Jvm.MethodName)) ∈ TBG := tb_t 480 (by decide +kernel) (by decide +kernel)
theorem tw482 : (Jvm.Cond.instanceMethod ({ cls := "GranaryWatch$Setup", name := "readStatement", desc := "()Z" } : Jvm.MethodName)) ∈ TBG := tb_t 482 (by decide +kernel) (by decide +kernel)
theorem tw483 : (Jvm.Cond.code ({ cls := "GranaryWatch$Setup", name := "readStatement", desc := "()Z" } : Jvm.MethodName) prog_8_method_3_code (1 : Nat) (Option.some Jvm.ClassFile.FieldType.boolean)) ∈ TBG := tb_t 483 (by decide +kernel) (by decide +kernel)
theorem tw485 : (Jvm.Cond.methodLink "GranaryWatch$Setup" (56 : Nat) ({ cls := "GranaryWatch$Text", name := "isWord", desc := "(Ljava/lang/String;)Z" } : Jvm.MethodName)) ∈ TBG := tb_t 485 (by decide +kernel) (by decide +kernel)
theorem tw489 : (Jvm.Cond.methodLink "GranaryWatch$Setup" (60 : Nat) ({ cls := "GranaryWatch$Setup", name := "readCat", desc := "()Z" } : Jvm.MethodName)) ∈ TBG := tb_t 489 (by decide +kernel) (by decide +kernel)
theorem tw491 : (Jvm.Cond.instanceMethod ({ cls := "GranaryWatch$Setup", name := "readCat", desc := "()Z" } : Jvm.MethodName)) ∈ TBG := tb_t 491 (by decide +kernel) (by decide +kernel)
theorem tw492 : (Jvm.Cond.code ({ cls := "GranaryWatch$Setup", name := "readCat", desc := "()Z" } : Jvm.MethodName) prog_8_method_4_code (2 : Nat) (Option.some Jvm.ClassFile.FieldType.boolean)) ∈ TBG := tb_t 492 (by decide +kernel) (by decide +kernel)
theorem tw508 : (Jvm.Cond.methodLink "GranaryWatch$Setup" (94 : Nat) ({ cls := "GranaryWatch$Cat", name := "begin", desc := "()V" } : Jvm.MethodName)) ∈ TBG := tb_t 508 (by decide +kernel) (by decide +kernel)
theorem tw509 : (Jvm.Cond.instanceMethod ({ cls := "GranaryWatch$Cat", name := "begin", desc := "()V" } : Jvm.MethodName)) ∈ TBG := tb_t 509 (by decide +kernel) (by decide +kernel)
theorem tw510 : (Jvm.Cond.selects "GranaryWatch$Cat" ({ cls := "GranaryWatch$Cat", name := "begin", desc := "()V" } : Jvm.MethodName) ({ cls := "GranaryWatch$Cat", name := "begin", desc := "()V" } : Jvm.MethodName)) ∈ TBG := tb_t 510 (by decide +kernel) (by decide +kernel)
theorem tw511 : (Jvm.Cond.code ({ cls := "GranaryWatch$Cat", name := "begin", desc := "()V" } : Jvm.MethodName) prog_2_method_3_code (1 : Nat) (Option.none : Option Jvm.ClassFile.FieldType)) ∈ TBG := tb_t 511 (by decide +kernel) (by decide +kernel)
theorem tw512 : (Jvm.Cond.methodLink "GranaryWatch$Setup" (97 : Nat) ({ cls := "GranaryWatch$Text", name := "word", desc := "()Ljava/lang/String;" } : Jvm.MethodName)) ∈ TBG := tb_t 512 (by decide +kernel) (by decide +kernel)
theorem tw513 : (Jvm.Cond.instanceMethod ({ cls := "GranaryWatch$Text", name := "word", desc := "()Ljava/lang/String;" } : Jvm.MethodName)) ∈ TBG := tb_t 513 (by decide +kernel) (by decide +kernel)
theorem tw514 : (Jvm.Cond.selects "GranaryWatch$Text" ({ cls := "GranaryWatch$Text", name := "word", desc := "()Ljava/lang/String;" } : Jvm.MethodName) ({ cls := "GranaryWatch$Text", name := "word", desc := "()Ljava/lang/String;" } : Jvm.MethodName)) ∈ TBG := tb_t 514 (by decide +kernel) (by decide +kernel)
theorem tw515 : (Jvm.Cond.code ({ cls := "GranaryWatch$Text", name := "word", desc := "()Ljava/lang/String;" } : Jvm.MethodName) prog_10_method_11_code (2 : Nat) (Option.some (Jvm.ClassFile.FieldType.object "java/lang/String"))) ∈ TBG := tb_t 515 (by decide +kernel) (by decide +kernel)
theorem tw674 : (Jvm.Cond.methodLink "GranaryWatch$Setup" (119 : Nat) ({ cls := "GranaryWatch$Text", name := "takeEither", desc := "(Ljava/lang/String;Ljava/lang/String;)Z" } : Jvm.MethodName)) ∈ TBG := tb_t 674 (by decide +kernel) (by decide +kernel)
theorem tw675 : (Jvm.Cond.instanceMethod ({ cls := "GranaryWatch$Text", name := "takeEither", desc := "(Ljava/lang/String;Ljava/lang/String;)Z" } : Jvm.MethodName)) ∈ TBG := tb_t 675 (by decide +kernel) (by decide +kernel)
theorem tw676 : (Jvm.Cond.selects "GranaryWatch$Text" ({ cls := "GranaryWatch$Text", name := "takeEither", desc := "(Ljava/lang/String;Ljava/lang/String;)Z" } : Jvm.MethodName) ({ cls := "GranaryWatch$Text", name := "takeEither", desc := "(Ljava/lang/String;Ljava/lang/String;)Z" } : Jvm.MethodName)) ∈ TBG := tb_t 676 (by decide +kernel) (by decide +kernel)
theorem tw677 : (Jvm.Cond.code ({ cls := "GranaryWatch$Text", name := "takeEither", desc := "(Ljava/lang/String;Ljava/lang/String;)Z" } : Jvm.MethodName) prog_10_method_13_code (3 : Nat) (Option.some Jvm.ClassFile.FieldType.boolean)) ∈ TBG := tb_t 677 (by decide +kernel) (by decide +kernel)
theorem tw684 : (Jvm.Cond.methodLink "GranaryWatch$Setup" (65 : Nat) ({ cls := "GranaryWatch$Setup", name := "readSack", desc := "()Z" } : Jvm.MethodName)) ∈ TBG := tb_t 684 (by decide +kernel) (by decide +kernel)
theorem tw686 : (Jvm.Cond.instanceMethod ({ cls := "GranaryWatch$Setup", name := "readSack", desc := "()Z" } : Jvm.MethodName)) ∈ TBG := tb_t 686 (by decide +kernel) (by decide +kernel)
theorem tw687 : (Jvm.Cond.code ({ cls := "GranaryWatch$Setup", name := "readSack", desc := "()Z" } : Jvm.MethodName) prog_8_method_5_code (2 : Nat) (Option.some Jvm.ClassFile.FieldType.boolean)) ∈ TBG := tb_t 687 (by decide +kernel) (by decide +kernel)
theorem tw688 : (Jvm.Cond.methodLink "GranaryWatch$Setup" (129 : Nat) ({ cls := "GranaryWatch$Granary", name := "sackNamed", desc := "(LGranaryWatch$Text;)I" } : Jvm.MethodName)) ∈ TBG := tb_t 688 (by decide +kernel) (by decide +kernel)
theorem tw689 : (Jvm.Cond.instanceMethod ({ cls := "GranaryWatch$Granary", name := "sackNamed", desc := "(LGranaryWatch$Text;)I" } : Jvm.MethodName)) ∈ TBG := tb_t 689 (by decide +kernel) (by decide +kernel)
theorem tw690 : (Jvm.Cond.selects "GranaryWatch$Granary" ({ cls := "GranaryWatch$Granary", name := "sackNamed", desc := "(LGranaryWatch$Text;)I" } : Jvm.MethodName) ({ cls := "GranaryWatch$Granary", name := "sackNamed", desc := "(LGranaryWatch$Text;)I" } : Jvm.MethodName)) ∈ TBG := tb_t 690 (by decide +kernel) (by decide +kernel)
theorem tw691 : (Jvm.Cond.code ({ cls := "GranaryWatch$Granary", name := "sackNamed", desc := "(LGranaryWatch$Text;)I" } : Jvm.MethodName) prog_4_method_28_code (3 : Nat) (Option.some Jvm.ClassFile.FieldType.int)) ∈ TBG := tb_t 691 (by decide +kernel) (by decide +kernel)
theorem tw695 : (Jvm.Cond.methodLink "GranaryWatch$Setup" (70 : Nat) ({ cls := "GranaryWatch$Setup", name := "readShift", desc := "()Z" } : Jvm.MethodName)) ∈ TBG := tb_t 695 (by decide +kernel) (by decide +kernel)
theorem tw697 : (Jvm.Cond.instanceMethod ({ cls := "GranaryWatch$Setup", name := "readShift", desc := "()Z" } : Jvm.MethodName)) ∈ TBG := tb_t 697 (by decide +kernel) (by decide +kernel)
theorem tw698 : (Jvm.Cond.code ({ cls := "GranaryWatch$Setup", name := "readShift", desc := "()Z" } : Jvm.MethodName) prog_8_method_6_code (2 : Nat) (Option.some Jvm.ClassFile.FieldType.boolean)) ∈ TBG := tb_t 698 (by decide +kernel) (by decide +kernel)
theorem tw700 : (Jvm.Cond.methodLink "GranaryWatch$Setup" (75 : Nat) ({ cls := "GranaryWatch$Setup", name := "readMilk", desc := "()Z" } : Jvm.MethodName)) ∈ TBG := tb_t 700 (by decide +kernel) (by decide +kernel)
theorem tw702 : (Jvm.Cond.instanceMethod ({ cls := "GranaryWatch$Setup", name := "readMilk", desc := "()Z" } : Jvm.MethodName)) ∈ TBG := tb_t 702 (by decide +kernel) (by decide +kernel)
theorem tw703 : (Jvm.Cond.code ({ cls := "GranaryWatch$Setup", name := "readMilk", desc := "()Z" } : Jvm.MethodName) prog_8_method_7_code (1 : Nat) (Option.some Jvm.ClassFile.FieldType.boolean)) ∈ TBG := tb_t 703 (by decide +kernel) (by decide +kernel)
theorem tw705 : (Jvm.Cond.methodLink "GranaryWatch$Setup" (80 : Nat) ({ cls := "GranaryWatch$Setup", name := "readHour", desc := "()Z" } : Jvm.MethodName)) ∈ TBG := tb_t 705 (by decide +kernel) (by decide +kernel)
theorem tw707 : (Jvm.Cond.instanceMethod ({ cls := "GranaryWatch$Setup", name := "readHour", desc := "()Z" } : Jvm.MethodName)) ∈ TBG := tb_t 707 (by decide +kernel) (by decide +kernel)
theorem tw708 : (Jvm.Cond.code ({ cls := "GranaryWatch$Setup", name := "readHour", desc := "()Z" } : Jvm.MethodName) prog_8_method_8_code (1 : Nat) (Option.some Jvm.ClassFile.FieldType.boolean)) ∈ TBG := tb_t 708 (by decide +kernel) (by decide +kernel)
theorem tw709 : (Jvm.Cond.methodLink "GranaryWatch$Setup" (53 : Nat) ({ cls := "GranaryWatch$Granary", name := "begin", desc := "()V" } : Jvm.MethodName)) ∈ TBG := tb_t 709 (by decide +kernel) (by decide +kernel)
theorem tw710 : (Jvm.Cond.instanceMethod ({ cls := "GranaryWatch$Granary", name := "begin", desc := "()V" } : Jvm.MethodName)) ∈ TBG := tb_t 710 (by decide +kernel) (by decide +kernel)
theorem tw711 : (Jvm.Cond.selects "GranaryWatch$Granary" ({ cls := "GranaryWatch$Granary", name := "begin", desc := "()V" } : Jvm.MethodName) ({ cls := "GranaryWatch$Granary", name := "begin", desc := "()V" } : Jvm.MethodName)) ∈ TBG := tb_t 711 (by decide +kernel) (by decide +kernel)
theorem tw712 : (Jvm.Cond.code ({ cls := "GranaryWatch$Granary", name := "begin", desc := "()V" } : Jvm.MethodName) prog_4_method_4_code (1 : Nat) (Option.none : Option Jvm.ClassFile.FieldType)) ∈ TBG := tb_t 712 (by decide +kernel) (by decide +kernel)
theorem tw753 : (Jvm.Cond.fieldLink "GranaryWatch" (30 : Nat) "GranaryWatch" "draft" "LGranaryWatch$Granary;") ∈ TBG := tb_t 753 (by decide +kernel) (by decide +kernel)
theorem tw759 : (Jvm.Cond.fieldLink "GranaryWatch" (84 : Nat) "GranaryWatch" "hasSaved" "Z") ∈ TBG := tb_t 759 (by decide +kernel) (by decide +kernel)
theorem tp0 : Cond.selects "GranaryWatch$Setup" ⟨"GranaryWatch$Setup", "readStatement", "()Z"⟩ ⟨"GranaryWatch$Setup", "readStatement", "()Z"⟩ ∈ TBG := tb_s (q := (⟨"GranaryWatch$Setup", "readStatement", "()Z"⟩, 2)) 0 (by decide +kernel) (by decide +kernel)
theorem tp1 : Cond.selects "GranaryWatch$Setup" ⟨"GranaryWatch$Setup", "readCat", "()Z"⟩ ⟨"GranaryWatch$Setup", "readCat", "()Z"⟩ ∈ TBG := tb_s (q := (⟨"GranaryWatch$Setup", "readCat", "()Z"⟩, 2)) 1 (by decide +kernel) (by decide +kernel)
theorem tp2 : Cond.selects "GranaryWatch$Setup" ⟨"GranaryWatch$Setup", "readSack", "()Z"⟩ ⟨"GranaryWatch$Setup", "readSack", "()Z"⟩ ∈ TBG := tb_s (q := (⟨"GranaryWatch$Setup", "readSack", "()Z"⟩, 2)) 2 (by decide +kernel) (by decide +kernel)
theorem tp3 : Cond.selects "GranaryWatch$Setup" ⟨"GranaryWatch$Setup", "readShift", "()Z"⟩ ⟨"GranaryWatch$Setup", "readShift", "()Z"⟩ ∈ TBG := tb_s (q := (⟨"GranaryWatch$Setup", "readShift", "()Z"⟩, 2)) 3 (by decide +kernel) (by decide +kernel)
theorem tp4 : Cond.selects "GranaryWatch$Setup" ⟨"GranaryWatch$Setup", "readMilk", "()Z"⟩ ⟨"GranaryWatch$Setup", "readMilk", "()Z"⟩ ∈ TBG := tb_s (q := (⟨"GranaryWatch$Setup", "readMilk", "()Z"⟩, 2)) 4 (by decide +kernel) (by decide +kernel)
theorem tp5 : Cond.selects "GranaryWatch$Setup" ⟨"GranaryWatch$Setup", "readHour", "()Z"⟩ ⟨"GranaryWatch$Setup", "readHour", "()Z"⟩ ∈ TBG := tb_s (q := (⟨"GranaryWatch$Setup", "readHour", "()Z"⟩, 2)) 5 (by decide +kernel) (by decide +kernel)
/-! the setup's statements: their contracts -/
theorem hdX0_begin : yX0_begin.cls = RX0 ∧ yX0_begin.cls ≠ "java/lang/invoke/MethodHandle" ∧ yX0_begin.cls ≠ "java/lang/invoke/VarHandle" ∧ (parseMethodDescriptor yX0_begin.desc).map (fun d => d.parameters.length) = some 0 := ⟨rfl, by decide +kernel, by decide +kernel, by decide +kernel⟩
theorem hdX8_takeEither : yX8_takeEither.cls = RX8 ∧ yX8_takeEither.cls ≠ "java/lang/invoke/MethodHandle" ∧ yX8_takeEither.cls ≠ "java/lang/invoke/VarHandle" ∧ (parseMethodDescriptor yX8_takeEither.desc).map (fun d => d.parameters.length) = some 2 := ⟨rfl, by decide +kernel, by decide +kernel, by decide +kernel⟩
theorem hdX6_readCat : yX6_readCat.cls = RX6 ∧ yX6_readCat.cls ≠ "java/lang/invoke/MethodHandle" ∧ yX6_readCat.cls ≠ "java/lang/invoke/VarHandle" ∧ (parseMethodDescriptor yX6_readCat.desc).map (fun d => d.parameters.length) = some 0 := ⟨rfl, by decide +kernel, by decide +kernel, by decide +kernel⟩
theorem hdX6_readSack : yX6_readSack.cls = RX6 ∧ yX6_readSack.cls ≠ "java/lang/invoke/MethodHandle" ∧ yX6_readSack.cls ≠ "java/lang/invoke/VarHandle" ∧ (parseMethodDescriptor yX6_readSack.desc).map (fun d => d.parameters.length) = some 0 := ⟨rfl, by decide +kernel, by decide +kernel, by decide +kernel⟩
theorem hdX6_readShift : yX6_readShift.cls = RX6 ∧ yX6_readShift.cls ≠ "java/lang/invoke/MethodHandle" ∧ yX6_readShift.cls ≠ "java/lang/invoke/VarHandle" ∧ (parseMethodDescriptor yX6_readShift.desc).map (fun d => d.parameters.length) = some 0 := ⟨rfl, by decide +kernel, by decide +kernel, by decide +kernel⟩
theorem hdX6_readMilk : yX6_readMilk.cls = RX6 ∧ yX6_readMilk.cls ≠ "java/lang/invoke/MethodHandle" ∧ yX6_readMilk.cls ≠ "java/lang/invoke/VarHandle" ∧ (parseMethodDescriptor yX6_readMilk.desc).map (fun d => d.parameters.length) = some 0 := ⟨rfl, by decide +kernel, by decide +kernel, by decide +kernel⟩
theorem hdX6_readHour : yX6_readHour.cls = RX6 ∧ yX6_readHour.cls ≠ "java/lang/invoke/MethodHandle" ∧ yX6_readHour.cls ≠ "java/lang/invoke/VarHandle" ∧ (parseMethodDescriptor yX6_readHour.desc).map (fun d => d.parameters.length) = some 0 := ⟨rfl, by decide +kernel, by decide +kernel, by decide +kernel⟩
theorem hdX2_clear : yX2_clear.cls = RX2 ∧ yX2_clear.cls ≠ "java/lang/invoke/MethodHandle" ∧ yX2_clear.cls ≠ "java/lang/invoke/VarHandle" ∧ (parseMethodDescriptor yX2_clear.desc).map (fun d => d.parameters.length) = some 0 := ⟨rfl, by decide +kernel, by decide +kernel, by decide +kernel⟩
theorem hdX6_readStatement : yX6_readStatement.cls = RX6 ∧ yX6_readStatement.cls ≠ "java/lang/invoke/MethodHandle" ∧ yX6_readStatement.cls ≠ "java/lang/invoke/VarHandle" ∧ (parseMethodDescriptor yX6_readStatement.desc).map (fun d => d.parameters.length) = some 0 := ⟨rfl, by decide +kernel, by decide +kernel, by decide +kernel⟩
theorem hdX2_begin : yX2_begin.cls = RX2 ∧ yX2_begin.cls ≠ "java/lang/invoke/MethodHandle" ∧ yX2_begin.cls ≠ "java/lang/invoke/VarHandle" ∧ (parseMethodDescriptor yX2_begin.desc).map (fun d => d.parameters.length) = some 0 := ⟨rfl, by decide +kernel, by decide +kernel, by decide +kernel⟩
theorem hdX6_parse : yX6_parse.cls = RX6 ∧ yX6_parse.cls ≠ "java/lang/invoke/MethodHandle" ∧ yX6_parse.cls ≠ "java/lang/invoke/VarHandle" ∧ (parseMethodDescriptor yX6_parse.desc).map (fun d => d.parameters.length) = some 0 := ⟨rfl, by decide +kernel, by decide +kernel, by decide +kernel⟩
theorem gRX6_X0_begin : GoodIn TBG (wsV RX6 94 RX0 yX0_begin (wT yX0_begin cX0_begin 1 none)) := gT_V tw508 tw509 tw510 tw11 tw511
theorem gRX6_X8_takeEither : GoodIn TBG (wsV RX6 119 RX8 yX8_takeEither (wT yX8_takeEither cX8_takeEither 3 (some .boolean))) := gT_V tw674 tw675 tw676 tw2 tw677
theorem gRX6_X8_isWord : GoodIn TBG (wsV RX6 56 RX8 yX8_isWord (wT yX8_isWord cX8_isWord 3 (some .boolean))) := gT_V tw485 tw486 tw487 tw2 tw488
theorem gRX6_X2_sackNamed : GoodIn TBG (wsV RX6 129 RX2 yX2_sackNamed (wT yX2_sackNamed cX2_sackNamed 3 (some .int))) := gT_V tw688 tw689 tw690 tw8 tw691
theorem gRX6_X6_readCat : GoodIn TBG (wsV RX6 60 RX6 yX6_readCat (wT yX6_readCat cX6_readCat 2 (some .boolean))) := gT_V tw489 tw491 tp1 tw14 tw492
theorem gRX6_X6_readSack : GoodIn TBG (wsV RX6 65 RX6 yX6_readSack (wT yX6_readSack cX6_readSack 2 (some .boolean))) := gT_V tw684 tw686 tp2 tw14 tw687
theorem gRX6_X6_readShift : GoodIn TBG (wsV RX6 70 RX6 yX6_readShift (wT yX6_readShift cX6_readShift 2 (some .boolean))) := gT_V tw695 tw697 tp3 tw14 tw698
theorem gRX6_X6_readMilk : GoodIn TBG (wsV RX6 75 RX6 yX6_readMilk (wT yX6_readMilk cX6_readMilk 1 (some .boolean))) := gT_V tw700 tw702 tp4 tw14 tw703
theorem gRX6_X6_readHour : GoodIn TBG (wsV RX6 80 RX6 yX6_readHour (wT yX6_readHour cX6_readHour 1 (some .boolean))) := gT_V tw705 tw707 tp5 tw14 tw708
theorem gRX6_X8_begin : GoodIn TBG (wsV RX6 19 RX8 yX8_begin (wT yX8_begin cX8_begin 1 none)) := gT_V tw453 tw454 tw455 tw2 tw456
theorem gRX6_X2_clear : GoodIn TBG (wsV RX6 24 RX2 yX2_clear (wT yX2_clear cX2_clear 1 none)) := gT_V tw457 tw458 tw459 tw8 tw460
theorem gRX6_X8_advance : GoodIn TBG (wsV RX6 33 RX8 yX8_advance (wT yX8_advance cX8_advance 2 (some .boolean))) := gT_V tw469 tw470 tw471 tw2 tw472
theorem gRX6_X6_readStatement : GoodIn TBG (wsV RX6 37 RX6 yX6_readStatement (wT yX6_readStatement cX6_readStatement 1 (some .boolean))) := gT_V tw480 tw482 tp0 tw14 tw483
theorem gRX6_X2_begin : GoodIn TBG (wsV RX6 53 RX2 yX2_begin (wT yX2_begin cX2_begin 1 none)) := gT_V tw709 tw710 tw711 tw8 tw712
theorem gRX10_X6_parse : GoodIn TBG (wsV RX10 65 RX6 yX6_parse (wT yX6_parse cX6_parse 2 (some .boolean))) := gT_V tw449 tw450 tw451 tw14 tw452
theorem gRX6_X8_word : GoodIn TBG (wsV RX6 97 RX8 yX8_word (wT yX8_word cX8_word 2 (some (.object "java/lang/String")))) := gT_V tw512 tw513 tw514 tw2 tw515
theorem pcnt {x1 : Int32} (hi : gIn x1 201) : 2 * x1.toNatClampNeg ≤ 402 ∧ 19 * x1.toNatClampNeg ≤ 3819 := by have := gIn_lt hi; omega
theorem pcntJ {x1 : Int32} (hi : gIn x1 202) : 2 * x1.toNatClampNeg ≤ 402 ∧ 19 * x1.toNatClampNeg ≤ 3819 := by have := gIn_lt hi; omega
theorem pcnt2 {x1 : Int32} (hi : gIn x1 201) : 2 * x1.toNatClampNeg + 2 ≤ 402 ∧ 19 * x1.toNatClampNeg + 19 ≤ 3819 := by have := gIn_lt hi; omega
theorem gI_nat {x1 : Int32} {N : Nat} (hi : gIn x1 N) : ∃ k, k < N ∧ x1 = nI k := by
  obtain ⟨k, hk, ek⟩ := nI_of (fun h => hi (Or.inl h))
  subst ek
  have := gIn_lt hi
  rw [nI_c hk] at this
  exact ⟨k, this, rfl⟩
theorem gI_s {x1 : Int32} (hi : gIn x1 201) : (x1 + 1).toNatClampNeg = x1.toNatClampNeg + 1 := by
  obtain ⟨k, hk, rfl⟩ := gI_nat hi
  rw [nI_1, nI_c (by omega), nI_c (by omega)]
theorem gI_J {x1 : Int32} (hi : gIn x1 201) : gIn (x1 + 1) 202 := by
  obtain ⟨k, hk, rfl⟩ := gI_nat hi
  rw [nI_1]
  exact nI_in (by omega) (by omega)
theorem nameTo_some {M q : CS} {p : Nat} (hc : fX8_nameTo M p = some q) : wordG M ∧ q = ((wordS M).1, va_up (wordS M).2 p (wordOf M)) := by
  unfold fX8_nameTo fX8_word at hc
  by_cases h : wordG M
  · rw [if_pos h, Option.bind_some] at hc
    exact ⟨h, (Option.some.inj hc).symm⟩
  · rw [if_neg h] at hc
    cases hc
variable {l : Launch} {p : Program} {e : Env} {s : State} {m : MethodId} {args : Array Value} {below : List Frame} {meth : Method} {c : Code} {A : Nat → Prop} {Q : State → Prop}
variable {dC : Nat → ClassId} {dI : Nat → Nat → Nat} {cg : Nat → ClassId} {kA : String → Nat → Nat} {ca : Nat → Nat}
set_option maxRecDepth 10000 in
theorem kX6_readCat_163 {r : Int32} {S1 : CS} {M : CS} {s0 : Int32} {H : Heap} {locs : List Loc} {ls : Array Slot} (X : gX p s m args c cX6_readCat 2 RX6 (kR kTab kA)) (hret : gRetIA p l e (rmL 9 2 19) s m args below meth c cX6_readCat 2 19 (cΩ ca) (cP dC dI cg kA ca) Q r S1) (hf : fX6_readCat_163 M s0 = some (r, S1)) (hP : (cP dC dI cg kA ca) M s H) (hS : va_S (Fr (cΩ ca) s.heap.size) s.heap H locs) (hl : lv_has ls 2 [(0, .ref (ca 7))]) : W p l e (rmL 9 2 19) s m args below meth c H locs 2 19 Q (F0 m 163 ls [.int s0]) := by
  have hx := X.hx
  have hb := X.hb
  have hown := X.hown
  have hts := X.hts
  rw [fX6_readCat_163] at hf
  cases hf
  exact hret _ _ _ _ _ _ dX6_readCat_163 hP hS (Nat.le_of_ble_eq_true rfl) (Nat.le_of_ble_eq_true rfl)
set_option maxRecDepth 10000 in
theorem kX6_readCat_156 {r : Int32} {S1 : CS} {M : CS} {H : Heap} {locs : List Loc} {ls : Array Slot} (X : gX p s m args c cX6_readCat 2 RX6 (kR kTab kA)) (hret : gRetIA p l e (rmL 9 2 19) s m args below meth c cX6_readCat 2 19 (cΩ ca) (cP dC dI cg kA ca) Q r S1) (hf : fX6_readCat_156 M = some (r, S1)) (hP : (cP dC dI cg kA ca) M s H) (hS : va_S (Fr (cΩ ca) s.heap.size) s.heap H locs) (hl : lv_has ls 2 [(0, .ref (ca 7))]) : W p l e (rmL 9 2 19) s m args below meth c H locs 2 19 Q (F0 m 156 ls []) := by
  have hx := X.hx
  have hb := X.hb
  have hown := X.hown
  have hts := X.hts
  rw [fX6_readCat_156] at hf
  refine lv_aload_n hx hb dX6_readCat_156 rfl (lv_at hl 0 rfl) ?_
  refine cr_get (k := 0) X hP (rfl : kc 7 = 7) rfl cv7_0 rfl cinX6 (by decide) rfl tw362 dX6_readCat_157 ?_
  obtain ⟨q, hc, hf⟩ := bd hf
  refine gCallVI X cOK rfl (vX8_takeSemicolon hc) gRX6_X8_takeSemicolon hdX8_takeSemicolon rfl ⟨by decide, by decide⟩ hP hS (cr_rec hP (rfl : kc 1 = 1) rfl cw1 rfl) hl.1 (Nat.le_of_ble_eq_true rfl) ⟨Nat.le_of_ble_eq_true rfl, Nat.le_of_ble_eq_true rfl⟩ dX6_readCat_160 (As := []) (rest := []) rfl (fun H locs hP hS => ?_)
  exact kX6_readCat_163 X hret hf hP hS (lv_sub hl [0] rfl)
set_option maxRecDepth 10000 in
theorem kX6_readCat_143 {r : Int32} {S1 : CS} {M : CS} {H : Heap} {locs : List Loc} {ls : Array Slot} (X : gX p s m args c cX6_readCat 2 RX6 (kR kTab kA)) (hret : gRetIA p l e (rmL 9 2 19) s m args below meth c cX6_readCat 2 19 (cΩ ca) (cP dC dI cg kA ca) Q r S1) (hf : fX6_readCat_143 M = some (r, S1)) (hP : (cP dC dI cg kA ca) M s H) (hS : va_S (Fr (cΩ ca) s.heap.size) s.heap H locs) (hl : lv_has ls 2 [(0, .ref (ca 7))]) : W p l e (rmL 9 2 19) s m args below meth c H locs 2 19 Q (F0 m 143 ls []) := by
  have hx := X.hx
  have hb := X.hb
  have hown := X.hown
  have hts := X.hts
  rw [fX6_readCat_143] at hf
  refine lv_aload_n hx hb dX6_readCat_143 rfl (lv_at hl 0 rfl) ?_
  refine cr_get (k := 1) X hP (rfl : kc 7 = 7) rfl cv7_1 rfl cinX6 (by decide) rfl tw363 dX6_readCat_144 ?_
  refine lv_dup hx hb dX6_readCat_147 rfl ?_
  refine cr_get (k := 5) X hP (rfl : kc 48 = 11) rfl cv11_5 rfl cinX2 (by decide) rfl tw309 dX6_readCat_148 ?_
  refine lv_iconst (v := 1) hx hb dX6_readCat_151 (by decide) ?_
  refine lv_iadd hx hb dX6_readCat_152 ?_
  refine cr_put (k := 5) X hP hS (rfl : kc 48 = 11) rfl cs11_5 rfl cinX2 tyX2_ok nmX2 (by decide) rfl rfl rfl rfl tw309 dX6_readCat_153 (fun H locs hP hS => ?_)
  exact kX6_readCat_156 X hret hf hP hS (lv_sub hl [0] rfl)
set_option maxRecDepth 10000 in
theorem kX6_readCat_140 {r : Int32} {S1 : CS} {M : CS} {z1 : Nat} {s0 : Int32} {H : Heap} {locs : List Loc} {ls : Array Slot} (X : gX p s m args c cX6_readCat 2 RX6 (kR kTab kA)) (hret : gRetIA p l e (rmL 9 2 19) s m args below meth c cX6_readCat 2 19 (cΩ ca) (cP dC dI cg kA ca) Q r S1) (hkz1 : kc z1 = 18) (hf : fX6_readCat_140 M z1 s0 = some (r, S1)) (hP : (cP dC dI cg kA ca) M s H) (hS : va_S (Fr (cΩ ca) s.heap.size) s.heap H locs) (hl : lv_has ls 2 [(0, .ref (ca 7))]) : W p l e (rmL 9 2 19) s m args below meth c H locs 2 19 Q (F0 m 140 ls [.int s0, .ref (ca z1)]) := by
  have hx := X.hx
  have hb := X.hb
  have hown := X.hown
  have hts := X.hts
  rw [fX6_readCat_140] at hf
  obtain ⟨g1, hf⟩ := gd hf
  refine cr_put (k := 2) X hP hS hkz1 rfl cs18_2 rfl cinX0 tyX0_ok nmX0 (by decide) rfl rfl (nz g1) (fz g1) tw221 dX6_readCat_140 (fun H locs hP hS => ?_)
  exact kX6_readCat_143 X hret hf hP hS (lv_sub hl [0] rfl)
set_option maxRecDepth 10000 in
theorem kX6_readCat_130 {r : Int32} {S1 : CS} {M : CS} {p1 : Nat} {H : Heap} {locs : List Loc} {ls : Array Slot} (X : gX p s m args c cX6_readCat 2 RX6 (kR kTab kA)) (hret : gRetIA p l e (rmL 9 2 19) s m args below meth c cX6_readCat 2 19 (cΩ ca) (cP dC dI cg kA ca) Q r S1) (hkp1 : kc p1 = 18) (hf : fX6_readCat_130 M p1 = some (r, S1)) (hP : (cP dC dI cg kA ca) M s H) (hS : va_S (Fr (cΩ ca) s.heap.size) s.heap H locs) (hl : lv_has ls 2 [(0, .ref (ca 7)), (1, .ref (ca p1))]) : W p l e (rmL 9 2 19) s m args below meth c H locs 2 19 Q (F0 m 130 ls []) := by
  have hx := X.hx
  have hb := X.hb
  have hown := X.hown
  have hts := X.hts
  rw [fX6_readCat_130] at hf
  refine lv_aload_n hx hb dX6_readCat_130 rfl (lv_at hl 1 rfl) ?_
  refine lv_aload_n hx hb dX6_readCat_131 rfl (lv_at hl 0 rfl) ?_
  refine cr_get (k := 0) X hP (rfl : kc 7 = 7) rfl cv7_0 rfl cinX6 (by decide) rfl tw362 dX6_readCat_132 ?_
  refine va_ldcS hx hb hown (kRat (q := ("GranaryWatch$Setup", 115, "left", [108, 101, 102, 116])) X.ks 12 rfl) dX6_readCat_135 ?_
  obtain ⟨q, hc, hf⟩ := bd hf
  refine gCallVR X rfl (vX8_isWord hc) gRX6_X8_isWord hdX8_isWord rfl ⟨by decide, by decide⟩ (gBS_blind cOK) (gBS_at cOK X hP (cstr (q := ("GranaryWatch$Setup", 115, "left", [108, 101, 102, 116])) hP 12 rfl)) (cr_rec hP (rfl : kc 1 = 1) rfl cw1 rfl) hl.1 (Nat.le_of_ble_eq_true rfl) ⟨Nat.le_of_ble_eq_true rfl, Nat.le_of_ble_eq_true rfl⟩ dX6_readCat_137 (As := [.ref (kA RX6 115)]) (rest := [.ref (ca p1)]) rfl ?_
  exact kX6_readCat_140 X hret hkp1 hf hP hS (lv_sub hl [0] rfl)
set_option maxRecDepth 10000 in
theorem kX6_readCat_128 {r : Int32} {S1 : CS} {M : CS} {H : Heap} {locs : List Loc} {ls : Array Slot} (X : gX p s m args c cX6_readCat 2 RX6 (kR kTab kA)) (hret : gRetIA p l e (rmL 9 2 19) s m args below meth c cX6_readCat 2 19 (cΩ ca) (cP dC dI cg kA ca) Q r S1) (hf : fX6_readCat_128 M = some (r, S1)) (hP : (cP dC dI cg kA ca) M s H) (hS : va_S (Fr (cΩ ca) s.heap.size) s.heap H locs) (hl : lv_has ls 2 [(0, .ref (ca 7))]) : W p l e (rmL 9 2 19) s m args below meth c H locs 2 19 Q (F0 m 128 ls []) := by
  have hx := X.hx
  have hb := X.hb
  have hown := X.hown
  have hts := X.hts
  rw [fX6_readCat_128] at hf
  refine lv_iconst (v := 0) hx hb dX6_readCat_128 (by decide) ?_
  cases hf
  exact hret _ _ _ _ _ _ dX6_readCat_129 hP hS (Nat.le_of_ble_eq_true rfl) (Nat.le_of_ble_eq_true rfl)
set_option maxRecDepth 10000 in
theorem kX6_readCat_125 {r : Int32} {S1 : CS} {M : CS} {p1 : Nat} {s0 : Int32} {H : Heap} {locs : List Loc} {ls : Array Slot} (X : gX p s m args c cX6_readCat 2 RX6 (kR kTab kA)) (hret : gRetIA p l e (rmL 9 2 19) s m args below meth c cX6_readCat 2 19 (cΩ ca) (cP dC dI cg kA ca) Q r S1) (hkp1 : kc p1 = 18) (hf : fX6_readCat_125 M p1 s0 = some (r, S1)) (hP : (cP dC dI cg kA ca) M s H) (hS : va_S (Fr (cΩ ca) s.heap.size) s.heap H locs) (hl : lv_has ls 2 [(0, .ref (ca 7)), (1, .ref (ca p1))]) : W p l e (rmL 9 2 19) s m args below meth c H locs 2 19 Q (F0 m 125 ls [.int s0]) := by
  have hx := X.hx
  have hb := X.hb
  have hown := X.hown
  have hts := X.hts
  rw [fX6_readCat_125] at hf
  refine lv_if_ne (tgt := 130) hx hb dX6_readCat_125 (by decide) (fun c1 => ?_) (fun c1 => ?_)
  · exact kX6_readCat_130 X hret hkp1 (ifn c1 hf) hP hS (lv_sub hl [0, 1] rfl)
  · exact kX6_readCat_128 X hret (ifp c1 hf) hP hS (lv_sub hl [0] rfl)
set_option maxRecDepth 10000 in
theorem kX6_readCat_114 {r : Int32} {S1 : CS} {M : CS} {p1 : Nat} {H : Heap} {locs : List Loc} {ls : Array Slot} (X : gX p s m args c cX6_readCat 2 RX6 (kR kTab kA)) (hret : gRetIA p l e (rmL 9 2 19) s m args below meth c cX6_readCat 2 19 (cΩ ca) (cP dC dI cg kA ca) Q r S1) (hkp1 : kc p1 = 18) (hf : fX6_readCat_114 M p1 = some (r, S1)) (hP : (cP dC dI cg kA ca) M s H) (hS : va_S (Fr (cΩ ca) s.heap.size) s.heap H locs) (hl : lv_has ls 2 [(0, .ref (ca 7)), (1, .ref (ca p1))]) : W p l e (rmL 9 2 19) s m args below meth c H locs 2 19 Q (F0 m 114 ls []) := by
  have hx := X.hx
  have hb := X.hb
  have hown := X.hown
  have hts := X.hts
  rw [fX6_readCat_114] at hf
  refine lv_aload_n hx hb dX6_readCat_114 rfl (lv_at hl 0 rfl) ?_
  refine cr_get (k := 0) X hP (rfl : kc 7 = 7) rfl cv7_0 rfl cinX6 (by decide) rfl tw362 dX6_readCat_115 ?_
  refine va_ldcS hx hb hown (kRat (q := ("GranaryWatch$Setup", 115, "left", [108, 101, 102, 116])) X.ks 12 rfl) dX6_readCat_118 ?_
  refine va_ldcS hx hb hown (kRat (q := ("GranaryWatch$Setup", 117, "right", [114, 105, 103, 104, 116])) X.ks 13 rfl) dX6_readCat_120 ?_
  obtain ⟨q, hc, hf⟩ := bd hf
  refine gCallVI X (gPS_ok cOK) rfl (vX8_takeEither hc) gRX6_X8_takeEither hdX8_takeEither rfl ⟨by decide, by decide⟩ ⟨hP, l2 (cstr (q := ("GranaryWatch$Setup", 115, "left", [108, 101, 102, 116])) hP 12 rfl) (cstr (q := ("GranaryWatch$Setup", 117, "right", [114, 105, 103, 104, 116])) hP 13 rfl)⟩ hS (cr_rec hP (rfl : kc 1 = 1) rfl cw1 rfl) hl.1 (Nat.le_of_ble_eq_true rfl) ⟨Nat.le_of_ble_eq_true rfl, Nat.le_of_ble_eq_true rfl⟩ dX6_readCat_122 (As := [.ref (kA RX6 115), .ref (kA RX6 117)]) (rest := []) rfl (fun H locs hP hS => ?_)
  replace hP := hP.1
  exact kX6_readCat_125 X hret hkp1 hf hP hS (lv_sub hl [0, 1] rfl)
set_option maxRecDepth 10000 in
theorem kX6_readCat_103 {r : Int32} {S1 : CS} {M : CS} {p1 : Nat} {H : Heap} {locs : List Loc} {ls : Array Slot} (X : gX p s m args c cX6_readCat 2 RX6 (kR kTab kA)) (hret : gRetIA p l e (rmL 9 2 19) s m args below meth c cX6_readCat 2 19 (cΩ ca) (cP dC dI cg kA ca) Q r S1) (hkp1 : kc p1 = 18) (hf : fX6_readCat_103 M p1 = some (r, S1)) (hP : (cP dC dI cg kA ca) M s H) (hS : va_S (Fr (cΩ ca) s.heap.size) s.heap H locs) (hl : lv_has ls 2 [(0, .ref (ca 7)), (1, .ref (ca p1))]) : W p l e (rmL 9 2 19) s m args below meth c H locs 2 19 Q (F0 m 103 ls []) := by
  have hx := X.hx
  have hb := X.hb
  have hown := X.hown
  have hts := X.hts
  rw [fX6_readCat_103] at hf
  refine lv_aload_n hx hb dX6_readCat_103 rfl (lv_at hl 1 rfl) ?_
  refine lv_aload_n hx hb dX6_readCat_104 rfl (lv_at hl 0 rfl) ?_
  refine cr_get (k := 0) X hP (rfl : kc 7 = 7) rfl cv7_0 rfl cinX6 (by decide) rfl tw362 dX6_readCat_105 ?_
  refine cr_get (k := 6) X hP (rfl : kc 1 = 1) rfl cv1_6 rfl cinX8 (by decide) rfl tw94 dX6_readCat_108 ?_
  refine cr_put (k := 1) X hP hS hkp1 rfl cs18_1 rfl cinX0 tyX0_ok nmX0 (by decide) rfl rfl rfl rfl tw219 dX6_readCat_111 (fun H locs hP hS => ?_)
  exact kX6_readCat_114 X hret hkp1 hf hP hS (lv_sub hl [0, 1] rfl)
set_option maxRecDepth 10000 in
theorem kX6_readCat_101 {r : Int32} {S1 : CS} {M : CS} {H : Heap} {locs : List Loc} {ls : Array Slot} (X : gX p s m args c cX6_readCat 2 RX6 (kR kTab kA)) (hret : gRetIA p l e (rmL 9 2 19) s m args below meth c cX6_readCat 2 19 (cΩ ca) (cP dC dI cg kA ca) Q r S1) (hf : fX6_readCat_101 M = some (r, S1)) (hP : (cP dC dI cg kA ca) M s H) (hS : va_S (Fr (cΩ ca) s.heap.size) s.heap H locs) (hl : lv_has ls 2 [(0, .ref (ca 7))]) : W p l e (rmL 9 2 19) s m args below meth c H locs 2 19 Q (F0 m 101 ls []) := by
  have hx := X.hx
  have hb := X.hb
  have hown := X.hown
  have hts := X.hts
  rw [fX6_readCat_101] at hf
  refine lv_iconst (v := 0) hx hb dX6_readCat_101 (by decide) ?_
  cases hf
  exact hret _ _ _ _ _ _ dX6_readCat_102 hP hS (Nat.le_of_ble_eq_true rfl) (Nat.le_of_ble_eq_true rfl)
set_option maxRecDepth 10000 in
theorem kX6_readCat_98 {r : Int32} {S1 : CS} {M : CS} {p1 : Nat} {s0 : Int32} {H : Heap} {locs : List Loc} {ls : Array Slot} (X : gX p s m args c cX6_readCat 2 RX6 (kR kTab kA)) (hret : gRetIA p l e (rmL 9 2 19) s m args below meth c cX6_readCat 2 19 (cΩ ca) (cP dC dI cg kA ca) Q r S1) (hkp1 : kc p1 = 18) (hf : fX6_readCat_98 M p1 s0 = some (r, S1)) (hP : (cP dC dI cg kA ca) M s H) (hS : va_S (Fr (cΩ ca) s.heap.size) s.heap H locs) (hl : lv_has ls 2 [(0, .ref (ca 7)), (1, .ref (ca p1))]) : W p l e (rmL 9 2 19) s m args below meth c H locs 2 19 Q (F0 m 98 ls [.int s0]) := by
  have hx := X.hx
  have hb := X.hb
  have hown := X.hown
  have hts := X.hts
  rw [fX6_readCat_98] at hf
  refine lv_if_ne (tgt := 103) hx hb dX6_readCat_98 (by decide) (fun c1 => ?_) (fun c1 => ?_)
  · exact kX6_readCat_103 X hret hkp1 (ifn c1 hf) hP hS (lv_sub hl [0, 1] rfl)
  · exact kX6_readCat_101 X hret (ifp c1 hf) hP hS (lv_sub hl [0] rfl)
set_option maxRecDepth 10000 in
theorem kX6_readCat_88 {r : Int32} {S1 : CS} {M : CS} {p1 : Nat} {H : Heap} {locs : List Loc} {ls : Array Slot} (X : gX p s m args c cX6_readCat 2 RX6 (kR kTab kA)) (hret : gRetIA p l e (rmL 9 2 19) s m args below meth c cX6_readCat 2 19 (cΩ ca) (cP dC dI cg kA ca) Q r S1) (hkp1 : kc p1 = 18) (hf : fX6_readCat_88 M p1 = some (r, S1)) (hP : (cP dC dI cg kA ca) M s H) (hS : va_S (Fr (cΩ ca) s.heap.size) s.heap H locs) (hl : lv_has ls 2 [(0, .ref (ca 7)), (1, .ref (ca p1))]) : W p l e (rmL 9 2 19) s m args below meth c H locs 2 19 Q (F0 m 88 ls []) := by
  have hx := X.hx
  have hb := X.hb
  have hown := X.hown
  have hts := X.hts
  rw [fX6_readCat_88] at hf
  refine lv_aload_n hx hb dX6_readCat_88 rfl (lv_at hl 0 rfl) ?_
  refine cr_get (k := 0) X hP (rfl : kc 7 = 7) rfl cv7_0 rfl cinX6 (by decide) rfl tw362 dX6_readCat_89 ?_
  refine lv_iconst (v := 1) hx hb dX6_readCat_92 (by decide) ?_
  refine lv_bipush (v := 9) hx hb dX6_readCat_93 (by decide) ?_
  obtain ⟨q, hc, hf⟩ := bd hf
  refine gCallVI X cOK rfl (vX8_takeNumber hc) gRX6_X8_takeNumber hdX8_takeNumber rfl ⟨by decide, by decide⟩ hP hS (cr_rec hP (rfl : kc 1 = 1) rfl cw1 rfl) hl.1 (Nat.le_of_ble_eq_true rfl) ⟨Nat.le_of_ble_eq_true rfl, Nat.le_of_ble_eq_true rfl⟩ dX6_readCat_95 (As := [.int 1, .int 9]) (rest := []) rfl (fun H locs hP hS => ?_)
  exact kX6_readCat_98 X hret hkp1 hf hP hS (lv_sub hl [0, 1] rfl)
set_option maxRecDepth 10000 in
theorem kX6_readCat_77 {r : Int32} {S1 : CS} {M : CS} {p1 : Nat} {H : Heap} {locs : List Loc} {ls : Array Slot} (X : gX p s m args c cX6_readCat 2 RX6 (kR kTab kA)) (hret : gRetIA p l e (rmL 9 2 19) s m args below meth c cX6_readCat 2 19 (cΩ ca) (cP dC dI cg kA ca) Q r S1) (hkp1 : kc p1 = 18) (hf : fX6_readCat_77 M p1 = some (r, S1)) (hP : (cP dC dI cg kA ca) M s H) (hS : va_S (Fr (cΩ ca) s.heap.size) s.heap H locs) (hl : lv_has ls 2 [(0, .ref (ca 7)), (1, .ref (ca p1))]) : W p l e (rmL 9 2 19) s m args below meth c H locs 0 0 Q (F0 m 77 ls []) := by
  have hx := X.hx
  have hb := X.hb
  have hown := X.hown
  have hts := X.hts
  rw [fX6_readCat_77] at hf
  refine lv_aload_n hx hb dX6_readCat_77 rfl (lv_at hl 1 rfl) ?_
  refine lv_aload_n hx hb dX6_readCat_78 rfl (lv_at hl 0 rfl) ?_
  refine cr_get (k := 0) X hP (rfl : kc 7 = 7) rfl cv7_0 rfl cinX6 (by decide) rfl tw362 dX6_readCat_79 ?_
  obtain ⟨q, hc, hf⟩ := bd hf
  obtain ⟨hG, rfl⟩ := nameTo_some hc
  refine gCallWO X cOK strB_moved (vX8_word hG) (cw_V 0 X gRX6_X8_word ⟨rfl, by decide, by decide, by decide +kernel⟩ ⟨by decide, by decide⟩) rfl hP hS (Fr_le hS.1) (cr_rec hP (rfl : kc 1 = 1) rfl cw1 rfl) hl.1 (Nat.le_of_ble_eq_true rfl) ⟨Nat.le_of_ble_eq_true rfl, Nat.le_of_ble_eq_true rfl⟩ dX6_readCat_82 (As := []) (rest := [.ref (ca p1)]) rfl (fun H locs a hP ha hS => ?_)
  refine cr_putN X hP hS hkp1 rfl cs18_0 rfl cinX0 tyX0_ok nmX0 (by decide) rfl rfl rfl rfl ha tw216 dX6_readCat_85 (fun H locs hP hS => ?_)
  exact kX6_readCat_88 X hret hkp1 hf hP hS (lv_sub hl [0, 1] rfl)
set_option maxRecDepth 10000 in
theorem kX6_readCat_57 {r : Int32} {S1 : CS} {M : CS} {H : Heap} {locs : List Loc} {ls : Array Slot} (X : gX p s m args c cX6_readCat 2 RX6 (kR kTab kA)) (hret : gRetIA p l e (rmL 9 2 19) s m args below meth c cX6_readCat 2 19 (cΩ ca) (cP dC dI cg kA ca) Q r S1) (hf : fX6_readCat_57 M = some (r, S1)) (hP : (cP dC dI cg kA ca) M s H) (hS : va_S (Fr (cΩ ca) s.heap.size) s.heap H locs) (hl : lv_has ls 2 [(0, .ref (ca 7))]) : W p l e (rmL 9 2 19) s m args below meth c H locs 0 0 Q (F0 m 57 ls []) := by
  have hx := X.hx
  have hb := X.hb
  have hown := X.hown
  have hts := X.hts
  rw [fX6_readCat_57] at hf
  refine lv_aload_n hx hb dX6_readCat_57 rfl (lv_at hl 0 rfl) ?_
  refine cr_get (k := 1) X hP (rfl : kc 7 = 7) rfl cv7_1 rfl cinX6 (by decide) rfl tw363 dX6_readCat_58 ?_
  refine cr_get (k := 0) X hP (rfl : kc 48 = 11) rfl cv11_0 rfl cinX2 (by decide) rfl tw298 dX6_readCat_61 ?_
  refine lv_aload_n hx hb dX6_readCat_64 rfl (lv_at hl 0 rfl) ?_
  refine cr_get (k := 1) X hP (rfl : kc 7 = 7) rfl cv7_1 rfl cinX6 (by decide) rfl tw363 dX6_readCat_65 ?_
  refine cr_get (k := 5) X hP (rfl : kc 48 = 11) rfl cv11_5 rfl cinX2 (by decide) rfl tw309 dX6_readCat_68 ?_
  obtain ⟨g1, hf⟩ := gd hf
  refine cr_aald (f := fun i => (48 + 1) + 8 + i) X hP (kc_cats (rfl : kc 48 = 11)) rfl (fun _ => rfl) rfl g1 dX6_readCat_71 ?_
  refine lv_astore_n (lv' := [(1, .ref (ca ((48 + 1) + 8 + (M.1 48 5).toNatClampNeg))), (0, .ref (ca 7))]) hx hb dX6_readCat_72 rfl hl (by decide) rfl (fun ls hl => ?_)
  refine lv_aload_n hx hb dX6_readCat_73 rfl (lv_at hl 0 rfl) ?_
  obtain ⟨q, hc, hf⟩ := bd hf
  refine gCallVV X cOK rfl (vX0_begin (kc_cat (kc_cats (rfl : kc 48 = 11)) g1) hc) gRX6_X0_begin hdX0_begin rfl ⟨by decide, by decide⟩ hP hS (cr_rec hP (kc_cat (kc_cats (rfl : kc 48 = 11)) g1) rfl cw18 rfl) hl.1 (Nat.le_of_ble_eq_true rfl) ⟨Nat.le_of_ble_eq_true rfl, Nat.le_of_ble_eq_true rfl⟩ dX6_readCat_74 (As := []) (rest := []) rfl (fun H locs hP hS => ?_)
  exact kX6_readCat_77 X hret (kc_cat (kc_cats (rfl : kc 48 = 11)) g1) hf hP hS (lv_sub hl [1, 0] rfl)
set_option maxRecDepth 10000 in
theorem kX6_readCat_56 {r : Int32} {S1 : CS} {M : CS} {s0 : Int32} {H : Heap} {locs : List Loc} {ls : Array Slot} (X : gX p s m args c cX6_readCat 2 RX6 (kR kTab kA)) (hret : gRetIA p l e (rmL 9 2 19) s m args below meth c cX6_readCat 2 19 (cΩ ca) (cP dC dI cg kA ca) Q r S1) (hf : fX6_readCat_56 M s0 = some (r, S1)) (hP : (cP dC dI cg kA ca) M s H) (hS : va_S (Fr (cΩ ca) s.heap.size) s.heap H locs) (hl : lv_has ls 2 [(0, .ref (ca 7))]) : W p l e (rmL 9 2 19) s m args below meth c H locs 0 0 Q (F0 m 56 ls [.int s0]) := by
  have hx := X.hx
  have hb := X.hb
  have hown := X.hown
  have hts := X.hts
  rw [fX6_readCat_56] at hf
  cases hf
  exact hret _ _ _ _ _ _ dX6_readCat_56 hP hS (Nat.le_of_ble_eq_true rfl) (Nat.le_of_ble_eq_true rfl)
set_option maxRecDepth 10000 in
theorem kX6_readCat_48 {r : Int32} {S1 : CS} {M : CS} {H : Heap} {locs : List Loc} {ls : Array Slot} (X : gX p s m args c cX6_readCat 2 RX6 (kR kTab kA)) (hret : gRetIA p l e (rmL 9 2 19) s m args below meth c cX6_readCat 2 19 (cΩ ca) (cP dC dI cg kA ca) Q r S1) (hf : fX6_readCat_48 M = some (r, S1)) (hP : (cP dC dI cg kA ca) M s H) (hS : va_S (Fr (cΩ ca) s.heap.size) s.heap H locs) (hl : lv_has ls 2 [(0, .ref (ca 7))]) : W p l e (rmL 9 2 19) s m args below meth c H locs 0 0 Q (F0 m 48 ls []) := by
  have hx := X.hx
  have hb := X.hb
  have hown := X.hown
  have hts := X.hts
  rw [fX6_readCat_48] at hf
  refine lv_aload_n hx hb dX6_readCat_48 rfl (lv_at hl 0 rfl) ?_
  refine cr_get (k := 0) X hP (rfl : kc 7 = 7) rfl cv7_0 rfl cinX6 (by decide) rfl tw362 dX6_readCat_49 ?_
  refine lv_iconst (v := 3) hx hb dX6_readCat_52 (by decide) ?_
  obtain ⟨q, hc, hf⟩ := bd hf
  refine gCallVI X cOK rfl (vX8_fail hc) gRX6_X8_fail hdX8_fail rfl ⟨by decide, by decide⟩ hP hS (cr_rec hP (rfl : kc 1 = 1) rfl cw1 rfl) hl.1 (Nat.le_of_ble_eq_true rfl) ⟨Nat.le_of_ble_eq_true rfl, Nat.le_of_ble_eq_true rfl⟩ dX6_readCat_53 (As := [.int 3]) (rest := []) rfl (fun H locs hP hS => ?_)
  exact kX6_readCat_56 X hret hf hP hS (lv_sub hl [0] rfl)
set_option maxRecDepth 10000 in
theorem kX6_readCat_44 {r : Int32} {S1 : CS} {M : CS} {s0 : Int32} {H : Heap} {locs : List Loc} {ls : Array Slot} (X : gX p s m args c cX6_readCat 2 RX6 (kR kTab kA)) (hret : gRetIA p l e (rmL 9 2 19) s m args below meth c cX6_readCat 2 19 (cΩ ca) (cP dC dI cg kA ca) Q r S1) (hf : fX6_readCat_44 M s0 = some (r, S1)) (hP : (cP dC dI cg kA ca) M s H) (hS : va_S (Fr (cΩ ca) s.heap.size) s.heap H locs) (hl : lv_has ls 2 [(0, .ref (ca 7))]) : W p l e (rmL 9 2 19) s m args below meth c H locs 0 0 Q (F0 m 44 ls [.int s0]) := by
  have hx := X.hx
  have hb := X.hb
  have hown := X.hown
  have hts := X.hts
  rw [fX6_readCat_44] at hf
  refine lv_iconst (v := (-1)) hx hb dX6_readCat_44 (by decide) ?_
  refine lv_icmp_eq (tgt := 57) hx hb dX6_readCat_45 (by decide) (fun c1 => ?_) (fun c1 => ?_)
  · exact kX6_readCat_57 X hret (ifp c1 hf) hP hS (lv_sub hl [0] rfl)
  · exact kX6_readCat_48 X hret (ifn c1 hf) hP hS (lv_sub hl [0] rfl)
set_option maxRecDepth 10000 in
theorem kX6_readCat_33 {r : Int32} {S1 : CS} {M : CS} {H : Heap} {locs : List Loc} {ls : Array Slot} (X : gX p s m args c cX6_readCat 2 RX6 (kR kTab kA)) (hret : gRetIA p l e (rmL 9 2 19) s m args below meth c cX6_readCat 2 19 (cΩ ca) (cP dC dI cg kA ca) Q r S1) (hf : fX6_readCat_33 M = some (r, S1)) (hP : (cP dC dI cg kA ca) M s H) (hS : va_S (Fr (cΩ ca) s.heap.size) s.heap H locs) (hl : lv_has ls 2 [(0, .ref (ca 7))]) : W p l e (rmL 9 2 19) s m args below meth c H locs 0 0 Q (F0 m 33 ls []) := by
  have hx := X.hx
  have hb := X.hb
  have hown := X.hown
  have hts := X.hts
  rw [fX6_readCat_33] at hf
  refine lv_aload_n hx hb dX6_readCat_33 rfl (lv_at hl 0 rfl) ?_
  refine cr_get (k := 1) X hP (rfl : kc 7 = 7) rfl cv7_1 rfl cinX6 (by decide) rfl tw363 dX6_readCat_34 ?_
  refine lv_aload_n hx hb dX6_readCat_37 rfl (lv_at hl 0 rfl) ?_
  refine cr_get (k := 0) X hP (rfl : kc 7 = 7) rfl cv7_0 rfl cinX6 (by decide) rfl tw362 dX6_readCat_38 ?_
  obtain ⟨q, hc, hf⟩ := bd hf
  refine gCallVR X rfl (vX2_catNamed (rfl : kc 48 = 11) hc) gRX6_X2_catNamed hdX2_catNamed rfl ⟨by decide, by decide⟩ (gB_blind cOK) (gB_at cOK X hP) (cr_rec hP (rfl : kc 48 = 11) rfl cw11 rfl) hl.1 (Nat.le_of_ble_eq_true rfl) ⟨Nat.le_of_ble_eq_true rfl, Nat.le_of_ble_eq_true rfl⟩ dX6_readCat_41 (As := [.ref (ca 1)]) (rest := []) rfl ?_
  exact kX6_readCat_44 X hret hf hP hS (lv_sub hl [0] rfl)
set_option maxRecDepth 10000 in
theorem kX6_readCat_31 {r : Int32} {S1 : CS} {M : CS} {H : Heap} {locs : List Loc} {ls : Array Slot} (X : gX p s m args c cX6_readCat 2 RX6 (kR kTab kA)) (hret : gRetIA p l e (rmL 9 2 19) s m args below meth c cX6_readCat 2 19 (cΩ ca) (cP dC dI cg kA ca) Q r S1) (hf : fX6_readCat_31 M = some (r, S1)) (hP : (cP dC dI cg kA ca) M s H) (hS : va_S (Fr (cΩ ca) s.heap.size) s.heap H locs) (hl : lv_has ls 2 [(0, .ref (ca 7))]) : W p l e (rmL 9 2 19) s m args below meth c H locs 0 0 Q (F0 m 31 ls []) := by
  have hx := X.hx
  have hb := X.hb
  have hown := X.hown
  have hts := X.hts
  rw [fX6_readCat_31] at hf
  refine lv_iconst (v := 0) hx hb dX6_readCat_31 (by decide) ?_
  cases hf
  exact hret _ _ _ _ _ _ dX6_readCat_32 hP hS (Nat.le_of_ble_eq_true rfl) (Nat.le_of_ble_eq_true rfl)
set_option maxRecDepth 10000 in
theorem kX6_readCat_28 {r : Int32} {S1 : CS} {M : CS} {s0 : Int32} {H : Heap} {locs : List Loc} {ls : Array Slot} (X : gX p s m args c cX6_readCat 2 RX6 (kR kTab kA)) (hret : gRetIA p l e (rmL 9 2 19) s m args below meth c cX6_readCat 2 19 (cΩ ca) (cP dC dI cg kA ca) Q r S1) (hf : fX6_readCat_28 M s0 = some (r, S1)) (hP : (cP dC dI cg kA ca) M s H) (hS : va_S (Fr (cΩ ca) s.heap.size) s.heap H locs) (hl : lv_has ls 2 [(0, .ref (ca 7))]) : W p l e (rmL 9 2 19) s m args below meth c H locs 0 0 Q (F0 m 28 ls [.int s0]) := by
  have hx := X.hx
  have hb := X.hb
  have hown := X.hown
  have hts := X.hts
  rw [fX6_readCat_28] at hf
  refine lv_if_ne (tgt := 33) hx hb dX6_readCat_28 (by decide) (fun c1 => ?_) (fun c1 => ?_)
  · exact kX6_readCat_33 X hret (ifn c1 hf) hP hS (lv_sub hl [0] rfl)
  · exact kX6_readCat_31 X hret (ifp c1 hf) hP hS (lv_sub hl [0] rfl)
set_option maxRecDepth 10000 in
theorem kX6_readCat_21 {r : Int32} {S1 : CS} {M : CS} {H : Heap} {locs : List Loc} {ls : Array Slot} (X : gX p s m args c cX6_readCat 2 RX6 (kR kTab kA)) (hret : gRetIA p l e (rmL 9 2 19) s m args below meth c cX6_readCat 2 19 (cΩ ca) (cP dC dI cg kA ca) Q r S1) (hf : fX6_readCat_21 M = some (r, S1)) (hP : (cP dC dI cg kA ca) M s H) (hS : va_S (Fr (cΩ ca) s.heap.size) s.heap H locs) (hl : lv_has ls 2 [(0, .ref (ca 7))]) : W p l e (rmL 9 2 19) s m args below meth c H locs 0 0 Q (F0 m 21 ls []) := by
  have hx := X.hx
  have hb := X.hb
  have hown := X.hown
  have hts := X.hts
  rw [fX6_readCat_21] at hf
  refine lv_aload_n hx hb dX6_readCat_21 rfl (lv_at hl 0 rfl) ?_
  refine cr_get (k := 0) X hP (rfl : kc 7 = 7) rfl cv7_0 rfl cinX6 (by decide) rfl tw362 dX6_readCat_22 ?_
  obtain ⟨q, hc, hf⟩ := bd hf
  refine gCallVI X cOK rfl (vX8_takeName hc) gRX6_X8_takeName hdX8_takeName rfl ⟨by decide, by decide⟩ hP hS (cr_rec hP (rfl : kc 1 = 1) rfl cw1 rfl) hl.1 (Nat.le_of_ble_eq_true rfl) ⟨Nat.le_of_ble_eq_true rfl, Nat.le_of_ble_eq_true rfl⟩ dX6_readCat_25 (As := []) (rest := []) rfl (fun H locs hP hS => ?_)
  exact kX6_readCat_28 X hret hf hP hS (lv_sub hl [0] rfl)
set_option maxRecDepth 10000 in
theorem kX6_readCat_20 {r : Int32} {S1 : CS} {M : CS} {s0 : Int32} {H : Heap} {locs : List Loc} {ls : Array Slot} (X : gX p s m args c cX6_readCat 2 RX6 (kR kTab kA)) (hret : gRetIA p l e (rmL 9 2 19) s m args below meth c cX6_readCat 2 19 (cΩ ca) (cP dC dI cg kA ca) Q r S1) (hf : fX6_readCat_20 M s0 = some (r, S1)) (hP : (cP dC dI cg kA ca) M s H) (hS : va_S (Fr (cΩ ca) s.heap.size) s.heap H locs) (hl : lv_has ls 2 [(0, .ref (ca 7))]) : W p l e (rmL 9 2 19) s m args below meth c H locs 0 0 Q (F0 m 20 ls [.int s0]) := by
  have hx := X.hx
  have hb := X.hb
  have hown := X.hown
  have hts := X.hts
  rw [fX6_readCat_20] at hf
  cases hf
  exact hret _ _ _ _ _ _ dX6_readCat_20 hP hS (Nat.le_of_ble_eq_true rfl) (Nat.le_of_ble_eq_true rfl)
set_option maxRecDepth 10000 in
theorem kX6_readCat_12 {r : Int32} {S1 : CS} {M : CS} {H : Heap} {locs : List Loc} {ls : Array Slot} (X : gX p s m args c cX6_readCat 2 RX6 (kR kTab kA)) (hret : gRetIA p l e (rmL 9 2 19) s m args below meth c cX6_readCat 2 19 (cΩ ca) (cP dC dI cg kA ca) Q r S1) (hf : fX6_readCat_12 M = some (r, S1)) (hP : (cP dC dI cg kA ca) M s H) (hS : va_S (Fr (cΩ ca) s.heap.size) s.heap H locs) (hl : lv_has ls 2 [(0, .ref (ca 7))]) : W p l e (rmL 9 2 19) s m args below meth c H locs 0 0 Q (F0 m 12 ls []) := by
  have hx := X.hx
  have hb := X.hb
  have hown := X.hown
  have hts := X.hts
  rw [fX6_readCat_12] at hf
  refine lv_aload_n hx hb dX6_readCat_12 rfl (lv_at hl 0 rfl) ?_
  refine cr_get (k := 0) X hP (rfl : kc 7 = 7) rfl cv7_0 rfl cinX6 (by decide) rfl tw362 dX6_readCat_13 ?_
  refine lv_iconst (v := 5) hx hb dX6_readCat_16 (by decide) ?_
  obtain ⟨q, hc, hf⟩ := bd hf
  refine gCallVI X cOK rfl (vX8_fail hc) gRX6_X8_fail hdX8_fail rfl ⟨by decide, by decide⟩ hP hS (cr_rec hP (rfl : kc 1 = 1) rfl cw1 rfl) hl.1 (Nat.le_of_ble_eq_true rfl) ⟨Nat.le_of_ble_eq_true rfl, Nat.le_of_ble_eq_true rfl⟩ dX6_readCat_17 (As := [.int 5]) (rest := []) rfl (fun H locs hP hS => ?_)
  exact kX6_readCat_20 X hret hf hP hS (lv_sub hl [0] rfl)
set_option maxRecDepth 10000 in
theorem kX6_readCat_0 {r : Int32} {S1 : CS} {M : CS} {H : Heap} {locs : List Loc} {ls : Array Slot} (X : gX p s m args c cX6_readCat 2 RX6 (kR kTab kA)) (hret : gRetIA p l e (rmL 9 2 19) s m args below meth c cX6_readCat 2 19 (cΩ ca) (cP dC dI cg kA ca) Q r S1) (hf : fX6_readCat_0 M = some (r, S1)) (hP : (cP dC dI cg kA ca) M s H) (hS : va_S (Fr (cΩ ca) s.heap.size) s.heap H locs) (hl : lv_has ls 2 [(0, .ref (ca 7))]) : W p l e (rmL 9 2 19) s m args below meth c H locs 0 0 Q (F0 m 0 ls []) := by
  have hx := X.hx
  have hb := X.hb
  have hown := X.hown
  have hts := X.hts
  rw [fX6_readCat_0] at hf
  refine lv_aload_n hx hb dX6_readCat_0 rfl (lv_at hl 0 rfl) ?_
  refine cr_get (k := 1) X hP (rfl : kc 7 = 7) rfl cv7_1 rfl cinX6 (by decide) rfl tw363 dX6_readCat_1 ?_
  refine cr_get (k := 5) X hP (rfl : kc 48 = 11) rfl cv11_5 rfl cinX2 (by decide) rfl tw309 dX6_readCat_4 ?_
  refine lv_bipush (v := 8) hx hb dX6_readCat_7 (by decide) ?_
  refine lv_icmp_lt (tgt := 21) hx hb dX6_readCat_9 (by decide) (fun c1 => ?_) (fun c1 => ?_)
  · exact kX6_readCat_21 X hret (ifp c1 hf) hP hS (lv_sub hl [0] rfl)
  · exact kX6_readCat_12 X hret (ifn c1 hf) hP hS (lv_sub hl [0] rfl)
theorem vX6_readCat {l : Launch} {dC : Nat → ClassId} {dI : Nat → Nat → Nat} {cg : Nat → ClassId} {kA : String → Nat → Nat} {ca : Nat → Nat} {M S1 : CS} {r : Int32} (hf : fX6_readCat M  = some (r, S1)) : gMetIA l yX6_readCat cX6_readCat 2 (some .boolean) 9 2 19 (cΩ ca) (cP dC dI cg kA ca) (kR kTab kA) [.ref (ca 7)] M r S1 := gEntryIA (ty := .boolean) (by decide) rfl (bz_n hf) cOK (Nat.le_of_ble_eq_true rfl) (fun p e s m args below meth c Q ls X hP hS hret hl => 
  kX6_readCat_0 X hret (bz_f hf) hP hS (lv_sub hl [0] rfl))
set_option maxRecDepth 10000 in
theorem kX6_readSack_191 {r : Int32} {S1 : CS} {M : CS} {s0 : Int32} {H : Heap} {locs : List Loc} {ls : Array Slot} (X : gX p s m args c cX6_readSack 2 RX6 (kR kTab kA)) (hret : gRetIA p l e (rmL 9 2 19) s m args below meth c cX6_readSack 2 19 (cΩ ca) (cP dC dI cg kA ca) Q r S1) (hf : fX6_readSack_191 M s0 = some (r, S1)) (hP : (cP dC dI cg kA ca) M s H) (hS : va_S (Fr (cΩ ca) s.heap.size) s.heap H locs) (hl : lv_has ls 2 [(0, .ref (ca 7))]) : W p l e (rmL 9 2 19) s m args below meth c H locs 2 19 Q (F0 m 191 ls [.int s0]) := by
  have hx := X.hx
  have hb := X.hb
  have hown := X.hown
  have hts := X.hts
  rw [fX6_readSack_191] at hf
  cases hf
  exact hret _ _ _ _ _ _ dX6_readSack_191 hP hS (Nat.le_of_ble_eq_true rfl) (Nat.le_of_ble_eq_true rfl)
set_option maxRecDepth 10000 in
theorem kX6_readSack_184 {r : Int32} {S1 : CS} {M : CS} {H : Heap} {locs : List Loc} {ls : Array Slot} (X : gX p s m args c cX6_readSack 2 RX6 (kR kTab kA)) (hret : gRetIA p l e (rmL 9 2 19) s m args below meth c cX6_readSack 2 19 (cΩ ca) (cP dC dI cg kA ca) Q r S1) (hf : fX6_readSack_184 M = some (r, S1)) (hP : (cP dC dI cg kA ca) M s H) (hS : va_S (Fr (cΩ ca) s.heap.size) s.heap H locs) (hl : lv_has ls 2 [(0, .ref (ca 7))]) : W p l e (rmL 9 2 19) s m args below meth c H locs 2 19 Q (F0 m 184 ls []) := by
  have hx := X.hx
  have hb := X.hb
  have hown := X.hown
  have hts := X.hts
  rw [fX6_readSack_184] at hf
  refine lv_aload_n hx hb dX6_readSack_184 rfl (lv_at hl 0 rfl) ?_
  refine cr_get (k := 0) X hP (rfl : kc 7 = 7) rfl cv7_0 rfl cinX6 (by decide) rfl tw362 dX6_readSack_185 ?_
  obtain ⟨q, hc, hf⟩ := bd hf
  refine gCallVI X cOK rfl (vX8_takeSemicolon hc) gRX6_X8_takeSemicolon hdX8_takeSemicolon rfl ⟨by decide, by decide⟩ hP hS (cr_rec hP (rfl : kc 1 = 1) rfl cw1 rfl) hl.1 (Nat.le_of_ble_eq_true rfl) ⟨Nat.le_of_ble_eq_true rfl, Nat.le_of_ble_eq_true rfl⟩ dX6_readSack_188 (As := []) (rest := []) rfl (fun H locs hP hS => ?_)
  exact kX6_readSack_191 X hret hf hP hS (lv_sub hl [0] rfl)
set_option maxRecDepth 10000 in
theorem kX6_readSack_171 {r : Int32} {S1 : CS} {M : CS} {H : Heap} {locs : List Loc} {ls : Array Slot} (X : gX p s m args c cX6_readSack 2 RX6 (kR kTab kA)) (hret : gRetIA p l e (rmL 9 2 19) s m args below meth c cX6_readSack 2 19 (cΩ ca) (cP dC dI cg kA ca) Q r S1) (hf : fX6_readSack_171 M = some (r, S1)) (hP : (cP dC dI cg kA ca) M s H) (hS : va_S (Fr (cΩ ca) s.heap.size) s.heap H locs) (hl : lv_has ls 2 [(0, .ref (ca 7))]) : W p l e (rmL 9 2 19) s m args below meth c H locs 2 19 Q (F0 m 171 ls []) := by
  have hx := X.hx
  have hb := X.hb
  have hown := X.hown
  have hts := X.hts
  rw [fX6_readSack_171] at hf
  refine lv_aload_n hx hb dX6_readSack_171 rfl (lv_at hl 0 rfl) ?_
  refine cr_get (k := 1) X hP (rfl : kc 7 = 7) rfl cv7_1 rfl cinX6 (by decide) rfl tw363 dX6_readSack_172 ?_
  refine lv_dup hx hb dX6_readSack_175 rfl ?_
  refine cr_get (k := 6) X hP (rfl : kc 48 = 11) rfl cv11_6 rfl cinX2 (by decide) rfl tw312 dX6_readSack_176 ?_
  refine lv_iconst (v := 1) hx hb dX6_readSack_179 (by decide) ?_
  refine lv_iadd hx hb dX6_readSack_180 ?_
  refine cr_put (k := 6) X hP hS (rfl : kc 48 = 11) rfl cs11_6 rfl cinX2 tyX2_ok nmX2 (by decide) rfl rfl rfl rfl tw312 dX6_readSack_181 (fun H locs hP hS => ?_)
  exact kX6_readSack_184 X hret hf hP hS (lv_sub hl [0] rfl)
set_option maxRecDepth 10000 in
theorem kX6_readSack_168 {r : Int32} {S1 : CS} {M : CS} {z1 : Nat} {s0 : Int32} {H : Heap} {locs : List Loc} {ls : Array Slot} (X : gX p s m args c cX6_readSack 2 RX6 (kR kTab kA)) (hret : gRetIA p l e (rmL 9 2 19) s m args below meth c cX6_readSack 2 19 (cΩ ca) (cP dC dI cg kA ca) Q r S1) (hkz1 : kc z1 = 19) (hf : fX6_readSack_168 M z1 s0 = some (r, S1)) (hP : (cP dC dI cg kA ca) M s H) (hS : va_S (Fr (cΩ ca) s.heap.size) s.heap H locs) (hl : lv_has ls 2 [(0, .ref (ca 7))]) : W p l e (rmL 9 2 19) s m args below meth c H locs 2 19 Q (F0 m 168 ls [.int s0, .ref (ca z1)]) := by
  have hx := X.hx
  have hb := X.hb
  have hown := X.hown
  have hts := X.hts
  rw [fX6_readSack_168] at hf
  obtain ⟨g1, hf⟩ := gd hf
  refine cr_put (k := 3) X hP hS hkz1 rfl cs19_3 rfl cinX4 tyX4_ok nmX4 (by decide) rfl rfl (nz g1) (fz g1) tw264 dX6_readSack_168 (fun H locs hP hS => ?_)
  exact kX6_readSack_171 X hret hf hP hS (lv_sub hl [0] rfl)
set_option maxRecDepth 10000 in
theorem kX6_readSack_158 {r : Int32} {S1 : CS} {M : CS} {p1 : Nat} {H : Heap} {locs : List Loc} {ls : Array Slot} (X : gX p s m args c cX6_readSack 2 RX6 (kR kTab kA)) (hret : gRetIA p l e (rmL 9 2 19) s m args below meth c cX6_readSack 2 19 (cΩ ca) (cP dC dI cg kA ca) Q r S1) (hkp1 : kc p1 = 19) (hf : fX6_readSack_158 M p1 = some (r, S1)) (hP : (cP dC dI cg kA ca) M s H) (hS : va_S (Fr (cΩ ca) s.heap.size) s.heap H locs) (hl : lv_has ls 2 [(0, .ref (ca 7)), (1, .ref (ca p1))]) : W p l e (rmL 9 2 19) s m args below meth c H locs 2 19 Q (F0 m 158 ls []) := by
  have hx := X.hx
  have hb := X.hb
  have hown := X.hown
  have hts := X.hts
  rw [fX6_readSack_158] at hf
  refine lv_aload_n hx hb dX6_readSack_158 rfl (lv_at hl 1 rfl) ?_
  refine lv_aload_n hx hb dX6_readSack_159 rfl (lv_at hl 0 rfl) ?_
  refine cr_get (k := 0) X hP (rfl : kc 7 = 7) rfl cv7_0 rfl cinX6 (by decide) rfl tw362 dX6_readSack_160 ?_
  refine va_ldcS hx hb hown (kRat (q := ("GranaryWatch$Setup", 148, "open", [111, 112, 101, 110])) X.ks 14 rfl) dX6_readSack_163 ?_
  obtain ⟨q, hc, hf⟩ := bd hf
  refine gCallVR X rfl (vX8_isWord hc) gRX6_X8_isWord hdX8_isWord rfl ⟨by decide, by decide⟩ (gBS_blind cOK) (gBS_at cOK X hP (cstr (q := ("GranaryWatch$Setup", 148, "open", [111, 112, 101, 110])) hP 14 rfl)) (cr_rec hP (rfl : kc 1 = 1) rfl cw1 rfl) hl.1 (Nat.le_of_ble_eq_true rfl) ⟨Nat.le_of_ble_eq_true rfl, Nat.le_of_ble_eq_true rfl⟩ dX6_readSack_165 (As := [.ref (kA RX6 148)]) (rest := [.ref (ca p1)]) rfl ?_
  exact kX6_readSack_168 X hret hkp1 hf hP hS (lv_sub hl [0] rfl)
set_option maxRecDepth 10000 in
theorem kX6_readSack_156 {r : Int32} {S1 : CS} {M : CS} {H : Heap} {locs : List Loc} {ls : Array Slot} (X : gX p s m args c cX6_readSack 2 RX6 (kR kTab kA)) (hret : gRetIA p l e (rmL 9 2 19) s m args below meth c cX6_readSack 2 19 (cΩ ca) (cP dC dI cg kA ca) Q r S1) (hf : fX6_readSack_156 M = some (r, S1)) (hP : (cP dC dI cg kA ca) M s H) (hS : va_S (Fr (cΩ ca) s.heap.size) s.heap H locs) (hl : lv_has ls 2 [(0, .ref (ca 7))]) : W p l e (rmL 9 2 19) s m args below meth c H locs 2 19 Q (F0 m 156 ls []) := by
  have hx := X.hx
  have hb := X.hb
  have hown := X.hown
  have hts := X.hts
  rw [fX6_readSack_156] at hf
  refine lv_iconst (v := 0) hx hb dX6_readSack_156 (by decide) ?_
  cases hf
  exact hret _ _ _ _ _ _ dX6_readSack_157 hP hS (Nat.le_of_ble_eq_true rfl) (Nat.le_of_ble_eq_true rfl)
set_option maxRecDepth 10000 in
theorem kX6_readSack_153 {r : Int32} {S1 : CS} {M : CS} {p1 : Nat} {s0 : Int32} {H : Heap} {locs : List Loc} {ls : Array Slot} (X : gX p s m args c cX6_readSack 2 RX6 (kR kTab kA)) (hret : gRetIA p l e (rmL 9 2 19) s m args below meth c cX6_readSack 2 19 (cΩ ca) (cP dC dI cg kA ca) Q r S1) (hkp1 : kc p1 = 19) (hf : fX6_readSack_153 M p1 s0 = some (r, S1)) (hP : (cP dC dI cg kA ca) M s H) (hS : va_S (Fr (cΩ ca) s.heap.size) s.heap H locs) (hl : lv_has ls 2 [(0, .ref (ca 7)), (1, .ref (ca p1))]) : W p l e (rmL 9 2 19) s m args below meth c H locs 2 19 Q (F0 m 153 ls [.int s0]) := by
  have hx := X.hx
  have hb := X.hb
  have hown := X.hown
  have hts := X.hts
  rw [fX6_readSack_153] at hf
  refine lv_if_ne (tgt := 158) hx hb dX6_readSack_153 (by decide) (fun c1 => ?_) (fun c1 => ?_)
  · exact kX6_readSack_158 X hret hkp1 (ifn c1 hf) hP hS (lv_sub hl [0, 1] rfl)
  · exact kX6_readSack_156 X hret (ifp c1 hf) hP hS (lv_sub hl [0] rfl)
set_option maxRecDepth 10000 in
theorem kX6_readSack_142 {r : Int32} {S1 : CS} {M : CS} {p1 : Nat} {H : Heap} {locs : List Loc} {ls : Array Slot} (X : gX p s m args c cX6_readSack 2 RX6 (kR kTab kA)) (hret : gRetIA p l e (rmL 9 2 19) s m args below meth c cX6_readSack 2 19 (cΩ ca) (cP dC dI cg kA ca) Q r S1) (hkp1 : kc p1 = 19) (hf : fX6_readSack_142 M p1 = some (r, S1)) (hP : (cP dC dI cg kA ca) M s H) (hS : va_S (Fr (cΩ ca) s.heap.size) s.heap H locs) (hl : lv_has ls 2 [(0, .ref (ca 7)), (1, .ref (ca p1))]) : W p l e (rmL 9 2 19) s m args below meth c H locs 2 19 Q (F0 m 142 ls []) := by
  have hx := X.hx
  have hb := X.hb
  have hown := X.hown
  have hts := X.hts
  rw [fX6_readSack_142] at hf
  refine lv_aload_n hx hb dX6_readSack_142 rfl (lv_at hl 0 rfl) ?_
  refine cr_get (k := 0) X hP (rfl : kc 7 = 7) rfl cv7_0 rfl cinX6 (by decide) rfl tw362 dX6_readSack_143 ?_
  refine va_ldcS hx hb hown (kRat (q := ("GranaryWatch$Setup", 148, "open", [111, 112, 101, 110])) X.ks 14 rfl) dX6_readSack_146 ?_
  refine va_ldcS hx hb hown (kRat (q := ("GranaryWatch$Setup", 150, "shut", [115, 104, 117, 116])) X.ks 15 rfl) dX6_readSack_148 ?_
  obtain ⟨q, hc, hf⟩ := bd hf
  refine gCallVI X (gPS_ok cOK) rfl (vX8_takeEither hc) gRX6_X8_takeEither hdX8_takeEither rfl ⟨by decide, by decide⟩ ⟨hP, l2 (cstr (q := ("GranaryWatch$Setup", 148, "open", [111, 112, 101, 110])) hP 14 rfl) (cstr (q := ("GranaryWatch$Setup", 150, "shut", [115, 104, 117, 116])) hP 15 rfl)⟩ hS (cr_rec hP (rfl : kc 1 = 1) rfl cw1 rfl) hl.1 (Nat.le_of_ble_eq_true rfl) ⟨Nat.le_of_ble_eq_true rfl, Nat.le_of_ble_eq_true rfl⟩ dX6_readSack_150 (As := [.ref (kA RX6 148), .ref (kA RX6 150)]) (rest := []) rfl (fun H locs hP hS => ?_)
  replace hP := hP.1
  exact kX6_readSack_153 X hret hkp1 hf hP hS (lv_sub hl [0, 1] rfl)
set_option maxRecDepth 10000 in
theorem kX6_readSack_131 {r : Int32} {S1 : CS} {M : CS} {p1 : Nat} {H : Heap} {locs : List Loc} {ls : Array Slot} (X : gX p s m args c cX6_readSack 2 RX6 (kR kTab kA)) (hret : gRetIA p l e (rmL 9 2 19) s m args below meth c cX6_readSack 2 19 (cΩ ca) (cP dC dI cg kA ca) Q r S1) (hkp1 : kc p1 = 19) (hf : fX6_readSack_131 M p1 = some (r, S1)) (hP : (cP dC dI cg kA ca) M s H) (hS : va_S (Fr (cΩ ca) s.heap.size) s.heap H locs) (hl : lv_has ls 2 [(0, .ref (ca 7)), (1, .ref (ca p1))]) : W p l e (rmL 9 2 19) s m args below meth c H locs 2 19 Q (F0 m 131 ls []) := by
  have hx := X.hx
  have hb := X.hb
  have hown := X.hown
  have hts := X.hts
  rw [fX6_readSack_131] at hf
  refine lv_aload_n hx hb dX6_readSack_131 rfl (lv_at hl 1 rfl) ?_
  refine lv_aload_n hx hb dX6_readSack_132 rfl (lv_at hl 0 rfl) ?_
  refine cr_get (k := 0) X hP (rfl : kc 7 = 7) rfl cv7_0 rfl cinX6 (by decide) rfl tw362 dX6_readSack_133 ?_
  refine cr_get (k := 6) X hP (rfl : kc 1 = 1) rfl cv1_6 rfl cinX8 (by decide) rfl tw94 dX6_readSack_136 ?_
  refine cr_put (k := 2) X hP hS hkp1 rfl cs19_2 rfl cinX4 tyX4_ok nmX4 (by decide) rfl rfl rfl rfl tw260 dX6_readSack_139 (fun H locs hP hS => ?_)
  exact kX6_readSack_142 X hret hkp1 hf hP hS (lv_sub hl [0, 1] rfl)
set_option maxRecDepth 10000 in
theorem kX6_readSack_129 {r : Int32} {S1 : CS} {M : CS} {H : Heap} {locs : List Loc} {ls : Array Slot} (X : gX p s m args c cX6_readSack 2 RX6 (kR kTab kA)) (hret : gRetIA p l e (rmL 9 2 19) s m args below meth c cX6_readSack 2 19 (cΩ ca) (cP dC dI cg kA ca) Q r S1) (hf : fX6_readSack_129 M = some (r, S1)) (hP : (cP dC dI cg kA ca) M s H) (hS : va_S (Fr (cΩ ca) s.heap.size) s.heap H locs) (hl : lv_has ls 2 [(0, .ref (ca 7))]) : W p l e (rmL 9 2 19) s m args below meth c H locs 2 19 Q (F0 m 129 ls []) := by
  have hx := X.hx
  have hb := X.hb
  have hown := X.hown
  have hts := X.hts
  rw [fX6_readSack_129] at hf
  refine lv_iconst (v := 0) hx hb dX6_readSack_129 (by decide) ?_
  cases hf
  exact hret _ _ _ _ _ _ dX6_readSack_130 hP hS (Nat.le_of_ble_eq_true rfl) (Nat.le_of_ble_eq_true rfl)
set_option maxRecDepth 10000 in
theorem kX6_readSack_126 {r : Int32} {S1 : CS} {M : CS} {p1 : Nat} {s0 : Int32} {H : Heap} {locs : List Loc} {ls : Array Slot} (X : gX p s m args c cX6_readSack 2 RX6 (kR kTab kA)) (hret : gRetIA p l e (rmL 9 2 19) s m args below meth c cX6_readSack 2 19 (cΩ ca) (cP dC dI cg kA ca) Q r S1) (hkp1 : kc p1 = 19) (hf : fX6_readSack_126 M p1 s0 = some (r, S1)) (hP : (cP dC dI cg kA ca) M s H) (hS : va_S (Fr (cΩ ca) s.heap.size) s.heap H locs) (hl : lv_has ls 2 [(0, .ref (ca 7)), (1, .ref (ca p1))]) : W p l e (rmL 9 2 19) s m args below meth c H locs 2 19 Q (F0 m 126 ls [.int s0]) := by
  have hx := X.hx
  have hb := X.hb
  have hown := X.hown
  have hts := X.hts
  rw [fX6_readSack_126] at hf
  refine lv_if_ne (tgt := 131) hx hb dX6_readSack_126 (by decide) (fun c1 => ?_) (fun c1 => ?_)
  · exact kX6_readSack_131 X hret hkp1 (ifn c1 hf) hP hS (lv_sub hl [0, 1] rfl)
  · exact kX6_readSack_129 X hret (ifp c1 hf) hP hS (lv_sub hl [0] rfl)
set_option maxRecDepth 10000 in
theorem kX6_readSack_116 {r : Int32} {S1 : CS} {M : CS} {p1 : Nat} {H : Heap} {locs : List Loc} {ls : Array Slot} (X : gX p s m args c cX6_readSack 2 RX6 (kR kTab kA)) (hret : gRetIA p l e (rmL 9 2 19) s m args below meth c cX6_readSack 2 19 (cΩ ca) (cP dC dI cg kA ca) Q r S1) (hkp1 : kc p1 = 19) (hf : fX6_readSack_116 M p1 = some (r, S1)) (hP : (cP dC dI cg kA ca) M s H) (hS : va_S (Fr (cΩ ca) s.heap.size) s.heap H locs) (hl : lv_has ls 2 [(0, .ref (ca 7)), (1, .ref (ca p1))]) : W p l e (rmL 9 2 19) s m args below meth c H locs 2 19 Q (F0 m 116 ls []) := by
  have hx := X.hx
  have hb := X.hb
  have hown := X.hown
  have hts := X.hts
  rw [fX6_readSack_116] at hf
  refine lv_aload_n hx hb dX6_readSack_116 rfl (lv_at hl 0 rfl) ?_
  refine cr_get (k := 0) X hP (rfl : kc 7 = 7) rfl cv7_0 rfl cinX6 (by decide) rfl tw362 dX6_readSack_117 ?_
  refine lv_iconst (v := 0) hx hb dX6_readSack_120 (by decide) ?_
  refine lv_bipush (v := 99) hx hb dX6_readSack_121 (by decide) ?_
  obtain ⟨q, hc, hf⟩ := bd hf
  refine gCallVI X cOK rfl (vX8_takeNumber hc) gRX6_X8_takeNumber hdX8_takeNumber rfl ⟨by decide, by decide⟩ hP hS (cr_rec hP (rfl : kc 1 = 1) rfl cw1 rfl) hl.1 (Nat.le_of_ble_eq_true rfl) ⟨Nat.le_of_ble_eq_true rfl, Nat.le_of_ble_eq_true rfl⟩ dX6_readSack_123 (As := [.int 0, .int 99]) (rest := []) rfl (fun H locs hP hS => ?_)
  exact kX6_readSack_126 X hret hkp1 hf hP hS (lv_sub hl [0, 1] rfl)
set_option maxRecDepth 10000 in
theorem kX6_readSack_105 {r : Int32} {S1 : CS} {M : CS} {p1 : Nat} {H : Heap} {locs : List Loc} {ls : Array Slot} (X : gX p s m args c cX6_readSack 2 RX6 (kR kTab kA)) (hret : gRetIA p l e (rmL 9 2 19) s m args below meth c cX6_readSack 2 19 (cΩ ca) (cP dC dI cg kA ca) Q r S1) (hkp1 : kc p1 = 19) (hf : fX6_readSack_105 M p1 = some (r, S1)) (hP : (cP dC dI cg kA ca) M s H) (hS : va_S (Fr (cΩ ca) s.heap.size) s.heap H locs) (hl : lv_has ls 2 [(0, .ref (ca 7)), (1, .ref (ca p1))]) : W p l e (rmL 9 2 19) s m args below meth c H locs 2 19 Q (F0 m 105 ls []) := by
  have hx := X.hx
  have hb := X.hb
  have hown := X.hown
  have hts := X.hts
  rw [fX6_readSack_105] at hf
  refine lv_aload_n hx hb dX6_readSack_105 rfl (lv_at hl 1 rfl) ?_
  refine lv_aload_n hx hb dX6_readSack_106 rfl (lv_at hl 0 rfl) ?_
  refine cr_get (k := 0) X hP (rfl : kc 7 = 7) rfl cv7_0 rfl cinX6 (by decide) rfl tw362 dX6_readSack_107 ?_
  refine cr_get (k := 6) X hP (rfl : kc 1 = 1) rfl cv1_6 rfl cinX8 (by decide) rfl tw94 dX6_readSack_110 ?_
  refine cr_put (k := 1) X hP hS hkp1 rfl cs19_1 rfl cinX4 tyX4_ok nmX4 (by decide) rfl rfl rfl rfl tw255 dX6_readSack_113 (fun H locs hP hS => ?_)
  exact kX6_readSack_116 X hret hkp1 hf hP hS (lv_sub hl [0, 1] rfl)
set_option maxRecDepth 10000 in
theorem kX6_readSack_103 {r : Int32} {S1 : CS} {M : CS} {H : Heap} {locs : List Loc} {ls : Array Slot} (X : gX p s m args c cX6_readSack 2 RX6 (kR kTab kA)) (hret : gRetIA p l e (rmL 9 2 19) s m args below meth c cX6_readSack 2 19 (cΩ ca) (cP dC dI cg kA ca) Q r S1) (hf : fX6_readSack_103 M = some (r, S1)) (hP : (cP dC dI cg kA ca) M s H) (hS : va_S (Fr (cΩ ca) s.heap.size) s.heap H locs) (hl : lv_has ls 2 [(0, .ref (ca 7))]) : W p l e (rmL 9 2 19) s m args below meth c H locs 2 19 Q (F0 m 103 ls []) := by
  have hx := X.hx
  have hb := X.hb
  have hown := X.hown
  have hts := X.hts
  rw [fX6_readSack_103] at hf
  refine lv_iconst (v := 0) hx hb dX6_readSack_103 (by decide) ?_
  cases hf
  exact hret _ _ _ _ _ _ dX6_readSack_104 hP hS (Nat.le_of_ble_eq_true rfl) (Nat.le_of_ble_eq_true rfl)
set_option maxRecDepth 10000 in
theorem kX6_readSack_100 {r : Int32} {S1 : CS} {M : CS} {p1 : Nat} {s0 : Int32} {H : Heap} {locs : List Loc} {ls : Array Slot} (X : gX p s m args c cX6_readSack 2 RX6 (kR kTab kA)) (hret : gRetIA p l e (rmL 9 2 19) s m args below meth c cX6_readSack 2 19 (cΩ ca) (cP dC dI cg kA ca) Q r S1) (hkp1 : kc p1 = 19) (hf : fX6_readSack_100 M p1 s0 = some (r, S1)) (hP : (cP dC dI cg kA ca) M s H) (hS : va_S (Fr (cΩ ca) s.heap.size) s.heap H locs) (hl : lv_has ls 2 [(0, .ref (ca 7)), (1, .ref (ca p1))]) : W p l e (rmL 9 2 19) s m args below meth c H locs 2 19 Q (F0 m 100 ls [.int s0]) := by
  have hx := X.hx
  have hb := X.hb
  have hown := X.hown
  have hts := X.hts
  rw [fX6_readSack_100] at hf
  refine lv_if_ne (tgt := 105) hx hb dX6_readSack_100 (by decide) (fun c1 => ?_) (fun c1 => ?_)
  · exact kX6_readSack_105 X hret hkp1 (ifn c1 hf) hP hS (lv_sub hl [0, 1] rfl)
  · exact kX6_readSack_103 X hret (ifp c1 hf) hP hS (lv_sub hl [0] rfl)
set_option maxRecDepth 10000 in
theorem kX6_readSack_89 {r : Int32} {S1 : CS} {M : CS} {p1 : Nat} {H : Heap} {locs : List Loc} {ls : Array Slot} (X : gX p s m args c cX6_readSack 2 RX6 (kR kTab kA)) (hret : gRetIA p l e (rmL 9 2 19) s m args below meth c cX6_readSack 2 19 (cΩ ca) (cP dC dI cg kA ca) Q r S1) (hkp1 : kc p1 = 19) (hf : fX6_readSack_89 M p1 = some (r, S1)) (hP : (cP dC dI cg kA ca) M s H) (hS : va_S (Fr (cΩ ca) s.heap.size) s.heap H locs) (hl : lv_has ls 2 [(0, .ref (ca 7)), (1, .ref (ca p1))]) : W p l e (rmL 9 2 19) s m args below meth c H locs 2 19 Q (F0 m 89 ls []) := by
  have hx := X.hx
  have hb := X.hb
  have hown := X.hown
  have hts := X.hts
  rw [fX6_readSack_89] at hf
  refine lv_aload_n hx hb dX6_readSack_89 rfl (lv_at hl 0 rfl) ?_
  refine cr_get (k := 0) X hP (rfl : kc 7 = 7) rfl cv7_0 rfl cinX6 (by decide) rfl tw362 dX6_readSack_90 ?_
  refine lv_iconst (v := 0) hx hb dX6_readSack_93 (by decide) ?_
  refine lv_sipush (v := 999) hx hb dX6_readSack_94 (by decide) ?_
  obtain ⟨q, hc, hf⟩ := bd hf
  refine gCallVI X cOK rfl (vX8_takeNumber hc) gRX6_X8_takeNumber hdX8_takeNumber rfl ⟨by decide, by decide⟩ hP hS (cr_rec hP (rfl : kc 1 = 1) rfl cw1 rfl) hl.1 (Nat.le_of_ble_eq_true rfl) ⟨Nat.le_of_ble_eq_true rfl, Nat.le_of_ble_eq_true rfl⟩ dX6_readSack_97 (As := [.int 0, .int 999]) (rest := []) rfl (fun H locs hP hS => ?_)
  exact kX6_readSack_100 X hret hkp1 hf hP hS (lv_sub hl [0, 1] rfl)
set_option maxRecDepth 10000 in
theorem kX6_readSack_78 {r : Int32} {S1 : CS} {M : CS} {p1 : Nat} {H : Heap} {locs : List Loc} {ls : Array Slot} (X : gX p s m args c cX6_readSack 2 RX6 (kR kTab kA)) (hret : gRetIA p l e (rmL 9 2 19) s m args below meth c cX6_readSack 2 19 (cΩ ca) (cP dC dI cg kA ca) Q r S1) (hkp1 : kc p1 = 19) (hf : fX6_readSack_78 M p1 = some (r, S1)) (hP : (cP dC dI cg kA ca) M s H) (hS : va_S (Fr (cΩ ca) s.heap.size) s.heap H locs) (hl : lv_has ls 2 [(0, .ref (ca 7)), (1, .ref (ca p1))]) : W p l e (rmL 9 2 19) s m args below meth c H locs 0 0 Q (F0 m 78 ls []) := by
  have hx := X.hx
  have hb := X.hb
  have hown := X.hown
  have hts := X.hts
  rw [fX6_readSack_78] at hf
  refine lv_aload_n hx hb dX6_readSack_78 rfl (lv_at hl 1 rfl) ?_
  refine lv_aload_n hx hb dX6_readSack_79 rfl (lv_at hl 0 rfl) ?_
  refine cr_get (k := 0) X hP (rfl : kc 7 = 7) rfl cv7_0 rfl cinX6 (by decide) rfl tw362 dX6_readSack_80 ?_
  obtain ⟨q, hc, hf⟩ := bd hf
  obtain ⟨hG, rfl⟩ := nameTo_some hc
  refine gCallWO X cOK strB_moved (vX8_word hG) (cw_V 0 X gRX6_X8_word ⟨rfl, by decide, by decide, by decide +kernel⟩ ⟨by decide, by decide⟩) rfl hP hS (Fr_le hS.1) (cr_rec hP (rfl : kc 1 = 1) rfl cw1 rfl) hl.1 (Nat.le_of_ble_eq_true rfl) ⟨Nat.le_of_ble_eq_true rfl, Nat.le_of_ble_eq_true rfl⟩ dX6_readSack_83 (As := []) (rest := [.ref (ca p1)]) rfl (fun H locs a hP ha hS => ?_)
  refine cr_putN X hP hS hkp1 rfl cs19_0 rfl cinX4 tyX4_ok nmX4 (by decide) rfl rfl rfl rfl ha tw252 dX6_readSack_86 (fun H locs hP hS => ?_)
  exact kX6_readSack_89 X hret hkp1 hf hP hS (lv_sub hl [0, 1] rfl)
set_option maxRecDepth 10000 in
theorem kX6_readSack_57 {r : Int32} {S1 : CS} {M : CS} {H : Heap} {locs : List Loc} {ls : Array Slot} (X : gX p s m args c cX6_readSack 2 RX6 (kR kTab kA)) (hret : gRetIA p l e (rmL 9 2 19) s m args below meth c cX6_readSack 2 19 (cΩ ca) (cP dC dI cg kA ca) Q r S1) (hf : fX6_readSack_57 M = some (r, S1)) (hP : (cP dC dI cg kA ca) M s H) (hS : va_S (Fr (cΩ ca) s.heap.size) s.heap H locs) (hl : lv_has ls 2 [(0, .ref (ca 7))]) : W p l e (rmL 9 2 19) s m args below meth c H locs 0 0 Q (F0 m 57 ls []) := by
  have hx := X.hx
  have hb := X.hb
  have hown := X.hown
  have hts := X.hts
  rw [fX6_readSack_57] at hf
  refine lv_aload_n hx hb dX6_readSack_57 rfl (lv_at hl 0 rfl) ?_
  refine cr_get (k := 1) X hP (rfl : kc 7 = 7) rfl cv7_1 rfl cinX6 (by decide) rfl tw363 dX6_readSack_58 ?_
  refine cr_get (k := 1) X hP (rfl : kc 48 = 11) rfl cv11_1 rfl cinX2 (by decide) rfl tw301 dX6_readSack_61 ?_
  refine lv_aload_n hx hb dX6_readSack_64 rfl (lv_at hl 0 rfl) ?_
  refine cr_get (k := 1) X hP (rfl : kc 7 = 7) rfl cv7_1 rfl cinX6 (by decide) rfl tw363 dX6_readSack_65 ?_
  refine cr_get (k := 6) X hP (rfl : kc 48 = 11) rfl cv11_6 rfl cinX2 (by decide) rfl tw312 dX6_readSack_68 ?_
  obtain ⟨g1, hf⟩ := gd hf
  refine cr_aald (f := fun i => (48 + 2) + 15 + i) X hP (kc_sacks (rfl : kc 48 = 11)) rfl (fun _ => rfl) rfl g1 dX6_readSack_71 ?_
  refine lv_astore_n (lv' := [(1, .ref (ca ((48 + 2) + 15 + (M.1 48 6).toNatClampNeg))), (0, .ref (ca 7))]) hx hb dX6_readSack_72 rfl hl (by decide) rfl (fun ls hl => ?_)
  refine lv_aload_n hx hb dX6_readSack_73 rfl (lv_at hl 0 rfl) ?_
  refine lv_iconst (v := 0) hx hb dX6_readSack_74 (by decide) ?_
  refine cr_put (k := 4) X hP hS (kc_sack (kc_sacks (rfl : kc 48 = 11)) g1) rfl cs19_4 rfl cinX4 tyX4_ok nmX4 (by decide) rfl rfl rfl rfl tw267 dX6_readSack_75 (fun H locs hP hS => ?_)
  exact kX6_readSack_78 X hret (kc_sack (kc_sacks (rfl : kc 48 = 11)) g1) hf hP hS (lv_sub hl [1, 0] rfl)
set_option maxRecDepth 10000 in
theorem kX6_readSack_56 {r : Int32} {S1 : CS} {M : CS} {s0 : Int32} {H : Heap} {locs : List Loc} {ls : Array Slot} (X : gX p s m args c cX6_readSack 2 RX6 (kR kTab kA)) (hret : gRetIA p l e (rmL 9 2 19) s m args below meth c cX6_readSack 2 19 (cΩ ca) (cP dC dI cg kA ca) Q r S1) (hf : fX6_readSack_56 M s0 = some (r, S1)) (hP : (cP dC dI cg kA ca) M s H) (hS : va_S (Fr (cΩ ca) s.heap.size) s.heap H locs) (hl : lv_has ls 2 [(0, .ref (ca 7))]) : W p l e (rmL 9 2 19) s m args below meth c H locs 0 0 Q (F0 m 56 ls [.int s0]) := by
  have hx := X.hx
  have hb := X.hb
  have hown := X.hown
  have hts := X.hts
  rw [fX6_readSack_56] at hf
  cases hf
  exact hret _ _ _ _ _ _ dX6_readSack_56 hP hS (Nat.le_of_ble_eq_true rfl) (Nat.le_of_ble_eq_true rfl)
set_option maxRecDepth 10000 in
theorem kX6_readSack_48 {r : Int32} {S1 : CS} {M : CS} {H : Heap} {locs : List Loc} {ls : Array Slot} (X : gX p s m args c cX6_readSack 2 RX6 (kR kTab kA)) (hret : gRetIA p l e (rmL 9 2 19) s m args below meth c cX6_readSack 2 19 (cΩ ca) (cP dC dI cg kA ca) Q r S1) (hf : fX6_readSack_48 M = some (r, S1)) (hP : (cP dC dI cg kA ca) M s H) (hS : va_S (Fr (cΩ ca) s.heap.size) s.heap H locs) (hl : lv_has ls 2 [(0, .ref (ca 7))]) : W p l e (rmL 9 2 19) s m args below meth c H locs 0 0 Q (F0 m 48 ls []) := by
  have hx := X.hx
  have hb := X.hb
  have hown := X.hown
  have hts := X.hts
  rw [fX6_readSack_48] at hf
  refine lv_aload_n hx hb dX6_readSack_48 rfl (lv_at hl 0 rfl) ?_
  refine cr_get (k := 0) X hP (rfl : kc 7 = 7) rfl cv7_0 rfl cinX6 (by decide) rfl tw362 dX6_readSack_49 ?_
  refine lv_iconst (v := 3) hx hb dX6_readSack_52 (by decide) ?_
  obtain ⟨q, hc, hf⟩ := bd hf
  refine gCallVI X cOK rfl (vX8_fail hc) gRX6_X8_fail hdX8_fail rfl ⟨by decide, by decide⟩ hP hS (cr_rec hP (rfl : kc 1 = 1) rfl cw1 rfl) hl.1 (Nat.le_of_ble_eq_true rfl) ⟨Nat.le_of_ble_eq_true rfl, Nat.le_of_ble_eq_true rfl⟩ dX6_readSack_53 (As := [.int 3]) (rest := []) rfl (fun H locs hP hS => ?_)
  exact kX6_readSack_56 X hret hf hP hS (lv_sub hl [0] rfl)
set_option maxRecDepth 10000 in
theorem kX6_readSack_44 {r : Int32} {S1 : CS} {M : CS} {s0 : Int32} {H : Heap} {locs : List Loc} {ls : Array Slot} (X : gX p s m args c cX6_readSack 2 RX6 (kR kTab kA)) (hret : gRetIA p l e (rmL 9 2 19) s m args below meth c cX6_readSack 2 19 (cΩ ca) (cP dC dI cg kA ca) Q r S1) (hf : fX6_readSack_44 M s0 = some (r, S1)) (hP : (cP dC dI cg kA ca) M s H) (hS : va_S (Fr (cΩ ca) s.heap.size) s.heap H locs) (hl : lv_has ls 2 [(0, .ref (ca 7))]) : W p l e (rmL 9 2 19) s m args below meth c H locs 0 0 Q (F0 m 44 ls [.int s0]) := by
  have hx := X.hx
  have hb := X.hb
  have hown := X.hown
  have hts := X.hts
  rw [fX6_readSack_44] at hf
  refine lv_iconst (v := (-1)) hx hb dX6_readSack_44 (by decide) ?_
  refine lv_icmp_eq (tgt := 57) hx hb dX6_readSack_45 (by decide) (fun c1 => ?_) (fun c1 => ?_)
  · exact kX6_readSack_57 X hret (ifp c1 hf) hP hS (lv_sub hl [0] rfl)
  · exact kX6_readSack_48 X hret (ifn c1 hf) hP hS (lv_sub hl [0] rfl)
set_option maxRecDepth 10000 in
theorem kX6_readSack_33 {r : Int32} {S1 : CS} {M : CS} {H : Heap} {locs : List Loc} {ls : Array Slot} (X : gX p s m args c cX6_readSack 2 RX6 (kR kTab kA)) (hret : gRetIA p l e (rmL 9 2 19) s m args below meth c cX6_readSack 2 19 (cΩ ca) (cP dC dI cg kA ca) Q r S1) (hf : fX6_readSack_33 M = some (r, S1)) (hP : (cP dC dI cg kA ca) M s H) (hS : va_S (Fr (cΩ ca) s.heap.size) s.heap H locs) (hl : lv_has ls 2 [(0, .ref (ca 7))]) : W p l e (rmL 9 2 19) s m args below meth c H locs 0 0 Q (F0 m 33 ls []) := by
  have hx := X.hx
  have hb := X.hb
  have hown := X.hown
  have hts := X.hts
  rw [fX6_readSack_33] at hf
  refine lv_aload_n hx hb dX6_readSack_33 rfl (lv_at hl 0 rfl) ?_
  refine cr_get (k := 1) X hP (rfl : kc 7 = 7) rfl cv7_1 rfl cinX6 (by decide) rfl tw363 dX6_readSack_34 ?_
  refine lv_aload_n hx hb dX6_readSack_37 rfl (lv_at hl 0 rfl) ?_
  refine cr_get (k := 0) X hP (rfl : kc 7 = 7) rfl cv7_0 rfl cinX6 (by decide) rfl tw362 dX6_readSack_38 ?_
  obtain ⟨q, hc, hf⟩ := bd hf
  refine gCallVR X rfl (vX2_sackNamed (rfl : kc 48 = 11) hc) gRX6_X2_sackNamed hdX2_sackNamed rfl ⟨by decide, by decide⟩ (gB_blind cOK) (gB_at cOK X hP) (cr_rec hP (rfl : kc 48 = 11) rfl cw11 rfl) hl.1 (Nat.le_of_ble_eq_true rfl) ⟨Nat.le_of_ble_eq_true rfl, Nat.le_of_ble_eq_true rfl⟩ dX6_readSack_41 (As := [.ref (ca 1)]) (rest := []) rfl ?_
  exact kX6_readSack_44 X hret hf hP hS (lv_sub hl [0] rfl)
set_option maxRecDepth 10000 in
theorem kX6_readSack_31 {r : Int32} {S1 : CS} {M : CS} {H : Heap} {locs : List Loc} {ls : Array Slot} (X : gX p s m args c cX6_readSack 2 RX6 (kR kTab kA)) (hret : gRetIA p l e (rmL 9 2 19) s m args below meth c cX6_readSack 2 19 (cΩ ca) (cP dC dI cg kA ca) Q r S1) (hf : fX6_readSack_31 M = some (r, S1)) (hP : (cP dC dI cg kA ca) M s H) (hS : va_S (Fr (cΩ ca) s.heap.size) s.heap H locs) (hl : lv_has ls 2 [(0, .ref (ca 7))]) : W p l e (rmL 9 2 19) s m args below meth c H locs 0 0 Q (F0 m 31 ls []) := by
  have hx := X.hx
  have hb := X.hb
  have hown := X.hown
  have hts := X.hts
  rw [fX6_readSack_31] at hf
  refine lv_iconst (v := 0) hx hb dX6_readSack_31 (by decide) ?_
  cases hf
  exact hret _ _ _ _ _ _ dX6_readSack_32 hP hS (Nat.le_of_ble_eq_true rfl) (Nat.le_of_ble_eq_true rfl)
set_option maxRecDepth 10000 in
theorem kX6_readSack_28 {r : Int32} {S1 : CS} {M : CS} {s0 : Int32} {H : Heap} {locs : List Loc} {ls : Array Slot} (X : gX p s m args c cX6_readSack 2 RX6 (kR kTab kA)) (hret : gRetIA p l e (rmL 9 2 19) s m args below meth c cX6_readSack 2 19 (cΩ ca) (cP dC dI cg kA ca) Q r S1) (hf : fX6_readSack_28 M s0 = some (r, S1)) (hP : (cP dC dI cg kA ca) M s H) (hS : va_S (Fr (cΩ ca) s.heap.size) s.heap H locs) (hl : lv_has ls 2 [(0, .ref (ca 7))]) : W p l e (rmL 9 2 19) s m args below meth c H locs 0 0 Q (F0 m 28 ls [.int s0]) := by
  have hx := X.hx
  have hb := X.hb
  have hown := X.hown
  have hts := X.hts
  rw [fX6_readSack_28] at hf
  refine lv_if_ne (tgt := 33) hx hb dX6_readSack_28 (by decide) (fun c1 => ?_) (fun c1 => ?_)
  · exact kX6_readSack_33 X hret (ifn c1 hf) hP hS (lv_sub hl [0] rfl)
  · exact kX6_readSack_31 X hret (ifp c1 hf) hP hS (lv_sub hl [0] rfl)
set_option maxRecDepth 10000 in
theorem kX6_readSack_21 {r : Int32} {S1 : CS} {M : CS} {H : Heap} {locs : List Loc} {ls : Array Slot} (X : gX p s m args c cX6_readSack 2 RX6 (kR kTab kA)) (hret : gRetIA p l e (rmL 9 2 19) s m args below meth c cX6_readSack 2 19 (cΩ ca) (cP dC dI cg kA ca) Q r S1) (hf : fX6_readSack_21 M = some (r, S1)) (hP : (cP dC dI cg kA ca) M s H) (hS : va_S (Fr (cΩ ca) s.heap.size) s.heap H locs) (hl : lv_has ls 2 [(0, .ref (ca 7))]) : W p l e (rmL 9 2 19) s m args below meth c H locs 0 0 Q (F0 m 21 ls []) := by
  have hx := X.hx
  have hb := X.hb
  have hown := X.hown
  have hts := X.hts
  rw [fX6_readSack_21] at hf
  refine lv_aload_n hx hb dX6_readSack_21 rfl (lv_at hl 0 rfl) ?_
  refine cr_get (k := 0) X hP (rfl : kc 7 = 7) rfl cv7_0 rfl cinX6 (by decide) rfl tw362 dX6_readSack_22 ?_
  obtain ⟨q, hc, hf⟩ := bd hf
  refine gCallVI X cOK rfl (vX8_takeName hc) gRX6_X8_takeName hdX8_takeName rfl ⟨by decide, by decide⟩ hP hS (cr_rec hP (rfl : kc 1 = 1) rfl cw1 rfl) hl.1 (Nat.le_of_ble_eq_true rfl) ⟨Nat.le_of_ble_eq_true rfl, Nat.le_of_ble_eq_true rfl⟩ dX6_readSack_25 (As := []) (rest := []) rfl (fun H locs hP hS => ?_)
  exact kX6_readSack_28 X hret hf hP hS (lv_sub hl [0] rfl)
set_option maxRecDepth 10000 in
theorem kX6_readSack_20 {r : Int32} {S1 : CS} {M : CS} {s0 : Int32} {H : Heap} {locs : List Loc} {ls : Array Slot} (X : gX p s m args c cX6_readSack 2 RX6 (kR kTab kA)) (hret : gRetIA p l e (rmL 9 2 19) s m args below meth c cX6_readSack 2 19 (cΩ ca) (cP dC dI cg kA ca) Q r S1) (hf : fX6_readSack_20 M s0 = some (r, S1)) (hP : (cP dC dI cg kA ca) M s H) (hS : va_S (Fr (cΩ ca) s.heap.size) s.heap H locs) (hl : lv_has ls 2 [(0, .ref (ca 7))]) : W p l e (rmL 9 2 19) s m args below meth c H locs 0 0 Q (F0 m 20 ls [.int s0]) := by
  have hx := X.hx
  have hb := X.hb
  have hown := X.hown
  have hts := X.hts
  rw [fX6_readSack_20] at hf
  cases hf
  exact hret _ _ _ _ _ _ dX6_readSack_20 hP hS (Nat.le_of_ble_eq_true rfl) (Nat.le_of_ble_eq_true rfl)
set_option maxRecDepth 10000 in
theorem kX6_readSack_12 {r : Int32} {S1 : CS} {M : CS} {H : Heap} {locs : List Loc} {ls : Array Slot} (X : gX p s m args c cX6_readSack 2 RX6 (kR kTab kA)) (hret : gRetIA p l e (rmL 9 2 19) s m args below meth c cX6_readSack 2 19 (cΩ ca) (cP dC dI cg kA ca) Q r S1) (hf : fX6_readSack_12 M = some (r, S1)) (hP : (cP dC dI cg kA ca) M s H) (hS : va_S (Fr (cΩ ca) s.heap.size) s.heap H locs) (hl : lv_has ls 2 [(0, .ref (ca 7))]) : W p l e (rmL 9 2 19) s m args below meth c H locs 0 0 Q (F0 m 12 ls []) := by
  have hx := X.hx
  have hb := X.hb
  have hown := X.hown
  have hts := X.hts
  rw [fX6_readSack_12] at hf
  refine lv_aload_n hx hb dX6_readSack_12 rfl (lv_at hl 0 rfl) ?_
  refine cr_get (k := 0) X hP (rfl : kc 7 = 7) rfl cv7_0 rfl cinX6 (by decide) rfl tw362 dX6_readSack_13 ?_
  refine lv_iconst (v := 5) hx hb dX6_readSack_16 (by decide) ?_
  obtain ⟨q, hc, hf⟩ := bd hf
  refine gCallVI X cOK rfl (vX8_fail hc) gRX6_X8_fail hdX8_fail rfl ⟨by decide, by decide⟩ hP hS (cr_rec hP (rfl : kc 1 = 1) rfl cw1 rfl) hl.1 (Nat.le_of_ble_eq_true rfl) ⟨Nat.le_of_ble_eq_true rfl, Nat.le_of_ble_eq_true rfl⟩ dX6_readSack_17 (As := [.int 5]) (rest := []) rfl (fun H locs hP hS => ?_)
  exact kX6_readSack_20 X hret hf hP hS (lv_sub hl [0] rfl)
set_option maxRecDepth 10000 in
theorem kX6_readSack_0 {r : Int32} {S1 : CS} {M : CS} {H : Heap} {locs : List Loc} {ls : Array Slot} (X : gX p s m args c cX6_readSack 2 RX6 (kR kTab kA)) (hret : gRetIA p l e (rmL 9 2 19) s m args below meth c cX6_readSack 2 19 (cΩ ca) (cP dC dI cg kA ca) Q r S1) (hf : fX6_readSack_0 M = some (r, S1)) (hP : (cP dC dI cg kA ca) M s H) (hS : va_S (Fr (cΩ ca) s.heap.size) s.heap H locs) (hl : lv_has ls 2 [(0, .ref (ca 7))]) : W p l e (rmL 9 2 19) s m args below meth c H locs 0 0 Q (F0 m 0 ls []) := by
  have hx := X.hx
  have hb := X.hb
  have hown := X.hown
  have hts := X.hts
  rw [fX6_readSack_0] at hf
  refine lv_aload_n hx hb dX6_readSack_0 rfl (lv_at hl 0 rfl) ?_
  refine cr_get (k := 1) X hP (rfl : kc 7 = 7) rfl cv7_1 rfl cinX6 (by decide) rfl tw363 dX6_readSack_1 ?_
  refine cr_get (k := 6) X hP (rfl : kc 48 = 11) rfl cv11_6 rfl cinX2 (by decide) rfl tw312 dX6_readSack_4 ?_
  refine lv_bipush (v := 6) hx hb dX6_readSack_7 (by decide) ?_
  refine lv_icmp_lt (tgt := 21) hx hb dX6_readSack_9 (by decide) (fun c1 => ?_) (fun c1 => ?_)
  · exact kX6_readSack_21 X hret (ifp c1 hf) hP hS (lv_sub hl [0] rfl)
  · exact kX6_readSack_12 X hret (ifn c1 hf) hP hS (lv_sub hl [0] rfl)
theorem vX6_readSack {l : Launch} {dC : Nat → ClassId} {dI : Nat → Nat → Nat} {cg : Nat → ClassId} {kA : String → Nat → Nat} {ca : Nat → Nat} {M S1 : CS} {r : Int32} (hf : fX6_readSack M  = some (r, S1)) : gMetIA l yX6_readSack cX6_readSack 2 (some .boolean) 9 2 19 (cΩ ca) (cP dC dI cg kA ca) (kR kTab kA) [.ref (ca 7)] M r S1 := gEntryIA (ty := .boolean) (by decide) rfl (bz_n hf) cOK (Nat.le_of_ble_eq_true rfl) (fun p e s m args below meth c Q ls X hP hS hret hl => 
  kX6_readSack_0 X hret (bz_f hf) hP hS (lv_sub hl [0] rfl))
set_option maxRecDepth 10000 in
theorem kX6_readStatement_95 {r : Int32} {S1 : CS} {M : CS} {s0 : Int32} {H : Heap} {locs : List Loc} {ls : Array Slot} (X : gX p s m args c cX6_readStatement 1 RX6 (kR kTab kA)) (hret : gRetIA p l e (rmL 10 2 19) s m args below meth c cX6_readStatement 2 19 (cΩ ca) (cP dC dI cg kA ca) Q r S1) (hf : fX6_readStatement_95 M s0 = some (r, S1)) (hP : (cP dC dI cg kA ca) M s H) (hS : va_S (Fr (cΩ ca) s.heap.size) s.heap H locs) (hl : lv_has ls 1 [(0, .ref (ca 7))]) : W p l e (rmL 10 2 19) s m args below meth c H locs 0 0 Q (F0 m 95 ls [.int s0]) := by
  have hx := X.hx
  have hb := X.hb
  have hown := X.hown
  have hts := X.hts
  rw [fX6_readStatement_95] at hf
  cases hf
  exact hret _ _ _ _ _ _ dX6_readStatement_95 hP hS (Nat.le_of_ble_eq_true rfl) (Nat.le_of_ble_eq_true rfl)
set_option maxRecDepth 10000 in
theorem kX6_readStatement_87 {r : Int32} {S1 : CS} {M : CS} {H : Heap} {locs : List Loc} {ls : Array Slot} (X : gX p s m args c cX6_readStatement 1 RX6 (kR kTab kA)) (hret : gRetIA p l e (rmL 10 2 19) s m args below meth c cX6_readStatement 2 19 (cΩ ca) (cP dC dI cg kA ca) Q r S1) (hf : fX6_readStatement_87 M = some (r, S1)) (hP : (cP dC dI cg kA ca) M s H) (hS : va_S (Fr (cΩ ca) s.heap.size) s.heap H locs) (hl : lv_has ls 1 [(0, .ref (ca 7))]) : W p l e (rmL 10 2 19) s m args below meth c H locs 0 0 Q (F0 m 87 ls []) := by
  have hx := X.hx
  have hb := X.hb
  have hown := X.hown
  have hts := X.hts
  rw [fX6_readStatement_87] at hf
  refine lv_aload_n hx hb dX6_readStatement_87 rfl (lv_at hl 0 rfl) ?_
  refine cr_get (k := 0) X hP (rfl : kc 7 = 7) rfl cv7_0 rfl cinX6 (by decide) rfl tw362 dX6_readStatement_88 ?_
  refine lv_iconst (v := 1) hx hb dX6_readStatement_91 (by decide) ?_
  obtain ⟨q, hc, hf⟩ := bd hf
  refine gCallVI X cOK rfl (vX8_fail hc) gRX6_X8_fail hdX8_fail rfl ⟨by decide, by decide⟩ hP hS (cr_rec hP (rfl : kc 1 = 1) rfl cw1 rfl) hl.1 (Nat.le_of_ble_eq_true rfl) ⟨Nat.le_of_ble_eq_true rfl, Nat.le_of_ble_eq_true rfl⟩ dX6_readStatement_92 (As := [.int 1]) (rest := []) rfl (fun H locs hP hS => ?_)
  exact kX6_readStatement_95 X hret hf hP hS (lv_sub hl [0] rfl)
set_option maxRecDepth 10000 in
theorem kX6_readStatement_84 {r : Int32} {S1 : CS} {M : CS} {s0 : Int32} {H : Heap} {locs : List Loc} {ls : Array Slot} (X : gX p s m args c cX6_readStatement 1 RX6 (kR kTab kA)) (hret : gRetIA p l e (rmL 10 2 19) s m args below meth c cX6_readStatement 2 19 (cΩ ca) (cP dC dI cg kA ca) Q r S1) (hf : fX6_readStatement_84 M s0 = some (r, S1)) (hP : (cP dC dI cg kA ca) M s H) (hS : va_S (Fr (cΩ ca) s.heap.size) s.heap H locs) (hl : lv_has ls 1 [(0, .ref (ca 7))]) : W p l e (rmL 10 2 19) s m args below meth c H locs 0 0 Q (F0 m 84 ls [.int s0]) := by
  have hx := X.hx
  have hb := X.hb
  have hown := X.hown
  have hts := X.hts
  rw [fX6_readStatement_84] at hf
  refine lv_goto (tgt := 95) hx hb dX6_readStatement_84 (by decide) ?_
  exact kX6_readStatement_95 X hret hf hP hS (lv_sub hl [0] rfl)
set_option maxRecDepth 10000 in
theorem kX6_readStatement_80 {r : Int32} {S1 : CS} {M : CS} {H : Heap} {locs : List Loc} {ls : Array Slot} (X : gX p s m args c cX6_readStatement 1 RX6 (kR kTab kA)) (hret : gRetIA p l e (rmL 10 2 19) s m args below meth c cX6_readStatement 2 19 (cΩ ca) (cP dC dI cg kA ca) Q r S1) (hf : fX6_readStatement_80 M = some (r, S1)) (hP : (cP dC dI cg kA ca) M s H) (hS : va_S (Fr (cΩ ca) s.heap.size) s.heap H locs) (hl : lv_has ls 1 [(0, .ref (ca 7))]) : W p l e (rmL 10 2 19) s m args below meth c H locs 0 0 Q (F0 m 80 ls []) := by
  have hx := X.hx
  have hb := X.hb
  have hown := X.hown
  have hts := X.hts
  rw [fX6_readStatement_80] at hf
  refine lv_aload_n hx hb dX6_readStatement_80 rfl (lv_at hl 0 rfl) ?_
  obtain ⟨q, hc, hf⟩ := bd hf
  refine gCallVI X cOK rfl (vX6_readHour hc) gRX6_X6_readHour hdX6_readHour rfl ⟨by decide, by decide⟩ hP hS (cr_rec hP (rfl : kc 7 = 7) rfl cw7 rfl) hl.1 (Nat.le_of_ble_eq_true rfl) ⟨Nat.le_of_ble_eq_true rfl, Nat.le_of_ble_eq_true rfl⟩ dX6_readStatement_81 (As := []) (rest := []) rfl (fun H locs hP hS => ?_)
  exact kX6_readStatement_84 X hret hf hP hS (lv_sub hl [0] rfl)
set_option maxRecDepth 10000 in
theorem kX6_readStatement_77 {r : Int32} {S1 : CS} {M : CS} {s0 : Int32} {H : Heap} {locs : List Loc} {ls : Array Slot} (X : gX p s m args c cX6_readStatement 1 RX6 (kR kTab kA)) (hret : gRetIA p l e (rmL 10 2 19) s m args below meth c cX6_readStatement 2 19 (cΩ ca) (cP dC dI cg kA ca) Q r S1) (hf : fX6_readStatement_77 M s0 = some (r, S1)) (hP : (cP dC dI cg kA ca) M s H) (hS : va_S (Fr (cΩ ca) s.heap.size) s.heap H locs) (hl : lv_has ls 1 [(0, .ref (ca 7))]) : W p l e (rmL 10 2 19) s m args below meth c H locs 0 0 Q (F0 m 77 ls [.int s0]) := by
  have hx := X.hx
  have hb := X.hb
  have hown := X.hown
  have hts := X.hts
  rw [fX6_readStatement_77] at hf
  refine lv_if_eq (tgt := 87) hx hb dX6_readStatement_77 (by decide) (fun c1 => ?_) (fun c1 => ?_)
  · exact kX6_readStatement_87 X hret (ifp c1 hf) hP hS (lv_sub hl [0] rfl)
  · exact kX6_readStatement_80 X hret (ifn c1 hf) hP hS (lv_sub hl [0] rfl)
set_option maxRecDepth 10000 in
theorem kX6_readStatement_68 {r : Int32} {S1 : CS} {M : CS} {H : Heap} {locs : List Loc} {ls : Array Slot} (X : gX p s m args c cX6_readStatement 1 RX6 (kR kTab kA)) (hret : gRetIA p l e (rmL 10 2 19) s m args below meth c cX6_readStatement 2 19 (cΩ ca) (cP dC dI cg kA ca) Q r S1) (hf : fX6_readStatement_68 M = some (r, S1)) (hP : (cP dC dI cg kA ca) M s H) (hS : va_S (Fr (cΩ ca) s.heap.size) s.heap H locs) (hl : lv_has ls 1 [(0, .ref (ca 7))]) : W p l e (rmL 10 2 19) s m args below meth c H locs 0 0 Q (F0 m 68 ls []) := by
  have hx := X.hx
  have hb := X.hb
  have hown := X.hown
  have hts := X.hts
  rw [fX6_readStatement_68] at hf
  refine lv_aload_n hx hb dX6_readStatement_68 rfl (lv_at hl 0 rfl) ?_
  refine cr_get (k := 0) X hP (rfl : kc 7 = 7) rfl cv7_0 rfl cinX6 (by decide) rfl tw362 dX6_readStatement_69 ?_
  refine va_ldcS hx hb hown (kRat (q := ("GranaryWatch$Setup", 78, "hour", [104, 111, 117, 114])) X.ks 11 rfl) dX6_readStatement_72 ?_
  obtain ⟨q, hc, hf⟩ := bd hf
  refine gCallVR X rfl (vX8_isWord hc) gRX6_X8_isWord hdX8_isWord rfl ⟨by decide, by decide⟩ (gBS_blind cOK) (gBS_at cOK X hP (cstr (q := ("GranaryWatch$Setup", 78, "hour", [104, 111, 117, 114])) hP 11 rfl)) (cr_rec hP (rfl : kc 1 = 1) rfl cw1 rfl) hl.1 (Nat.le_of_ble_eq_true rfl) ⟨Nat.le_of_ble_eq_true rfl, Nat.le_of_ble_eq_true rfl⟩ dX6_readStatement_74 (As := [.ref (kA RX6 78)]) (rest := []) rfl ?_
  exact kX6_readStatement_77 X hret hf hP hS (lv_sub hl [0] rfl)
set_option maxRecDepth 10000 in
theorem kX6_readStatement_67 {r : Int32} {S1 : CS} {M : CS} {s0 : Int32} {H : Heap} {locs : List Loc} {ls : Array Slot} (X : gX p s m args c cX6_readStatement 1 RX6 (kR kTab kA)) (hret : gRetIA p l e (rmL 10 2 19) s m args below meth c cX6_readStatement 2 19 (cΩ ca) (cP dC dI cg kA ca) Q r S1) (hf : fX6_readStatement_67 M s0 = some (r, S1)) (hP : (cP dC dI cg kA ca) M s H) (hS : va_S (Fr (cΩ ca) s.heap.size) s.heap H locs) (hl : lv_has ls 1 [(0, .ref (ca 7))]) : W p l e (rmL 10 2 19) s m args below meth c H locs 0 0 Q (F0 m 67 ls [.int s0]) := by
  have hx := X.hx
  have hb := X.hb
  have hown := X.hown
  have hts := X.hts
  rw [fX6_readStatement_67] at hf
  cases hf
  exact hret _ _ _ _ _ _ dX6_readStatement_67 hP hS (Nat.le_of_ble_eq_true rfl) (Nat.le_of_ble_eq_true rfl)
set_option maxRecDepth 10000 in
theorem kX6_readStatement_63 {r : Int32} {S1 : CS} {M : CS} {H : Heap} {locs : List Loc} {ls : Array Slot} (X : gX p s m args c cX6_readStatement 1 RX6 (kR kTab kA)) (hret : gRetIA p l e (rmL 10 2 19) s m args below meth c cX6_readStatement 2 19 (cΩ ca) (cP dC dI cg kA ca) Q r S1) (hf : fX6_readStatement_63 M = some (r, S1)) (hP : (cP dC dI cg kA ca) M s H) (hS : va_S (Fr (cΩ ca) s.heap.size) s.heap H locs) (hl : lv_has ls 1 [(0, .ref (ca 7))]) : W p l e (rmL 10 2 19) s m args below meth c H locs 0 0 Q (F0 m 63 ls []) := by
  have hx := X.hx
  have hb := X.hb
  have hown := X.hown
  have hts := X.hts
  rw [fX6_readStatement_63] at hf
  refine lv_aload_n hx hb dX6_readStatement_63 rfl (lv_at hl 0 rfl) ?_
  obtain ⟨q, hc, hf⟩ := bd hf
  refine gCallVI X cOK rfl (vX6_readMilk hc) gRX6_X6_readMilk hdX6_readMilk rfl ⟨by decide, by decide⟩ hP hS (cr_rec hP (rfl : kc 7 = 7) rfl cw7 rfl) hl.1 (Nat.le_of_ble_eq_true rfl) ⟨Nat.le_of_ble_eq_true rfl, Nat.le_of_ble_eq_true rfl⟩ dX6_readStatement_64 (As := []) (rest := []) rfl (fun H locs hP hS => ?_)
  exact kX6_readStatement_67 X hret hf hP hS (lv_sub hl [0] rfl)
set_option maxRecDepth 10000 in
theorem kX6_readStatement_60 {r : Int32} {S1 : CS} {M : CS} {s0 : Int32} {H : Heap} {locs : List Loc} {ls : Array Slot} (X : gX p s m args c cX6_readStatement 1 RX6 (kR kTab kA)) (hret : gRetIA p l e (rmL 10 2 19) s m args below meth c cX6_readStatement 2 19 (cΩ ca) (cP dC dI cg kA ca) Q r S1) (hf : fX6_readStatement_60 M s0 = some (r, S1)) (hP : (cP dC dI cg kA ca) M s H) (hS : va_S (Fr (cΩ ca) s.heap.size) s.heap H locs) (hl : lv_has ls 1 [(0, .ref (ca 7))]) : W p l e (rmL 10 2 19) s m args below meth c H locs 0 0 Q (F0 m 60 ls [.int s0]) := by
  have hx := X.hx
  have hb := X.hb
  have hown := X.hown
  have hts := X.hts
  rw [fX6_readStatement_60] at hf
  refine lv_if_eq (tgt := 68) hx hb dX6_readStatement_60 (by decide) (fun c1 => ?_) (fun c1 => ?_)
  · exact kX6_readStatement_68 X hret (ifp c1 hf) hP hS (lv_sub hl [0] rfl)
  · exact kX6_readStatement_63 X hret (ifn c1 hf) hP hS (lv_sub hl [0] rfl)
set_option maxRecDepth 10000 in
theorem kX6_readStatement_51 {r : Int32} {S1 : CS} {M : CS} {H : Heap} {locs : List Loc} {ls : Array Slot} (X : gX p s m args c cX6_readStatement 1 RX6 (kR kTab kA)) (hret : gRetIA p l e (rmL 10 2 19) s m args below meth c cX6_readStatement 2 19 (cΩ ca) (cP dC dI cg kA ca) Q r S1) (hf : fX6_readStatement_51 M = some (r, S1)) (hP : (cP dC dI cg kA ca) M s H) (hS : va_S (Fr (cΩ ca) s.heap.size) s.heap H locs) (hl : lv_has ls 1 [(0, .ref (ca 7))]) : W p l e (rmL 10 2 19) s m args below meth c H locs 0 0 Q (F0 m 51 ls []) := by
  have hx := X.hx
  have hb := X.hb
  have hown := X.hown
  have hts := X.hts
  rw [fX6_readStatement_51] at hf
  refine lv_aload_n hx hb dX6_readStatement_51 rfl (lv_at hl 0 rfl) ?_
  refine cr_get (k := 0) X hP (rfl : kc 7 = 7) rfl cv7_0 rfl cinX6 (by decide) rfl tw362 dX6_readStatement_52 ?_
  refine va_ldcS hx hb hown (kRat (q := ("GranaryWatch$Setup", 73, "milk", [109, 105, 108, 107])) X.ks 10 rfl) dX6_readStatement_55 ?_
  obtain ⟨q, hc, hf⟩ := bd hf
  refine gCallVR X rfl (vX8_isWord hc) gRX6_X8_isWord hdX8_isWord rfl ⟨by decide, by decide⟩ (gBS_blind cOK) (gBS_at cOK X hP (cstr (q := ("GranaryWatch$Setup", 73, "milk", [109, 105, 108, 107])) hP 10 rfl)) (cr_rec hP (rfl : kc 1 = 1) rfl cw1 rfl) hl.1 (Nat.le_of_ble_eq_true rfl) ⟨Nat.le_of_ble_eq_true rfl, Nat.le_of_ble_eq_true rfl⟩ dX6_readStatement_57 (As := [.ref (kA RX6 73)]) (rest := []) rfl ?_
  exact kX6_readStatement_60 X hret hf hP hS (lv_sub hl [0] rfl)
set_option maxRecDepth 10000 in
theorem kX6_readStatement_50 {r : Int32} {S1 : CS} {M : CS} {s0 : Int32} {H : Heap} {locs : List Loc} {ls : Array Slot} (X : gX p s m args c cX6_readStatement 1 RX6 (kR kTab kA)) (hret : gRetIA p l e (rmL 10 2 19) s m args below meth c cX6_readStatement 2 19 (cΩ ca) (cP dC dI cg kA ca) Q r S1) (hf : fX6_readStatement_50 M s0 = some (r, S1)) (hP : (cP dC dI cg kA ca) M s H) (hS : va_S (Fr (cΩ ca) s.heap.size) s.heap H locs) (hl : lv_has ls 1 [(0, .ref (ca 7))]) : W p l e (rmL 10 2 19) s m args below meth c H locs 0 0 Q (F0 m 50 ls [.int s0]) := by
  have hx := X.hx
  have hb := X.hb
  have hown := X.hown
  have hts := X.hts
  rw [fX6_readStatement_50] at hf
  cases hf
  exact hret _ _ _ _ _ _ dX6_readStatement_50 hP hS (Nat.le_of_ble_eq_true rfl) (Nat.le_of_ble_eq_true rfl)
set_option maxRecDepth 10000 in
theorem kX6_readStatement_46 {r : Int32} {S1 : CS} {M : CS} {H : Heap} {locs : List Loc} {ls : Array Slot} (X : gX p s m args c cX6_readStatement 1 RX6 (kR kTab kA)) (hret : gRetIA p l e (rmL 10 2 19) s m args below meth c cX6_readStatement 2 19 (cΩ ca) (cP dC dI cg kA ca) Q r S1) (hf : fX6_readStatement_46 M = some (r, S1)) (hP : (cP dC dI cg kA ca) M s H) (hS : va_S (Fr (cΩ ca) s.heap.size) s.heap H locs) (hl : lv_has ls 1 [(0, .ref (ca 7))]) : W p l e (rmL 10 2 19) s m args below meth c H locs 0 0 Q (F0 m 46 ls []) := by
  have hx := X.hx
  have hb := X.hb
  have hown := X.hown
  have hts := X.hts
  rw [fX6_readStatement_46] at hf
  refine lv_aload_n hx hb dX6_readStatement_46 rfl (lv_at hl 0 rfl) ?_
  obtain ⟨q, hc, hf⟩ := bd hf
  refine gCallVI X cOK rfl (vX6_readShift hc) gRX6_X6_readShift hdX6_readShift rfl ⟨by decide, by decide⟩ hP hS (cr_rec hP (rfl : kc 7 = 7) rfl cw7 rfl) hl.1 (Nat.le_of_ble_eq_true rfl) ⟨Nat.le_of_ble_eq_true rfl, Nat.le_of_ble_eq_true rfl⟩ dX6_readStatement_47 (As := []) (rest := []) rfl (fun H locs hP hS => ?_)
  exact kX6_readStatement_50 X hret hf hP hS (lv_sub hl [0] rfl)
set_option maxRecDepth 10000 in
theorem kX6_readStatement_43 {r : Int32} {S1 : CS} {M : CS} {s0 : Int32} {H : Heap} {locs : List Loc} {ls : Array Slot} (X : gX p s m args c cX6_readStatement 1 RX6 (kR kTab kA)) (hret : gRetIA p l e (rmL 10 2 19) s m args below meth c cX6_readStatement 2 19 (cΩ ca) (cP dC dI cg kA ca) Q r S1) (hf : fX6_readStatement_43 M s0 = some (r, S1)) (hP : (cP dC dI cg kA ca) M s H) (hS : va_S (Fr (cΩ ca) s.heap.size) s.heap H locs) (hl : lv_has ls 1 [(0, .ref (ca 7))]) : W p l e (rmL 10 2 19) s m args below meth c H locs 0 0 Q (F0 m 43 ls [.int s0]) := by
  have hx := X.hx
  have hb := X.hb
  have hown := X.hown
  have hts := X.hts
  rw [fX6_readStatement_43] at hf
  refine lv_if_eq (tgt := 51) hx hb dX6_readStatement_43 (by decide) (fun c1 => ?_) (fun c1 => ?_)
  · exact kX6_readStatement_51 X hret (ifp c1 hf) hP hS (lv_sub hl [0] rfl)
  · exact kX6_readStatement_46 X hret (ifn c1 hf) hP hS (lv_sub hl [0] rfl)
set_option maxRecDepth 10000 in
theorem kX6_readStatement_34 {r : Int32} {S1 : CS} {M : CS} {H : Heap} {locs : List Loc} {ls : Array Slot} (X : gX p s m args c cX6_readStatement 1 RX6 (kR kTab kA)) (hret : gRetIA p l e (rmL 10 2 19) s m args below meth c cX6_readStatement 2 19 (cΩ ca) (cP dC dI cg kA ca) Q r S1) (hf : fX6_readStatement_34 M = some (r, S1)) (hP : (cP dC dI cg kA ca) M s H) (hS : va_S (Fr (cΩ ca) s.heap.size) s.heap H locs) (hl : lv_has ls 1 [(0, .ref (ca 7))]) : W p l e (rmL 10 2 19) s m args below meth c H locs 0 0 Q (F0 m 34 ls []) := by
  have hx := X.hx
  have hb := X.hb
  have hown := X.hown
  have hts := X.hts
  rw [fX6_readStatement_34] at hf
  refine lv_aload_n hx hb dX6_readStatement_34 rfl (lv_at hl 0 rfl) ?_
  refine cr_get (k := 0) X hP (rfl : kc 7 = 7) rfl cv7_0 rfl cinX6 (by decide) rfl tw362 dX6_readStatement_35 ?_
  refine va_ldcS hx hb hown (kRat (q := ("GranaryWatch$Setup", 68, "shift", [115, 104, 105, 102, 116])) X.ks 9 rfl) dX6_readStatement_38 ?_
  obtain ⟨q, hc, hf⟩ := bd hf
  refine gCallVR X rfl (vX8_isWord hc) gRX6_X8_isWord hdX8_isWord rfl ⟨by decide, by decide⟩ (gBS_blind cOK) (gBS_at cOK X hP (cstr (q := ("GranaryWatch$Setup", 68, "shift", [115, 104, 105, 102, 116])) hP 9 rfl)) (cr_rec hP (rfl : kc 1 = 1) rfl cw1 rfl) hl.1 (Nat.le_of_ble_eq_true rfl) ⟨Nat.le_of_ble_eq_true rfl, Nat.le_of_ble_eq_true rfl⟩ dX6_readStatement_40 (As := [.ref (kA RX6 68)]) (rest := []) rfl ?_
  exact kX6_readStatement_43 X hret hf hP hS (lv_sub hl [0] rfl)
set_option maxRecDepth 10000 in
theorem kX6_readStatement_33 {r : Int32} {S1 : CS} {M : CS} {s0 : Int32} {H : Heap} {locs : List Loc} {ls : Array Slot} (X : gX p s m args c cX6_readStatement 1 RX6 (kR kTab kA)) (hret : gRetIA p l e (rmL 10 2 19) s m args below meth c cX6_readStatement 2 19 (cΩ ca) (cP dC dI cg kA ca) Q r S1) (hf : fX6_readStatement_33 M s0 = some (r, S1)) (hP : (cP dC dI cg kA ca) M s H) (hS : va_S (Fr (cΩ ca) s.heap.size) s.heap H locs) (hl : lv_has ls 1 [(0, .ref (ca 7))]) : W p l e (rmL 10 2 19) s m args below meth c H locs 2 19 Q (F0 m 33 ls [.int s0]) := by
  have hx := X.hx
  have hb := X.hb
  have hown := X.hown
  have hts := X.hts
  rw [fX6_readStatement_33] at hf
  cases hf
  exact hret _ _ _ _ _ _ dX6_readStatement_33 hP hS (Nat.le_of_ble_eq_true rfl) (Nat.le_of_ble_eq_true rfl)
set_option maxRecDepth 10000 in
theorem kX6_readStatement_29 {r : Int32} {S1 : CS} {M : CS} {H : Heap} {locs : List Loc} {ls : Array Slot} (X : gX p s m args c cX6_readStatement 1 RX6 (kR kTab kA)) (hret : gRetIA p l e (rmL 10 2 19) s m args below meth c cX6_readStatement 2 19 (cΩ ca) (cP dC dI cg kA ca) Q r S1) (hf : fX6_readStatement_29 M = some (r, S1)) (hP : (cP dC dI cg kA ca) M s H) (hS : va_S (Fr (cΩ ca) s.heap.size) s.heap H locs) (hl : lv_has ls 1 [(0, .ref (ca 7))]) : W p l e (rmL 10 2 19) s m args below meth c H locs 0 0 Q (F0 m 29 ls []) := by
  have hx := X.hx
  have hb := X.hb
  have hown := X.hown
  have hts := X.hts
  rw [fX6_readStatement_29] at hf
  refine lv_aload_n hx hb dX6_readStatement_29 rfl (lv_at hl 0 rfl) ?_
  obtain ⟨q, hc, hf⟩ := bd hf
  refine gCallWI X cOK (vX6_readSack hc) (cw_V 0 X gRX6_X6_readSack hdX6_readSack ⟨by decide, by decide⟩) rfl hP hS (Fr_le hS.1) (cr_rec hP (rfl : kc 7 = 7) rfl cw7 rfl) hl.1 (Nat.le_of_ble_eq_true rfl) ⟨Nat.le_of_ble_eq_true rfl, Nat.le_of_ble_eq_true rfl⟩ dX6_readStatement_30 (As := []) (rest := []) rfl (fun H locs hP hS => ?_)
  exact kX6_readStatement_33 X hret hf hP hS (lv_sub hl [0] rfl)
set_option maxRecDepth 10000 in
theorem kX6_readStatement_26 {r : Int32} {S1 : CS} {M : CS} {s0 : Int32} {H : Heap} {locs : List Loc} {ls : Array Slot} (X : gX p s m args c cX6_readStatement 1 RX6 (kR kTab kA)) (hret : gRetIA p l e (rmL 10 2 19) s m args below meth c cX6_readStatement 2 19 (cΩ ca) (cP dC dI cg kA ca) Q r S1) (hf : fX6_readStatement_26 M s0 = some (r, S1)) (hP : (cP dC dI cg kA ca) M s H) (hS : va_S (Fr (cΩ ca) s.heap.size) s.heap H locs) (hl : lv_has ls 1 [(0, .ref (ca 7))]) : W p l e (rmL 10 2 19) s m args below meth c H locs 0 0 Q (F0 m 26 ls [.int s0]) := by
  have hx := X.hx
  have hb := X.hb
  have hown := X.hown
  have hts := X.hts
  rw [fX6_readStatement_26] at hf
  refine lv_if_eq (tgt := 34) hx hb dX6_readStatement_26 (by decide) (fun c1 => ?_) (fun c1 => ?_)
  · exact kX6_readStatement_34 X hret (ifp c1 hf) hP hS (lv_sub hl [0] rfl)
  · exact kX6_readStatement_29 X hret (ifn c1 hf) hP hS (lv_sub hl [0] rfl)
set_option maxRecDepth 10000 in
theorem kX6_readStatement_17 {r : Int32} {S1 : CS} {M : CS} {H : Heap} {locs : List Loc} {ls : Array Slot} (X : gX p s m args c cX6_readStatement 1 RX6 (kR kTab kA)) (hret : gRetIA p l e (rmL 10 2 19) s m args below meth c cX6_readStatement 2 19 (cΩ ca) (cP dC dI cg kA ca) Q r S1) (hf : fX6_readStatement_17 M = some (r, S1)) (hP : (cP dC dI cg kA ca) M s H) (hS : va_S (Fr (cΩ ca) s.heap.size) s.heap H locs) (hl : lv_has ls 1 [(0, .ref (ca 7))]) : W p l e (rmL 10 2 19) s m args below meth c H locs 0 0 Q (F0 m 17 ls []) := by
  have hx := X.hx
  have hb := X.hb
  have hown := X.hown
  have hts := X.hts
  rw [fX6_readStatement_17] at hf
  refine lv_aload_n hx hb dX6_readStatement_17 rfl (lv_at hl 0 rfl) ?_
  refine cr_get (k := 0) X hP (rfl : kc 7 = 7) rfl cv7_0 rfl cinX6 (by decide) rfl tw362 dX6_readStatement_18 ?_
  refine va_ldcS hx hb hown (kRat (q := ("GranaryWatch$Setup", 63, "sack", [115, 97, 99, 107])) X.ks 8 rfl) dX6_readStatement_21 ?_
  obtain ⟨q, hc, hf⟩ := bd hf
  refine gCallVR X rfl (vX8_isWord hc) gRX6_X8_isWord hdX8_isWord rfl ⟨by decide, by decide⟩ (gBS_blind cOK) (gBS_at cOK X hP (cstr (q := ("GranaryWatch$Setup", 63, "sack", [115, 97, 99, 107])) hP 8 rfl)) (cr_rec hP (rfl : kc 1 = 1) rfl cw1 rfl) hl.1 (Nat.le_of_ble_eq_true rfl) ⟨Nat.le_of_ble_eq_true rfl, Nat.le_of_ble_eq_true rfl⟩ dX6_readStatement_23 (As := [.ref (kA RX6 63)]) (rest := []) rfl ?_
  exact kX6_readStatement_26 X hret hf hP hS (lv_sub hl [0] rfl)
set_option maxRecDepth 10000 in
theorem kX6_readStatement_16 {r : Int32} {S1 : CS} {M : CS} {s0 : Int32} {H : Heap} {locs : List Loc} {ls : Array Slot} (X : gX p s m args c cX6_readStatement 1 RX6 (kR kTab kA)) (hret : gRetIA p l e (rmL 10 2 19) s m args below meth c cX6_readStatement 2 19 (cΩ ca) (cP dC dI cg kA ca) Q r S1) (hf : fX6_readStatement_16 M s0 = some (r, S1)) (hP : (cP dC dI cg kA ca) M s H) (hS : va_S (Fr (cΩ ca) s.heap.size) s.heap H locs) (hl : lv_has ls 1 [(0, .ref (ca 7))]) : W p l e (rmL 10 2 19) s m args below meth c H locs 2 19 Q (F0 m 16 ls [.int s0]) := by
  have hx := X.hx
  have hb := X.hb
  have hown := X.hown
  have hts := X.hts
  rw [fX6_readStatement_16] at hf
  cases hf
  exact hret _ _ _ _ _ _ dX6_readStatement_16 hP hS (Nat.le_of_ble_eq_true rfl) (Nat.le_of_ble_eq_true rfl)
set_option maxRecDepth 10000 in
theorem kX6_readStatement_12 {r : Int32} {S1 : CS} {M : CS} {H : Heap} {locs : List Loc} {ls : Array Slot} (X : gX p s m args c cX6_readStatement 1 RX6 (kR kTab kA)) (hret : gRetIA p l e (rmL 10 2 19) s m args below meth c cX6_readStatement 2 19 (cΩ ca) (cP dC dI cg kA ca) Q r S1) (hf : fX6_readStatement_12 M = some (r, S1)) (hP : (cP dC dI cg kA ca) M s H) (hS : va_S (Fr (cΩ ca) s.heap.size) s.heap H locs) (hl : lv_has ls 1 [(0, .ref (ca 7))]) : W p l e (rmL 10 2 19) s m args below meth c H locs 0 0 Q (F0 m 12 ls []) := by
  have hx := X.hx
  have hb := X.hb
  have hown := X.hown
  have hts := X.hts
  rw [fX6_readStatement_12] at hf
  refine lv_aload_n hx hb dX6_readStatement_12 rfl (lv_at hl 0 rfl) ?_
  obtain ⟨q, hc, hf⟩ := bd hf
  refine gCallWI X cOK (vX6_readCat hc) (cw_V 0 X gRX6_X6_readCat hdX6_readCat ⟨by decide, by decide⟩) rfl hP hS (Fr_le hS.1) (cr_rec hP (rfl : kc 7 = 7) rfl cw7 rfl) hl.1 (Nat.le_of_ble_eq_true rfl) ⟨Nat.le_of_ble_eq_true rfl, Nat.le_of_ble_eq_true rfl⟩ dX6_readStatement_13 (As := []) (rest := []) rfl (fun H locs hP hS => ?_)
  exact kX6_readStatement_16 X hret hf hP hS (lv_sub hl [0] rfl)
set_option maxRecDepth 10000 in
theorem kX6_readStatement_9 {r : Int32} {S1 : CS} {M : CS} {s0 : Int32} {H : Heap} {locs : List Loc} {ls : Array Slot} (X : gX p s m args c cX6_readStatement 1 RX6 (kR kTab kA)) (hret : gRetIA p l e (rmL 10 2 19) s m args below meth c cX6_readStatement 2 19 (cΩ ca) (cP dC dI cg kA ca) Q r S1) (hf : fX6_readStatement_9 M s0 = some (r, S1)) (hP : (cP dC dI cg kA ca) M s H) (hS : va_S (Fr (cΩ ca) s.heap.size) s.heap H locs) (hl : lv_has ls 1 [(0, .ref (ca 7))]) : W p l e (rmL 10 2 19) s m args below meth c H locs 0 0 Q (F0 m 9 ls [.int s0]) := by
  have hx := X.hx
  have hb := X.hb
  have hown := X.hown
  have hts := X.hts
  rw [fX6_readStatement_9] at hf
  refine lv_if_eq (tgt := 17) hx hb dX6_readStatement_9 (by decide) (fun c1 => ?_) (fun c1 => ?_)
  · exact kX6_readStatement_17 X hret (ifp c1 hf) hP hS (lv_sub hl [0] rfl)
  · exact kX6_readStatement_12 X hret (ifn c1 hf) hP hS (lv_sub hl [0] rfl)
set_option maxRecDepth 10000 in
theorem kX6_readStatement_0 {r : Int32} {S1 : CS} {M : CS} {H : Heap} {locs : List Loc} {ls : Array Slot} (X : gX p s m args c cX6_readStatement 1 RX6 (kR kTab kA)) (hret : gRetIA p l e (rmL 10 2 19) s m args below meth c cX6_readStatement 2 19 (cΩ ca) (cP dC dI cg kA ca) Q r S1) (hf : fX6_readStatement_0 M = some (r, S1)) (hP : (cP dC dI cg kA ca) M s H) (hS : va_S (Fr (cΩ ca) s.heap.size) s.heap H locs) (hl : lv_has ls 1 [(0, .ref (ca 7))]) : W p l e (rmL 10 2 19) s m args below meth c H locs 0 0 Q (F0 m 0 ls []) := by
  have hx := X.hx
  have hb := X.hb
  have hown := X.hown
  have hts := X.hts
  rw [fX6_readStatement_0] at hf
  refine lv_aload_n hx hb dX6_readStatement_0 rfl (lv_at hl 0 rfl) ?_
  refine cr_get (k := 0) X hP (rfl : kc 7 = 7) rfl cv7_0 rfl cinX6 (by decide) rfl tw362 dX6_readStatement_1 ?_
  refine va_ldcS hx hb hown (kRat (q := ("GranaryWatch$Setup", 54, "cat", [99, 97, 116])) X.ks 7 rfl) dX6_readStatement_4 ?_
  obtain ⟨q, hc, hf⟩ := bd hf
  refine gCallVR X rfl (vX8_isWord hc) gRX6_X8_isWord hdX8_isWord rfl ⟨by decide, by decide⟩ (gBS_blind cOK) (gBS_at cOK X hP (cstr (q := ("GranaryWatch$Setup", 54, "cat", [99, 97, 116])) hP 7 rfl)) (cr_rec hP (rfl : kc 1 = 1) rfl cw1 rfl) hl.1 (Nat.le_of_ble_eq_true rfl) ⟨Nat.le_of_ble_eq_true rfl, Nat.le_of_ble_eq_true rfl⟩ dX6_readStatement_6 (As := [.ref (kA RX6 54)]) (rest := []) rfl ?_
  exact kX6_readStatement_9 X hret hf hP hS (lv_sub hl [0] rfl)
theorem vX6_readStatement {l : Launch} {dC : Nat → ClassId} {dI : Nat → Nat → Nat} {cg : Nat → ClassId} {kA : String → Nat → Nat} {ca : Nat → Nat} {M S1 : CS} {r : Int32} (hf : fX6_readStatement M  = some (r, S1)) : gMetIA l yX6_readStatement cX6_readStatement 1 (some .boolean) 10 2 19 (cΩ ca) (cP dC dI cg kA ca) (kR kTab kA) [.ref (ca 7)] M r S1 := gEntryIA (ty := .boolean) (by decide) rfl (bz_n hf) cOK (Nat.le_of_ble_eq_true rfl) (fun p e s m args below meth c Q ls X hP hS hret hl => 
  kX6_readStatement_0 X hret (bz_f hf) hP hS (lv_sub hl [0] rfl))
set_option maxRecDepth 10000 in
theorem kX6_parse_91 {r : Int32} {S1 : CS} {M : CS} {s0 : Int32} {H : Heap} {locs : List Loc} {ls : Array Slot} (X : gX p s m args c cX6_parse 2 RX6 (kR kTab kA)) (hret : gRetIA p l e (rmL 11 402 3819) s m args below meth c cX6_parse 402 3819 (cΩ ca) (cP dC dI cg kA ca) Q r S1) (hf : fX6_parse_91 M s0 = some (r, S1)) (hP : (cP dC dI cg kA ca) M s H) (hS : va_S (Fr (cΩ ca) s.heap.size) s.heap H locs) (hl : lv_has ls 2 [(0, .ref (ca 7))]) : W p l e (rmL 11 402 3819) s m args below meth c H locs 402 3819 Q (F0 m 91 ls [.int s0]) := by
  have hx := X.hx
  have hb := X.hb
  have hown := X.hown
  have hts := X.hts
  rw [fX6_parse_91] at hf
  cases hf
  exact hret _ _ _ _ _ _ dX6_parse_91 hP hS (Nat.le_of_ble_eq_true rfl) (Nat.le_of_ble_eq_true rfl)
set_option maxRecDepth 10000 in
theorem kX6_parse_82 {r : Int32} {S1 : CS} {M : CS} {H : Heap} {locs : List Loc} {ls : Array Slot} (X : gX p s m args c cX6_parse 2 RX6 (kR kTab kA)) (hret : gRetIA p l e (rmL 11 402 3819) s m args below meth c cX6_parse 402 3819 (cΩ ca) (cP dC dI cg kA ca) Q r S1) (hf : fX6_parse_82 M = some (r, S1)) (hP : (cP dC dI cg kA ca) M s H) (hS : va_S (Fr (cΩ ca) s.heap.size) s.heap H locs) (hl : lv_has ls 2 [(0, .ref (ca 7))]) : W p l e (rmL 11 402 3819) s m args below meth c H locs 402 3819 Q (F0 m 82 ls []) := by
  have hx := X.hx
  have hb := X.hb
  have hown := X.hown
  have hts := X.hts
  rw [fX6_parse_82] at hf
  refine lv_aload_n hx hb dX6_parse_82 rfl (lv_at hl 0 rfl) ?_
  refine cr_get (k := 0) X hP (rfl : kc 7 = 7) rfl cv7_0 rfl cinX6 (by decide) rfl tw362 dX6_parse_83 ?_
  refine lv_bipush (v := 6) hx hb dX6_parse_86 (by decide) ?_
  obtain ⟨q, hc, hf⟩ := bd hf
  refine gCallVI X cOK rfl (vX8_fail hc) gRX6_X8_fail hdX8_fail rfl ⟨by decide, by decide⟩ hP hS (cr_rec hP (rfl : kc 1 = 1) rfl cw1 rfl) hl.1 (Nat.le_of_ble_eq_true rfl) ⟨Nat.le_of_ble_eq_true rfl, Nat.le_of_ble_eq_true rfl⟩ dX6_parse_88 (As := [.int 6]) (rest := []) rfl (fun H locs hP hS => ?_)
  exact kX6_parse_91 X hret hf hP hS (lv_sub hl [0] rfl)
set_option maxRecDepth 10000 in
theorem kX6_parse_99 {r : Int32} {S1 : CS} {M : CS} {H : Heap} {locs : List Loc} {ls : Array Slot} (X : gX p s m args c cX6_parse 2 RX6 (kR kTab kA)) (hret : gRetIA p l e (rmL 11 402 3819) s m args below meth c cX6_parse 402 3819 (cΩ ca) (cP dC dI cg kA ca) Q r S1) (hf : fX6_parse_99 M = some (r, S1)) (hP : (cP dC dI cg kA ca) M s H) (hS : va_S (Fr (cΩ ca) s.heap.size) s.heap H locs) (hl : lv_has ls 2 [(0, .ref (ca 7))]) : W p l e (rmL 11 402 3819) s m args below meth c H locs 402 3819 Q (F0 m 99 ls []) := by
  have hx := X.hx
  have hb := X.hb
  have hown := X.hown
  have hts := X.hts
  rw [fX6_parse_99] at hf
  refine lv_iconst (v := 1) hx hb dX6_parse_99 (by decide) ?_
  cases hf
  exact hret _ _ _ _ _ _ dX6_parse_100 hP hS (Nat.le_of_ble_eq_true rfl) (Nat.le_of_ble_eq_true rfl)
set_option maxRecDepth 10000 in
theorem kX6_parse_92 {r : Int32} {S1 : CS} {M : CS} {H : Heap} {locs : List Loc} {ls : Array Slot} (X : gX p s m args c cX6_parse 2 RX6 (kR kTab kA)) (hret : gRetIA p l e (rmL 11 402 3819) s m args below meth c cX6_parse 402 3819 (cΩ ca) (cP dC dI cg kA ca) Q r S1) (hf : fX6_parse_92 M = some (r, S1)) (hP : (cP dC dI cg kA ca) M s H) (hS : va_S (Fr (cΩ ca) s.heap.size) s.heap H locs) (hl : lv_has ls 2 [(0, .ref (ca 7))]) : W p l e (rmL 11 402 3819) s m args below meth c H locs 402 3819 Q (F0 m 92 ls []) := by
  have hx := X.hx
  have hb := X.hb
  have hown := X.hown
  have hts := X.hts
  rw [fX6_parse_92] at hf
  refine lv_aload_n hx hb dX6_parse_92 rfl (lv_at hl 0 rfl) ?_
  refine cr_get (k := 1) X hP (rfl : kc 7 = 7) rfl cv7_1 rfl cinX6 (by decide) rfl tw363 dX6_parse_93 ?_
  obtain ⟨q, hc, hf⟩ := bd hf
  refine gCallVV X cOK rfl (vX2_begin (rfl : kc 48 = 11) hc) gRX6_X2_begin hdX2_begin rfl ⟨by decide, by decide⟩ hP hS (cr_rec hP (rfl : kc 48 = 11) rfl cw11 rfl) hl.1 (Nat.le_of_ble_eq_true rfl) ⟨Nat.le_of_ble_eq_true rfl, Nat.le_of_ble_eq_true rfl⟩ dX6_parse_96 (As := []) (rest := []) rfl (fun H locs hP hS => ?_)
  exact kX6_parse_99 X hret hf hP hS (lv_sub hl [0] rfl)
set_option maxRecDepth 10000 in
theorem kX6_parse_72 {r : Int32} {S1 : CS} {M : CS} {H : Heap} {locs : List Loc} {ls : Array Slot} (X : gX p s m args c cX6_parse 2 RX6 (kR kTab kA)) (hret : gRetIA p l e (rmL 11 402 3819) s m args below meth c cX6_parse 402 3819 (cΩ ca) (cP dC dI cg kA ca) Q r S1) (hf : fX6_parse_72 M = some (r, S1)) (hP : (cP dC dI cg kA ca) M s H) (hS : va_S (Fr (cΩ ca) s.heap.size) s.heap H locs) (hl : lv_has ls 2 [(0, .ref (ca 7))]) : W p l e (rmL 11 402 3819) s m args below meth c H locs 402 3819 Q (F0 m 72 ls []) := by
  have hx := X.hx
  have hb := X.hb
  have hown := X.hown
  have hts := X.hts
  rw [fX6_parse_72] at hf
  refine lv_aload_n hx hb dX6_parse_72 rfl (lv_at hl 0 rfl) ?_
  refine cr_get (k := 1) X hP (rfl : kc 7 = 7) rfl cv7_1 rfl cinX6 (by decide) rfl tw363 dX6_parse_73 ?_
  refine cr_get (k := 7) X hP (rfl : kc 48 = 11) rfl cv11_7 rfl cinX2 (by decide) rfl tw315 dX6_parse_76 ?_
  refine lv_if_ne (tgt := 92) hx hb dX6_parse_79 (by decide) (fun c1 => ?_) (fun c1 => ?_)
  · exact kX6_parse_92 X hret (ifn c1 hf) hP hS (lv_sub hl [0] rfl)
  · exact kX6_parse_82 X hret (ifp c1 hf) hP hS (lv_sub hl [0] rfl)
set_option maxRecDepth 10000 in
theorem kX6_parse_62 {r : Int32} {S1 : CS} {M : CS} {H : Heap} {locs : List Loc} {ls : Array Slot} (X : gX p s m args c cX6_parse 2 RX6 (kR kTab kA)) (hret : gRetIA p l e (rmL 11 402 3819) s m args below meth c cX6_parse 402 3819 (cΩ ca) (cP dC dI cg kA ca) Q r S1) (hf : fX6_parse_62 M = some (r, S1)) (hP : (cP dC dI cg kA ca) M s H) (hS : va_S (Fr (cΩ ca) s.heap.size) s.heap H locs) (hl : lv_has ls 2 [(0, .ref (ca 7))]) : W p l e (rmL 11 402 3819) s m args below meth c H locs 402 3819 Q (F0 m 62 ls []) := by
  have hx := X.hx
  have hb := X.hb
  have hown := X.hown
  have hts := X.hts
  rw [fX6_parse_62] at hf
  refine lv_aload_n hx hb dX6_parse_62 rfl (lv_at hl 0 rfl) ?_
  refine cr_get (k := 1) X hP (rfl : kc 7 = 7) rfl cv7_1 rfl cinX6 (by decide) rfl tw363 dX6_parse_63 ?_
  refine cr_get (k := 6) X hP (rfl : kc 48 = 11) rfl cv11_6 rfl cinX2 (by decide) rfl tw312 dX6_parse_66 ?_
  refine lv_if_eq (tgt := 82) hx hb dX6_parse_69 (by decide) (fun c1 => ?_) (fun c1 => ?_)
  · exact kX6_parse_82 X hret (ifp c1 hf) hP hS (lv_sub hl [0] rfl)
  · exact kX6_parse_72 X hret (ifn c1 hf) hP hS (lv_sub hl [0] rfl)
set_option maxRecDepth 10000 in
theorem kX6_parse_52 {r : Int32} {S1 : CS} {M : CS} {H : Heap} {locs : List Loc} {ls : Array Slot} (X : gX p s m args c cX6_parse 2 RX6 (kR kTab kA)) (hret : gRetIA p l e (rmL 11 402 3819) s m args below meth c cX6_parse 402 3819 (cΩ ca) (cP dC dI cg kA ca) Q r S1) (hf : fX6_parse_52 M = some (r, S1)) (hP : (cP dC dI cg kA ca) M s H) (hS : va_S (Fr (cΩ ca) s.heap.size) s.heap H locs) (hl : lv_has ls 2 [(0, .ref (ca 7))]) : W p l e (rmL 11 402 3819) s m args below meth c H locs 402 3819 Q (F0 m 52 ls []) := by
  have hx := X.hx
  have hb := X.hb
  have hown := X.hown
  have hts := X.hts
  rw [fX6_parse_52] at hf
  refine lv_aload_n hx hb dX6_parse_52 rfl (lv_at hl 0 rfl) ?_
  refine cr_get (k := 1) X hP (rfl : kc 7 = 7) rfl cv7_1 rfl cinX6 (by decide) rfl tw363 dX6_parse_53 ?_
  refine cr_get (k := 5) X hP (rfl : kc 48 = 11) rfl cv11_5 rfl cinX2 (by decide) rfl tw309 dX6_parse_56 ?_
  refine lv_if_eq (tgt := 82) hx hb dX6_parse_59 (by decide) (fun c1 => ?_) (fun c1 => ?_)
  · exact kX6_parse_82 X hret (ifp c1 hf) hP hS (lv_sub hl [0] rfl)
  · exact kX6_parse_62 X hret (ifn c1 hf) hP hS (lv_sub hl [0] rfl)
set_option maxRecDepth 10000 in
theorem kX6_parse_46 {r : Int32} {S1 : CS} {K16 : CS → Int32 → Option (Int32 × CS)} {M : CS} {x1 : Int32} {H : Heap} {locs : List Loc} {ls : Array Slot} (X : gX p s m args c cX6_parse 2 RX6 (kR kTab kA)) (hret : gRetIA p l e (rmL 11 402 3819) s m args below meth c cX6_parse 402 3819 (cΩ ca) (cP dC dI cg kA ca) Q r S1) (hK16 : ∀ (M : CS) (x1 : Int32) (H : Heap) (locs : List Loc) (ls : Array Slot), K16 M x1 = some (r, S1) → gIn x1 202 → (cP dC dI cg kA ca) M s H → va_S (Fr (cΩ ca) s.heap.size) s.heap H locs → lv_has ls 2 [(0, .ref (ca 7)), (1, .int x1)] → W p l e (rmL 11 402 3819) s m args below meth c H locs (2 * x1.toNatClampNeg) (19 * x1.toNatClampNeg) Q (F0 m 16 ls [])) (hi : gIn x1 201) (hf : fX6_parse_46 K16 M x1 = some (r, S1)) (hP : (cP dC dI cg kA ca) M s H) (hS : va_S (Fr (cΩ ca) s.heap.size) s.heap H locs) (hl : lv_has ls 2 [(0, .ref (ca 7)), (1, .int x1)]) : W p l e (rmL 11 402 3819) s m args below meth c H locs (2 * x1.toNatClampNeg + 2) (19 * x1.toNatClampNeg + 19) Q (F0 m 46 ls []) := by
  have hx := X.hx
  have hb := X.hb
  have hown := X.hown
  have hts := X.hts
  rw [fX6_parse_46] at hf
  refine lv_iinc (v := (x1 + 1)) (lv' := [(1, .int (x1 + 1)), (0, .ref (ca 7))]) hx hb dX6_parse_46 hl (k := 1) rfl (by rfl) (by decide) rfl (fun ls hl => ?_)
  refine lv_goto (tgt := 16) hx hb dX6_parse_49 (by decide) ?_
  exact W.cs (by rw [gI_s hi]; omega) (by rw [gI_s hi]; omega) (hK16 _ _ _ _ _ hf (gI_J hi) hP hS (lv_sub hl [1, 0] rfl))
set_option maxRecDepth 10000 in
theorem kX6_parse_44 {r : Int32} {S1 : CS} {M : CS} {H : Heap} {locs : List Loc} {ls : Array Slot} (X : gX p s m args c cX6_parse 2 RX6 (kR kTab kA)) (hret : gRetIA p l e (rmL 11 402 3819) s m args below meth c cX6_parse 402 3819 (cΩ ca) (cP dC dI cg kA ca) Q r S1) (hf : fX6_parse_44 M = some (r, S1)) (hP : (cP dC dI cg kA ca) M s H) (hS : va_S (Fr (cΩ ca) s.heap.size) s.heap H locs) (hl : lv_has ls 2 [(0, .ref (ca 7))]) : W p l e (rmL 11 402 3819) s m args below meth c H locs 402 3819 Q (F0 m 44 ls []) := by
  have hx := X.hx
  have hb := X.hb
  have hown := X.hown
  have hts := X.hts
  rw [fX6_parse_44] at hf
  refine lv_iconst (v := 0) hx hb dX6_parse_44 (by decide) ?_
  cases hf
  exact hret _ _ _ _ _ _ dX6_parse_45 hP hS (Nat.le_of_ble_eq_true rfl) (Nat.le_of_ble_eq_true rfl)
set_option maxRecDepth 10000 in
theorem kX6_parse_41 {r : Int32} {S1 : CS} {K16 : CS → Int32 → Option (Int32 × CS)} {M : CS} {x1 : Int32} {s0 : Int32} {H : Heap} {locs : List Loc} {ls : Array Slot} (X : gX p s m args c cX6_parse 2 RX6 (kR kTab kA)) (hret : gRetIA p l e (rmL 11 402 3819) s m args below meth c cX6_parse 402 3819 (cΩ ca) (cP dC dI cg kA ca) Q r S1) (hK16 : ∀ (M : CS) (x1 : Int32) (H : Heap) (locs : List Loc) (ls : Array Slot), K16 M x1 = some (r, S1) → gIn x1 202 → (cP dC dI cg kA ca) M s H → va_S (Fr (cΩ ca) s.heap.size) s.heap H locs → lv_has ls 2 [(0, .ref (ca 7)), (1, .int x1)] → W p l e (rmL 11 402 3819) s m args below meth c H locs (2 * x1.toNatClampNeg) (19 * x1.toNatClampNeg) Q (F0 m 16 ls [])) (hi : gIn x1 201) (hf : fX6_parse_41 K16 M x1 s0 = some (r, S1)) (hP : (cP dC dI cg kA ca) M s H) (hS : va_S (Fr (cΩ ca) s.heap.size) s.heap H locs) (hl : lv_has ls 2 [(0, .ref (ca 7)), (1, .int x1)]) : W p l e (rmL 11 402 3819) s m args below meth c H locs (2 * x1.toNatClampNeg + 2) (19 * x1.toNatClampNeg + 19) Q (F0 m 41 ls [.int s0]) := by
  have hx := X.hx
  have hb := X.hb
  have hown := X.hown
  have hts := X.hts
  rw [fX6_parse_41] at hf
  refine lv_if_ne (tgt := 46) hx hb dX6_parse_41 (by decide) (fun c1 => ?_) (fun c1 => ?_)
  · exact kX6_parse_46 X hret hK16 hi (ifn c1 hf) hP hS (lv_sub hl [0, 1] rfl)
  · exact W.widen (k := 402) (n := 3819) (pcnt2 hi).1 (pcnt2 hi).2 (kX6_parse_44 X hret (ifp c1 hf) hP hS (lv_sub hl [0] rfl))
set_option maxRecDepth 10000 in
theorem kX6_parse_37 {r : Int32} {S1 : CS} {K16 : CS → Int32 → Option (Int32 × CS)} {M : CS} {x1 : Int32} {H : Heap} {locs : List Loc} {ls : Array Slot} (X : gX p s m args c cX6_parse 2 RX6 (kR kTab kA)) (hret : gRetIA p l e (rmL 11 402 3819) s m args below meth c cX6_parse 402 3819 (cΩ ca) (cP dC dI cg kA ca) Q r S1) (hK16 : ∀ (M : CS) (x1 : Int32) (H : Heap) (locs : List Loc) (ls : Array Slot), K16 M x1 = some (r, S1) → gIn x1 202 → (cP dC dI cg kA ca) M s H → va_S (Fr (cΩ ca) s.heap.size) s.heap H locs → lv_has ls 2 [(0, .ref (ca 7)), (1, .int x1)] → W p l e (rmL 11 402 3819) s m args below meth c H locs (2 * x1.toNatClampNeg) (19 * x1.toNatClampNeg) Q (F0 m 16 ls [])) (hi : gIn x1 201) (hf : fX6_parse_37 K16 M x1 = some (r, S1)) (hP : (cP dC dI cg kA ca) M s H) (hS : va_S (Fr (cΩ ca) s.heap.size) s.heap H locs) (hl : lv_has ls 2 [(0, .ref (ca 7)), (1, .int x1)]) : W p l e (rmL 11 402 3819) s m args below meth c H locs (2 * x1.toNatClampNeg) (19 * x1.toNatClampNeg) Q (F0 m 37 ls []) := by
  have hx := X.hx
  have hb := X.hb
  have hown := X.hown
  have hts := X.hts
  rw [fX6_parse_37] at hf
  refine lv_aload_n hx hb dX6_parse_37 rfl (lv_at hl 0 rfl) ?_
  obtain ⟨q, hc, hf⟩ := bd hf
  refine gCallWI X cOK (vX6_readStatement hc) (cw_V 0 X gRX6_X6_readStatement hdX6_readStatement ⟨by decide, by decide⟩) rfl hP hS (Fr_le hS.1) (cr_rec hP (rfl : kc 7 = 7) rfl cw7 rfl) hl.1 (Nat.le_of_ble_eq_true rfl) (pcnt2 hi) dX6_parse_38 (As := []) (rest := []) rfl (fun H locs hP hS => ?_)
  exact kX6_parse_41 X hret hK16 hi hf hP hS (lv_sub hl [0, 1] rfl)
set_option maxRecDepth 10000 in
theorem kX6_parse_34 {r : Int32} {S1 : CS} {K16 : CS → Int32 → Option (Int32 × CS)} {M : CS} {x1 : Int32} {s0 : Int32} {H : Heap} {locs : List Loc} {ls : Array Slot} (X : gX p s m args c cX6_parse 2 RX6 (kR kTab kA)) (hret : gRetIA p l e (rmL 11 402 3819) s m args below meth c cX6_parse 402 3819 (cΩ ca) (cP dC dI cg kA ca) Q r S1) (hK16 : ∀ (M : CS) (x1 : Int32) (H : Heap) (locs : List Loc) (ls : Array Slot), K16 M x1 = some (r, S1) → gIn x1 202 → (cP dC dI cg kA ca) M s H → va_S (Fr (cΩ ca) s.heap.size) s.heap H locs → lv_has ls 2 [(0, .ref (ca 7)), (1, .int x1)] → W p l e (rmL 11 402 3819) s m args below meth c H locs (2 * x1.toNatClampNeg) (19 * x1.toNatClampNeg) Q (F0 m 16 ls [])) (hi : gIn x1 201) (hf : fX6_parse_34 K16 M x1 s0 = some (r, S1)) (hP : (cP dC dI cg kA ca) M s H) (hS : va_S (Fr (cΩ ca) s.heap.size) s.heap H locs) (hl : lv_has ls 2 [(0, .ref (ca 7)), (1, .int x1)]) : W p l e (rmL 11 402 3819) s m args below meth c H locs (2 * x1.toNatClampNeg) (19 * x1.toNatClampNeg) Q (F0 m 34 ls [.int s0]) := by
  have hx := X.hx
  have hb := X.hb
  have hown := X.hown
  have hts := X.hts
  rw [fX6_parse_34] at hf
  refine lv_if_eq (tgt := 52) hx hb dX6_parse_34 (by decide) (fun c1 => ?_) (fun c1 => ?_)
  · exact W.widen (k := 402) (n := 3819) (pcnt hi).1 (pcnt hi).2 (kX6_parse_52 X hret (ifp c1 hf) hP hS (lv_sub hl [0] rfl))
  · exact kX6_parse_37 X hret hK16 hi (ifn c1 hf) hP hS (lv_sub hl [0, 1] rfl)
set_option maxRecDepth 10000 in
theorem kX6_parse_27 {r : Int32} {S1 : CS} {K16 : CS → Int32 → Option (Int32 × CS)} {M : CS} {x1 : Int32} {H : Heap} {locs : List Loc} {ls : Array Slot} (X : gX p s m args c cX6_parse 2 RX6 (kR kTab kA)) (hret : gRetIA p l e (rmL 11 402 3819) s m args below meth c cX6_parse 402 3819 (cΩ ca) (cP dC dI cg kA ca) Q r S1) (hK16 : ∀ (M : CS) (x1 : Int32) (H : Heap) (locs : List Loc) (ls : Array Slot), K16 M x1 = some (r, S1) → gIn x1 202 → (cP dC dI cg kA ca) M s H → va_S (Fr (cΩ ca) s.heap.size) s.heap H locs → lv_has ls 2 [(0, .ref (ca 7)), (1, .int x1)] → W p l e (rmL 11 402 3819) s m args below meth c H locs (2 * x1.toNatClampNeg) (19 * x1.toNatClampNeg) Q (F0 m 16 ls [])) (hi : gIn x1 201) (hf : fX6_parse_27 K16 M x1 = some (r, S1)) (hP : (cP dC dI cg kA ca) M s H) (hS : va_S (Fr (cΩ ca) s.heap.size) s.heap H locs) (hl : lv_has ls 2 [(0, .ref (ca 7)), (1, .int x1)]) : W p l e (rmL 11 402 3819) s m args below meth c H locs (2 * x1.toNatClampNeg) (19 * x1.toNatClampNeg) Q (F0 m 27 ls []) := by
  have hx := X.hx
  have hb := X.hb
  have hown := X.hown
  have hts := X.hts
  rw [fX6_parse_27] at hf
  refine lv_aload_n hx hb dX6_parse_27 rfl (lv_at hl 0 rfl) ?_
  refine cr_get (k := 0) X hP (rfl : kc 7 = 7) rfl cv7_0 rfl cinX6 (by decide) rfl tw362 dX6_parse_28 ?_
  obtain ⟨q, hc, hf⟩ := bd hf
  refine gCallVI X cOK rfl (vX8_advance hc) gRX6_X8_advance hdX8_advance rfl ⟨by decide, by decide⟩ hP hS (cr_rec hP (rfl : kc 1 = 1) rfl cw1 rfl) hl.1 (Nat.le_of_ble_eq_true rfl) (pcnt hi) dX6_parse_31 (As := []) (rest := []) rfl (fun H locs hP hS => ?_)
  exact kX6_parse_34 X hret hK16 hi hf hP hS (lv_sub hl [0, 1] rfl)
set_option maxRecDepth 10000 in
theorem kX6_parse_16 {r : Int32} {S1 : CS} (X : gX p s m args c cX6_parse 2 RX6 (kR kTab kA)) (hret : gRetIA p l e (rmL 11 402 3819) s m args below meth c cX6_parse 402 3819 (cΩ ca) (cP dC dI cg kA ca) Q r S1) : ∀ (n : Nat) (M : CS) (x1 : Int32) (H : Heap) (locs : List Loc) (ls : Array Slot), fX6_parse_16 n M x1 = some (r, S1) → gIn x1 202 → (cP dC dI cg kA ca) M s H → va_S (Fr (cΩ ca) s.heap.size) s.heap H locs → lv_has ls 2 [(0, .ref (ca 7)), (1, .int x1)] → W p l e (rmL 11 402 3819) s m args below meth c H locs (2 * x1.toNatClampNeg) (19 * x1.toNatClampNeg) Q (F0 m 16 ls []) := by
  intro n
  induction n with
  | zero => intro M x1 H locs ls hf; cases hf
  | succ k ih =>
    intro M x1 H locs ls hf hj hP hS hl
    have hx := X.hx
    have hb := X.hb
    have hown := X.hown
    have hts := X.hts
    rw [fX6_parse_16] at hf
    try dsimp only at hf
    refine lv_iload_n hx hb dX6_parse_16 rfl (lv_at hl 1 rfl) ?_
    refine lv_aload_n hx hb dX6_parse_17 rfl (lv_at hl 0 rfl) ?_
    refine cr_get (k := 0) X hP (rfl : kc 7 = 7) rfl cv7_0 rfl cinX6 (by decide) rfl tw362 dX6_parse_18 ?_
    refine cr_get (k := 2) X hP (rfl : kc 1 = 1) rfl cv1_2 rfl cinX8 (by decide) rfl tw89 dX6_parse_21 ?_
    refine lv_icmp_gt (tgt := 52) hx hb dX6_parse_24 (by decide) (fun c1 => ?_) (fun c1 => ?_)
    · exact W.widen (k := 402) (n := 3819) (pcntJ hj).1 (pcntJ hj).2 (kX6_parse_52 X hret (ifp c1 hf) hP hS (lv_sub hl [0] rfl))
    · obtain ⟨hi, hf⟩ := gd (ifn c1 hf)
      exact kX6_parse_27 X hret ih hi hf hP hS (lv_sub hl [0, 1] rfl)
set_option maxRecDepth 10000 in
theorem kX6_parse_14 {r : Int32} {S1 : CS} {M : CS} {H : Heap} {locs : List Loc} {ls : Array Slot} (X : gX p s m args c cX6_parse 2 RX6 (kR kTab kA)) (hret : gRetIA p l e (rmL 11 402 3819) s m args below meth c cX6_parse 402 3819 (cΩ ca) (cP dC dI cg kA ca) Q r S1) (hf : fX6_parse_14 M = some (r, S1)) (hP : (cP dC dI cg kA ca) M s H) (hS : va_S (Fr (cΩ ca) s.heap.size) s.heap H locs) (hl : lv_has ls 2 [(0, .ref (ca 7))]) : W p l e (rmL 11 402 3819) s m args below meth c H locs 0 0 Q (F0 m 14 ls []) := by
  have hx := X.hx
  have hb := X.hb
  have hown := X.hown
  have hts := X.hts
  rw [fX6_parse_14] at hf
  refine lv_iconst (v := 0) hx hb dX6_parse_14 (by decide) ?_
  refine lv_istore_n (lv' := [(1, .int 0), (0, .ref (ca 7))]) hx hb dX6_parse_15 rfl hl (by decide) rfl (fun ls hl => ?_)
  exact W.cs (cells' := 2 * (0 : Int32).toNatClampNeg) (slots' := 19 * (0 : Int32).toNatClampNeg) (by decide) (by decide) (kX6_parse_16 X hret FU _ _ _ _ _ hf (by decide) hP hS (lv_sub hl [1, 0] rfl))
set_option maxRecDepth 10000 in
theorem kX6_parse_7 {r : Int32} {S1 : CS} {M : CS} {H : Heap} {locs : List Loc} {ls : Array Slot} (X : gX p s m args c cX6_parse 2 RX6 (kR kTab kA)) (hret : gRetIA p l e (rmL 11 402 3819) s m args below meth c cX6_parse 402 3819 (cΩ ca) (cP dC dI cg kA ca) Q r S1) (hf : fX6_parse_7 M = some (r, S1)) (hP : (cP dC dI cg kA ca) M s H) (hS : va_S (Fr (cΩ ca) s.heap.size) s.heap H locs) (hl : lv_has ls 2 [(0, .ref (ca 7))]) : W p l e (rmL 11 402 3819) s m args below meth c H locs 0 0 Q (F0 m 7 ls []) := by
  have hx := X.hx
  have hb := X.hb
  have hown := X.hown
  have hts := X.hts
  rw [fX6_parse_7] at hf
  refine lv_aload_n hx hb dX6_parse_7 rfl (lv_at hl 0 rfl) ?_
  refine cr_get (k := 1) X hP (rfl : kc 7 = 7) rfl cv7_1 rfl cinX6 (by decide) rfl tw363 dX6_parse_8 ?_
  obtain ⟨q, hc, hf⟩ := bd hf
  refine gCallVV X cOK rfl (vX2_clear (rfl : kc 48 = 11) hc) gRX6_X2_clear hdX2_clear rfl ⟨by decide, by decide⟩ hP hS (cr_rec hP (rfl : kc 48 = 11) rfl cw11 rfl) hl.1 (Nat.le_of_ble_eq_true rfl) ⟨Nat.le_of_ble_eq_true rfl, Nat.le_of_ble_eq_true rfl⟩ dX6_parse_11 (As := []) (rest := []) rfl (fun H locs hP hS => ?_)
  exact kX6_parse_14 X hret hf hP hS (lv_sub hl [0] rfl)
set_option maxRecDepth 10000 in
theorem kX6_parse_0 {r : Int32} {S1 : CS} {M : CS} {H : Heap} {locs : List Loc} {ls : Array Slot} (X : gX p s m args c cX6_parse 2 RX6 (kR kTab kA)) (hret : gRetIA p l e (rmL 11 402 3819) s m args below meth c cX6_parse 402 3819 (cΩ ca) (cP dC dI cg kA ca) Q r S1) (hf : fX6_parse_0 M = some (r, S1)) (hP : (cP dC dI cg kA ca) M s H) (hS : va_S (Fr (cΩ ca) s.heap.size) s.heap H locs) (hl : lv_has ls 2 [(0, .ref (ca 7))]) : W p l e (rmL 11 402 3819) s m args below meth c H locs 0 0 Q (F0 m 0 ls []) := by
  have hx := X.hx
  have hb := X.hb
  have hown := X.hown
  have hts := X.hts
  rw [fX6_parse_0] at hf
  refine lv_aload_n hx hb dX6_parse_0 rfl (lv_at hl 0 rfl) ?_
  refine cr_get (k := 0) X hP (rfl : kc 7 = 7) rfl cv7_0 rfl cinX6 (by decide) rfl tw362 dX6_parse_1 ?_
  obtain ⟨q, hc, hf⟩ := bd hf
  refine gCallVV X cOK rfl (vX8_begin hc) gRX6_X8_begin hdX8_begin rfl ⟨by decide, by decide⟩ hP hS (cr_rec hP (rfl : kc 1 = 1) rfl cw1 rfl) hl.1 (Nat.le_of_ble_eq_true rfl) ⟨Nat.le_of_ble_eq_true rfl, Nat.le_of_ble_eq_true rfl⟩ dX6_parse_4 (As := []) (rest := []) rfl (fun H locs hP hS => ?_)
  exact kX6_parse_7 X hret hf hP hS (lv_sub hl [0] rfl)
theorem vX6_parse {l : Launch} {dC : Nat → ClassId} {dI : Nat → Nat → Nat} {cg : Nat → ClassId} {kA : String → Nat → Nat} {ca : Nat → Nat} {M S1 : CS} {r : Int32} (hf : fX6_parse M  = some (r, S1)) : gMetIA l yX6_parse cX6_parse 2 (some .boolean) 11 402 3819 (cΩ ca) (cP dC dI cg kA ca) (kR kTab kA) [.ref (ca 7)] M r S1 := gEntryIA (ty := .boolean) (by decide) rfl (bz_n hf) cOK (Nat.le_of_ble_eq_true rfl) (fun p e s m args below meth c Q ls X hP hS hret hl => 
  kX6_parse_0 X hret (bz_f hf) hP hS (lv_sub hl [0] rfl))
set_option maxRecDepth 10000 in
theorem kX10_loadGranary_43 {r : Int32} {S1 : CS} {M : CS} {H : Heap} {locs : List Loc} {ls : Array Slot} (X : gX p s m args c cX10_loadGranary 2 RX10 (kR kTab kA)) (hret : gRetIA p l e (rmL 12 402 3819) s m args below meth c cX10_loadGranary 402 3819 (cΩ ca) (cP dC dI cg kA ca) Q r S1) (hf : fX10_loadGranary_43 M = some (r, S1)) (hP : (cP dC dI cg kA ca) M s H) (hS : va_S (Fr (cΩ ca) s.heap.size) s.heap H locs) (hl : lv_has ls 2 [(0, .ref (ca 0))]) : W p l e (rmL 12 402 3819) s m args below meth c H locs 402 3819 Q (F0 m 43 ls []) := by
  have hx := X.hx
  have hb := X.hb
  have hown := X.hown
  have hts := X.hts
  rw [fX10_loadGranary_43] at hf
  refine lv_aload_n hx hb dX10_loadGranary_43 rfl (lv_at hl 0 rfl) ?_
  refine cr_get (k := 2) X hP (rfl : kc 0 = 0) rfl cv0_2 rfl cinX10 (by decide) rfl tw752 dX10_loadGranary_44 ?_
  refine cr_get (k := 5) X hP (rfl : kc 13 = 11) rfl cv11_5 rfl cinX2 (by decide) rfl tw310 dX10_loadGranary_47 ?_
  cases hf
  exact hret _ _ _ _ _ _ dX10_loadGranary_50 hP hS (Nat.le_of_ble_eq_true rfl) (Nat.le_of_ble_eq_true rfl)
set_option maxRecDepth 10000 in
theorem kX10_loadGranary_38 {r : Int32} {S1 : CS} {M : CS} {H : Heap} {locs : List Loc} {ls : Array Slot} (X : gX p s m args c cX10_loadGranary 2 RX10 (kR kTab kA)) (hret : gRetIA p l e (rmL 12 402 3819) s m args below meth c cX10_loadGranary 402 3819 (cΩ ca) (cP dC dI cg kA ca) Q r S1) (hf : fX10_loadGranary_38 M = some (r, S1)) (hP : (cP dC dI cg kA ca) M s H) (hS : va_S (Fr (cΩ ca) s.heap.size) s.heap H locs) (hl : lv_has ls 2 [(0, .ref (ca 0))]) : W p l e (rmL 12 402 3819) s m args below meth c H locs 402 3819 Q (F0 m 38 ls []) := by
  have hx := X.hx
  have hb := X.hb
  have hown := X.hown
  have hts := X.hts
  rw [fX10_loadGranary_38] at hf
  refine lv_aload_n hx hb dX10_loadGranary_38 rfl (lv_at hl 0 rfl) ?_
  refine lv_iconst (v := 0) hx hb dX10_loadGranary_39 (by decide) ?_
  refine cr_put (k := 9) X hP hS (rfl : kc 0 = 0) rfl cs0_9 rfl cinX10 tyX10_ok nmX10 (by decide) rfl rfl (by decide +kernel) (by decide +kernel) tw759 dX10_loadGranary_40 (fun H locs hP hS => ?_)
  exact kX10_loadGranary_43 X hret hf hP hS (lv_sub hl [0] rfl)
set_option maxRecDepth 10000 in
theorem kX10_loadGranary_33 {r : Int32} {S1 : CS} {M : CS} {H : Heap} {locs : List Loc} {ls : Array Slot} (X : gX p s m args c cX10_loadGranary 2 RX10 (kR kTab kA)) (hret : gRetIA p l e (rmL 12 402 3819) s m args below meth c cX10_loadGranary 402 3819 (cΩ ca) (cP dC dI cg kA ca) Q r S1) (hf : fX10_loadGranary_33 M = some (r, S1)) (hP : (cP dC dI cg kA ca) M s H) (hS : va_S (Fr (cΩ ca) s.heap.size) s.heap H locs) (hl : lv_has ls 2 [(0, .ref (ca 0))]) : W p l e (rmL 12 402 3819) s m args below meth c H locs 402 3819 Q (F0 m 33 ls []) := by
  have hx := X.hx
  have hb := X.hb
  have hown := X.hown
  have hts := X.hts
  rw [fX10_loadGranary_33] at hf
  refine lv_aload_n hx hb dX10_loadGranary_33 rfl (lv_at hl 0 rfl) ?_
  refine lv_iconst (v := 0) hx hb dX10_loadGranary_34 (by decide) ?_
  refine cr_put (k := 11) X hP hS (rfl : kc 0 = 0) rfl cs0_11 rfl cinX10 tyX10_ok nmX10 (by decide) rfl rfl rfl rfl tw761 dX10_loadGranary_35 (fun H locs hP hS => ?_)
  exact kX10_loadGranary_38 X hret hf hP hS (lv_sub hl [0] rfl)
set_option maxRecDepth 10000 in
theorem kX10_loadGranary_22 {r : Int32} {S1 : CS} {M : CS} {H : Heap} {locs : List Loc} {ls : Array Slot} (X : gX p s m args c cX10_loadGranary 2 RX10 (kR kTab kA)) (hret : gRetIA p l e (rmL 12 402 3819) s m args below meth c cX10_loadGranary 402 3819 (cΩ ca) (cP dC dI cg kA ca) Q r S1) (hf : fX10_loadGranary_22 M = some (r, S1)) (hP : (cP dC dI cg kA ca) M s H) (hS : va_S (Fr (cΩ ca) s.heap.size) s.heap H locs) (hl : lv_has ls 2 [(0, .ref (ca 0))]) : W p l e (rmL 12 402 3819) s m args below meth c H locs 402 3819 Q (F0 m 22 ls []) := by
  have hx := X.hx
  have hb := X.hb
  have hown := X.hown
  have hts := X.hts
  rw [fX10_loadGranary_22] at hf
  refine lv_aload_n hx hb dX10_loadGranary_22 rfl (lv_at hl 0 rfl) ?_
  refine cr_get (k := 2) X hP (rfl : kc 0 = 0) rfl cv0_2 rfl cinX10 (by decide) rfl tw752 dX10_loadGranary_23 ?_
  refine lv_aload_n hx hb dX10_loadGranary_26 rfl (lv_at hl 0 rfl) ?_
  refine cr_get (k := 3) X hP (rfl : kc 0 = 0) rfl cv0_3 rfl cinX10 (by decide) rfl tw753 dX10_loadGranary_27 ?_
  obtain ⟨q, hc, hf⟩ := bd hf
  refine gCallVV X cOK rfl (vX2_copyFrom (rfl : kc 13 = 11) (rfl : kc 48 = 11) hc) gRX10_X2_copyFrom hdX2_copyFrom rfl ⟨by decide, by decide⟩ hP hS (cr_rec hP (rfl : kc 13 = 11) rfl cw11 rfl) hl.1 (Nat.le_of_ble_eq_true rfl) ⟨Nat.le_of_ble_eq_true rfl, Nat.le_of_ble_eq_true rfl⟩ dX10_loadGranary_30 (As := [.ref (ca 48)]) (rest := []) rfl (fun H locs hP hS => ?_)
  exact kX10_loadGranary_33 X hret hf hP hS (lv_sub hl [0] rfl)
set_option maxRecDepth 10000 in
theorem kX10_loadGranary_20 {r : Int32} {S1 : CS} {M : CS} {H : Heap} {locs : List Loc} {ls : Array Slot} (X : gX p s m args c cX10_loadGranary 2 RX10 (kR kTab kA)) (hret : gRetIA p l e (rmL 12 402 3819) s m args below meth c cX10_loadGranary 402 3819 (cΩ ca) (cP dC dI cg kA ca) Q r S1) (hf : fX10_loadGranary_20 M = some (r, S1)) (hP : (cP dC dI cg kA ca) M s H) (hS : va_S (Fr (cΩ ca) s.heap.size) s.heap H locs) (hl : lv_has ls 2 [(0, .ref (ca 0))]) : W p l e (rmL 12 402 3819) s m args below meth c H locs 402 3819 Q (F0 m 20 ls []) := by
  have hx := X.hx
  have hb := X.hb
  have hown := X.hown
  have hts := X.hts
  rw [fX10_loadGranary_20] at hf
  refine lv_iconst (v := (-1)) hx hb dX10_loadGranary_20 (by decide) ?_
  cases hf
  exact hret _ _ _ _ _ _ dX10_loadGranary_21 hP hS (Nat.le_of_ble_eq_true rfl) (Nat.le_of_ble_eq_true rfl)
set_option maxRecDepth 10000 in
theorem kX10_loadGranary_16 {r : Int32} {S1 : CS} {M : CS} {x1 : Int32} {H : Heap} {locs : List Loc} {ls : Array Slot} (X : gX p s m args c cX10_loadGranary 2 RX10 (kR kTab kA)) (hret : gRetIA p l e (rmL 12 402 3819) s m args below meth c cX10_loadGranary 402 3819 (cΩ ca) (cP dC dI cg kA ca) Q r S1) (hf : fX10_loadGranary_16 M x1 = some (r, S1)) (hP : (cP dC dI cg kA ca) M s H) (hS : va_S (Fr (cΩ ca) s.heap.size) s.heap H locs) (hl : lv_has ls 2 [(0, .ref (ca 0)), (1, .int x1)]) : W p l e (rmL 12 402 3819) s m args below meth c H locs 402 3819 Q (F0 m 16 ls []) := by
  have hx := X.hx
  have hb := X.hb
  have hown := X.hown
  have hts := X.hts
  rw [fX10_loadGranary_16] at hf
  refine lv_iload_n hx hb dX10_loadGranary_16 rfl (lv_at hl 1 rfl) ?_
  refine lv_if_ne (tgt := 22) hx hb dX10_loadGranary_17 (by decide) (fun c1 => ?_) (fun c1 => ?_)
  · exact kX10_loadGranary_22 X hret (ifn c1 hf) hP hS (lv_sub hl [0] rfl)
  · exact kX10_loadGranary_20 X hret (ifp c1 hf) hP hS (lv_sub hl [0] rfl)
set_option maxRecDepth 10000 in
theorem kX10_loadGranary_7 {r : Int32} {S1 : CS} {M : CS} {s0 : Int32} {H : Heap} {locs : List Loc} {ls : Array Slot} (X : gX p s m args c cX10_loadGranary 2 RX10 (kR kTab kA)) (hret : gRetIA p l e (rmL 12 402 3819) s m args below meth c cX10_loadGranary 402 3819 (cΩ ca) (cP dC dI cg kA ca) Q r S1) (hf : fX10_loadGranary_7 M s0 = some (r, S1)) (hP : (cP dC dI cg kA ca) M s H) (hS : va_S (Fr (cΩ ca) s.heap.size) s.heap H locs) (hl : lv_has ls 2 [(0, .ref (ca 0))]) : W p l e (rmL 12 402 3819) s m args below meth c H locs 402 3819 Q (F0 m 7 ls [.int s0]) := by
  have hx := X.hx
  have hb := X.hb
  have hown := X.hown
  have hts := X.hts
  rw [fX10_loadGranary_7] at hf
  refine lv_istore_n (lv' := [(1, .int s0), (0, .ref (ca 0))]) hx hb dX10_loadGranary_7 rfl hl (by decide) rfl (fun ls hl => ?_)
  refine lv_aload_n hx hb dX10_loadGranary_8 rfl (lv_at hl 1 rfl) ?_
  refine cr_get (k := 0) X hP (rfl : kc 0 = 0) rfl cv0_0 rfl cinX10 (by decide) rfl tw750 dX10_loadGranary_9 ?_
  refine lv_iconst (v := 0) hx hb dX10_loadGranary_12 (by decide) ?_
  refine cr_put (k := 2) X hP hS (rfl : kc 1 = 1) rfl cs1_2 rfl cinX8 tyX8_ok nmX8 (by decide) rfl rfl rfl rfl tw88 dX10_loadGranary_13 (fun H locs hP hS => ?_)
  exact kX10_loadGranary_16 X hret hf hP hS (lv_sub hl [1, 0] rfl)
set_option maxRecDepth 10000 in
theorem kX10_loadGranary_0 {r : Int32} {S1 : CS} {M : CS} {H : Heap} {locs : List Loc} {ls : Array Slot} (X : gX p s m args c cX10_loadGranary 2 RX10 (kR kTab kA)) (hret : gRetIA p l e (rmL 12 402 3819) s m args below meth c cX10_loadGranary 402 3819 (cΩ ca) (cP dC dI cg kA ca) Q r S1) (hf : fX10_loadGranary_0 M = some (r, S1)) (hP : (cP dC dI cg kA ca) M s H) (hS : va_S (Fr (cΩ ca) s.heap.size) s.heap H locs) (hl : lv_has ls 2 [(0, .ref (ca 0))]) : W p l e (rmL 12 402 3819) s m args below meth c H locs 0 0 Q (F0 m 0 ls []) := by
  have hx := X.hx
  have hb := X.hb
  have hown := X.hown
  have hts := X.hts
  rw [fX10_loadGranary_0] at hf
  refine lv_aload_n hx hb dX10_loadGranary_0 rfl (lv_at hl 0 rfl) ?_
  refine cr_get (k := 7) X hP (rfl : kc 0 = 0) rfl cv0_7 rfl cinX10 (by decide) rfl tw757 dX10_loadGranary_1 ?_
  obtain ⟨q, hc, hf⟩ := bd hf
  refine gCallWI X cOK (vX6_parse hc) (cw_V 0 X gRX10_X6_parse hdX6_parse ⟨by decide, by decide⟩) rfl hP hS (Fr_le hS.1) (cr_rec hP (rfl : kc 7 = 7) rfl cw7 rfl) hl.1 (Nat.le_of_ble_eq_true rfl) ⟨Nat.le_of_ble_eq_true rfl, Nat.le_of_ble_eq_true rfl⟩ dX10_loadGranary_4 (As := []) (rest := []) rfl (fun H locs hP hS => ?_)
  exact kX10_loadGranary_7 X hret hf hP hS (lv_sub hl [0] rfl)
theorem vX10_loadGranary {l : Launch} {dC : Nat → ClassId} {dI : Nat → Nat → Nat} {cg : Nat → ClassId} {kA : String → Nat → Nat} {ca : Nat → Nat} {M S1 : CS} {r : Int32} (hf : fX10_loadGranary M  = some (r, S1)) : gMetIA l yX10_loadGranary cX10_loadGranary 2 (some .int) 12 402 3819 (cΩ ca) (cP dC dI cg kA ca) (kR kTab kA) [.ref (ca 0)] M r S1 := gEntryIA (ty := .int) (by decide) rfl rfl cOK (Nat.le_of_ble_eq_true rfl) (fun p e s m args below meth c Q ls X hP hS hret hl => 
  kX10_loadGranary_0 X hret hf hP hS (lv_sub hl [0] rfl))
