theorem tw5 : (Jvm.Cond.initialized "java/lang/String") ∈ TBG := tb_t 5 (by decide +kernel) (by decide +kernel)
theorem tw16 : (Jvm.Cond.initialized "java/lang/StringLatin1") ∈ TBG := tb_t 16 (by decide +kernel) (by decide +kernel)
theorem tw17 : (Jvm.Cond.initialized "jdk/internal/util/Preconditions") ∈ TBG := tb_t 17 (by decide +kernel) (by decide +kernel)
theorem tw402 : (Jvm.Cond.methodLink "java/lang/String" (335 : Nat) ({ cls := "java/lang/String", name := "coder", desc := "()B" } : Jvm.MethodName)) ∈ TBG := tb_t 402 (by decide +kernel) (by decide +kernel)
theorem tw403 : (Jvm.Cond.instanceMethod ({ cls := "java/lang/String", name := "coder", desc := "()B" } : Jvm.MethodName)) ∈ TBG := tb_t 403 (by decide +kernel) (by decide +kernel)
theorem tw404 : (Jvm.Cond.selects "java/lang/String" ({ cls := "java/lang/String", name := "coder", desc := "()B" } : Jvm.MethodName) ({ cls := "java/lang/String", name := "coder", desc := "()B" } : Jvm.MethodName)) ∈ TBG := tb_t 404 (by decide +kernel) (by decide +kernel)
theorem tw405 : (Jvm.Cond.code ({ cls := "java/lang/String", name := "coder", desc := "()B" } : Jvm.MethodName) prog_33_method_152_code (1 : Nat) (Option.some Jvm.ClassFile.FieldType.byte)) ∈ TBG := tb_t 405 (by decide +kernel) (by decide +kernel)
theorem tw406 : (Jvm.Cond.fieldLink "java/lang/String" (38 : Nat) "java/lang/String" "COMPACT_STRINGS" "Z") ∈ TBG := tb_t 406 (by decide +kernel) (by decide +kernel)
theorem tw411 : (Jvm.Cond.methodLink "java/lang/String" (492 : Nat) ({ cls := "java/lang/String", name := "isLatin1", desc := "()Z" } : Jvm.MethodName)) ∈ TBG := tb_t 411 (by decide +kernel) (by decide +kernel)
theorem tw412 : (Jvm.Cond.instanceMethod ({ cls := "java/lang/String", name := "isLatin1", desc := "()Z" } : Jvm.MethodName)) ∈ TBG := tb_t 412 (by decide +kernel) (by decide +kernel)
theorem tw413 : (Jvm.Cond.selects "java/lang/String" ({ cls := "java/lang/String", name := "isLatin1", desc := "()Z" } : Jvm.MethodName) ({ cls := "java/lang/String", name := "isLatin1", desc := "()Z" } : Jvm.MethodName)) ∈ TBG := tb_t 413 (by decide +kernel) (by decide +kernel)
theorem tw414 : (Jvm.Cond.code ({ cls := "java/lang/String", name := "isLatin1", desc := "()Z" } : Jvm.MethodName) prog_33_method_154_code (1 : Nat) (Option.some Jvm.ClassFile.FieldType.boolean)) ∈ TBG := tb_t 414 (by decide +kernel) (by decide +kernel)
theorem tw415 : (Jvm.Cond.methodLink "java/lang/String" (495 : Nat) ({ cls := "java/lang/StringLatin1", name := "charAt", desc := "([BI)C" } : Jvm.MethodName)) ∈ TBG := tb_t 415 (by decide +kernel) (by decide +kernel)
theorem tw416 : (Jvm.Cond.static ({ cls := "java/lang/StringLatin1", name := "charAt", desc := "([BI)C" } : Jvm.MethodName)) ∈ TBG := tb_t 416 (by decide +kernel) (by decide +kernel)
theorem tw417 : (Jvm.Cond.code ({ cls := "java/lang/StringLatin1", name := "charAt", desc := "([BI)C" } : Jvm.MethodName) prog_35_method_2_code (2 : Nat) (Option.some Jvm.ClassFile.FieldType.char)) ∈ TBG := tb_t 417 (by decide +kernel) (by decide +kernel)
theorem tw418 : (Jvm.Cond.methodLink "java/lang/StringLatin1" (9 : Nat) ({ cls := "java/lang/String", name := "checkIndex", desc := "(II)V" } : Jvm.MethodName)) ∈ TBG := tb_t 418 (by decide +kernel) (by decide +kernel)
theorem tw419 : (Jvm.Cond.static ({ cls := "java/lang/String", name := "checkIndex", desc := "(II)V" } : Jvm.MethodName)) ∈ TBG := tb_t 419 (by decide +kernel) (by decide +kernel)
theorem tw420 : (Jvm.Cond.code ({ cls := "java/lang/String", name := "checkIndex", desc := "(II)V" } : Jvm.MethodName) prog_33_method_155_code (2 : Nat) (Option.none : Option Jvm.ClassFile.FieldType)) ∈ TBG := tb_t 420 (by decide +kernel) (by decide +kernel)
theorem tw421 : (Jvm.Cond.fieldLink "java/lang/String" (1053 : Nat) "jdk/internal/util/Preconditions" "SIOOBE_FORMATTER" "Ljava/util/function/BiFunction;") ∈ TBG := tb_t 421 (by decide +kernel) (by decide +kernel)
theorem tw423 : (Jvm.Cond.methodLink "java/lang/String" (1059 : Nat) ({ cls := "jdk/internal/util/Preconditions", name := "checkIndex", desc := "(IILjava/util/function/BiFunction;)I" } : Jvm.MethodName)) ∈ TBG := tb_t 423 (by decide +kernel) (by decide +kernel)
theorem tw424 : (Jvm.Cond.static ({ cls := "jdk/internal/util/Preconditions", name := "checkIndex", desc := "(IILjava/util/function/BiFunction;)I" } : Jvm.MethodName)) ∈ TBG := tb_t 424 (by decide +kernel) (by decide +kernel)
theorem tw425 : (Jvm.Cond.code ({ cls := "jdk/internal/util/Preconditions", name := "checkIndex", desc := "(IILjava/util/function/BiFunction;)I" } : Jvm.MethodName) prog_53_method_11_code (3 : Nat) (Option.some Jvm.ClassFile.FieldType.int)) ∈ TBG := tb_t 425 (by decide +kernel) (by decide +kernel)
theorem tw657 : (Jvm.Cond.fieldLink "java/lang/String" (9 : Nat) "java/lang/String" "value" "[B") ∈ TBG := tb_t 657 (by decide +kernel) (by decide +kernel)
theorem tw658 : (Jvm.Cond.fieldLink "java/lang/String" (15 : Nat) "java/lang/String" "coder" "B") ∈ TBG := tb_t 658 (by decide +kernel) (by decide +kernel)
theorem gs_ci3 : GoodIn TBG (va_wsS RJ0 1059 yJ3_checkIndex_8e157 (wT yJ3_checkIndex_8e157 cJ3_checkIndex_8e157 3 (some .int))) := gT_S tw423 tw424 tw17 tw425
theorem hdJ3_checkIndex : yJ3_checkIndex_8e157.cls = RJ3 ∧ yJ3_checkIndex_8e157.cls ≠ "java/lang/invoke/MethodHandle" ∧ yJ3_checkIndex_8e157.cls ≠ "java/lang/invoke/VarHandle" ∧ (parseMethodDescriptor yJ3_checkIndex_8e157.desc).map (fun d => d.parameters.length) = some 3 := ⟨rfl, by decide +kernel, by decide +kernel, by decide +kernel⟩
theorem gs_ci0 : GoodIn TBG (va_wsS RJ1 9 yJ0_checkIndex_df160 (wT yJ0_checkIndex_df160 cJ0_checkIndex_df160 2 none)) := gT_S tw418 tw419 tw5 tw420
theorem hdJ0_checkIndex : yJ0_checkIndex_df160.cls = RJ0 ∧ yJ0_checkIndex_df160.cls ≠ "java/lang/invoke/MethodHandle" ∧ yJ0_checkIndex_df160.cls ≠ "java/lang/invoke/VarHandle" ∧ (parseMethodDescriptor yJ0_checkIndex_df160.desc).map (fun d => d.parameters.length) = some 2 := ⟨rfl, by decide +kernel, by decide +kernel, by decide +kernel⟩
theorem gs_ca1 : GoodIn TBG (va_wsS RJ0 495 yJ1_charAt_3b067 (wT yJ1_charAt_3b067 cJ1_charAt_3b067 2 (some .char))) := gT_S tw415 tw416 tw16 tw417
theorem hdJ1_charAt : yJ1_charAt_3b067.cls = RJ1 ∧ yJ1_charAt_3b067.cls ≠ "java/lang/invoke/MethodHandle" ∧ yJ1_charAt_3b067.cls ≠ "java/lang/invoke/VarHandle" ∧ (parseMethodDescriptor yJ1_charAt_3b067.desc).map (fun d => d.parameters.length) = some 2 := ⟨rfl, by decide +kernel, by decide +kernel, by decide +kernel⟩
theorem gs_coder : GoodIn TBG (wsV RJ0 335 RJ0 yJ0_coder_7d493 (wT yJ0_coder_7d493 cJ0_coder_7d493 1 (some .byte))) := gT_V tw402 tw403 tw404 tw5 tw405
theorem hdJ0_coder : yJ0_coder_7d493.cls = RJ0 ∧ yJ0_coder_7d493.cls ≠ "java/lang/invoke/MethodHandle" ∧ yJ0_coder_7d493.cls ≠ "java/lang/invoke/VarHandle" ∧ (parseMethodDescriptor yJ0_coder_7d493.desc).map (fun d => d.parameters.length) = some 0 := ⟨rfl, by decide +kernel, by decide +kernel, by decide +kernel⟩
theorem gs_isl : GoodIn TBG (wsV RJ0 492 RJ0 yJ0_isLatin1_aae02 (wT yJ0_isLatin1_aae02 cJ0_isLatin1_aae02 1 (some .boolean))) := gT_V tw411 tw412 tw413 tw5 tw414
theorem hdJ0_isLatin1 : yJ0_isLatin1_aae02.cls = RJ0 ∧ yJ0_isLatin1_aae02.cls ≠ "java/lang/invoke/MethodHandle" ∧ yJ0_isLatin1_aae02.cls ≠ "java/lang/invoke/VarHandle" ∧ (parseMethodDescriptor yJ0_isLatin1_aae02.desc).map (fun d => d.parameters.length) = some 0 := ⟨rfl, by decide +kernel, by decide +kernel, by decide +kernel⟩
/-! the JDK's own readers of texts: String.length, String.charAt, and what they call -/
theorem hd_a : ∀ b : Int32, (∃ k : Fin 128, b = Int32.ofNat k.val) → ((b &&& 255).toUInt32 % 65536).toInt32 = b := by
  rintro b ⟨k, rfl⟩
  revert k
  decide +kernel
theorem hd_n : ∀ b : Int32, (∃ k : Fin 128, b = Int32.ofNat k.val) → narrow .char (.int b) = .int b := by
  rintro b ⟨k, rfl⟩
  revert k
  decide +kernel
theorem vJ3_checkIndex {l : Launch} {vq : Option Nat} {i n : Int32} (h0 : ¬ i < 0) (h1 : i < n) : gMetR l yJ3_checkIndex_8e157 cJ3_checkIndex_8e157 3 (some .int) 1 (fun _ => True) [.int i, .int n, va_rf vq] i := by
  refine gEntryR (KS := fun _ => True) (ty := .int) (by decide) rfl rfl (by cases vq <;> exact Nat.le_of_ble_eq_true rfl) (fun _ _ => trivial) (fun p e s m args below meth c Q ls X hB hret hl => ?_)
  have hx := X.hx
  have hb := X.hb
  have hl : lv_has ls 3 [(0, .int i), (1, .int n)] := by cases vq <;> exact lv_sub hl [0, 1] rfl
  refine lv_iload_n hx hb dJ3_checkIndex_8e157_0 rfl (lv_at hl 0 rfl) ?_
  refine lv_if_lt (tgt := 9) hx hb dJ3_checkIndex_8e157_1 (by decide) (fun c => absurd c h0) (fun _ => ?_)
  refine lv_iload_n hx hb dJ3_checkIndex_8e157_4 rfl (lv_at hl 0 rfl) ?_
  refine lv_iload_n hx hb dJ3_checkIndex_8e157_5 rfl (lv_at hl 1 rfl) ?_
  refine lv_icmp_lt (tgt := 16) hx hb dJ3_checkIndex_8e157_6 (by decide) (fun _ => ?_) (fun c => absurd h1 c)
  refine lv_iload_n hx hb dJ3_checkIndex_8e157_16 rfl (lv_at hl 0 rfl) ?_
  exact hret _ _ dJ3_checkIndex_8e157_17
theorem vJ0_checkIndex {l : Launch} {Ω : Nat → Prop} {i n : Int32} (h0 : ¬ i < 0) (h1 : i < n) : gMetRV l yJ0_checkIndex_df160 cJ0_checkIndex_df160 2 2 (fun U => cmpS Ω U U.heap) [.int i, .int n] := by
  refine gEntryRV (KS := fun _ => True) (by decide) (Nat.le_of_ble_eq_true rfl) (fun _ _ => trivial) (fun p e s m args below meth c Q ls X hB hret hl => ?_)
  have hx := X.hx
  have hb := X.hb
  have hl : lv_has ls 2 [(0, .int i), (1, .int n)] := hl
  obtain ⟨vq, hz⟩ : ∃ vq : Option Nat, va_Z "jdk/internal/util/Preconditions" "SIOOBE_FORMATTER" "Ljava/util/function/BiFunction;" (va_rf vq) Ω s s.heap := by
    rcases hB.2.1 with h | ⟨t, h⟩
    · exact ⟨none, h⟩
    · exact ⟨some t, h⟩
  refine lv_iload_n hx hb dJ0_checkIndex_df160_0 rfl (lv_at hl 0 rfl) ?_
  refine lv_iload_n hx hb dJ0_checkIndex_df160_1 rfl (lv_at hl 1 rfl) ?_
  refine va_gets hx hb hz va_S.rf X.hown (X.hts _ tw421) (fun _ h => h) dJ0_checkIndex_df160_2 ?_
  refine gCallSR X rfl (vJ3_checkIndex (vq := vq) h0 h1) gs_ci3 hdJ3_checkIndex rfl ⟨by decide, by decide⟩ (fun a U g mk q => ⟨q.1, trivial⟩) (fun _ _ _ => trivial) hl.1 (Nat.le_of_ble_eq_true rfl) ⟨Nat.le_refl _, Nat.le_refl _⟩ dJ0_checkIndex_df160_5 (As := [.int i, .int n, va_rf vq]) (rest := []) rfl ?_
  refine lv_pop hx hb dJ0_checkIndex_df160_8 rfl ?_
  exact hret _ _ dJ0_checkIndex_df160_9
/-- StringLatin1.charAt -/
theorem vJ1_charAt {l : Launch} {Ω : Nat → Prop} {v : Nat} {bs : List Int32} {k : Int32} (ha : ∀ b ∈ bs, ∃ k : Fin 128, b = Int32.ofNat k.val) (hn : bs.length < 2 ^ 31) (hk : gIn k bs.length) : gMetR l yJ1_charAt_3b067 cJ1_charAt_3b067 2 (some .char) 3 (fun U => cmpS Ω U U.heap ∧ va_T .byte v bs.length (fun j => .int (bs.getD j 0)) Ω U U.heap) [.ref v, .int k] (bs.getD k.toNatClampNeg 0) := by
  have h0 : ¬ k < 0 := fun q => hk (Or.inl q)
  have hlt : k.toNatClampNeg < bs.length := Nat.not_le.mp fun q => hk (Or.inr q)
  have hmem : bs.getD k.toNatClampNeg 0 ∈ bs := by rw [List.getD_eq_getElem?_getD, List.getElem?_eq_getElem hlt]; exact List.getElem_mem hlt
  have h1 : k < Int32.ofNat bs.length := by
    rw [Int32.lt_iff_toInt_lt, Int32.toInt_ofNat_of_lt hn]
    have : k.toInt = (k.toNatClampNeg : Int) := by
      have h2 : 0 ≤ k.toInt := by rw [Int32.lt_iff_toInt_lt, Int32.toInt_zero] at h0; omega
      unfold Int32.toNatClampNeg; omega
    omega
  refine gEntryR (KS := fun _ => True) (ty := .char) (by decide) rfl (hd_n _ (ha _ hmem)) (Nat.le_of_ble_eq_true rfl) (fun _ _ => trivial) (fun p e s m args below meth c Q ls X hB hret hl => ?_)
  have hx := X.hx
  have hb := X.hb
  have hl : lv_has ls 2 [(0, .ref v), (1, .int k)] := hl
  refine lv_iload_n hx hb dJ1_charAt_3b067_0 rfl (lv_at hl 1 rfl) ?_
  refine lv_aload_n hx hb dJ1_charAt_3b067_1 rfl (lv_at hl 0 rfl) ?_
  refine va_tlen hx hb hB.2 va_S.rf rfl dJ1_charAt_3b067_2 ?_
  refine gCallSRV X rfl (vJ0_checkIndex (Ω := Ω) h0 h1) gs_ci0 hdJ0_checkIndex rfl ⟨by decide, by decide⟩ (fun a U g mk q => ⟨q.1, cmpS.moved (Vm.Alike.refl U.vm) q.2⟩) (fun U hU hW => by show cmpS Ω U U.heap; rw [hU]; exact hB.1.moved hW.alike) hl.1 (Nat.le_of_ble_eq_true rfl) ⟨Nat.le_refl _, Nat.le_refl _⟩ dJ1_charAt_3b067_3 (As := [.int k, .int (Int32.ofNat bs.length)]) (rest := []) rfl ?_
  refine lv_aload_n hx hb dJ1_charAt_3b067_6 rfl (lv_at hl 0 rfl) ?_
  refine lv_iload_n hx hb dJ1_charAt_3b067_7 rfl (lv_at hl 1 rfl) ?_
  refine va_tb hx hb hB.2 va_S.rf hk rfl dJ1_charAt_3b067_8 ?_
  refine lv_sipush (v := 255) hx hb dJ1_charAt_3b067_9 (by decide) ?_
  refine lv_iand hx hb dJ1_charAt_3b067_12 ?_
  refine lv_i2c hx hb dJ1_charAt_3b067_13 (hd_a _ (ha _ hmem)) ?_
  exact hret _ _ dJ1_charAt_3b067_14
theorem vJ0_isLatin1 {l : Launch} {Ω : Nat → Prop} {a : Nat} {bs : List Int32} : gMetR l yJ0_isLatin1_aae02 cJ0_isLatin1_aae02 1 (some .boolean) 1 (fun U => cmpS Ω U U.heap ∧ strAt a bs Ω U U.heap) [.ref a] 1 := by
  refine gEntryR (KS := fun _ => True) (ty := .boolean) (by decide) rfl (by decide +kernel) (Nat.le_of_ble_eq_true rfl) (fun _ _ => trivial) (fun p e s m args below meth c Q ls X hB hret hl => ?_)
  have hx := X.hx
  have hb := X.hb
  have hl : lv_has ls 1 [(0, .ref a)] := hl
  obtain ⟨hz, -, -, v, -, hc, -⟩ := hB
  refine va_gets hx hb hz.1 va_S.rf X.hown (X.hts _ tw406) (fun _ h => h) dJ0_isLatin1_aae02_0 ?_
  refine lv_if_eq (tgt := 17) hx hb dJ0_isLatin1_aae02_3 (by decide) (fun c => absurd c (by decide)) (fun _ => ?_)
  refine lv_aload_n hx hb dJ0_isLatin1_aae02_6 rfl (lv_at hl 0 rfl) ?_
  refine vk_getf hx hb hc va_S.rf X.hown (X.hts _ tw658) (fun _ h => h) dJ0_isLatin1_aae02_7 ?_
  refine lv_if_ne (tgt := 17) hx hb dJ0_isLatin1_aae02_10 (by decide) (fun c => absurd rfl c) (fun _ => ?_)
  refine lv_iconst (v := 1) hx hb dJ0_isLatin1_aae02_13 (by decide) ?_
  refine lv_goto (tgt := 18) hx hb dJ0_isLatin1_aae02_14 (by decide) ?_
  exact hret _ _ dJ0_isLatin1_aae02_18
theorem vJ0_coder {l : Launch} {Ω : Nat → Prop} {a : Nat} {bs : List Int32} : gMetR l yJ0_coder_7d493 cJ0_coder_7d493 1 (some .byte) 1 (fun U => cmpS Ω U U.heap ∧ strAt a bs Ω U U.heap) [.ref a] 0 := by
  refine gEntryR (KS := fun _ => True) (ty := .byte) (by decide) rfl (by decide +kernel) (Nat.le_of_ble_eq_true rfl) (fun _ _ => trivial) (fun p e s m args below meth c Q ls X hB hret hl => ?_)
  have hx := X.hx
  have hb := X.hb
  have hl : lv_has ls 1 [(0, .ref a)] := hl
  obtain ⟨hz, -, -, v, -, hc, -⟩ := hB
  refine va_gets hx hb hz.1 va_S.rf X.hown (X.hts _ tw406) (fun _ h => h) dJ0_coder_7d493_0 ?_
  refine lv_if_eq (tgt := 13) hx hb dJ0_coder_7d493_3 (by decide) (fun c => absurd c (by decide)) (fun _ => ?_)
  refine lv_aload_n hx hb dJ0_coder_7d493_6 rfl (lv_at hl 0 rfl) ?_
  refine vk_getf hx hb hc va_S.rf X.hown (X.hts _ tw658) (fun _ h => h) dJ0_coder_7d493_7 ?_
  refine lv_goto (tgt := 14) hx hb dJ0_coder_7d493_10 (by decide) ?_
  exact hret _ _ dJ0_coder_7d493_14
theorem sB_blind {Ω : Nat → Prop} {a : Nat} {bs : List Int32} {av : List Value} : FrameBlind (va_Pc av (fun U => cmpS Ω U U.heap ∧ strAt a bs Ω U U.heap)) := fun a U g mk q => ⟨q.1, q.2.1.moved (Vm.Alike.refl U.vm), q.2.2.moved (Vm.Alike.refl U.vm)⟩
theorem sB_at {Ω : Nat → Prop} {a : Nat} {bs : List Int32} {s : State} {H : Heap} (hz : cmpS Ω s H) (hw : strAt a bs Ω s H) : ∀ U : State, U.heap = H → s.WarmedH U.vm → cmpS Ω U U.heap ∧ strAt a bs Ω U U.heap := fun U hU hW => by rw [hU]; exact ⟨hz.moved hW.alike, hw.moved hW.alike⟩
/-- String.length -/
theorem vJ0_length {l : Launch} {Ω : Nat → Prop} {a : Nat} {bs : List Int32} : gMetR l yJ0_length_8abf5 cJ0_length_8abf5 1 (some .int) 2 (fun U => cmpS Ω U U.heap ∧ strAt a bs Ω U U.heap) [.ref a] (Int32.ofNat bs.length) := by
  refine gEntryR (KS := fun _ => True) (ty := .int) (by decide) rfl rfl (Nat.le_of_ble_eq_true rfl) (fun _ _ => trivial) (fun p e s m args below meth c Q ls X hB hret hl => ?_)
  have hx := X.hx
  have hb := X.hb
  have hl : lv_has ls 1 [(0, .ref a)] := hl
  obtain ⟨-, -, v, ho, hc, hv, ht⟩ := id hB.2
  refine lv_aload_n hx hb dJ0_length_8abf5_0 rfl (lv_at hl 0 rfl) ?_
  refine vk_getf hx hb hv va_S.rf X.hown (X.hts _ tw657) (fun _ h => h) dJ0_length_8abf5_1 ?_
  refine va_tlen hx hb ht va_S.rf rfl dJ0_length_8abf5_4 ?_
  refine lv_aload_n hx hb dJ0_length_8abf5_5 rfl (lv_at hl 0 rfl) ?_
  refine gCallVR X rfl (vJ0_coder (Ω := Ω) (bs := bs)) gs_coder hdJ0_coder rfl ⟨by decide, by decide⟩ sB_blind (sB_at hB.1 hB.2) hB.2.rec hl.1 (Nat.le_of_ble_eq_true rfl) ⟨Nat.le_refl _, Nat.le_refl _⟩ dJ0_length_8abf5_6 (As := []) (rest := [.int (Int32.ofNat bs.length)]) rfl ?_
  refine lv_ishr hx hb dJ0_length_8abf5_9 ?_
  rw [show Int32.ofNat bs.length >>> ((0 : Int32) &&& 31) = Int32.ofNat bs.length from by rw [show ((0 : Int32) &&& 31) = 0 from by decide]; exact Int32.shiftRight_zero]
  exact hret _ _ dJ0_length_8abf5_10
/-- String.charAt -/
theorem vJ0_charAt {l : Launch} {Ω : Nat → Prop} {a : Nat} {bs : List Int32} {k : Int32} (hk : gIn k bs.length) (ha : ∀ b ∈ bs, ∃ k : Fin 128, b = Int32.ofNat k.val) (hn : bs.length < 2 ^ 31) : gMetR l yJ0_charAt_5068e cJ0_charAt_5068e 2 (some .char) 4 (fun U => cmpS Ω U U.heap ∧ strAt a bs Ω U U.heap) [.ref a, .int k] (bs.getD k.toNatClampNeg 0) := by
  have hlt : k.toNatClampNeg < bs.length := Nat.not_le.mp fun q => hk (Or.inr q)
  have hmem : bs.getD k.toNatClampNeg 0 ∈ bs := by rw [List.getD_eq_getElem?_getD, List.getElem?_eq_getElem hlt]; exact List.getElem_mem hlt
  refine gEntryR (KS := fun _ => True) (ty := .char) (by decide) rfl (hd_n _ (ha _ hmem)) (Nat.le_of_ble_eq_true rfl) (fun _ _ => trivial) (fun p e s m args below meth c Q ls X hB hret hl => ?_)
  have hx := X.hx
  have hb := X.hb
  have hl : lv_has ls 2 [(0, .ref a), (1, .int k)] := hl
  obtain ⟨-, -, v, ho, hc, hv, ht⟩ := id hB.2
  refine lv_aload_n hx hb dJ0_charAt_5068e_0 rfl (lv_at hl 0 rfl) ?_
  refine gCallVR X rfl (vJ0_isLatin1 (Ω := Ω) (bs := bs)) gs_isl hdJ0_isLatin1 rfl ⟨by decide, by decide⟩ sB_blind (sB_at hB.1 hB.2) hB.2.rec hl.1 (Nat.le_of_ble_eq_true rfl) ⟨Nat.le_refl _, Nat.le_refl _⟩ dJ0_charAt_5068e_1 (As := []) (rest := []) rfl ?_
  refine lv_if_eq (tgt := 16) hx hb dJ0_charAt_5068e_4 (by decide) (fun c => absurd c (by decide)) (fun _ => ?_)
  refine lv_aload_n hx hb dJ0_charAt_5068e_7 rfl (lv_at hl 0 rfl) ?_
  refine vk_getf hx hb hv va_S.rf X.hown (X.hts _ tw657) (fun _ h => h) dJ0_charAt_5068e_8 ?_
  refine lv_iload_n hx hb dJ0_charAt_5068e_11 rfl (lv_at hl 1 rfl) ?_
  refine gCallSR X rfl (vJ1_charAt (Ω := Ω) (v := v) ha hn hk) gs_ca1 hdJ1_charAt rfl ⟨by decide, by decide⟩ (fun a U g mk q => ⟨q.1, q.2.1.moved (Vm.Alike.refl U.vm), q.2.2.moved (Vm.Alike.refl U.vm)⟩) (fun U hU hW => by rw [hU]; exact ⟨hB.1.moved hW.alike, ht.moved hW.alike⟩) hl.1 (Nat.le_of_ble_eq_true rfl) ⟨Nat.le_refl _, Nat.le_refl _⟩ dJ0_charAt_5068e_12 (As := [.ref v, .int k]) (rest := []) rfl ?_
  exact hret _ _ dJ0_charAt_5068e_15
/-- ldc_w of a text -/
theorem lv_ldcwS {p : Program} {l : Launch} {e : Env} {R : Room} {s : State} {m : MethodId} {args : Array Value} {below : List Frame} {meth : Method} {c : Code} {H : Heap} {locs : List Loc} {cells slots : Nat} {Q : State → Prop} {cc : ByteArray} {pc : Nat} {ls : Array Slot} {rest : List Value} (hexec : p.tables.exec = Jvm.exec) (hb : c.code = cc) {own tx : String} {index q : Nat} (hown : s.vm.findClass own = some m.cls) (hZ : vk_R own index tx q s) (hdg : decode cc pc = .ok (.ldc_w index, 3))
    (k : W p l e R s m args below meth c H locs cells slots Q (F0 m (pc + 3) ls (.ref q :: rest))) : W p l e R s m args below meth c H locs cells slots Q (F0 m pc ls rest) := by
  intro T hT X
  obtain ⟨t, a1, b1⟩ := k T hT X
  exact ⟨t, X.ldcStringW hexec hown hZ.1 hZ.2 (g := F0 m pc ls rest) rfl (hb ▸ hdg) _ a1, b1⟩
/-- what a text adds to a callee's start -/
def gBS {X : Type} (P : X → State → Heap → Prop) (KS : State → Prop) (S : X) (Ω : Nat → Prop) (a : Nat) (bs : List Int32) : State → Prop := fun U => gB P KS S U ∧ strAt a bs Ω U U.heap
theorem gBS_blind {X : Type} {P : X → State → Heap → Prop} {KS : State → Prop} {S : X} {Ω : Nat → Prop} {a : Nat} {bs : List Int32} {av : List Value} (hO : gOK P KS) : FrameBlind (va_Pc av (gBS P KS S Ω a bs)) := fun b U g mk q => ⟨q.1, ⟨hO.1 _ _ _ _ (Vm.Alike.refl U.vm) q.2.1.1, hO.2.1 U _ rfl q.2.1.2⟩, q.2.2.moved (Vm.Alike.refl U.vm)⟩
theorem gBS_at {X : Type} {P : X → State → Heap → Prop} {KS : State → Prop} {S : X} {Ω : Nat → Prop} {a : Nat} {bs : List Int32} {p : Program} {s : State} {m : MethodId} {args : Array Value} {c : Code} {cc : ByteArray} {nL : Nat} {own : String} {H : Heap} (hO : gOK P KS) (hX : gX p s m args c cc nL own KS) (hP : P S s H) (hw : strAt a bs Ω s H) : ∀ U : State, U.heap = H → s.WarmedH U.vm → gBS P KS S Ω a bs U := fun U hU hW => ⟨gB_at hO hX hP U hU hW, by rw [hU]; exact hw.moved hW.alike⟩
theorem kRat {kA : String → Nat → Nat} {s : State} (h : kR kTab kA s) (i : Nat) {q : String × Nat × String × List Int32} (hq : kTab[i]? = some q) : vk_R q.1 q.2.1 q.2.2.1 (kA q.1 q.2.1) s := h.1 q (List.mem_of_getElem? hq)
