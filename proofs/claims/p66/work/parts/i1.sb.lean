theorem tw18 : (Jvm.Cond.initialized "jdk/internal/util/ArraysSupport") ∈ TBG := tb_t 18 (by decide +kernel) (by decide +kernel)
theorem tw527 : (Jvm.Cond.methodLink "java/lang/AbstractStringBuilder" (104 : Nat) ({ cls := "java/lang/AbstractStringBuilder", name := "newCapacity", desc := "(I)I" } : Jvm.MethodName)) ∈ TBG := tb_t 527 (by decide +kernel) (by decide +kernel)
theorem tw529 : (Jvm.Cond.instanceMethod ({ cls := "java/lang/AbstractStringBuilder", name := "newCapacity", desc := "(I)I" } : Jvm.MethodName)) ∈ TBG := tb_t 529 (by decide +kernel) (by decide +kernel)
theorem tw530 : (Jvm.Cond.code ({ cls := "java/lang/AbstractStringBuilder", name := "newCapacity", desc := "(I)I" } : Jvm.MethodName) prog_18_method_10_code (6 : Nat) (Option.some Jvm.ClassFile.FieldType.int)) ∈ TBG := tb_t 530 (by decide +kernel) (by decide +kernel)
theorem tw531 : (Jvm.Cond.methodLink "java/lang/AbstractStringBuilder" (114 : Nat) ({ cls := "jdk/internal/util/ArraysSupport", name := "newLength", desc := "(III)I" } : Jvm.MethodName)) ∈ TBG := tb_t 531 (by decide +kernel) (by decide +kernel)
theorem tw532 : (Jvm.Cond.static ({ cls := "jdk/internal/util/ArraysSupport", name := "newLength", desc := "(III)I" } : Jvm.MethodName)) ∈ TBG := tb_t 532 (by decide +kernel) (by decide +kernel)
theorem tw533 : (Jvm.Cond.code ({ cls := "jdk/internal/util/ArraysSupport", name := "newLength", desc := "(III)I" } : Jvm.MethodName) prog_52_method_27_code (4 : Nat) (Option.some Jvm.ClassFile.FieldType.int)) ∈ TBG := tb_t 533 (by decide +kernel) (by decide +kernel)
theorem tw534 : (Jvm.Cond.methodLink "jdk/internal/util/ArraysSupport" (194 : Nat) ({ cls := "java/lang/Math", name := "max", desc := "(II)I" } : Jvm.MethodName)) ∈ TBG := tb_t 534 (by decide +kernel) (by decide +kernel)
theorem tw537 : (Jvm.Cond.constant "jdk/internal/util/ArraysSupport" (200 : Nat) (2147483639 : Int32)) ∈ TBG := tb_t 537 (by decide +kernel) (by decide +kernel)
theorem tw541 : (Jvm.Cond.constant "java/lang/AbstractStringBuilder" (39 : Nat) (2147483647 : Int32)) ∈ TBG := tb_t 541 (by decide +kernel) (by decide +kernel)
theorem tw542 : (Jvm.Cond.methodLink "java/lang/AbstractStringBuilder" (108 : Nat) ({ cls := "java/util/Arrays", name := "copyOf", desc := "([BI)[B" } : Jvm.MethodName)) ∈ TBG := tb_t 542 (by decide +kernel) (by decide +kernel)
theorem tw543 : (Jvm.Cond.static ({ cls := "java/util/Arrays", name := "copyOf", desc := "([BI)[B" } : Jvm.MethodName)) ∈ TBG := tb_t 543 (by decide +kernel) (by decide +kernel)
theorem tw544 : (Jvm.Cond.code ({ cls := "java/util/Arrays", name := "copyOf", desc := "([BI)[B" } : Jvm.MethodName) prog_45_method_121_code (3 : Nat) (Option.some (Jvm.ClassFile.FieldType.array Jvm.ClassFile.FieldType.byte))) ∈ TBG := tb_t 544 (by decide +kernel) (by decide +kernel)
/-! StringBuilder over growing worlds: its array grows -/
section NSB1
variable {l : Launch} {dC : Nat → ClassId} {dI : Nat → Nat → Nat} {cg : Nat → ClassId} {kA : String → Nat → Nat} {bs n p0 k0 N : Nat} {w : Nat → va_E} {mb cn : Int32} {f : Nat → Int32}
def asc (f : Nat → Int32) : Prop := ∀ i, ∃ q : Fin 128, f i = Int32.ofNat q.val
theorem asc_0 : asc (fun _ => 0) := fun _ => ⟨0, rfl⟩
theorem asc_fit (h : asc f) (i : Nat) : fits .byte (.int (f i)) = true := ascFit (h i)
theorem asc_cpy {g : Nat → Int32} {a b c : Nat} (h : asc f) (hg : asc g) : asc (va_cpy f g a b c) := fun i => by
  unfold va_cpy
  split
  · exact h _
  · exact hg _
theorem asc_upd {j : Nat} {x : Int32} (h : asc f) (hx : ∃ q : Fin 128, x = Int32.ofNat q.val) : asc (upd f j x) := fun i => by
  unfold upd
  split
  · exact hx
  · exact h _
theorem shl0 {x : Int32} : x <<< ((0 : Int32) &&& 31) = x := by rw [show ((0 : Int32) &&& 31) = 0 from by decide]; exact Int32.shiftLeft_zero
theorem sbW_n {y : MethodName} (h : y = yJ5_newCapacity_0f7a4 ∨ y = yJ5_putStringAt_47b60 ∨ y = yJ5_inflateIfNeededFor_a7421) : Cond.selects "java/lang/StringBuilder" y y ∈ sbWs := by
  simp only [sbWs, List.mem_cons, List.not_mem_nil, or_false]
  rcases h with rfl | rfl | rfl
  · exact Or.inr (Or.inl rfl)
  · exact Or.inr (Or.inr (Or.inl rfl))
  · exact Or.inr (Or.inr (Or.inr rfl))
theorem sb_rec {s : State} {H : Heap} {a : Nat} (hP : nP dC dI cg kA bs (n, w) s H) (he : p0 < n ∧ w p0 = sbV a mb cn) : gRec "java/lang/StringBuilder" (bs + p0) s H := va_recv hP.2.2.1 (cwo (hP.row he)) (q0 := 0) (rfl : vwCl[1]? = some (RJ4, TJ4, 4)) rfl
theorem sb_cl {s : State} {H : Heap} (hP : nP dC dI cg kA bs (n, w) s H) : ClassAt s "java/lang/StringBuilder" (dC 1) := (hP.2.2.1.1 1 _ rfl).2
theorem noFn {s : State} {H : Heap} {locs : List Loc} {Ω : Nat → Prop} (hS : va_S (Fr Ω s.heap.size) s.heap H locs) : ∀ q, Fr (fun _ => False) H.size q → Fr Ω s.heap.size q := noF hS
theorem vN5_isLatin1 (he : p0 < n ∧ w p0 = sbV (bs + k0) mb cn) : gMetI l yJ5_isLatin1_aae02 cJ5_isLatin1_aae02 1 (some .boolean) 1 (fun _ => False) (nP dC dI cg kA bs) (kR kTab kA) [.ref (bs + p0)] (n, w) 1 (n, w) := gEntryI (ty := .boolean) (by decide) rfl (by decide +kernel) nOK (Nat.le_of_ble_eq_true rfl) (fun p e s m args below meth c Q ls X hP hS hret hl => by
  have hx := X.hx
  have hb := X.hb
  have hP : nP dC dI cg kA bs (n, w) s s.heap := hP
  refine va_gets hx hb hP.2.2.2.1.2.1 va_S.rf X.hown (X.hts _ tw62) (fun _ h => h) dJ5_isLatin1_aae02_0 ?_
  refine lv_if_eq (tgt := 17) hx hb dJ5_isLatin1_aae02_3 (by decide) (fun c1 => absurd c1 (by decide)) (fun _ => ?_)
  refine lv_aload_n hx hb dJ5_isLatin1_aae02_6 rfl (lv_at hl 0 rfl) ?_
  refine nw_getI (k := 1) X hP he rfl (rfl : vwCl[1]? = some (RJ4, TJ4, 4)) cinJ4 (by decide) tw72 dJ5_isLatin1_aae02_7 ?_
  refine lv_if_ne (tgt := 17) hx hb dJ5_isLatin1_aae02_10 (by decide) (fun c1 => absurd (rfl) c1) (fun _ => ?_)
  refine lv_iconst (v := 1) hx hb dJ5_isLatin1_aae02_13 (by decide) ?_
  refine lv_goto (tgt := 18) hx hb dJ5_isLatin1_aae02_14 (by decide) ?_
  exact hret _ _ _ _ dJ5_isLatin1_aae02_18 hP hS)
theorem vJ8_newLength {g : Nat} (hg : g < N + 2) (hN : N ≤ 1000) : gMetR l yJ8_newLength_cabcc cJ8_newLength_cabcc 4 (some .int) 1 (fun _ => True) [.int (nI N), .int (nI g), .int (nI (N + 2))] (nI (N + (N + 2))) := gEntryR (KS := fun _ => True) (ty := .int) (by decide) rfl rfl (Nat.le_of_ble_eq_true rfl) (fun _ _ => trivial) (fun p e s m args below meth c Q ls X hB hret hl => by
  have hx := X.hx
  have hb := X.hb
  refine lv_iload_n hx hb dJ8_newLength_cabcc_0 rfl (lv_at hl 0 rfl) ?_
  refine lv_iload_n hx hb dJ8_newLength_cabcc_1 rfl (lv_at hl 1 rfl) ?_
  refine lv_iload_n hx hb dJ8_newLength_cabcc_2 rfl (lv_at hl 2 rfl) ?_
  refine gMax X rfl tw534 tw535 tw19 tw536 (Nat.le_of_ble_eq_true rfl) hl.1 (Nat.le_of_ble_eq_true rfl) ⟨Nat.le_refl _, Nat.le_refl _⟩ dJ8_newLength_cabcc_3 ?_
  rw [if_pos (nI_lt (a := g) (b := N + 2) hg (by omega))]
  refine lv_iadd hx hb dJ8_newLength_cabcc_6 ?_
  rw [show ((nI N) + (nI (N + 2)) : Int32) = nI (N + (N + 2)) from nI_add _ _]
  refine lv_istore_n (lv' := [(3, .int (nI (N + (N + 2)))), (0, .int (nI N)), (1, .int (nI g)), (2, .int (nI (N + 2)))]) hx hb dJ8_newLength_cabcc_7 rfl hl (by decide) rfl (fun ls hl => ?_)
  refine lv_iconst (v := 0) hx hb dJ8_newLength_cabcc_8 (by decide) ?_
  refine lv_iload_n hx hb dJ8_newLength_cabcc_9 rfl (lv_at hl 0 rfl) ?_
  refine lv_icmp_ge (tgt := 21) hx hb dJ8_newLength_cabcc_10 (by decide) (fun c1 => absurd c1 (fun z => lt_le.mpr z (nI_lt (a := 0) (b := N + (N + 2)) (by omega) (by omega)))) (fun _ => ?_)
  refine lv_iload_n hx hb dJ8_newLength_cabcc_13 rfl (lv_at hl 0 rfl) ?_
  refine lv_ldc hx hb X.hown (X.hts _ tw537) dJ8_newLength_cabcc_14 ?_
  refine lv_icmp_gt (tgt := 21) hx hb dJ8_newLength_cabcc_16 (by decide) (fun c1 => absurd c1 (show ¬ (2147483639 : Int32) < nI (N + (N + 2)) from nI_nlt (a := 2147483639) (by omega) (by omega))) (fun _ => ?_)
  refine lv_iload_n hx hb dJ8_newLength_cabcc_19 rfl (lv_at hl 0 rfl) ?_
  exact hret _ _ dJ8_newLength_cabcc_20)
theorem gs_newLen : GoodIn TBG (va_wsS RJ5 114 yJ8_newLength_cabcc (wT yJ8_newLength_cabcc cJ8_newLength_cabcc 4 (some .int))) := gT_S tw531 tw532 tw18 tw533
theorem vN5_newCapacity {m0 : Nat} (he : p0 < n ∧ w p0 = sbV (bs + k0) mb cn) (hk : k0 < n ∧ w k0 = byV cg N f) (h1 : N < m0) (h2 : m0 < 2 * N + 2) (hN : N ≤ 1000) : gMetI l yJ5_newCapacity_0f7a4 cJ5_newCapacity_0f7a4 6 (some .int) 2 (fun _ => False) (nP dC dI cg kA bs) (kR kTab kA) [.ref (bs + p0), .int (nI m0)] (n, w) (nI (N + (N + 2))) (n, w) := gEntryI (ty := .int) (by decide) rfl rfl nOK (Nat.le_of_ble_eq_true rfl) (fun p e s m args below meth c Q ls X hP hS hret hl => by
  have hx := X.hx
  have hb := X.hb
  have hP : nP dC dI cg kA bs (n, w) s s.heap := hP
  refine lv_aload_n hx hb dJ5_newCapacity_0f7a4_0 rfl (lv_at hl 0 rfl) ?_
  refine nw_getI (k := 0) X hP he rfl (rfl : vwCl[1]? = some (RJ4, TJ4, 4)) cinJ4 (by decide) tw71 dJ5_newCapacity_0f7a4_1 ?_
  refine nw_alen (v := nI N) X hP hk rfl rfl dJ5_newCapacity_0f7a4_4 ?_
  refine lv_istore_n (lv' := [(2, .int (nI N)), (0, .ref (bs + p0)), (1, .int (nI m0))]) hx hb dJ5_newCapacity_0f7a4_5 rfl hl (by decide) rfl (fun ls hl => ?_)
  refine lv_iload_n hx hb dJ5_newCapacity_0f7a4_6 rfl (lv_at hl 2 rfl) ?_
  refine lv_aload_n hx hb dJ5_newCapacity_0f7a4_7 rfl (lv_at hl 1 rfl) ?_
  refine nw_getI (k := 1) X hP he rfl (rfl : vwCl[1]? = some (RJ4, TJ4, 4)) cinJ4 (by decide) tw72 dJ5_newCapacity_0f7a4_8 ?_
  refine lv_ishl hx hb dJ5_newCapacity_0f7a4_11 ?_
  rw [shl0]
  refine lv_istore_n (lv' := [(3, .int (nI m0)), (2, .int (nI N)), (0, .ref (bs + p0)), (1, .int (nI m0))]) hx hb dJ5_newCapacity_0f7a4_12 rfl hl (by decide) rfl (fun ls hl => ?_)
  refine lv_iload_n hx hb dJ5_newCapacity_0f7a4_13 rfl (lv_at hl 0 rfl) ?_
  refine lv_iload_n hx hb dJ5_newCapacity_0f7a4_14 rfl (lv_at hl 1 rfl) ?_
  refine lv_isub hx hb dJ5_newCapacity_0f7a4_15 ?_
  rw [show ((nI m0) - (nI N) : Int32) = nI (m0 - N) from pk_sub (by omega)]
  refine lv_istore (lv' := [(4, .int (nI (m0 - N))), (3, .int (nI m0)), (2, .int (nI N)), (0, .ref (bs + p0)), (1, .int (nI m0))]) hx hb dJ5_newCapacity_0f7a4_16 hl (by decide) rfl (fun ls hl => ?_)
  refine lv_iload_n hx hb dJ5_newCapacity_0f7a4_18 rfl (lv_at hl 2 rfl) ?_
  refine lv_iload hx hb dJ5_newCapacity_0f7a4_19 (lv_at hl 0 rfl) ?_
  refine lv_iload_n hx hb dJ5_newCapacity_0f7a4_21 rfl (lv_at hl 2 rfl) ?_
  refine lv_iconst (v := 2) hx hb dJ5_newCapacity_0f7a4_22 (by decide) ?_
  refine lv_aload_n hx hb dJ5_newCapacity_0f7a4_23 rfl (lv_at hl 3 rfl) ?_
  refine nw_getI (k := 1) X hP he rfl (rfl : vwCl[1]? = some (RJ4, TJ4, 4)) cinJ4 (by decide) tw72 dJ5_newCapacity_0f7a4_24 ?_
  refine lv_ishl hx hb dJ5_newCapacity_0f7a4_27 ?_
  rw [shl0]
  refine lv_iadd hx hb dJ5_newCapacity_0f7a4_28 ?_
  rw [show ((nI N) + 2 : Int32) = nI (N + 2) from nI_add N 2]
  refine gCallSR X rfl (vJ8_newLength (N := N) (g := m0 - N) (by omega) hN) gs_newLen (C := "jdk/internal/util/ArraysSupport") ⟨rfl, by decide, by decide, (by decide +kernel : (parseMethodDescriptor yJ8_newLength_cabcc.desc).map (fun d => d.parameters.length) = some 3)⟩ rfl ⟨by decide, by decide⟩ (fun a U g mk q => ⟨q.1, trivial⟩) (fun _ _ _ => trivial) hl.1 (Nat.le_of_ble_eq_true rfl) ⟨Nat.le_refl _, Nat.le_refl _⟩ dJ5_newCapacity_0f7a4_29 (As := [.int (nI N), .int (nI (m0 - N)), .int (nI (N + 2))]) (rest := []) rfl ?_
  refine lv_istore (lv' := [(5, .int (nI (N + (N + 2)))), (4, .int (nI (m0 - N))), (3, .int (nI m0)), (2, .int (nI N)), (0, .ref (bs + p0)), (1, .int (nI m0))]) hx hb dJ5_newCapacity_0f7a4_32 hl (by decide) rfl (fun ls hl => ?_)
  refine lv_iload hx hb dJ5_newCapacity_0f7a4_34 (lv_at hl 0 rfl) ?_
  refine lv_ldc hx hb X.hown (X.hts _ tw541) dJ5_newCapacity_0f7a4_36 ?_
  refine lv_icmp_ne (tgt := 51) hx hb dJ5_newCapacity_0f7a4_38 (by decide) (fun _ => ?_) (fun c1 => absurd c1 (fun z => absurd ((nI_eq (a := N + (N + 2)) (b := 2147483647) (by omega) (by omega)).mp z) (by omega)))
  refine lv_iload hx hb dJ5_newCapacity_0f7a4_51 (lv_at hl 0 rfl) ?_
  refine lv_aload_n hx hb dJ5_newCapacity_0f7a4_53 rfl (lv_at hl 4 rfl) ?_
  refine nw_getI (k := 1) X hP he rfl (rfl : vwCl[1]? = some (RJ4, TJ4, 4)) cinJ4 (by decide) tw72 dJ5_newCapacity_0f7a4_54 ?_
  refine lv_ishr hx hb dJ5_newCapacity_0f7a4_57 ?_
  rw [shr0]
  exact hret _ _ _ _ dJ5_newCapacity_0f7a4_58 hP hS)
theorem vN7_copyOf {N1 : Nat} (hk : k0 < n ∧ w k0 = byV cg N f) (ha : asc f) (h1 : N < N1) (hN : N1 ≤ 4000) : gMetO l yJ7_copyOf_9075b cJ7_copyOf_9075b 3 (some (.array .byte)) 2 1 N1 (nΩ bs) (nP dC dI cg kA bs) (kR kTab kA) [.ref (bs + k0), .int (nI N1)] (n, w) (n + 1, va_up w n (byV cg N1 (va_cpy f (fun _ => 0) 0 0 N))) (fun a _ _ => a = bs + n) := gEntryO (rt := .array .byte) (by decide) rfl (Or.inr ⟨_, rfl⟩) nOK (fun _ _ _ _ _ h => h) (Nat.le_of_ble_eq_true rfl) (fun p e s m args below meth c Q ls X hP hS hret hl => by
  have hx := X.hx
  have hb := X.hb
  have hP : nP dC dI cg kA bs (n, w) s s.heap := hP
  refine lv_iload_n hx hb dJ7_copyOf_9075b_0 rfl (lv_at hl 1 rfl) ?_
  refine lv_aload_n hx hb dJ7_copyOf_9075b_1 rfl (lv_at hl 0 rfl) ?_
  refine nw_alen (v := nI N) X hP hk rfl rfl dJ7_copyOf_9075b_2 ?_
  refine lv_icmp_ne (tgt := 14) hx hb dJ7_copyOf_9075b_3 (by decide) (fun _ => ?_) (fun c1 => absurd c1 (fun z => absurd ((nI_eq (by omega) (by omega)).mp z) (by omega)))
  refine lv_iload_n hx hb dJ7_copyOf_9075b_14 rfl (lv_at hl 1 rfl) ?_
  refine nw_newa (t0 := 1) (N := N1) .byte X hP hS rfl tw85 rfl (fun _ => rfl) rfl (show ¬ nI N1 < (0 : Int32) from nI_nlt (b := 0) (Nat.zero_le _) (by omega)) (nI_c (by omega)) (by show N1 * 1 ≤ _; omega) ⟨by show 0 + 1 ≤ 1; omega, by show 0 + N1 ≤ N1; omega⟩ dJ7_copyOf_9075b_15 (fun H hP hS => ?_)
  refine lv_astore_n (lv' := [(2, .ref (bs + n)), (0, .ref (bs + k0)), (1, .int (nI N1))]) hx hb dJ7_copyOf_9075b_17 rfl hl (by decide) rfl (fun ls hl => ?_)
  refine lv_aload_n hx hb dJ7_copyOf_9075b_18 rfl (lv_at hl 1 rfl) ?_
  refine lv_iconst (v := 0) hx hb dJ7_copyOf_9075b_19 (by decide) ?_
  refine lv_aload_n hx hb dJ7_copyOf_9075b_20 rfl (lv_at hl 0 rfl) ?_
  refine lv_iconst (v := 0) hx hb dJ7_copyOf_9075b_21 (by decide) ?_
  refine lv_aload_n hx hb dJ7_copyOf_9075b_22 rfl (lv_at hl 1 rfl) ?_
  have hk1 : k0 < n + 1 ∧ va_up w n (.inl (cg 1, N1, .inl fun _ => 0)) k0 = byV cg N f := ⟨by have := hk.1; omega, by rw [vne (by have := hk.1; omega)]; exact hk.2⟩
  refine nw_alen (v := nI N) X hP hk1 rfl rfl dJ7_copyOf_9075b_23 ?_
  refine lv_iload_n hx hb dJ7_copyOf_9075b_24 rfl (lv_at hl 2 rfl) ?_
  refine gMin X rfl tw552 tw553 tw19 tw554 (Nat.le_of_ble_eq_true rfl) hl.1 (Nat.le_of_ble_eq_true rfl) ⟨by show 0 + 1 ≤ 1; omega, by show 0 + N1 ≤ N1; omega⟩ dJ7_copyOf_9075b_25 ?_
  rw [if_neg (show ¬ nI N1 < nI N from nI_nlt (by omega) (by omega))]
  refine nw_cpy X hl.1 hP hS (Or.inl (Nat.le_add_right _ _)) hk1 ⟨Nat.lt_succ_self n, vat⟩ tw555 tw557 tw556 tw21 (by rw [nI_c (by omega)]; exact Nat.le_refl _) (by rw [nI_c (by omega)]; omega) (show ¬ nI N < (0 : Int32) from nI_nlt (b := 0) (Nat.zero_le _) (by omega)) (fun i _ => asc_fit ha i) (Nat.le_of_ble_eq_true rfl) (Nat.le_of_ble_eq_true rfl) dJ7_copyOf_9075b_28 (fun H locs hP hS => ?_)
  rw [nI_c (by omega), up_up] at hP
  refine lv_aload_n hx hb dJ7_copyOf_9075b_31 rfl (lv_at hl 0 rfl) ?_
  exact hret _ _ _ _ _ _ _ dJ7_copyOf_9075b_32 hP rfl hS (by show 0 + 1 ≤ 1; omega) (by show 0 + N1 ≤ N1; omega))
theorem vN5_ensure0 {m0 ms : Nat} (he : p0 < n ∧ w p0 = sbV (bs + k0) mb cn) (hk : k0 < n ∧ w k0 = byV cg N f) (h1 : m0 ≤ N) (hN : N ≤ 1000) : gMetVA l yJ5_ensureCapacityInternal_d00df cJ5_ensureCapacityInternal_d00df 3 3 1 ms (nΩ bs) (nP dC dI cg kA bs) (kR kTab kA) [.ref (bs + p0), .int (nI m0)] (n, w) (n, w) := gEntryVA (by decide) nOK (Nat.le_of_ble_eq_true rfl) (fun p e s m args below meth c Q ls X hP hS hret hl => by
  have hx := X.hx
  have hb := X.hb
  have hP : nP dC dI cg kA bs (n, w) s s.heap := hP
  refine lv_aload_n hx hb dJ5_ensureCapacityInternal_d00df_0 rfl (lv_at hl 0 rfl) ?_
  refine nw_getI (k := 0) X hP he rfl (rfl : vwCl[1]? = some (RJ4, TJ4, 4)) cinJ4 (by decide) tw71 dJ5_ensureCapacityInternal_d00df_1 ?_
  refine nw_alen (v := nI N) X hP hk rfl rfl dJ5_ensureCapacityInternal_d00df_4 ?_
  refine lv_aload_n hx hb dJ5_ensureCapacityInternal_d00df_5 rfl (lv_at hl 0 rfl) ?_
  refine nw_getI (k := 1) X hP he rfl (rfl : vwCl[1]? = some (RJ4, TJ4, 4)) cinJ4 (by decide) tw72 dJ5_ensureCapacityInternal_d00df_6 ?_
  refine lv_ishr hx hb dJ5_ensureCapacityInternal_d00df_9 ?_
  rw [shr0]
  refine lv_istore_n (lv' := [(2, .int (nI N)), (0, .ref (bs + p0)), (1, .int (nI m0))]) hx hb dJ5_ensureCapacityInternal_d00df_10 rfl hl (by decide) rfl (fun ls hl => ?_)
  refine lv_iload_n hx hb dJ5_ensureCapacityInternal_d00df_11 rfl (lv_at hl 2 rfl) ?_
  refine lv_iload_n hx hb dJ5_ensureCapacityInternal_d00df_12 rfl (lv_at hl 0 rfl) ?_
  refine lv_isub hx hb dJ5_ensureCapacityInternal_d00df_13 ?_
  refine lv_if_le (tgt := 38) hx hb dJ5_ensureCapacityInternal_d00df_14 (by decide) (fun _ => ?_) (fun c1 => absurd (by rw [Int32.le_iff_toInt_le, pk_sub_toInt (by omega) (by omega)]; show _ ≤ (0 : Int); omega) c1)
  exact hret _ _ _ _ _ _ dJ5_ensureCapacityInternal_d00df_38 hP hS (Nat.zero_le _) (Nat.zero_le _))
theorem vN5_ensureG {m0 ms : Nat} (he : p0 < n ∧ w p0 = sbV (bs + k0) mb cn) (hk : k0 < n ∧ w k0 = byV cg N f) (ha : asc f) (h1 : N < m0) (h2 : m0 < 2 * N + 2) (hN : N ≤ 1000) (hms : N + (N + 2) ≤ ms) : gMetVA l yJ5_ensureCapacityInternal_d00df cJ5_ensureCapacityInternal_d00df 3 3 1 ms (nΩ bs) (nP dC dI cg kA bs) (kR kTab kA) [.ref (bs + p0), .int (nI m0)] (n, w) (n + 1, va_up (va_up w n (byV cg (N + (N + 2)) (va_cpy f (fun _ => 0) 0 0 N))) p0 (sbV (bs + n) mb cn)) := gEntryVA (by decide) nOK (Nat.le_of_ble_eq_true rfl) (fun p e s m args below meth c Q ls X hP hS hret hl => by
  have hx := X.hx
  have hb := X.hb
  have hP : nP dC dI cg kA bs (n, w) s s.heap := hP
  refine lv_aload_n hx hb dJ5_ensureCapacityInternal_d00df_0 rfl (lv_at hl 0 rfl) ?_
  refine nw_getI (k := 0) X hP he rfl (rfl : vwCl[1]? = some (RJ4, TJ4, 4)) cinJ4 (by decide) tw71 dJ5_ensureCapacityInternal_d00df_1 ?_
  refine nw_alen (v := nI N) X hP hk rfl rfl dJ5_ensureCapacityInternal_d00df_4 ?_
  refine lv_aload_n hx hb dJ5_ensureCapacityInternal_d00df_5 rfl (lv_at hl 0 rfl) ?_
  refine nw_getI (k := 1) X hP he rfl (rfl : vwCl[1]? = some (RJ4, TJ4, 4)) cinJ4 (by decide) tw72 dJ5_ensureCapacityInternal_d00df_6 ?_
  refine lv_ishr hx hb dJ5_ensureCapacityInternal_d00df_9 ?_
  rw [shr0]
  refine lv_istore_n (lv' := [(2, .int (nI N)), (0, .ref (bs + p0)), (1, .int (nI m0))]) hx hb dJ5_ensureCapacityInternal_d00df_10 rfl hl (by decide) rfl (fun ls hl => ?_)
  refine lv_iload_n hx hb dJ5_ensureCapacityInternal_d00df_11 rfl (lv_at hl 2 rfl) ?_
  refine lv_iload_n hx hb dJ5_ensureCapacityInternal_d00df_12 rfl (lv_at hl 0 rfl) ?_
  refine lv_isub hx hb dJ5_ensureCapacityInternal_d00df_13 ?_
  rw [show ((nI m0) - (nI N) : Int32) = nI (m0 - N) from pk_sub (by omega)]
  refine lv_if_le (tgt := 38) hx hb dJ5_ensureCapacityInternal_d00df_14 (by decide) (fun c1 => absurd c1 (fun z => lt_le.mpr z (nI_lt (a := 0) (b := m0 - N) (by omega) (by omega)))) (fun _ => ?_)
  refine lv_aload_n hx hb dJ5_ensureCapacityInternal_d00df_17 rfl (lv_at hl 1 rfl) ?_
  refine lv_aload_n hx hb dJ5_ensureCapacityInternal_d00df_18 rfl (lv_at hl 1 rfl) ?_
  refine nw_getI (k := 0) X hP he rfl (rfl : vwCl[1]? = some (RJ4, TJ4, 4)) cinJ4 (by decide) tw71 dJ5_ensureCapacityInternal_d00df_19 ?_
  refine lv_aload_n hx hb dJ5_ensureCapacityInternal_d00df_22 rfl (lv_at hl 1 rfl) ?_
  refine lv_iload_n hx hb dJ5_ensureCapacityInternal_d00df_23 rfl (lv_at hl 2 rfl) ?_
  refine gCallWI X nOK (gMetIA.of (vN5_newCapacity (dC := dC) (dI := dI) (cg := cg) (kA := kA) (bs := bs) he hk h1 h2 hN)) (cwC 1 X (wT_good tw530) tw527 tw3 tw529 (va_tabs rfl rfl (X.ks.2.2.1 _ (sbW_n (y := yJ5_newCapacity_0f7a4) (Or.inl rfl)))) ⟨by decide, by decide, by decide +kernel⟩ ⟨by decide, by decide⟩) rfl hP hS (noFn hS) (sb_rec hP he) hl.1 (Nat.le_of_ble_eq_true rfl) ⟨by omega, by omega⟩ dJ5_ensureCapacityInternal_d00df_24 (As := [.int (nI m0)]) (rest := [.ref (bs + k0), .ref (bs + p0)]) rfl (fun H locs hP hS => ?_)
  refine lv_aload_n hx hb dJ5_ensureCapacityInternal_d00df_27 rfl (lv_at hl 1 rfl) ?_
  refine nw_getI (k := 1) X hP he rfl (rfl : vwCl[1]? = some (RJ4, TJ4, 4)) cinJ4 (by decide) tw72 dJ5_ensureCapacityInternal_d00df_28 ?_
  refine lv_ishl hx hb dJ5_ensureCapacityInternal_d00df_31 ?_
  rw [shl0]
  refine gCallTO X nOK (fun _ _ _ _ _ h => h) (vN7_copyOf (dC := dC) (dI := dI) (cg := cg) (kA := kA) (bs := bs) (N1 := N + (N + 2)) hk ha (by omega) (by omega)) ⟨callB_of 2 X.hts (wT_good tw544) rfl rfl rfl (X.hts _ tw20) (X.hts _ tw542) ⟨by decide, by decide, by decide +kernel⟩ ⟨Nat.le_of_ble_eq_true rfl, Nat.le_of_ble_eq_true rfl⟩, X.hts _ tw543⟩ rfl hP hS (Fr_le hS.1) hl.1 (Nat.le_of_ble_eq_true rfl) ⟨by show 0 + 0 + 1 ≤ 1; omega, by show 0 + 0 + _ ≤ ms; omega⟩ dJ5_ensureCapacityInternal_d00df_32 (As := [.ref (bs + k0), .int (nI (N + (N + 2)))]) (rest := [.ref (bs + p0)]) rfl (fun H locs a hP hB hS => ?_)
  have hB : a = bs + n := hB
  subst hB
  refine nw_putJ (k := 0) X hP hS (Or.inl (Nat.le_add_right _ _)) ⟨by have := he.1; omega, (vne (by have := he.1; omega)).trans he.2⟩ (rfl : vwCl[1]? = some (RJ4, TJ4, 4)) cinJ4 tyJ4_ok nmJ4 (by decide) rfl rfl rfl (Nat.le_of_ble_eq_true rfl) tw71 dJ5_ensureCapacityInternal_d00df_35 (fun H locs hP hS => ?_)
  exact hret _ _ _ _ _ _ dJ5_ensureCapacityInternal_d00df_38 hP hS (by omega) (by omega))
end NSB1
