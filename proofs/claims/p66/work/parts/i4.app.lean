theorem tw1491 : (Jvm.Cond.methodLink "java/lang/StringBuilder" (53 : Nat) ({ cls := "java/lang/AbstractStringBuilder", name := "append", desc := "(I)Ljava/lang/AbstractStringBuilder;" } : Jvm.MethodName)) ∈ TBG := tb_t 1491 (by decide +kernel) (by decide +kernel)
theorem tw1492 : (Jvm.Cond.instanceMethod ({ cls := "java/lang/AbstractStringBuilder", name := "append", desc := "(I)Ljava/lang/AbstractStringBuilder;" } : Jvm.MethodName)) ∈ TBG := tb_t 1492 (by decide +kernel) (by decide +kernel)
theorem tw1493 : (Jvm.Cond.code ({ cls := "java/lang/AbstractStringBuilder", name := "append", desc := "(I)Ljava/lang/AbstractStringBuilder;" } : Jvm.MethodName) prog_18_method_32_code (4 : Nat) (Option.some (Jvm.ClassFile.FieldType.object "java/lang/AbstractStringBuilder"))) ∈ TBG := tb_t 1493 (by decide +kernel) (by decide +kernel)
theorem tw1494 : (Jvm.Cond.methodLink "java/lang/AbstractStringBuilder" (245 : Nat) ({ cls := "java/lang/Integer", name := "stringSize", desc := "(I)I" } : Jvm.MethodName)) ∈ TBG := tb_t 1494 (by decide +kernel) (by decide +kernel)
theorem tw1495 : (Jvm.Cond.static ({ cls := "java/lang/Integer", name := "stringSize", desc := "(I)I" } : Jvm.MethodName)) ∈ TBG := tb_t 1495 (by decide +kernel) (by decide +kernel)
theorem tw1496 : (Jvm.Cond.code ({ cls := "java/lang/Integer", name := "stringSize", desc := "(I)I" } : Jvm.MethodName) prog_27_method_13_code (4 : Nat) (Option.some Jvm.ClassFile.FieldType.int)) ∈ TBG := tb_t 1496 (by decide +kernel) (by decide +kernel)
theorem tw1497 : (Jvm.Cond.methodLink "java/lang/AbstractStringBuilder" (248 : Nat) ({ cls := "java/lang/Integer", name := "getChars", desc := "(II[B)I" } : Jvm.MethodName)) ∈ TBG := tb_t 1497 (by decide +kernel) (by decide +kernel)
theorem tw1498 : (Jvm.Cond.static ({ cls := "java/lang/Integer", name := "getChars", desc := "(II[B)I" } : Jvm.MethodName)) ∈ TBG := tb_t 1498 (by decide +kernel) (by decide +kernel)
theorem tw1499 : (Jvm.Cond.code ({ cls := "java/lang/Integer", name := "getChars", desc := "(II[B)I" } : Jvm.MethodName) prog_27_method_12_code (7 : Nat) (Option.some Jvm.ClassFile.FieldType.int)) ∈ TBG := tb_t 1499 (by decide +kernel) (by decide +kernel)
theorem tw1592 : (Jvm.Cond.sameMethod "java/lang/AbstractStringBuilder" "java/lang/AbstractStringBuilder" "append" "(I)Ljava/lang/AbstractStringBuilder;") ∈ TBG := tb_t 1592 (by decide +kernel) (by decide +kernel)
/-! append(int) -/
section NSB4
variable {l : Launch} {dC : Nat → ClassId} {dI : Nat → Nat → Nat} {cg : Nat → ClassId} {kA : String → Nat → Nat} {bs n p0 k0 N v dO dT : Nat} {w : Nat → va_E} {mb cn : Int32} {f : Nat → Int32} {F : State → Heap → Prop}
theorem gs_strSize : GoodIn TBG (va_wsS RJ5 245 yJ6_stringSize_0f7a4 (wT yJ6_stringSize_0f7a4 cJ6_stringSize_0f7a4 4 (some .int))) := gT_S tw1494 tw1495 tw28 tw1496
theorem vN5_appendI {X1 : NW} {mb1 : Int32} {j k1 N1 : Nat} {f1 : Nat → Int32} (hF : gFs (nΩ bs) F) (hd : ∀ U H, F U H → dgP dO dT bs U H) (hv : v < 128) (he : p0 < n ∧ w p0 = sbV (bs + k0) mb (nI j)) (hE : gMetVA l yJ5_ensureCapacityInternal_d00df cJ5_ensureCapacityInternal_d00df 3 3 1 500 (nΩ bs) (nP dC dI cg kA bs) (kR kTab kA) [.ref (bs + p0), .int (nI (j + (dgL v).length))] (n, w) X1) (he1 : p0 < X1.1 ∧ X1.2 p0 = sbV (bs + k1) mb1 (nI j)) (hk1 : k1 < X1.1 ∧ X1.2 k1 = byV cg N1 f1) (hj : j + (dgL v).length ≤ N1) (hN : N1 ≤ 500) : gMetO l yJ5_append_c97b9 cJ5_append_c97b9 4 (some (.object "java/lang/AbstractStringBuilder")) 4 1 500 (nΩ bs) (gF (nP dC dI cg kA bs) F) (kR kTab kA) [.ref (bs + p0), .int (nI v)] (n, w) (X1.1, va_up (va_up X1.2 p0 (sbV (bs + k1) mb1 (nI (j + (dgL v).length)))) k1 (byV cg N1 (va_cpy (fun i => (dgL v).getD i 0) f1 0 j (dgL v).length))) (fun a _ _ => a = bs + p0) := gEntryO (rt := .object "java/lang/AbstractStringBuilder") (by decide) rfl (Or.inl ⟨_, rfl⟩) (gF_ok nOK hF) (fun _ _ _ _ _ h => h) (Nat.le_of_ble_eq_true rfl) (fun p e s m args below meth c Q ls X hP hS hret hl => by
  have hx := X.hx
  have hb := X.hb
  have hP : gF (nP dC dI cg kA bs) F (n, w) s s.heap := hP
  have hne := sb_ne he1.2 hk1.2
  refine lv_aload_n hx hb dJ5_append_c97b9_0 rfl (lv_at hl 0 rfl) ?_
  refine nw_getI (k := 3) X hP.1 he rfl (rfl : vwCl[1]? = some (RJ4, TJ4, 4)) cinJ4 (by decide) tw75 dJ5_append_c97b9_1 ?_
  refine lv_istore_n (lv' := [(2, .int (nI j)), (0, .ref (bs + p0)), (1, .int (nI v))]) hx hb dJ5_append_c97b9_4 rfl hl (by decide) rfl (fun ls hl => ?_)
  refine lv_iload_n hx hb dJ5_append_c97b9_5 rfl (lv_at hl 0 rfl) ?_
  refine lv_iload_n hx hb dJ5_append_c97b9_6 rfl (lv_at hl 2 rfl) ?_
  refine gCallSR X rfl (vJ6_stringSize hv) gs_strSize (C := "java/lang/Integer") ⟨rfl, by decide, by decide, (by decide +kernel : (parseMethodDescriptor yJ6_stringSize_0f7a4.desc).map (fun d => d.parameters.length) = some 1)⟩ rfl ⟨by decide, by decide⟩ (fun a U g mk q => ⟨q.1, trivial⟩) (fun _ _ _ => trivial) hl.1 (Nat.le_of_ble_eq_true rfl) ⟨(Nat.le_of_ble_eq_true rfl), (Nat.le_of_ble_eq_true rfl)⟩ dJ5_append_c97b9_7 (As := [.int (nI v)]) (rest := [.int (nI j)]) rfl ?_
  refine lv_iadd hx hb dJ5_append_c97b9_10 ?_
  rw [show ((nI j) + (nI (dgL v).length) : Int32) = nI (j + (dgL v).length) from nI_add _ _]
  refine lv_istore_n (lv' := [(3, .int (nI (j + (dgL v).length))), (2, .int (nI j)), (0, .ref (bs + p0)), (1, .int (nI v))]) hx hb dJ5_append_c97b9_11 rfl hl (by decide) rfl (fun ls hl => ?_)
  refine lv_aload_n hx hb dJ5_append_c97b9_12 rfl (lv_at hl 2 rfl) ?_
  refine lv_iload_n hx hb dJ5_append_c97b9_13 rfl (lv_at hl 0 rfl) ?_
  refine gCallWV X (gF_ok nOK hF) (hE.lift hF) (gEnsN X tw523 ⟨by decide, by decide⟩) rfl hP hS (Fr_le hS.1) (sb_rec hP.1 he) hl.1 (Nat.le_of_ble_eq_true rfl) ⟨(Nat.le_of_ble_eq_true rfl), (Nat.le_of_ble_eq_true rfl)⟩ dJ5_append_c97b9_14 (As := [.int (nI (j + (dgL v).length))]) (rest := []) rfl (fun H locs hP hS => ?_)
  obtain ⟨n1, w1⟩ := X1
  refine lv_aload_n hx hb dJ5_append_c97b9_17 rfl (lv_at hl 2 rfl) ?_
  refine gCallWI X (gF_ok nOK hF.no) ((gMetIA.of (vN5_isLatin1 (dC := dC) (dI := dI) (cg := cg) (kA := kA) (bs := bs) he1)).lift hF.no) (gIsl X tw558 ⟨by decide, by decide⟩) rfl hP hS (noFn hS) (sb_rec hP.1 he1) hl.1 (Nat.le_of_ble_eq_true rfl) ⟨(Nat.le_of_ble_eq_true rfl), (Nat.le_of_ble_eq_true rfl)⟩ dJ5_append_c97b9_18 (As := []) (rest := []) rfl (fun H locs hP hS => ?_)
  refine lv_if_eq (tgt := 37) hx hb dJ5_append_c97b9_21 (by decide) (fun c1 => absurd c1 (by decide)) (fun _ => ?_)
  refine lv_iload_n hx hb dJ5_append_c97b9_24 rfl (lv_at hl 3 rfl) ?_
  refine lv_iload_n hx hb dJ5_append_c97b9_25 rfl (lv_at hl 0 rfl) ?_
  refine lv_aload_n hx hb dJ5_append_c97b9_26 rfl (lv_at hl 2 rfl) ?_
  refine nw_getI (k := 0) X hP.1 he1 rfl (rfl : vwCl[1]? = some (RJ4, TJ4, 4)) cinJ4 (by decide) tw71 dJ5_append_c97b9_27 ?_
  refine gCallTI X (gF_ok nOK hF) (vJ6_getChars (dC := dC) (dI := dI) (kA := kA) (dO := dO) (dT := dT) hv hF hd hk1 hj hN) ⟨callB_of 3 X.hts (wT_good tw1499) rfl rfl rfl (X.hts _ tw28) (X.hts _ tw1497) ⟨by decide, by decide, by decide +kernel⟩ ⟨Nat.le_of_ble_eq_true rfl, Nat.le_of_ble_eq_true rfl⟩, X.hts _ tw1498⟩ rfl hP hS (Fr_le hS.1) hl.1 (Nat.le_of_ble_eq_true rfl) ⟨(Nat.le_of_ble_eq_true rfl), (Nat.le_of_ble_eq_true rfl)⟩ dJ5_append_c97b9_30 (As := [.int (nI v), .int (nI (j + (dgL v).length)), .ref (bs + k1)]) (rest := []) rfl (fun H locs hP hS => ?_)
  refine lv_pop hx hb dJ5_append_c97b9_33 rfl ?_
  refine lv_goto (tgt := 48) hx hb dJ5_append_c97b9_34 (by decide) ?_
  have he2 : p0 < n1 ∧ va_up w1 k1 (byV cg N1 (va_cpy (fun i => (dgL v).getD i 0) f1 0 j (dgL v).length)) p0 = sbV (bs + k1) mb1 (nI j) := ⟨he1.1, (vne (Ne.symm hne)).trans he1.2⟩
  refine lv_aload_n hx hb dJ5_append_c97b9_48 rfl (lv_at hl 2 rfl) ?_
  refine lv_iload_n hx hb dJ5_append_c97b9_49 rfl (lv_at hl 0 rfl) ?_
  refine nF_putI (k := 3) X hF hP hS (Or.inl (Nat.le_add_right _ _)) he2 (rfl : vwCl[1]? = some (RJ4, TJ4, 4)) cinJ4 tyJ4_ok nmJ4 (by decide) rfl rfl rfl (Nat.le_of_ble_eq_true rfl) tw75 dJ5_append_c97b9_50 (fun H locs hP hS => ?_)
  refine lv_aload_n hx hb dJ5_append_c97b9_53 rfl (lv_at hl 2 rfl) ?_
  have hP : gF (nP dC dI cg kA bs) F (n1, va_up (va_up w1 k1 (byV cg N1 (va_cpy (fun i => (dgL v).getD i 0) f1 0 j (dgL v).length))) p0 (sbV (bs + k1) mb1 (nI (j + (dgL v).length)))) s H := hP
  rw [vcm hne] at hP
  exact hret _ _ _ _ _ _ _ dJ5_append_c97b9_54 hP rfl hS (Nat.le_of_ble_eq_true rfl) (Nat.le_of_ble_eq_true rfl))
theorem vN4_appendI {t : List Int32} (hF : gFs (nΩ bs) F) (hd : ∀ U H, F U H → dgP dO dT bs U H) (hv : v < 128) (h : SBI cg bs p0 t (n, w)) (hT : t.length + (dgL v).length ≤ 240) : ∃ X1, SBI cg bs p0 (t ++ dgL v) X1 ∧ KP cg p0 (n, w) X1 ∧ gMetO l yJ4_append_bf812 cJ4_append_bf812 2 (some (.object "java/lang/StringBuilder")) 5 1 500 (nΩ bs) (gF (nP dC dI cg kA bs) F) (kR kTab kA) [.ref (bs + p0), .int (nI v)] (n, w) X1 (fun a _ _ => a = bs + p0) := by
  have hL3 := (dgL_len (v := v)).2
  obtain ⟨k0, N, f, mb, he, hk, -⟩ := id h
  obtain ⟨X1, k1, N1, f1, mb1, he1, hk1, ha1, hN1, hf1, kp, hE⟩ := sb_ens (l := l) (dC := dC) (dI := dI) (kA := kA) (m := (dgL v).length) h hT (by omega)
  have hM := vN5_appendI (l := l) (dC := dC) (dI := dI) (kA := kA) (dO := dO) (dT := dT) (j := t.length) hF hd hv he hE he1 hk1 (by omega) (by omega)
  have hL : (t ++ dgL v).length = t.length + (dgL v).length := by simp
  rw [← hL] at hM
  refine ⟨_, SBI.mk (g := va_cpy (fun i => (dgL v).getD i 0) f1 0 t.length (dgL v).length) (t' := t ++ dgL v) he1.1 hk1.1 (sb_ne he1.2 hk1.2) (asc_cpy (asc_T (dgL_asc hv)) ha1) ⟨by omega, hN1.2⟩ (fun j hj => ?_), kp.tr (KP.up2 hk1.2), gEntryO (rt := .object "java/lang/StringBuilder") (by decide) rfl (Or.inl ⟨_, rfl⟩) (gF_ok nOK hF) (fun _ _ _ _ _ h => h) (Nat.le_of_ble_eq_true rfl) (fun p e s m args below meth c Q ls X hP hS hret hl => by
    have hx := X.hx
    have hb := X.hb
    have hP : gF (nP dC dI cg kA bs) F (n, w) s s.heap := hP
    refine lv_aload_n hx hb dJ4_append_bf812_0 rfl (lv_at hl 0 rfl) ?_
    refine lv_iload_n hx hb dJ4_append_bf812_1 rfl (lv_at hl 1 rfl) ?_
    refine gCallPO (sb_cl hP.1) X (gF_ok nOK hF) (fun _ _ _ _ _ h => h) hM (va_cwSU 1 X.hts (gT_SU tw1491 tw1592 tw84 tw1492 tw3 tw1493) rfl rfl rfl ⟨by decide, by decide +kernel⟩ ⟨by decide, by decide⟩) rfl hP hS (Fr_le hS.1) (sb_rec hP.1 he) hl.1 (Nat.le_of_ble_eq_true rfl) ⟨(Nat.le_of_ble_eq_true rfl), (Nat.le_of_ble_eq_true rfl)⟩ dJ4_append_bf812_2 (As := [.int (nI v)]) (rest := []) rfl (fun H locs a hP hB hS => ?_)
    refine lv_pop hx hb dJ4_append_bf812_5 rfl ?_
    refine lv_aload_n hx hb dJ4_append_bf812_6 rfl (lv_at hl 0 rfl) ?_
    exact hret _ _ _ _ _ _ _ dJ4_append_bf812_7 hP rfl hS (Nat.le_of_ble_eq_true rfl) (Nat.le_of_ble_eq_true rfl))⟩
  rw [getD_app hj]
  split
  · rw [pk_cpy_out (Or.inl (by assumption))]
    exact hf1 j (by assumption)
  · rw [pk_cpy_in (by omega) (by rw [List.length_append] at hj; omega), Nat.zero_add]
end NSB4
