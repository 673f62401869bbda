theorem tw1451 : (Jvm.Cond.methodLink "java/lang/StringBuilder" (29 : Nat) ({ cls := "java/lang/AbstractStringBuilder", name := "append", desc := "(Ljava/lang/String;)Ljava/lang/AbstractStringBuilder;" } : Jvm.MethodName)) ∈ TBG := tb_t 1451 (by decide +kernel) (by decide +kernel)
theorem tw1452 : (Jvm.Cond.instanceMethod ({ cls := "java/lang/AbstractStringBuilder", name := "append", desc := "(Ljava/lang/String;)Ljava/lang/AbstractStringBuilder;" } : Jvm.MethodName)) ∈ TBG := tb_t 1452 (by decide +kernel) (by decide +kernel)
theorem tw1453 : (Jvm.Cond.code ({ cls := "java/lang/AbstractStringBuilder", name := "append", desc := "(Ljava/lang/String;)Ljava/lang/AbstractStringBuilder;" } : Jvm.MethodName) prog_18_method_22_code (3 : Nat) (Option.some (Jvm.ClassFile.FieldType.object "java/lang/AbstractStringBuilder"))) ∈ TBG := tb_t 1453 (by decide +kernel) (by decide +kernel)
theorem tw1470 : (Jvm.Cond.methodLink "java/lang/AbstractStringBuilder" (32 : Nat) ({ cls := "java/lang/String", name := "length", desc := "()I" } : Jvm.MethodName)) ∈ TBG := tb_t 1470 (by decide +kernel) (by decide +kernel)
theorem tw1471 : (Jvm.Cond.methodLink "java/lang/AbstractStringBuilder" (208 : Nat) ({ cls := "java/lang/AbstractStringBuilder", name := "putStringAt", desc := "(ILjava/lang/String;)V" } : Jvm.MethodName)) ∈ TBG := tb_t 1471 (by decide +kernel) (by decide +kernel)
theorem tw1473 : (Jvm.Cond.instanceMethod ({ cls := "java/lang/AbstractStringBuilder", name := "putStringAt", desc := "(ILjava/lang/String;)V" } : Jvm.MethodName)) ∈ TBG := tb_t 1473 (by decide +kernel) (by decide +kernel)
theorem tw1474 : (Jvm.Cond.code ({ cls := "java/lang/AbstractStringBuilder", name := "putStringAt", desc := "(ILjava/lang/String;)V" } : Jvm.MethodName) prog_18_method_73_code (3 : Nat) (Option.none : Option Jvm.ClassFile.FieldType)) ∈ TBG := tb_t 1474 (by decide +kernel) (by decide +kernel)
theorem tw1475 : (Jvm.Cond.methodLink "java/lang/AbstractStringBuilder" (397 : Nat) ({ cls := "java/lang/AbstractStringBuilder", name := "inflateIfNeededFor", desc := "(Ljava/lang/String;)V" } : Jvm.MethodName)) ∈ TBG := tb_t 1475 (by decide +kernel) (by decide +kernel)
theorem tw1477 : (Jvm.Cond.instanceMethod ({ cls := "java/lang/AbstractStringBuilder", name := "inflateIfNeededFor", desc := "(Ljava/lang/String;)V" } : Jvm.MethodName)) ∈ TBG := tb_t 1477 (by decide +kernel) (by decide +kernel)
theorem tw1478 : (Jvm.Cond.code ({ cls := "java/lang/AbstractStringBuilder", name := "inflateIfNeededFor", desc := "(Ljava/lang/String;)V" } : Jvm.MethodName) prog_18_method_71_code (2 : Nat) (Option.none : Option Jvm.ClassFile.FieldType)) ∈ TBG := tb_t 1478 (by decide +kernel) (by decide +kernel)
theorem tw1479 : (Jvm.Cond.methodLink "java/lang/AbstractStringBuilder" (40 : Nat) ({ cls := "java/lang/String", name := "coder", desc := "()B" } : Jvm.MethodName)) ∈ TBG := tb_t 1479 (by decide +kernel) (by decide +kernel)
theorem tw1480 : (Jvm.Cond.methodLink "java/lang/AbstractStringBuilder" (399 : Nat) ({ cls := "java/lang/String", name := "getBytes", desc := "([BIB)V" } : Jvm.MethodName)) ∈ TBG := tb_t 1480 (by decide +kernel) (by decide +kernel)
theorem tw1481 : (Jvm.Cond.instanceMethod ({ cls := "java/lang/String", name := "getBytes", desc := "([BIB)V" } : Jvm.MethodName)) ∈ TBG := tb_t 1481 (by decide +kernel) (by decide +kernel)
theorem tw1482 : (Jvm.Cond.selects "java/lang/String" ({ cls := "java/lang/String", name := "getBytes", desc := "([BIB)V" } : Jvm.MethodName) ({ cls := "java/lang/String", name := "getBytes", desc := "([BIB)V" } : Jvm.MethodName)) ∈ TBG := tb_t 1482 (by decide +kernel) (by decide +kernel)
theorem tw1483 : (Jvm.Cond.code ({ cls := "java/lang/String", name := "getBytes", desc := "([BIB)V" } : Jvm.MethodName) prog_33_method_147_code (4 : Nat) (Option.none : Option Jvm.ClassFile.FieldType)) ∈ TBG := tb_t 1483 (by decide +kernel) (by decide +kernel)
theorem tw1484 : (Jvm.Cond.methodLink "java/lang/String" (212 : Nat) ({ cls := "java/lang/System", name := "arraycopy", desc := "(Ljava/lang/Object;ILjava/lang/Object;II)V" } : Jvm.MethodName)) ∈ TBG := tb_t 1484 (by decide +kernel) (by decide +kernel)
theorem tw1588 : (Jvm.Cond.sameMethod "java/lang/AbstractStringBuilder" "java/lang/AbstractStringBuilder" "append" "(Ljava/lang/String;)Ljava/lang/AbstractStringBuilder;") ∈ TBG := tb_t 1588 (by decide +kernel) (by decide +kernel)
/-! StringBuilder over growing worlds: letters and texts appended -/
section NSB2
variable {l : Launch} {dC : Nat → ClassId} {dI : Nat → Nat → Nat} {cg : Nat → ClassId} {kA : String → Nat → Nat} {bs n p0 k0 N : Nat} {w : Nat → va_E} {mb cn : Int32} {f : Nat → Int32} {T : List Int32} {sa : Nat}
theorem asc_d : ∀ q : Fin 128, (Int32.ofNat q.val).toInt8.toInt32 = Int32.ofNat q.val ∧ vp_nar .byte (Int32.ofNat q.val) = Int32.ofNat q.val ∧ ¬ 255 < Int32.ofNat q.val ∧ ((Int32.ofNat q.val).toUInt32 % 65536).toInt32 = Int32.ofNat q.val := by decide +kernel
theorem asc_b {x : Int32} (h : ∃ q : Fin 128, x = Int32.ofNat q.val) : x.toInt8.toInt32 = x ∧ vp_nar .byte x = x ∧ ¬ 255 < x ∧ (x.toUInt32 % 65536).toInt32 = x := by
  obtain ⟨q, rfl⟩ := h
  exact asc_d q
/-- places other than the StringBuilder and byte arrays are kept -/
def KP (cg : Nat → ClassId) (p0 : Nat) (X X' : NW) : Prop := X.1 ≤ X'.1 ∧ ∀ q, q < X.1 → q ≠ p0 → (∀ N f, X.2 q ≠ byV cg N f) → X'.2 q = X.2 q
theorem KP.rf {X : NW} : KP cg p0 X X := ⟨Nat.le_refl _, fun _ _ _ _ => rfl⟩
theorem KP.at {X X' : NW} (h : KP cg p0 X X') {q : Nat} {r : va_E} (hq : q < X.1 ∧ X.2 q = r) (hn : q ≠ p0) (hr : ∀ N f, r ≠ byV cg N f) : q < X'.1 ∧ X'.2 q = r := ⟨Nat.lt_of_lt_of_le hq.1 h.1, (h.2 q hq.1 hn (fun N f => by rw [hq.2]; exact hr N f)).trans hq.2⟩
theorem KP.tr {X X' X'' : NW} (h : KP cg p0 X X') (h' : KP cg p0 X' X'') : KP cg p0 X X'' := ⟨Nat.le_trans h.1 h'.1, fun q hq hn hr => by
  have e := h.2 q hq hn hr
  rw [← e]
  exact h'.2 q (Nat.lt_of_lt_of_le hq h.1) hn (fun N f => by rw [e]; exact hr N f)⟩
/-- the StringBuilder at p0 holds the text t -/
def SBI (cg : Nat → ClassId) (bs p0 : Nat) (t : List Int32) (X : NW) : Prop := ∃ k0 N f mb, (p0 < X.1 ∧ X.2 p0 = sbV (bs + k0) mb (nI t.length)) ∧ (k0 < X.1 ∧ X.2 k0 = byV cg N f) ∧ asc f ∧ (t.length ≤ N ∧ 16 ≤ N ∧ N ≤ 500) ∧ ∀ j, j < t.length → f j = t.getD j 0
theorem sb_by {a : Nat} {mb cn : Int32} : ∀ N f, sbV a mb cn ≠ byV cg N f := fun N f z => by cases z
/-- room for m letters more -/
theorem sb_ens {t : List Int32} {m : Nat} (h : SBI cg bs p0 t (n, w)) (hT : t.length + m ≤ 240) (hm : m ≤ 16) : ∃ (X1 : NW) (k1 N1 : Nat) (f1 : Nat → Int32) (mb : Int32), (p0 < X1.1 ∧ X1.2 p0 = sbV (bs + k1) mb (nI t.length)) ∧ (k1 < X1.1 ∧ X1.2 k1 = byV cg N1 f1) ∧ asc f1 ∧ (t.length + m ≤ N1 ∧ 16 ≤ N1 ∧ N1 ≤ 500) ∧ (∀ j, j < t.length → f1 j = t.getD j 0) ∧ KP cg p0 (n, w) X1 ∧ gMetVA l yJ5_ensureCapacityInternal_d00df cJ5_ensureCapacityInternal_d00df 3 3 1 500 (nΩ bs) (nP dC dI cg kA bs) (kR kTab kA) [.ref (bs + p0), .int (nI (t.length + m))] (n, w) X1 := by
  obtain ⟨k0, N, f, mb, he, hk, ha, hN, hf⟩ := h
  by_cases c : t.length + m ≤ N
  · exact ⟨(n, w), k0, N, f, mb, he, hk, ha, ⟨c, hN.2⟩, hf, KP.rf, vN5_ensure0 he hk c (by omega)⟩
  · have hpn : p0 < n := he.1
    have hkn : k0 < n := hk.1
    refine ⟨_, n, N + (N + 2), va_cpy f (fun _ => 0) 0 0 N, mb, ⟨(by show p0 < n + 1; omega), vat⟩, ⟨(by show n < n + 1; omega), (vne (by omega)).trans vat⟩, asc_cpy ha asc_0, ⟨by omega, by omega, by omega⟩, fun j hj => ?_, ⟨by show n ≤ n + 1; omega, fun q hq hn hr => ?_⟩, vN5_ensureG he hk ha (by omega) (by omega) (by omega) (by omega)⟩
    · rw [pk_cpy_in (by omega) (by omega), Nat.zero_add, Nat.sub_zero]
      exact hf j hj
    · have hq : q < n := hq
      show va_up (va_up w n _) p0 _ q = w q
      rw [vne hn, vne (by omega)]
theorem gEnsN {p : Program} {s : State} {m : MethodId} {args : Array Value} {c : Code} {cc : ByteArray} {nL idx lev mc0 ms0 : Nat} (X : gX p s m args c cc nL "java/lang/AbstractStringBuilder" (kR kTab kA)) (hl : Cond.methodLink "java/lang/AbstractStringBuilder" idx yJ5_ensureCapacityInternal_d00df ∈ TBG) (hR : 3 + 1 ≤ lev ∧ 8 + (3 + 11) + 38 * 3 ≤ 38 * lev) :
    CallW (rmL lev mc0 ms0) s args "java/lang/AbstractStringBuilder" "java/lang/StringBuilder" idx yJ5_ensureCapacityInternal_d00df cJ5_ensureCapacityInternal_d00df 3 none (wT yJ5_ensureCapacityInternal_d00df cJ5_ensureCapacityInternal_d00df 3 none) (rmL 3 1 500) 1 500 1 :=
  cwC 1 X (wT_good tw526) hl tw3 tw525 (va_tabs (c := sbW) rfl rfl (X.ks.2.2.1 _ sbW_in)) ⟨by decide, by decide, by decide +kernel⟩ hR
theorem vN5_appendC {X1 : NW} {x mb1 : Int32} {j k1 N1 : Nat} {f1 : Nat → Int32} (ha : ∃ q : Fin 128, x = Int32.ofNat q.val) (he : p0 < n ∧ w p0 = sbV (bs + k0) mb (nI j)) (hE : gMetVA l yJ5_ensureCapacityInternal_d00df cJ5_ensureCapacityInternal_d00df 3 3 1 500 (nΩ bs) (nP dC dI cg kA bs) (kR kTab kA) [.ref (bs + p0), .int (nI (j + 1))] (n, w) X1) (he1 : p0 < X1.1 ∧ X1.2 p0 = sbV (bs + k1) mb1 (nI j)) (hk1 : k1 < X1.1 ∧ X1.2 k1 = byV cg N1 f1) (hj : j < N1) (hN : N1 ≤ 500) : gMetO l yJ5_append_3fe6f cJ5_append_3fe6f 2 (some (.object "java/lang/AbstractStringBuilder")) 4 1 500 (nΩ bs) (nP dC dI cg kA bs) (kR kTab kA) [.ref (bs + p0), .int x] (n, w) (X1.1, va_up (va_up X1.2 p0 (sbV (bs + k1) mb1 (nI (j + 1)))) k1 (byV cg N1 (upd f1 j x))) (fun a _ _ => a = bs + p0) := gEntryO (rt := .object "java/lang/AbstractStringBuilder") (by decide) rfl (Or.inl ⟨_, rfl⟩) nOK (fun _ _ _ _ _ h => h) (Nat.le_of_ble_eq_true rfl) (fun p e s m args below meth c Q ls X hP hS hret hl => by
  have hx := X.hx
  have hb := X.hb
  have hP : nP dC dI cg kA bs (n, w) s s.heap := hP
  have hne : k1 ≠ p0 := fun z => by
    subst z
    exact sb_by N1 f1 (he1.2.symm.trans hk1.2)
  refine lv_aload_n hx hb dJ5_append_3fe6f_0 rfl (lv_at hl 0 rfl) ?_
  refine lv_aload_n hx hb dJ5_append_3fe6f_1 rfl (lv_at hl 0 rfl) ?_
  refine nw_getI (k := 3) X hP he rfl (rfl : vwCl[1]? = some (RJ4, TJ4, 4)) cinJ4 (by decide) tw75 dJ5_append_3fe6f_2 ?_
  refine lv_iconst (v := 1) hx hb dJ5_append_3fe6f_5 (by decide) ?_
  refine lv_iadd hx hb dJ5_append_3fe6f_6 ?_
  rw [show ((nI j) + 1 : Int32) = nI (j + 1) from nI_add j 1]
  refine gCallWV X nOK hE (gEnsN X tw523 ⟨by decide, by decide⟩) rfl hP hS (Fr_le hS.1) (sb_rec hP he) hl.1 (Nat.le_of_ble_eq_true rfl) ⟨(Nat.le_of_ble_eq_true rfl), (Nat.le_of_ble_eq_true rfl)⟩ dJ5_append_3fe6f_7 (As := [.int (nI (j + 1))]) (rest := []) rfl (fun H locs hP hS => ?_)
  obtain ⟨n1, w1⟩ := X1
  refine lv_aload_n hx hb dJ5_append_3fe6f_10 rfl (lv_at hl 0 rfl) ?_
  refine gCallWI X nOK (gMetIA.of (vN5_isLatin1 (dC := dC) (dI := dI) (cg := cg) (kA := kA) (bs := bs) he1)) (gIsl X tw558 ⟨by decide, by decide⟩) rfl hP hS (noFn hS) (sb_rec hP he1) hl.1 (Nat.le_of_ble_eq_true rfl) ⟨(Nat.le_of_ble_eq_true rfl), (Nat.le_of_ble_eq_true rfl)⟩ dJ5_append_3fe6f_11 (As := []) (rest := []) rfl (fun H locs hP hS => ?_)
  refine lv_if_eq (tgt := 45) hx hb dJ5_append_3fe6f_14 (by decide) (fun c1 => absurd c1 (by decide)) (fun _ => ?_)
  refine lv_iload_n hx hb dJ5_append_3fe6f_17 rfl (lv_at hl 1 rfl) ?_
  refine gCallSR X rfl (vJ1_canEncode (asc_b ha).2.2.1) (gT_S tw583 tw584 tw16 tw585) (C := "java/lang/StringLatin1") ⟨rfl, by decide, by decide, (by decide +kernel : (parseMethodDescriptor yJ1_canEncode_fc78d.desc).map (fun d => d.parameters.length) = some 1)⟩ rfl ⟨by decide, by decide⟩ (fun a U g mk q => ⟨q.1, trivial⟩) (fun _ _ _ => trivial) hl.1 (Nat.le_of_ble_eq_true rfl) ⟨(Nat.le_of_ble_eq_true rfl), (Nat.le_of_ble_eq_true rfl)⟩ dJ5_append_3fe6f_18 (As := [.int x]) (rest := []) rfl ?_
  refine lv_if_eq (tgt := 45) hx hb dJ5_append_3fe6f_21 (by decide) (fun c1 => absurd c1 (by decide)) (fun _ => ?_)
  refine lv_aload_n hx hb dJ5_append_3fe6f_24 rfl (lv_at hl 0 rfl) ?_
  refine nw_getI (k := 0) X hP he1 rfl (rfl : vwCl[1]? = some (RJ4, TJ4, 4)) cinJ4 (by decide) tw71 dJ5_append_3fe6f_25 ?_
  refine lv_aload_n hx hb dJ5_append_3fe6f_28 rfl (lv_at hl 0 rfl) ?_
  refine lv_dup hx hb dJ5_append_3fe6f_29 rfl ?_
  refine nw_getI (k := 3) X hP he1 rfl (rfl : vwCl[1]? = some (RJ4, TJ4, 4)) cinJ4 (by decide) tw75 dJ5_append_3fe6f_30 ?_
  refine lv_dup_x1 hx hb dJ5_append_3fe6f_33 rfl rfl ?_
  refine lv_iconst (v := 1) hx hb dJ5_append_3fe6f_34 (by decide) ?_
  refine lv_iadd hx hb dJ5_append_3fe6f_35 ?_
  rw [show ((nI j) + 1 : Int32) = nI (j + 1) from nI_add j 1]
  refine nw_putJ (k := 3) X hP hS (Or.inl (Nat.le_add_right _ _)) he1 (rfl : vwCl[1]? = some (RJ4, TJ4, 4)) cinJ4 tyJ4_ok nmJ4 (by decide) rfl rfl rfl (Nat.le_of_ble_eq_true rfl) tw75 dJ5_append_3fe6f_36 (fun H locs hP hS => ?_)
  refine lv_iload_n hx hb dJ5_append_3fe6f_39 rfl (lv_at hl 1 rfl) ?_
  refine lv_i2b hx hb dJ5_append_3fe6f_40 (asc_b ha).1 ?_
  refine nw_bast X hP hS (Or.inl (Nat.le_add_right _ _)) ⟨hk1.1, (vne hne).trans hk1.2⟩ (nI_in hj (by omega)) dJ5_append_3fe6f_41 (fun H locs hP hS => ?_)
  rw [nI_c (by omega), (asc_b ha).2.1] at hP
  refine lv_goto (tgt := 75) hx hb dJ5_append_3fe6f_42 (by decide) ?_
  refine lv_aload_n hx hb dJ5_append_3fe6f_75 rfl (lv_at hl 0 rfl) ?_
  exact hret _ _ _ _ _ _ _ dJ5_append_3fe6f_76 hP rfl hS (Nat.le_of_ble_eq_true rfl) (Nat.le_of_ble_eq_true rfl))
theorem vcm {α : Type} {w : Nat → α} {k q : Nat} {a b : α} (h : k ≠ q) : va_up (va_up w k a) q b = va_up (va_up w q b) k a := funext fun z => by
  by_cases h1 : z = k
  · subst h1; rw [vne h, vat, vat]
  · by_cases h2 : z = q
    · subst h2; rw [vat, vne h1, vat]
    · rw [vne h2, vne h1, vne h1, vne h2]
theorem asc_T (h : ∀ b ∈ T, ∃ q : Fin 128, b = Int32.ofNat q.val) : asc (fun i => T.getD i 0) := fun i => by
  by_cases hi : i < T.length
  · have hm : T.getD i 0 ∈ T := by rw [List.getD_eq_getElem?_getD, List.getElem?_eq_getElem hi]; exact List.getElem_mem hi
    exact h _ hm
  · refine ⟨0, ?_⟩
    show T.getD i 0 = _
    rw [List.getD_eq_getElem?_getD, List.getElem?_eq_none (by omega)]
    rfl
theorem KP.up2 {X1 : NW} {k1 N1 : Nat} {f1 : Nat → Int32} {r r' : va_E} (hk1 : X1.2 k1 = byV cg N1 f1) : KP cg p0 X1 (X1.1, va_up (va_up X1.2 p0 r) k1 r') := ⟨Nat.le_refl _, fun q hq hn hr => by
  show va_up (va_up X1.2 p0 r) k1 r' q = X1.2 q
  have h1 : q ≠ k1 := fun z => by
    subst z
    exact hr _ _ hk1
  rw [vne h1, vne hn]⟩
theorem SBI.mk {X1 : NW} {t' : List Int32} {k1 N1 : Nat} {g : Nat → Int32} {mb1 : Int32} (h1 : p0 < X1.1) (h2 : k1 < X1.1) (hne : k1 ≠ p0) (hg : asc g) (hN : t'.length ≤ N1 ∧ 16 ≤ N1 ∧ N1 ≤ 500) (hf : ∀ j, j < t'.length → g j = t'.getD j 0) : SBI cg bs p0 t' (X1.1, va_up (va_up X1.2 p0 (sbV (bs + k1) mb1 (nI t'.length))) k1 (byV cg N1 g)) := ⟨k1, N1, g, mb1, ⟨h1, (vne (Ne.symm hne)).trans vat⟩, ⟨h2, vat⟩, hg, hN, hf⟩
theorem sb_ne {X1 : NW} {k1 N1 : Nat} {f1 : Nat → Int32} {a : Nat} {mb cn : Int32} (he1 : X1.2 p0 = sbV a mb cn) (hk1 : X1.2 k1 = byV cg N1 f1) : k1 ≠ p0 := fun z => by
  subst z
  exact sb_by N1 f1 (he1.symm.trans hk1)
theorem getD_app {t T : List Int32} {j : Nat} (h : j < (t ++ T).length) : (t ++ T).getD j 0 = if j < t.length then t.getD j 0 else T.getD (j - t.length) 0 := by
  rw [List.getD_eq_getElem?_getD, List.getD_eq_getElem?_getD, List.getD_eq_getElem?_getD]
  split
  · rw [List.getElem?_append_left (by assumption)]
  · rw [List.getElem?_append_right (by omega)]
theorem vN4_appendC {t : List Int32} {x : Int32} (h : SBI cg bs p0 t (n, w)) (ha : ∃ q : Fin 128, x = Int32.ofNat q.val) (hT : t.length + 1 ≤ 240) : ∃ X1, SBI cg bs p0 (t ++ [x]) X1 ∧ KP cg p0 (n, w) X1 ∧ gMetO l yJ4_append_cf468 cJ4_append_cf468 2 (some (.object "java/lang/StringBuilder")) 5 1 500 (nΩ bs) (nP dC dI cg kA bs) (kR kTab kA) [.ref (bs + p0), .int x] (n, w) X1 (fun a _ _ => a = bs + p0) := by
  obtain ⟨k0, N, f, mb, he, hk, -⟩ := id h
  obtain ⟨X1, k1, N1, f1, mb1, he1, hk1, ha1, hN1, hf1, kp, hE⟩ := sb_ens (l := l) (dC := dC) (dI := dI) (kA := kA) (m := 1) h hT (by omega)
  have hM := vN5_appendC (l := l) (dC := dC) (dI := dI) (kA := kA) (x := x) (j := t.length) ha he hE he1 hk1 (by omega) (by omega)
  have hL : (t ++ [x]).length = t.length + 1 := by simp
  rw [← hL] at hM
  refine ⟨_, SBI.mk (g := upd f1 t.length x) (t' := t ++ [x]) he1.1 hk1.1 (sb_ne he1.2 hk1.2) (asc_upd ha1 ha) ⟨by omega, hN1.2⟩ (fun j hj => ?_), kp.tr (KP.up2 hk1.2), gEntryO (rt := .object "java/lang/StringBuilder") (by decide) rfl (Or.inl ⟨_, rfl⟩) nOK (fun _ _ _ _ _ h => h) (Nat.le_of_ble_eq_true rfl) (fun p e s m args below meth c Q ls X hP hS hret hl => by
    have hx := X.hx
    have hb := X.hb
    have hP : nP dC dI cg kA bs (n, w) s s.heap := hP
    refine lv_aload_n hx hb dJ4_append_cf468_0 rfl (lv_at hl 0 rfl) ?_
    refine lv_iload_n hx hb dJ4_append_cf468_1 rfl (lv_at hl 1 rfl) ?_
    refine gCallPO (sb_cl hP) X nOK (fun _ _ _ _ _ h => h) hM (va_cwSU 1 X.hts (gT_SU tw580 tw1585 tw84 tw581 tw3 tw582) rfl rfl rfl ⟨by decide, by decide +kernel⟩ ⟨by decide, by decide⟩) rfl hP hS (Fr_le hS.1) (sb_rec hP he) hl.1 (Nat.le_of_ble_eq_true rfl) ⟨(Nat.le_of_ble_eq_true rfl), (Nat.le_of_ble_eq_true rfl)⟩ dJ4_append_cf468_2 (As := [.int x]) (rest := []) rfl (fun H locs a hP hB hS => ?_)
    refine lv_pop hx hb dJ4_append_cf468_5 rfl ?_
    refine lv_aload_n hx hb dJ4_append_cf468_6 rfl (lv_at hl 0 rfl) ?_
    exact hret _ _ _ _ _ _ _ dJ4_append_cf468_7 hP rfl hS (Nat.le_of_ble_eq_true rfl) (Nat.le_of_ble_eq_true rfl))⟩
  rw [getD_app hj]
  split
  · rw [pk_un (by omega)]
    exact hf1 j (by assumption)
  · have e : j = t.length := by omega
    subst e
    rw [pk_us, Nat.sub_self]
    rfl
theorem gs_coderA : GoodIn TBG (wsV RJ5 40 RJ0 yJ0_coder_7d493 (wT yJ0_coder_7d493 cJ0_coder_7d493 1 (some .byte))) := gT_V tw1479 tw403 tw404 tw5 tw405
theorem gs_lenA : GoodIn TBG (wsV RJ5 32 RJ0 yJ0_length_8abf5 (wT yJ0_length_8abf5 cJ0_length_8abf5 1 (some .int))) := gT_V tw1470 tw399 tw400 tw5 tw401
theorem vN5_inflateIf (he : p0 < n ∧ w p0 = sbV (bs + k0) mb cn) (hst : ∀ U H, nP dC dI cg kA bs (n, w) U H → strAt sa T (nΩ bs) U H) : gMetVA l yJ5_inflateIfNeededFor_a7421 cJ5_inflateIfNeededFor_a7421 2 2 0 0 (fun _ => False) (nP dC dI cg kA bs) (kR kTab kA) [.ref (bs + p0), .ref sa] (n, w) (n, w) := gEntryVA (by decide) nOK (Nat.le_of_ble_eq_true rfl) (fun p e s m args below meth c Q ls X hP hS hret hl => by
  have hx := X.hx
  have hb := X.hb
  have hP : nP dC dI cg kA bs (n, w) s s.heap := hP
  have hs := hst _ _ hP
  refine va_gets hx hb hP.2.2.2.1.2.1 va_S.rf X.hown (X.hts _ tw62) (fun _ h => h) dJ5_inflateIfNeededFor_a7421_0 ?_
  refine lv_if_eq (tgt := 21) hx hb dJ5_inflateIfNeededFor_a7421_3 (by decide) (fun c1 => absurd c1 (by decide)) (fun _ => ?_)
  refine lv_aload_n hx hb dJ5_inflateIfNeededFor_a7421_6 rfl (lv_at hl 0 rfl) ?_
  refine nw_getI (k := 1) X hP he rfl (rfl : vwCl[1]? = some (RJ4, TJ4, 4)) cinJ4 (by decide) tw72 dJ5_inflateIfNeededFor_a7421_7 ?_
  refine lv_aload_n hx hb dJ5_inflateIfNeededFor_a7421_10 rfl (lv_at hl 1 rfl) ?_
  refine gCallVR X rfl (vJ0_coder (Ω := nΩ bs) (bs := T)) gs_coderA hdJ0_coder rfl ⟨by decide, by decide⟩ sB_blind (sB_at hP.2.2.2.1.2 hs) hs.rec hl.1 (Nat.le_of_ble_eq_true rfl) ⟨(Nat.le_of_ble_eq_true rfl), (Nat.le_of_ble_eq_true rfl)⟩ dJ5_inflateIfNeededFor_a7421_11 (As := []) (rest := [.int 0]) rfl ?_
  refine lv_icmp_eq (tgt := 21) hx hb dJ5_inflateIfNeededFor_a7421_14 (by decide) (fun _ => ?_) (fun c1 => absurd (rfl) c1)
  exact hret _ _ _ _ _ _ dJ5_inflateIfNeededFor_a7421_21 hP hS (Nat.le_of_ble_eq_true rfl) (Nat.le_of_ble_eq_true rfl))
theorem vN0_getBytes {k1 N1 j : Nat} {f1 : Nat → Int32} (hk1 : k1 < n ∧ w k1 = byV cg N1 f1) (hj : j + T.length ≤ N1) (hN : N1 ≤ 500) (hst : ∀ U H, nP dC dI cg kA bs (n, w) U H → strAt sa T (nΩ bs) U H) : gMetVA l yJ0_getBytes_840e7 cJ0_getBytes_840e7 4 2 0 0 (nΩ bs) (nP dC dI cg kA bs) (kR kTab kA) [.ref sa, .ref (bs + k1), .int (nI j), .int 0] (n, w) (n, va_up w k1 (byV cg N1 (va_cpy (fun i => T.getD i 0) f1 0 j T.length))) := gEntryVA (by decide) nOK (Nat.le_of_ble_eq_true rfl) (fun p e s m args below meth c Q ls X hP hS hret hl => by
  have hx := X.hx
  have hb := X.hb
  have hP : nP dC dI cg kA bs (n, w) s s.heap := hP
  have hs := hst _ _ hP
  obtain ⟨hta, -, v, ho, hc, hv, ht⟩ := id hs
  refine lv_aload_n hx hb dJ0_getBytes_840e7_0 rfl (lv_at hl 0 rfl) ?_
  refine gCallVR X rfl (vJ0_coder (Ω := nΩ bs) (bs := T)) gs_coder hdJ0_coder rfl ⟨by decide, by decide⟩ sB_blind (sB_at hP.2.2.2.1.2 hs) hs.rec hl.1 (Nat.le_of_ble_eq_true rfl) ⟨(Nat.le_of_ble_eq_true rfl), (Nat.le_of_ble_eq_true rfl)⟩ dJ0_getBytes_840e7_1 (As := []) (rest := []) rfl ?_
  refine lv_iload_n hx hb dJ0_getBytes_840e7_4 rfl (lv_at hl 3 rfl) ?_
  refine lv_icmp_ne (tgt := 28) hx hb dJ0_getBytes_840e7_5 (by decide) (fun c1 => absurd (rfl) c1) (fun _ => ?_)
  refine lv_aload_n hx hb dJ0_getBytes_840e7_8 rfl (lv_at hl 0 rfl) ?_
  refine vk_getf hx hb hv va_S.rf X.hown (X.hts _ tw657) (fun _ h => h) dJ0_getBytes_840e7_9 ?_
  refine lv_iconst (v := 0) hx hb dJ0_getBytes_840e7_12 (by decide) ?_
  refine lv_aload_n hx hb dJ0_getBytes_840e7_13 rfl (lv_at hl 1 rfl) ?_
  refine lv_iload_n hx hb dJ0_getBytes_840e7_14 rfl (lv_at hl 2 rfl) ?_
  refine lv_iload_n hx hb dJ0_getBytes_840e7_15 rfl (lv_at hl 3 rfl) ?_
  refine lv_ishl hx hb dJ0_getBytes_840e7_16 ?_
  rw [shl0]
  refine lv_aload_n hx hb dJ0_getBytes_840e7_17 rfl (lv_at hl 0 rfl) ?_
  refine vk_getf hx hb hv va_S.rf X.hown (X.hts _ tw657) (fun _ h => h) dJ0_getBytes_840e7_18 ?_
  refine va_tlen (v := nI T.length) hx hb ht va_S.rf rfl dJ0_getBytes_840e7_21 ?_
  refine nw_cpyS (f := fun i => T.getD i 0) X hl.1 hP hS (Or.inl (Nat.le_add_right _ _)) ht hk1 tw1484 tw557 tw556 tw21 (Nat.le_refl _) hj (by omega) (fun i hi => ascFit (hta _ (by rw [List.getD_eq_getElem?_getD, List.getElem?_eq_getElem hi]; exact List.getElem_mem hi))) (Nat.le_of_ble_eq_true rfl) (Nat.le_of_ble_eq_true rfl) dJ0_getBytes_840e7_22 (fun H locs hP hS => ?_)
  refine lv_goto (tgt := 43) hx hb dJ0_getBytes_840e7_25 (by decide) ?_
  exact hret _ _ _ _ _ _ dJ0_getBytes_840e7_43 hP hS (Nat.le_of_ble_eq_true rfl) (Nat.le_of_ble_eq_true rfl))
theorem gs_getBytes : GoodIn TBG (wsV RJ5 399 RJ0 yJ0_getBytes_840e7 (wT yJ0_getBytes_840e7 cJ0_getBytes_840e7 4 none)) := gT_V tw1480 tw1481 tw1482 tw5 tw1483
theorem hd_getBytes : yJ0_getBytes_840e7.cls = RJ0 ∧ yJ0_getBytes_840e7.cls ≠ "java/lang/invoke/MethodHandle" ∧ yJ0_getBytes_840e7.cls ≠ "java/lang/invoke/VarHandle" ∧ (parseMethodDescriptor yJ0_getBytes_840e7.desc).map (fun d => d.parameters.length) = some 3 := ⟨rfl, by decide +kernel, by decide +kernel, by decide +kernel⟩
theorem vN5_putString {k1 N1 j : Nat} {f1 : Nat → Int32} (he : p0 < n ∧ w p0 = sbV (bs + k1) mb cn) (hk1 : k1 < n ∧ w k1 = byV cg N1 f1) (hj : j + T.length ≤ N1) (hN : N1 ≤ 500) (hst : ∀ U H, nP dC dI cg kA bs (n, w) U H → strAt sa T (nΩ bs) U H) : gMetVA l yJ5_putStringAt_47b60 cJ5_putStringAt_47b60 3 3 0 0 (nΩ bs) (nP dC dI cg kA bs) (kR kTab kA) [.ref (bs + p0), .int (nI j), .ref sa] (n, w) (n, va_up w k1 (byV cg N1 (va_cpy (fun i => T.getD i 0) f1 0 j T.length))) := gEntryVA (by decide) nOK (Nat.le_of_ble_eq_true rfl) (fun p e s m args below meth c Q ls X hP hS hret hl => by
  have hx := X.hx
  have hb := X.hb
  have hP : nP dC dI cg kA bs (n, w) s s.heap := hP
  refine lv_aload_n hx hb dJ5_putStringAt_47b60_0 rfl (lv_at hl 0 rfl) ?_
  refine lv_aload_n hx hb dJ5_putStringAt_47b60_1 rfl (lv_at hl 2 rfl) ?_
  refine gCallWV X nOK (vN5_inflateIf (dC := dC) (dI := dI) (cg := cg) (kA := kA) (bs := bs) (T := T) (sa := sa) he hst) (cwC 1 X (wT_good tw1478) tw1475 tw3 tw1477 (va_tabs rfl rfl (X.ks.2.2.1 _ (sbW_n (y := yJ5_inflateIfNeededFor_a7421) (Or.inr (Or.inr rfl))))) ⟨by decide, by decide, by decide +kernel⟩ ⟨by decide, by decide⟩) rfl hP hS (noFn hS) (sb_rec hP he) hl.1 (Nat.le_of_ble_eq_true rfl) ⟨(Nat.le_of_ble_eq_true rfl), (Nat.le_of_ble_eq_true rfl)⟩ dJ5_putStringAt_47b60_2 (As := [.ref sa]) (rest := []) rfl (fun H locs hP hS => ?_)
  have hs := hst _ _ hP
  refine lv_aload_n hx hb dJ5_putStringAt_47b60_5 rfl (lv_at hl 2 rfl) ?_
  refine lv_aload_n hx hb dJ5_putStringAt_47b60_6 rfl (lv_at hl 0 rfl) ?_
  refine nw_getI (k := 0) X hP he rfl (rfl : vwCl[1]? = some (RJ4, TJ4, 4)) cinJ4 (by decide) tw71 dJ5_putStringAt_47b60_7 ?_
  refine lv_iload_n hx hb dJ5_putStringAt_47b60_10 rfl (lv_at hl 1 rfl) ?_
  refine lv_aload_n hx hb dJ5_putStringAt_47b60_11 rfl (lv_at hl 0 rfl) ?_
  refine nw_getI (k := 1) X hP he rfl (rfl : vwCl[1]? = some (RJ4, TJ4, 4)) cinJ4 (by decide) tw72 dJ5_putStringAt_47b60_12 ?_
  refine gCallWV X nOK (vN0_getBytes (dC := dC) (dI := dI) (cg := cg) (kA := kA) (bs := bs) (T := T) (sa := sa) hk1 hj hN hst) (cw_V 3 X gs_getBytes hd_getBytes ⟨by decide, by decide⟩) rfl hP hS (Fr_le hS.1) hs.rec hl.1 (Nat.le_of_ble_eq_true rfl) ⟨(Nat.le_of_ble_eq_true rfl), (Nat.le_of_ble_eq_true rfl)⟩ dJ5_putStringAt_47b60_15 (As := [.ref (bs + k1), .int (nI j), .int 0]) (rest := []) rfl (fun H locs hP hS => ?_)
  exact hret _ _ _ _ _ _ dJ5_putStringAt_47b60_18 hP hS (Nat.le_of_ble_eq_true rfl) (Nat.le_of_ble_eq_true rfl))
theorem vN5_appendS {X1 : NW} {mb1 : Int32} {j k1 N1 : Nat} {f1 : Nat → Int32} (hst : ∀ (X : NW) U H, nP dC dI cg kA bs X U H → strAt sa T (nΩ bs) U H) (he : p0 < n ∧ w p0 = sbV (bs + k0) mb (nI j)) (hE : gMetVA l yJ5_ensureCapacityInternal_d00df cJ5_ensureCapacityInternal_d00df 3 3 1 500 (nΩ bs) (nP dC dI cg kA bs) (kR kTab kA) [.ref (bs + p0), .int (nI (j + T.length))] (n, w) X1) (he1 : p0 < X1.1 ∧ X1.2 p0 = sbV (bs + k1) mb1 (nI j)) (hk1 : k1 < X1.1 ∧ X1.2 k1 = byV cg N1 f1) (hj : j + T.length ≤ N1) (hN : N1 ≤ 500) : gMetO l yJ5_append_cf1ce cJ5_append_cf1ce 3 (some (.object "java/lang/AbstractStringBuilder")) 4 1 500 (nΩ bs) (nP dC dI cg kA bs) (kR kTab kA) [.ref (bs + p0), .ref sa] (n, w) (X1.1, va_up (va_up X1.2 p0 (sbV (bs + k1) mb1 (nI (j + T.length)))) k1 (byV cg N1 (va_cpy (fun i => T.getD i 0) f1 0 j T.length))) (fun a _ _ => a = bs + p0) := gEntryO (rt := .object "java/lang/AbstractStringBuilder") (by decide) rfl (Or.inl ⟨_, rfl⟩) nOK (fun _ _ _ _ _ h => h) (Nat.le_of_ble_eq_true rfl) (fun p e s m args below meth c Q ls X hP hS hret hl => by
  have hx := X.hx
  have hb := X.hb
  have hP : nP dC dI cg kA bs (n, w) s s.heap := hP
  have hne := sb_ne he1.2 hk1.2
  have hs := hst _ _ _ hP
  refine lv_aload_n hx hb dJ5_append_cf1ce_0 rfl (lv_at hl 1 rfl) ?_
  refine lv_ifnonnull (tgt := 9) hx hb dJ5_append_cf1ce_1 (by decide) ?_
  refine lv_aload_n hx hb dJ5_append_cf1ce_9 rfl (lv_at hl 1 rfl) ?_
  refine gCallVR X rfl (vJ0_length (Ω := nΩ bs) (bs := T)) gs_lenA hdJ0_length rfl ⟨by decide, by decide⟩ sB_blind (sB_at hP.2.2.2.1.2 hs) hs.rec hl.1 (Nat.le_of_ble_eq_true rfl) ⟨(Nat.le_of_ble_eq_true rfl), (Nat.le_of_ble_eq_true rfl)⟩ dJ5_append_cf1ce_10 (As := []) (rest := []) rfl ?_
  refine lv_istore_n (lv' := [(2, .int (nI T.length)), (0, .ref (bs + p0)), (1, .ref sa)]) hx hb dJ5_append_cf1ce_13 rfl hl (by decide) rfl (fun ls hl => ?_)
  refine lv_aload_n hx hb dJ5_append_cf1ce_14 rfl (lv_at hl 1 rfl) ?_
  refine lv_aload_n hx hb dJ5_append_cf1ce_15 rfl (lv_at hl 1 rfl) ?_
  refine nw_getI (k := 3) X hP he rfl (rfl : vwCl[1]? = some (RJ4, TJ4, 4)) cinJ4 (by decide) tw75 dJ5_append_cf1ce_16 ?_
  refine lv_iload_n hx hb dJ5_append_cf1ce_19 rfl (lv_at hl 0 rfl) ?_
  refine lv_iadd hx hb dJ5_append_cf1ce_20 ?_
  rw [show ((nI j) + (nI T.length) : Int32) = nI (j + T.length) from nI_add j T.length]
  refine gCallWV X nOK hE (gEnsN X tw523 ⟨by decide, by decide⟩) rfl hP hS (Fr_le hS.1) (sb_rec hP he) hl.1 (Nat.le_of_ble_eq_true rfl) ⟨(Nat.le_of_ble_eq_true rfl), (Nat.le_of_ble_eq_true rfl)⟩ dJ5_append_cf1ce_21 (As := [.int (nI (j + T.length))]) (rest := []) rfl (fun H locs hP hS => ?_)
  obtain ⟨n1, w1⟩ := X1
  refine lv_aload_n hx hb dJ5_append_cf1ce_24 rfl (lv_at hl 1 rfl) ?_
  refine lv_aload_n hx hb dJ5_append_cf1ce_25 rfl (lv_at hl 1 rfl) ?_
  refine nw_getI (k := 3) X hP he1 rfl (rfl : vwCl[1]? = some (RJ4, TJ4, 4)) cinJ4 (by decide) tw75 dJ5_append_cf1ce_26 ?_
  refine lv_aload_n hx hb dJ5_append_cf1ce_29 rfl (lv_at hl 2 rfl) ?_
  refine gCallWV X nOK (vN5_putString (dC := dC) (dI := dI) (cg := cg) (kA := kA) (bs := bs) (T := T) (sa := sa) he1 hk1 hj hN (hst _)) (cwC 2 X (wT_good tw1474) tw1471 tw3 tw1473 (va_tabs rfl rfl (X.ks.2.2.1 _ (sbW_n (y := yJ5_putStringAt_47b60) (Or.inr (Or.inl rfl))))) ⟨by decide, by decide, by decide +kernel⟩ ⟨by decide, by decide⟩) rfl hP hS (Fr_le hS.1) (sb_rec hP he1) hl.1 (Nat.le_of_ble_eq_true rfl) ⟨(Nat.le_of_ble_eq_true rfl), (Nat.le_of_ble_eq_true rfl)⟩ dJ5_append_cf1ce_30 (As := [.int (nI j), .ref sa]) (rest := []) rfl (fun H locs hP hS => ?_)
  have he2 : p0 < n1 ∧ va_up w1 k1 (byV cg N1 (va_cpy (fun i => T.getD i 0) f1 0 j T.length)) p0 = sbV (bs + k1) mb1 (nI j) := ⟨he1.1, (vne (Ne.symm hne)).trans he1.2⟩
  refine lv_aload_n hx hb dJ5_append_cf1ce_33 rfl (lv_at hl 1 rfl) ?_
  refine lv_dup hx hb dJ5_append_cf1ce_34 rfl ?_
  refine nw_getI (k := 3) X hP he2 rfl (rfl : vwCl[1]? = some (RJ4, TJ4, 4)) cinJ4 (by decide) tw75 dJ5_append_cf1ce_35 ?_
  refine lv_iload_n hx hb dJ5_append_cf1ce_38 rfl (lv_at hl 0 rfl) ?_
  refine lv_iadd hx hb dJ5_append_cf1ce_39 ?_
  rw [show ((nI j) + (nI T.length) : Int32) = nI (j + T.length) from nI_add j T.length]
  refine nw_putJ (k := 3) X hP hS (Or.inl (Nat.le_add_right _ _)) he2 (rfl : vwCl[1]? = some (RJ4, TJ4, 4)) cinJ4 tyJ4_ok nmJ4 (by decide) rfl rfl rfl (Nat.le_of_ble_eq_true rfl) tw75 dJ5_append_cf1ce_40 (fun H locs hP hS => ?_)
  refine lv_aload_n hx hb dJ5_append_cf1ce_43 rfl (lv_at hl 1 rfl) ?_
  have hP : nP dC dI cg kA bs (n1, va_up (va_up w1 k1 (byV cg N1 (va_cpy (fun i => T.getD i 0) f1 0 j T.length))) p0 (sbV (bs + k1) mb1 (nI (j + T.length)))) s H := hP
  rw [vcm hne] at hP
  exact hret _ _ _ _ _ _ _ dJ5_append_cf1ce_44 hP rfl hS (Nat.le_of_ble_eq_true rfl) (Nat.le_of_ble_eq_true rfl))
theorem vN4_appendS {t : List Int32} (hst : ∀ (X : NW) U H, nP dC dI cg kA bs X U H → strAt sa T (nΩ bs) U H) (hTa : ∀ b ∈ T, ∃ q : Fin 128, b = Int32.ofNat q.val) (h : SBI cg bs p0 t (n, w)) (hT : t.length + T.length ≤ 240) (hTl : T.length ≤ 16) : ∃ X1, SBI cg bs p0 (t ++ T) X1 ∧ KP cg p0 (n, w) X1 ∧ gMetO l yJ4_append_15ec4 cJ4_append_15ec4 2 (some (.object "java/lang/StringBuilder")) 5 1 500 (nΩ bs) (nP dC dI cg kA bs) (kR kTab kA) [.ref (bs + p0), .ref sa] (n, w) X1 (fun a _ _ => a = bs + p0) := by
  obtain ⟨k0, N, f, mb, he, hk, -⟩ := id h
  obtain ⟨X1, k1, N1, f1, mb1, he1, hk1, ha1, hN1, hf1, kp, hE⟩ := sb_ens (l := l) (dC := dC) (dI := dI) (kA := kA) (m := T.length) h hT (by omega)
  have hM := vN5_appendS (l := l) (dC := dC) (dI := dI) (kA := kA) (T := T) (sa := sa) (j := t.length) hst he hE he1 hk1 (by omega) (by omega)
  have hL : (t ++ T).length = t.length + T.length := by simp
  rw [← hL] at hM
  refine ⟨_, SBI.mk (g := va_cpy (fun i => T.getD i 0) f1 0 t.length T.length) (t' := t ++ T) he1.1 hk1.1 (sb_ne he1.2 hk1.2) (asc_cpy (asc_T hTa) ha1) ⟨by omega, hN1.2⟩ (fun j hj => ?_), kp.tr (KP.up2 hk1.2), gEntryO (rt := .object "java/lang/StringBuilder") (by decide) rfl (Or.inl ⟨_, rfl⟩) nOK (fun _ _ _ _ _ h => h) (Nat.le_of_ble_eq_true rfl) (fun p e s m args below meth c Q ls X hP hS hret hl => by
    have hx := X.hx
    have hb := X.hb
    have hP : nP dC dI cg kA bs (n, w) s s.heap := hP
    refine lv_aload_n hx hb dJ4_append_15ec4_0 rfl (lv_at hl 0 rfl) ?_
    refine lv_aload_n hx hb dJ4_append_15ec4_1 rfl (lv_at hl 1 rfl) ?_
    refine gCallPO (sb_cl hP) X nOK (fun _ _ _ _ _ h => h) hM (va_cwSU 1 X.hts (gT_SU tw1451 tw1588 tw84 tw1452 tw3 tw1453) rfl rfl rfl ⟨by decide, by decide +kernel⟩ ⟨by decide, by decide⟩) rfl hP hS (Fr_le hS.1) (sb_rec hP he) hl.1 (Nat.le_of_ble_eq_true rfl) ⟨(Nat.le_of_ble_eq_true rfl), (Nat.le_of_ble_eq_true rfl)⟩ dJ4_append_15ec4_2 (As := [.ref sa]) (rest := []) rfl (fun H locs a hP hB hS => ?_)
    refine lv_pop hx hb dJ4_append_15ec4_5 rfl ?_
    refine lv_aload_n hx hb dJ4_append_15ec4_6 rfl (lv_at hl 0 rfl) ?_
    exact hret _ _ _ _ _ _ _ dJ4_append_15ec4_7 hP rfl hS (Nat.le_of_ble_eq_true rfl) (Nat.le_of_ble_eq_true rfl))⟩
  rw [getD_app hj]
  split
  · rw [pk_cpy_out (Or.inl (by assumption))]
    exact hf1 j (by assumption)
  · rw [pk_cpy_in (by omega) (by rw [List.length_append] at hj; omega), Nat.zero_add]
end NSB2
