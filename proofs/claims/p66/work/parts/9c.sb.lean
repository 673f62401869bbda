theorem tw3 : (Jvm.Cond.initialized "java/lang/AbstractStringBuilder") ∈ TBG := tb_t 3 (by decide +kernel) (by decide +kernel)
theorem tw62 : (Jvm.Cond.fieldLink "java/lang/AbstractStringBuilder" (18 : Nat) "java/lang/String" "COMPACT_STRINGS" "Z") ∈ TBG := tb_t 62 (by decide +kernel) (by decide +kernel)
theorem tw71 : (Jvm.Cond.fieldLink "java/lang/AbstractStringBuilder" (15 : Nat) "java/lang/AbstractStringBuilder" "value" "[B") ∈ TBG := tb_t 71 (by decide +kernel) (by decide +kernel)
theorem tw72 : (Jvm.Cond.fieldLink "java/lang/AbstractStringBuilder" (22 : Nat) "java/lang/AbstractStringBuilder" "coder" "B") ∈ TBG := tb_t 72 (by decide +kernel) (by decide +kernel)
theorem tw73 : (Jvm.Cond.fieldLink "java/lang/AbstractStringBuilder" (73 : Nat) "java/lang/AbstractStringBuilder" "maybeLatin1" "Z") ∈ TBG := tb_t 73 (by decide +kernel) (by decide +kernel)
theorem tw75 : (Jvm.Cond.fieldLink "java/lang/AbstractStringBuilder" (79 : Nat) "java/lang/AbstractStringBuilder" "count" "I") ∈ TBG := tb_t 75 (by decide +kernel) (by decide +kernel)
theorem tw84 : (Jvm.Cond.superclass "java/lang/StringBuilder" "java/lang/AbstractStringBuilder") ∈ TBG := tb_t 84 (by decide +kernel) (by decide +kernel)
theorem tw520 : (Jvm.Cond.methodLink "java/lang/StringBuilder" (333 : Nat) ({ cls := "java/lang/AbstractStringBuilder", name := "setLength", desc := "(I)V" } : Jvm.MethodName)) ∈ TBG := tb_t 520 (by decide +kernel) (by decide +kernel)
theorem tw521 : (Jvm.Cond.instanceMethod ({ cls := "java/lang/AbstractStringBuilder", name := "setLength", desc := "(I)V" } : Jvm.MethodName)) ∈ TBG := tb_t 521 (by decide +kernel) (by decide +kernel)
theorem tw522 : (Jvm.Cond.code ({ cls := "java/lang/AbstractStringBuilder", name := "setLength", desc := "(I)V" } : Jvm.MethodName) prog_18_method_13_code (2 : Nat) (Option.none : Option Jvm.ClassFile.FieldType)) ∈ TBG := tb_t 522 (by decide +kernel) (by decide +kernel)
theorem tw523 : (Jvm.Cond.methodLink "java/lang/AbstractStringBuilder" (100 : Nat) ({ cls := "java/lang/AbstractStringBuilder", name := "ensureCapacityInternal", desc := "(I)V" } : Jvm.MethodName)) ∈ TBG := tb_t 523 (by decide +kernel) (by decide +kernel)
theorem tw525 : (Jvm.Cond.instanceMethod ({ cls := "java/lang/AbstractStringBuilder", name := "ensureCapacityInternal", desc := "(I)V" } : Jvm.MethodName)) ∈ TBG := tb_t 525 (by decide +kernel) (by decide +kernel)
theorem tw526 : (Jvm.Cond.code ({ cls := "java/lang/AbstractStringBuilder", name := "ensureCapacityInternal", desc := "(I)V" } : Jvm.MethodName) prog_18_method_9_code (3 : Nat) (Option.none : Option Jvm.ClassFile.FieldType)) ∈ TBG := tb_t 526 (by decide +kernel) (by decide +kernel)
theorem tw558 : (Jvm.Cond.methodLink "java/lang/AbstractStringBuilder" (83 : Nat) ({ cls := "java/lang/AbstractStringBuilder", name := "isLatin1", desc := "()Z" } : Jvm.MethodName)) ∈ TBG := tb_t 558 (by decide +kernel) (by decide +kernel)
theorem tw559 : (Jvm.Cond.instanceMethod ({ cls := "java/lang/AbstractStringBuilder", name := "isLatin1", desc := "()Z" } : Jvm.MethodName)) ∈ TBG := tb_t 559 (by decide +kernel) (by decide +kernel)
theorem tw561 : (Jvm.Cond.selects "java/lang/StringBuilder" ({ cls := "java/lang/AbstractStringBuilder", name := "isLatin1", desc := "()Z" } : Jvm.MethodName) ({ cls := "java/lang/AbstractStringBuilder", name := "isLatin1", desc := "()Z" } : Jvm.MethodName)) ∈ TBG := tb_t 561 (by decide +kernel) (by decide +kernel)
theorem tw562 : (Jvm.Cond.code ({ cls := "java/lang/AbstractStringBuilder", name := "isLatin1", desc := "()Z" } : Jvm.MethodName) prog_18_method_68_code (1 : Nat) (Option.some Jvm.ClassFile.FieldType.boolean)) ∈ TBG := tb_t 562 (by decide +kernel) (by decide +kernel)
theorem tw580 : (Jvm.Cond.methodLink "java/lang/StringBuilder" (50 : Nat) ({ cls := "java/lang/AbstractStringBuilder", name := "append", desc := "(C)Ljava/lang/AbstractStringBuilder;" } : Jvm.MethodName)) ∈ TBG := tb_t 580 (by decide +kernel) (by decide +kernel)
theorem tw581 : (Jvm.Cond.instanceMethod ({ cls := "java/lang/AbstractStringBuilder", name := "append", desc := "(C)Ljava/lang/AbstractStringBuilder;" } : Jvm.MethodName)) ∈ TBG := tb_t 581 (by decide +kernel) (by decide +kernel)
theorem tw582 : (Jvm.Cond.code ({ cls := "java/lang/AbstractStringBuilder", name := "append", desc := "(C)Ljava/lang/AbstractStringBuilder;" } : Jvm.MethodName) prog_18_method_31_code (2 : Nat) (Option.some (Jvm.ClassFile.FieldType.object "java/lang/AbstractStringBuilder"))) ∈ TBG := tb_t 582 (by decide +kernel) (by decide +kernel)
theorem tw583 : (Jvm.Cond.methodLink "java/lang/AbstractStringBuilder" (191 : Nat) ({ cls := "java/lang/StringLatin1", name := "canEncode", desc := "(C)Z" } : Jvm.MethodName)) ∈ TBG := tb_t 583 (by decide +kernel) (by decide +kernel)
theorem tw584 : (Jvm.Cond.static ({ cls := "java/lang/StringLatin1", name := "canEncode", desc := "(C)Z" } : Jvm.MethodName)) ∈ TBG := tb_t 584 (by decide +kernel) (by decide +kernel)
theorem tw585 : (Jvm.Cond.code ({ cls := "java/lang/StringLatin1", name := "canEncode", desc := "(C)Z" } : Jvm.MethodName) prog_35_method_3_code (1 : Nat) (Option.some Jvm.ClassFile.FieldType.boolean)) ∈ TBG := tb_t 585 (by decide +kernel) (by decide +kernel)
theorem tw630 : (Jvm.Cond.instanceMethod ({ cls := "java/lang/AbstractStringBuilder", name := "length", desc := "()I" } : Jvm.MethodName)) ∈ TBG := tb_t 630 (by decide +kernel) (by decide +kernel)
theorem tw631 : (Jvm.Cond.sameMethod "java/lang/AbstractStringBuilder" "java/lang/AbstractStringBuilder" "length" "()I") ∈ TBG := tb_t 631 (by decide +kernel) (by decide +kernel)
theorem tw635 : (Jvm.Cond.methodLink "java/lang/StringBuilder" (343 : Nat) ({ cls := "java/lang/AbstractStringBuilder", name := "length", desc := "()I" } : Jvm.MethodName)) ∈ TBG := tb_t 635 (by decide +kernel) (by decide +kernel)
theorem tw636 : (Jvm.Cond.code ({ cls := "java/lang/AbstractStringBuilder", name := "length", desc := "()I" } : Jvm.MethodName) prog_18_method_6_code (1 : Nat) (Option.some Jvm.ClassFile.FieldType.int)) ∈ TBG := tb_t 636 (by decide +kernel) (by decide +kernel)
theorem tw1582 : (Jvm.Cond.sameMethod "java/lang/AbstractStringBuilder" "java/lang/AbstractStringBuilder" "setLength" "(I)V") ∈ TBG := tb_t 1582 (by decide +kernel) (by decide +kernel)
theorem tw1585 : (Jvm.Cond.sameMethod "java/lang/AbstractStringBuilder" "java/lang/AbstractStringBuilder" "append" "(C)Ljava/lang/AbstractStringBuilder;") ∈ TBG := tb_t 1585 (by decide +kernel) (by decide +kernel)
/-! StringBuilder and what it calls, over the class's world -/
section SBROWS
variable {p : Program} {l : Launch} {e : Env} {R : Room} {s : State} {m : MethodId} {args : Array Value} {below : List Frame} {meth : Method} {c : Code} {H : Heap} {locs : List Loc} {cells slots : Nat} {Q : State → Prop}
variable {cc : ByteArray} {pc nL : Nat} {ls : Array Slot} {rest : List Value} {dC : Nat → ClassId} {dI : Nat → Nat → Nat} {cg : Nat → ClassId} {kA : String → Nat → Nat} {ca nA : Nat → Nat} {S : CS} {own : String}
/-- a field that a superclass declares -/
theorem cr_getI {q kd ci N k index : Nat} {C : String} {T : u_T} {v : Value} (X : gX p s m args c cc nL own (kR kTab kA)) (hP : cP dC dI cg kA ca S s H) (hkd : kc q = kd) (h9 : Nat.blt kd 99 = true) (hv : ∀ nm, ∃ fs, cRow kd cg ca nm q (S.1 q) = .inr (ci, fs) ∧ fs[k]? = some v) (hc : vwCl[ci]? = some (C, T, N)) (hin : ∀ w ∈ u_ws C T N, w ∈ TBG) (hk : k < N) (hlink : Cond.fieldLink own index (T k).1 (T k).2.1 (T k).2.2.1 ∈ TBG) (hdg : decode cc pc = .ok (.getfield index, 3))
    (kk : W p l e R s m args below meth c H locs cells slots Q (F0 m (pc + 3) ls (v :: rest))) : W p l e R s m args below meth c H locs cells slots Q (F0 m pc ls (.ref (ca q) :: rest)) := by
  obtain ⟨nA, a1, a2, a3, a4, a5⟩ := hP
  obtain ⟨fs, h1, h2⟩ := hv (nA q)
  have h0 := a1 q (kc_lt hkd h9)
  rw [hkd, h1] at h0
  exact va_get X.hx X.hb X.hts hin X.hown a2 (cwo h0) 0 rfl hc k hk (X.hts _ hlink) (fun x h => h) h2 hdg kk
theorem cr_putI {q kd ci N k index : Nat} {C : String} {T : u_T} {v : Int32} {tyT : Nat → FieldType} (X : gX p s m args c cc nL own (kR kTab kA)) (hP : cP dC dI cg kA ca S s H) (hS : va_S (Fr (cΩ ca) s.heap.size) s.heap H locs) (hkd : kc q = kd) (h9 : Nat.blt kd 99 = true) (hv : ∀ nm, ∃ fs, cRow kd cg ca nm q (S.1 q) = .inr (ci, fs) ∧ k < fs.length ∧ cRow kd cg ca nm q (upd (S.1 q) k v) = .inr (ci, fs.set k (.int v))) (hc : vwCl[ci]? = some (C, T, N)) (hin : ∀ w ∈ u_ws C T N, w ∈ TBG) (hty : ∀ k, k < N → parseFieldDescriptor (T k).2.2.1 = some (tyT k)) (hnm : ∀ a, a < N → ∀ b, b < N → a ≠ b → (T a).2.1 ≠ (T b).2.1) (hk : k < N) (hfin : (T k).2.2.2 = false) (hn : narrow (tyT k) (.int v) = .int v) (hfit : fits (tyT k) (.int v) = true) (hlink : Cond.fieldLink own index (T k).1 (T k).2.1 (T k).2.2.1 ∈ TBG) (hdg : decode cc pc = .ok (.putfield index, 3))
    (kk : ∀ (H1 : Heap) (locs1 : List Loc), cP dC dI cg kA ca (va_up S.1 q (upd (S.1 q) k v), S.2) s H1 → va_S (Fr (cΩ ca) s.heap.size) s.heap H1 locs1 → W p l e R s m args below meth c H1 locs1 cells slots Q (F0 m (pc + 3) ls rest)) : W p l e R s m args below meth c H locs cells slots Q (F0 m pc ls (.int v :: .ref (ca q) :: rest)) := by
  obtain ⟨nA, hN⟩ := hP
  obtain ⟨fs, h1, h2, h3⟩ := hv (nA q)
  have hq := kc_lt hkd h9
  have h0 := hN.1 q hq
  rw [hkd, h1] at h0
  refine va_putO X.hx X.hb X.hts hin tyT hty hnm X.hown hN.2.1 h0 hc k hk (X.hts _ hlink) (fun x h => h) hfin (hty k hk) hn hfit h2 hdg (fun H1 j h4 hz oq => ?_)
  rw [← h3, ← hkd] at h4
  exact kk H1 _ ⟨nA, cN_up hN hq h4 oq⟩ (hS.put hz oq (Or.inl ⟨q, hq, rfl⟩))
theorem noF {Ω : Nat → Prop} (hS : va_S (Fr Ω s.heap.size) s.heap H locs) : ∀ q, Fr (fun _ => False) H.size q → Fr Ω s.heap.size q := fun q h => h.elim False.elim (fun h => Or.inr (Nat.le_trans hS.1 h))
theorem cSBat (hP : cP dC dI cg kA ca S s H) : ClassAt s "java/lang/StringBuilder" (dC 1) := by
  obtain ⟨nA, a1, a2, a3⟩ := hP
  exact (a2.1 1 _ rfl).2
theorem cSBrec (hP : cP dC dI cg kA ca S s H) : gRec "java/lang/StringBuilder" (ca 3) s H := cr_rec hP (rfl : kc 3 = 3) rfl cw3 rfl
def cnt (S : CS) : Int32 := if S.1 3 3 < 0 then 0 else S.1 3 3
theorem cnt_nn : (0 : Int32) ≤ cnt S := by
  unfold cnt
  split
  · decide
  · rename_i h
    exact lt_le.mp h
theorem cnt_pos : ¬ cnt S ≤ 0 ↔ 0 < S.1 3 3 := by
  have z0 : (0 : Int32).toInt = 0 := rfl
  unfold cnt
  split
  · rename_i h
    constructor
    · intro q; exact absurd (by decide) q
    · intro q
      rw [Int32.lt_iff_toInt_lt, z0] at h q
      omega
  · rw [Int32.le_iff_toInt_le, Int32.lt_iff_toInt_lt, z0]
    omega
theorem cv3_c {nc : Nat} (h : cnt S = nI nc) : ∀ nm, ∃ fs, cRow 3 cg ca nm 3 (S.1 3) = .inr (1, fs) ∧ fs[3]? = some (.int (nI nc)) := fun nm => by
  obtain ⟨fs, h1, h2⟩ := cv3_3 (cg := cg) (ca := ca) (q := 3) (r := S.1 3) nm
  exact ⟨fs, h1, h2.trans (by rw [← h]; rfl)⟩
end SBROWS
section SB
variable {l : Launch} {dC : Nat → ClassId} {dI : Nat → Nat → Nat} {cg : Nat → ClassId} {kA : String → Nat → Nat} {ca : Nat → Nat} {S : CS}
theorem vJ5_isLatin1 : gMetI l yJ5_isLatin1_aae02 cJ5_isLatin1_aae02 1 (some .boolean) 1 (fun _ => False) (cP dC dI cg kA ca) (kR kTab kA) [.ref (ca 3)] S 1 S := gEntryI (ty := .boolean) (by decide) rfl (by decide +kernel) cOK (Nat.le_of_ble_eq_true rfl) (fun p e s m args below meth c Q ls X hP hS hret hl => by
  have hx := X.hx
  have hb := X.hb
  refine va_gets hx hb (ccmp hP).1 va_S.rf X.hown (X.hts _ tw62) (fun _ h => h) dJ5_isLatin1_aae02_0 ?_
  refine lv_if_eq (tgt := 17) hx hb dJ5_isLatin1_aae02_3 (by decide) (fun c => absurd c (by decide)) (fun _ => ?_)
  refine lv_aload_n hx hb dJ5_isLatin1_aae02_6 rfl (lv_at hl 0 rfl) ?_
  refine cr_getI (k := 1) X hP (rfl : kc 3 = 3) rfl cv3_1 rfl cinJ4 (by decide) tw72 dJ5_isLatin1_aae02_7 ?_
  refine lv_if_ne (tgt := 17) hx hb dJ5_isLatin1_aae02_10 (by decide) (fun c => absurd rfl c) (fun _ => ?_)
  refine lv_iconst (v := 1) hx hb dJ5_isLatin1_aae02_13 (by decide) ?_
  refine lv_goto (tgt := 18) hx hb dJ5_isLatin1_aae02_14 (by decide) ?_
  exact hret _ _ _ _ dJ5_isLatin1_aae02_18 hP hS)
theorem vJ5_length : gMetI l yJ5_length_8abf5 cJ5_length_8abf5 1 (some .int) 1 (fun _ => False) (cP dC dI cg kA ca) (kR kTab kA) [.ref (ca 3)] S (cnt S) S := gEntryI (ty := .int) (by decide) rfl rfl cOK (Nat.le_of_ble_eq_true rfl) (fun p e s m args below meth c Q ls X hP hS hret hl => by
  have hx := X.hx
  have hb := X.hb
  refine lv_aload_n hx hb dJ5_length_8abf5_0 rfl (lv_at hl 0 rfl) ?_
  refine cr_getI (k := 3) X hP (rfl : kc 3 = 3) rfl cv3_3 rfl cinJ4 (by decide) tw75 dJ5_length_8abf5_1 ?_
  exact hret _ _ _ _ dJ5_length_8abf5_4 hP hS)
theorem vJ4_length : gMetI l yJ4_length_8abf5 cJ4_length_8abf5 1 (some .int) 2 (fun _ => False) (cP dC dI cg kA ca) (kR kTab kA) [.ref (ca 3)] S (cnt S) S := gEntryI (ty := .int) (by decide) rfl rfl cOK (Nat.le_of_ble_eq_true rfl) (fun p e s m args below meth c Q ls X hP hS hret hl => by
  have hx := X.hx
  have hb := X.hb
  refine lv_aload_n hx hb dJ4_length_8abf5_0 rfl (lv_at hl 0 rfl) ?_
  refine gCallPI (cSBat hP) X cOK (gMetIA.of vJ5_length) (va_cwSU 0 X.hts (gT_SU tw635 tw631 tw84 tw630 tw3 tw636) rfl rfl rfl ⟨by decide, by decide +kernel⟩ ⟨by decide, by decide⟩) rfl hP hS (Fr_le hS.1) (cSBrec hP) hl.1 (Nat.le_of_ble_eq_true rfl) ⟨Nat.le_refl _, Nat.le_refl _⟩ dJ4_length_8abf5_1 (As := []) (rest := []) rfl (fun H locs hP hS => ?_)
  exact hret _ _ _ _ dJ4_length_8abf5_4 hP hS)
theorem vJ5_getValue : gMetO l yJ5_getValue_6d5f1 cJ5_getValue_6d5f1 1 (some (.array .byte)) 1 0 0 (fun _ => False) (cP dC dI cg kA ca) (kR kTab kA) [.ref (ca 3)] S S (fun a _ _ => a = ca 4) := gEntryO (rt := .array .byte) (by decide) rfl (Or.inr ⟨_, rfl⟩) cOK (fun _ _ _ _ _ h => h) (Nat.le_of_ble_eq_true rfl) (fun p e s m args below meth c Q ls X hP hS hret hl => by
  have hx := X.hx
  have hb := X.hb
  refine lv_aload_n hx hb dJ5_getValue_6d5f1_0 rfl (lv_at hl 0 rfl) ?_
  refine cr_getI (k := 0) X hP (rfl : kc 3 = 3) rfl cv3_0 rfl cinJ4 (by decide) tw71 dJ5_getValue_6d5f1_1 ?_
  exact hret _ _ _ _ _ _ _ dJ5_getValue_6d5f1_4 hP rfl hS (Nat.zero_le _) (Nat.zero_le _))
theorem vJ1_canEncode {x : Int32} (h : ¬ 255 < x) : gMetR l yJ1_canEncode_fc78d cJ1_canEncode_fc78d 1 (some .boolean) 1 (fun _ => True) [.int x] 1 := gEntryR (KS := fun _ => True) (ty := .boolean) (by decide) rfl (by decide +kernel) (Nat.le_of_ble_eq_true rfl) (fun _ _ => trivial) (fun p e s m args below meth c Q ls X hB hret hl => by
  have hx := X.hx
  have hb := X.hb
  refine lv_iload_n hx hb dJ1_canEncode_fc78d_0 rfl (lv_at hl 0 rfl) ?_
  refine lv_sipush (v := 255) hx hb dJ1_canEncode_fc78d_1 (by decide) ?_
  refine lv_icmp_gt (tgt := 11) hx hb dJ1_canEncode_fc78d_4 (by decide) (fun c => absurd c h) (fun _ => ?_)
  refine lv_iconst (v := 1) hx hb dJ1_canEncode_fc78d_7 (by decide) ?_
  refine lv_goto (tgt := 12) hx hb dJ1_canEncode_fc78d_8 (by decide) ?_
  exact hret _ _ dJ1_canEncode_fc78d_12)
theorem vJ5_ensure {n : Int32} (hn : n - ((16 : Int32) >>> ((0 : Int32) &&& 31)) ≤ 0) : gMetV l yJ5_ensureCapacityInternal_d00df cJ5_ensureCapacityInternal_d00df 3 1 (cΩ ca) (cP dC dI cg kA ca) (kR kTab kA) [.ref (ca 3), .int n] S S := gEntryV (by decide) cOK (Nat.le_of_ble_eq_true rfl) (fun p e s m args below meth c Q ls X hP hS hret hl => by
  have hx := X.hx
  have hb := X.hb
  refine lv_aload_n hx hb dJ5_ensureCapacityInternal_d00df_0 rfl (lv_at hl 0 rfl) ?_
  refine cr_getI (k := 0) X hP (rfl : kc 3 = 3) rfl cv3_0 rfl cinJ4 (by decide) tw71 dJ5_ensureCapacityInternal_d00df_1 ?_
  refine cr_alen (v := 16) X hP (rfl : kc 4 = 4) rfl (fun _ => rfl) rfl rfl dJ5_ensureCapacityInternal_d00df_4 ?_
  refine lv_aload_n hx hb dJ5_ensureCapacityInternal_d00df_5 rfl (lv_at hl 0 rfl) ?_
  refine cr_getI (k := 1) X hP (rfl : kc 3 = 3) rfl cv3_1 rfl cinJ4 (by decide) tw72 dJ5_ensureCapacityInternal_d00df_6 ?_
  refine lv_ishr hx hb dJ5_ensureCapacityInternal_d00df_9 ?_
  refine lv_istore_n (lv' := [(2, .int ((16 : Int32) >>> ((0 : Int32) &&& 31))), (0, .ref (ca 3)), (1, .int n)]) hx hb dJ5_ensureCapacityInternal_d00df_10 rfl hl (by decide) rfl (fun ls hl => ?_)
  refine lv_iload_n hx hb dJ5_ensureCapacityInternal_d00df_11 rfl (lv_at hl 2 rfl) ?_
  refine lv_iload_n hx hb dJ5_ensureCapacityInternal_d00df_12 rfl (lv_at hl 0 rfl) ?_
  refine lv_isub hx hb dJ5_ensureCapacityInternal_d00df_13 ?_
  refine lv_if_le (tgt := 38) hx hb dJ5_ensureCapacityInternal_d00df_14 (by decide) (fun _ => ?_) (fun c => absurd hn c)
  exact hret _ _ _ _ dJ5_ensureCapacityInternal_d00df_38 hP hS)
def sbZ (S : CS) : CS := (va_up S.1 3 (upd (upd (S.1 3) 2 (if 0 < S.1 3 3 then 1 else S.1 3 2)) 3 0), S.2)
theorem gEns {p : Program} {s : State} {m : MethodId} {args : Array Value} {c : Code} {cc : ByteArray} {nL idx lev mc0 ms0 : Nat} (X : gX p s m args c cc nL "java/lang/AbstractStringBuilder" (kR kTab kA)) (hl : Cond.methodLink "java/lang/AbstractStringBuilder" idx yJ5_ensureCapacityInternal_d00df ∈ TBG) (hR : 1 + 1 ≤ lev ∧ 8 + (3 + 11) + 38 * 1 ≤ 38 * lev) :
    CallW (rmL lev mc0 ms0) s args "java/lang/AbstractStringBuilder" "java/lang/StringBuilder" idx yJ5_ensureCapacityInternal_d00df cJ5_ensureCapacityInternal_d00df 3 none (wT yJ5_ensureCapacityInternal_d00df cJ5_ensureCapacityInternal_d00df 3 none) (rmL 1 0 0) 0 0 1 :=
  cwC 1 X (wT_good tw526) hl tw3 tw525 (va_tabs (c := sbW) rfl rfl (X.ks.2.2.1 _ sbW_in)) ⟨by decide, by decide, by decide +kernel⟩ hR
theorem vJ5_setLength : gMetV l yJ5_setLength_d00df cJ5_setLength_d00df 2 2 (cΩ ca) (cP dC dI cg kA ca) (kR kTab kA) [.ref (ca 3), .int 0] S (sbZ S) := gEntryV (by decide) cOK (Nat.le_of_ble_eq_true rfl) (fun p e s m args below meth c Q ls X hP hS hret hl => by
  have hx := X.hx
  have hb := X.hb
  refine lv_iload_n hx hb dJ5_setLength_d00df_0 rfl (lv_at hl 1 rfl) ?_
  refine lv_if_ge (tgt := 13) hx hb dJ5_setLength_d00df_1 (by decide) (fun _ => ?_) (fun c => absurd (by decide) c)
  refine lv_aload_n hx hb dJ5_setLength_d00df_13 rfl (lv_at hl 0 rfl) ?_
  refine lv_iload_n hx hb dJ5_setLength_d00df_14 rfl (lv_at hl 1 rfl) ?_
  refine gCallWV X cOK (gMetVA.of (vJ5_ensure (by decide))) (gEns X tw523 ⟨by decide, by decide⟩) rfl hP hS (Fr_le hS.1) (cSBrec hP) hl.1 (Nat.le_of_ble_eq_true rfl) ⟨Nat.le_refl _, Nat.le_refl _⟩ dJ5_setLength_d00df_15 (As := [.int 0]) (rest := []) rfl (fun H locs hP hS => ?_)
  refine lv_aload_n hx hb dJ5_setLength_d00df_18 rfl (lv_at hl 0 rfl) ?_
  refine cr_getI (k := 3) X hP (rfl : kc 3 = 3) rfl cv3_3 rfl cinJ4 (by decide) tw75 dJ5_setLength_d00df_19 ?_
  refine lv_iload_n hx hb dJ5_setLength_d00df_22 rfl (lv_at hl 1 rfl) ?_
  refine lv_icmp_ge (tgt := 63) hx hb dJ5_setLength_d00df_23 (by decide) (fun _ => ?_) (fun c => absurd cnt_nn c)
  refine lv_aload_n hx hb dJ5_setLength_d00df_63 rfl (lv_at hl 0 rfl) ?_
  refine cr_getI (k := 3) X hP (rfl : kc 3 = 3) rfl cv3_3 rfl cinJ4 (by decide) tw75 dJ5_setLength_d00df_64 ?_
  refine lv_iload_n hx hb dJ5_setLength_d00df_67 rfl (lv_at hl 1 rfl) ?_
  have last : ∀ (S' : CS) (H : Heap) (locs : List Loc), (va_up S'.1 3 (upd (S'.1 3) 3 0), S'.2) = sbZ S → cP dC dI cg kA ca S' s H → va_S (Fr (cΩ ca) s.heap.size) s.heap H locs → W p l e (rmL 2 0 0) s m args below meth c H locs 0 0 Q (F0 m 76 ls []) := fun S' H locs hz hP hS => by
    refine lv_aload_n hx hb dJ5_setLength_d00df_76 rfl (lv_at hl 0 rfl) ?_
    refine lv_iload_n hx hb dJ5_setLength_d00df_77 rfl (lv_at hl 1 rfl) ?_
    refine cr_putI (k := 3) X hP hS (rfl : kc 3 = 3) rfl (cs3_3 (by decide)) rfl cinJ4 tyJ4_ok nmJ4 (by decide) rfl rfl rfl tw75 dJ5_setLength_d00df_78 (fun H locs hP hS => ?_)
    rw [hz] at hP
    exact hret _ _ _ _ dJ5_setLength_d00df_81 hP hS
  refine lv_icmp_le (tgt := 76) hx hb dJ5_setLength_d00df_68 (by decide) (fun c => ?_) (fun c => ?_)
  · refine last S H locs ?_ hP hS
    unfold sbZ
    rw [if_neg (fun h => (cnt_pos.mpr h) c), upd_at (k := 2) rfl]
  · refine lv_aload_n hx hb dJ5_setLength_d00df_71 rfl (lv_at hl 0 rfl) ?_
    refine lv_iconst (v := 1) hx hb dJ5_setLength_d00df_72 (by decide) ?_
    refine cr_putI (k := 2) X hP hS (rfl : kc 3 = 3) rfl cs3_2 rfl cinJ4 tyJ4_ok nmJ4 (by decide) rfl (by decide +kernel) (by decide +kernel) tw73 dJ5_setLength_d00df_73 (fun H locs hP hS => ?_)
    refine last _ H locs ?_ hP hS
    unfold sbZ
    rw [if_pos (cnt_pos.mp c)]
    dsimp only
    rw [vat, up_up])
def sbP (S : CS) (j : Nat) (x : Int32) : CS := (va_up (va_up S.1 3 (upd (S.1 3) 3 (nI (j + 1)))) 4 (upd (S.1 4) j (vp_nar .byte x.toInt8.toInt32)), S.2)
theorem gIsl {p : Program} {s : State} {m : MethodId} {args : Array Value} {c : Code} {cc : ByteArray} {own : String} {nL idx lev mc0 ms0 : Nat} (X : gX p s m args c cc nL own (kR kTab kA)) (hl : Cond.methodLink own idx yJ5_isLatin1_aae02 ∈ TBG) (hR : 1 + 1 ≤ lev ∧ 8 + (1 + 11) + 38 * 1 ≤ 38 * lev) :
    CallW (rmL lev mc0 ms0) s args own "java/lang/StringBuilder" idx yJ5_isLatin1_aae02 cJ5_isLatin1_aae02 1 (some .boolean) (wT yJ5_isLatin1_aae02 cJ5_isLatin1_aae02 1 (some .boolean)) (rmL 1 0 0) 0 0 0 :=
  cwC 0 X (wT_good tw562) hl tw3 tw559 (X.hts _ tw561) ⟨by decide, by decide, by decide +kernel⟩ hR
theorem vJ5_append {x : Int32} {j : Nat} (hx255 : ¬ 255 < x) (hc : cnt S = nI j) (hj : j < 16) : gMetO l yJ5_append_3fe6f cJ5_append_3fe6f 2 (some (.object "java/lang/AbstractStringBuilder")) 2 0 0 (cΩ ca) (cP dC dI cg kA ca) (kR kTab kA) [.ref (ca 3), .int x] S (sbP S j x) (fun a _ _ => a = ca 3) := gEntryO (rt := .object "java/lang/AbstractStringBuilder") (by decide) rfl (Or.inl ⟨_, rfl⟩) cOK (fun _ _ _ _ _ h => h) (Nat.le_of_ble_eq_true rfl) (fun p e s m args below meth c Q ls X hP hS hret hl => by
  have hx := X.hx
  have hb := X.hb
  refine lv_aload_n hx hb dJ5_append_3fe6f_0 rfl (lv_at hl 0 rfl) ?_
  refine lv_aload_n hx hb dJ5_append_3fe6f_1 rfl (lv_at hl 0 rfl) ?_
  refine cr_getI (k := 3) X hP (rfl : kc 3 = 3) rfl (cv3_c hc) rfl cinJ4 (by decide) tw75 dJ5_append_3fe6f_2 ?_
  refine lv_iconst (v := 1) hx hb dJ5_append_3fe6f_5 (by decide) ?_
  refine lv_iadd hx hb dJ5_append_3fe6f_6 ?_
  rw [nI_1]
  have h16 : nI (j + 1) - ((16 : Int32) >>> ((0 : Int32) &&& 31)) ≤ 0 := by
    rw [show (16 : Int32) >>> ((0 : Int32) &&& 31) = nI 16 by decide, Int32.le_iff_toInt_le, pk_sub_toInt (by omega) (by omega)]
    show _ ≤ (0 : Int)
    omega
  refine gCallWV X cOK (gMetVA.of (vJ5_ensure h16)) (gEns X tw523 ⟨by decide, by decide⟩) rfl hP hS (Fr_le hS.1) (cSBrec hP) hl.1 (Nat.le_of_ble_eq_true rfl) ⟨Nat.le_refl _, Nat.le_refl _⟩ dJ5_append_3fe6f_7 (As := [.int (nI (j + 1))]) (rest := []) rfl (fun H locs hP hS => ?_)
  refine lv_aload_n hx hb dJ5_append_3fe6f_10 rfl (lv_at hl 0 rfl) ?_
  refine gCallWI X cOK (gMetIA.of vJ5_isLatin1) (gIsl X tw558 ⟨by decide, by decide⟩) rfl hP hS (noF hS) (cSBrec hP) hl.1 (Nat.le_of_ble_eq_true rfl) ⟨Nat.le_refl _, Nat.le_refl _⟩ dJ5_append_3fe6f_11 (As := []) (rest := []) rfl (fun H locs hP hS => ?_)
  refine lv_if_eq (tgt := 45) hx hb dJ5_append_3fe6f_14 (by decide) (fun c => absurd c (by decide)) (fun _ => ?_)
  refine lv_iload_n hx hb dJ5_append_3fe6f_17 rfl (lv_at hl 1 rfl) ?_
  refine gCallSR X rfl (vJ1_canEncode hx255) (gT_S tw583 tw584 tw16 tw585) (C := "java/lang/StringLatin1") ⟨rfl, by decide, by decide, (by decide +kernel : (parseMethodDescriptor yJ1_canEncode_fc78d.desc).map (fun d => d.parameters.length) = some 1)⟩ rfl ⟨by decide, by decide⟩ (fun a U g mk q => ⟨q.1, trivial⟩) (fun _ _ _ => trivial) hl.1 (Nat.le_of_ble_eq_true rfl) ⟨Nat.le_refl _, Nat.le_refl _⟩ dJ5_append_3fe6f_18 (As := [.int x]) (rest := []) rfl ?_
  refine lv_if_eq (tgt := 45) hx hb dJ5_append_3fe6f_21 (by decide) (fun c => absurd c (by decide)) (fun _ => ?_)
  refine lv_aload_n hx hb dJ5_append_3fe6f_24 rfl (lv_at hl 0 rfl) ?_
  refine cr_getI (k := 0) X hP (rfl : kc 3 = 3) rfl cv3_0 rfl cinJ4 (by decide) tw71 dJ5_append_3fe6f_25 ?_
  refine lv_aload_n hx hb dJ5_append_3fe6f_28 rfl (lv_at hl 0 rfl) ?_
  refine lv_dup hx hb dJ5_append_3fe6f_29 rfl ?_
  refine cr_getI (k := 3) X hP (rfl : kc 3 = 3) rfl (cv3_c hc) rfl cinJ4 (by decide) tw75 dJ5_append_3fe6f_30 ?_
  refine lv_dup_x1 hx hb dJ5_append_3fe6f_33 rfl rfl ?_
  refine lv_iconst (v := 1) hx hb dJ5_append_3fe6f_34 (by decide) ?_
  refine lv_iadd hx hb dJ5_append_3fe6f_35 ?_
  rw [nI_1]
  refine cr_putI (k := 3) X hP hS (rfl : kc 3 = 3) rfl (cs3_3 (show ¬ nI (j + 1) < 0 from nI_nlt (b := 0) (by omega) (by omega))) rfl cinJ4 tyJ4_ok nmJ4 (by decide) rfl rfl rfl tw75 dJ5_append_3fe6f_36 (fun H locs hP hS => ?_)
  refine lv_iload_n hx hb dJ5_append_3fe6f_39 rfl (lv_at hl 1 rfl) ?_
  refine lv_i2b hx hb dJ5_append_3fe6f_40 rfl ?_
  refine cr_bast X hP hS (rfl : kc 4 = 4) rfl (fun _ _ => rfl) (nI_in hj (by omega)) dJ5_append_3fe6f_41 (fun H locs hP hS => ?_)
  refine lv_goto (tgt := 75) hx hb dJ5_append_3fe6f_42 (by decide) ?_
  refine lv_aload_n hx hb dJ5_append_3fe6f_75 rfl (lv_at hl 0 rfl) ?_
  dsimp only at hP
  rw [nI_c (by omega), vne (show 4 ≠ 3 by omega)] at hP
  exact hret _ _ _ _ _ _ _ dJ5_append_3fe6f_76 hP rfl hS (Nat.zero_le _) (Nat.zero_le _))
theorem vJ4_setLength : gMetV l yJ4_setLength_d00df cJ4_setLength_d00df 2 3 (cΩ ca) (cP dC dI cg kA ca) (kR kTab kA) [.ref (ca 3), .int 0] S (sbZ S) := gEntryV (by decide) cOK (Nat.le_of_ble_eq_true rfl) (fun p e s m args below meth c Q ls X hP hS hret hl => by
  have hx := X.hx
  have hb := X.hb
  refine lv_aload_n hx hb dJ4_setLength_d00df_0 rfl (lv_at hl 0 rfl) ?_
  refine lv_iload_n hx hb dJ4_setLength_d00df_1 rfl (lv_at hl 1 rfl) ?_
  refine gCallPV (cSBat hP) X cOK (gMetVA.of vJ5_setLength) (va_cwSU 1 X.hts (gT_SU tw520 tw1582 tw84 tw521 tw3 tw522) rfl rfl rfl ⟨by decide, by decide +kernel⟩ ⟨by decide, by decide⟩) rfl hP hS (Fr_le hS.1) (cSBrec hP) hl.1 (Nat.le_of_ble_eq_true rfl) ⟨Nat.le_refl _, Nat.le_refl _⟩ dJ4_setLength_d00df_2 (As := [.int 0]) (rest := []) rfl (fun H locs hP hS => ?_)
  exact hret _ _ _ _ dJ4_setLength_d00df_5 hP hS)
theorem vJ4_append {x : Int32} {j : Nat} (hx255 : ¬ 255 < x) (hc : cnt S = nI j) (hj : j < 16) : gMetO l yJ4_append_cf468 cJ4_append_cf468 2 (some (.object "java/lang/StringBuilder")) 3 0 0 (cΩ ca) (cP dC dI cg kA ca) (kR kTab kA) [.ref (ca 3), .int x] S (sbP S j x) (fun a _ _ => a = ca 3) := gEntryO (rt := .object "java/lang/StringBuilder") (by decide) rfl (Or.inl ⟨_, rfl⟩) cOK (fun _ _ _ _ _ h => h) (Nat.le_of_ble_eq_true rfl) (fun p e s m args below meth c Q ls X hP hS hret hl => by
  have hx := X.hx
  have hb := X.hb
  refine lv_aload_n hx hb dJ4_append_cf468_0 rfl (lv_at hl 0 rfl) ?_
  refine lv_iload_n hx hb dJ4_append_cf468_1 rfl (lv_at hl 1 rfl) ?_
  refine gCallPO (cSBat hP) X cOK (fun _ _ _ _ _ h => h) (vJ5_append hx255 hc hj) (va_cwSU 1 X.hts (gT_SU tw580 tw1585 tw84 tw581 tw3 tw582) rfl rfl rfl ⟨by decide, by decide +kernel⟩ ⟨by decide, by decide⟩) rfl hP hS (Fr_le hS.1) (cSBrec hP) hl.1 (Nat.le_of_ble_eq_true rfl) ⟨Nat.le_refl _, Nat.le_refl _⟩ dJ4_append_cf468_2 (As := [.int x]) (rest := []) rfl (fun H locs a hP ha hS => ?_)
  refine lv_pop hx hb dJ4_append_cf468_5 rfl ?_
  refine lv_aload_n hx hb dJ4_append_cf468_6 rfl (lv_at hl 0 rfl) ?_
  exact hret _ _ _ _ _ _ _ dJ4_append_cf468_7 hP rfl hS (Nat.zero_le _) (Nat.zero_le _))
end SB
