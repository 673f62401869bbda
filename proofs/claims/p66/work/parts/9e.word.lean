theorem tw20 : (Jvm.Cond.initialized "java/util/Arrays") ∈ TBG := tb_t 20 (by decide +kernel) (by decide +kernel)
theorem tw85 : (Jvm.Cond.arrayClass Jvm.ClassFile.FieldType.byte) ∈ TBG := tb_t 85 (by decide +kernel) (by decide +kernel)
theorem tw552 : (Jvm.Cond.methodLink "java/util/Arrays" (304 : Nat) ({ cls := "java/lang/Math", name := "min", desc := "(II)I" } : Jvm.MethodName)) ∈ TBG := tb_t 552 (by decide +kernel) (by decide +kernel)
theorem tw555 : (Jvm.Cond.methodLink "java/util/Arrays" (150 : Nat) ({ cls := "java/lang/System", name := "arraycopy", desc := "(Ljava/lang/Object;ILjava/lang/Object;II)V" } : Jvm.MethodName)) ∈ TBG := tb_t 555 (by decide +kernel) (by decide +kernel)
theorem tw641 : (Jvm.Cond.methodLink "java/util/Arrays" (339 : Nat) ({ cls := "java/util/Arrays", name := "copyOfRangeByte", desc := "([BII)[B" } : Jvm.MethodName)) ∈ TBG := tb_t 641 (by decide +kernel) (by decide +kernel)
theorem tw642 : (Jvm.Cond.static ({ cls := "java/util/Arrays", name := "copyOfRangeByte", desc := "([BII)[B" } : Jvm.MethodName)) ∈ TBG := tb_t 642 (by decide +kernel) (by decide +kernel)
theorem tw643 : (Jvm.Cond.code ({ cls := "java/util/Arrays", name := "copyOfRangeByte", desc := "([BII)[B" } : Jvm.MethodName) prog_45_method_133_code (5 : Nat) (Option.some (Jvm.ClassFile.FieldType.array Jvm.ClassFile.FieldType.byte))) ∈ TBG := tb_t 643 (by decide +kernel) (by decide +kernel)
theorem tw644 : (Jvm.Cond.methodLink "java/util/Arrays" (343 : Nat) ({ cls := "java/util/Arrays", name := "checkLength", desc := "(II)V" } : Jvm.MethodName)) ∈ TBG := tb_t 644 (by decide +kernel) (by decide +kernel)
theorem tw645 : (Jvm.Cond.static ({ cls := "java/util/Arrays", name := "checkLength", desc := "(II)V" } : Jvm.MethodName)) ∈ TBG := tb_t 645 (by decide +kernel) (by decide +kernel)
theorem tw646 : (Jvm.Cond.code ({ cls := "java/util/Arrays", name := "checkLength", desc := "(II)V" } : Jvm.MethodName) prog_45_method_131_code (2 : Nat) (Option.none : Option Jvm.ClassFile.FieldType)) ∈ TBG := tb_t 646 (by decide +kernel) (by decide +kernel)
/-! Arrays.copyOfRange, a new String, Text.word -/
section WORD
variable {l : Launch} {dC : Nat → ClassId} {dI : Nat → Nat → Nat} {cg : Nat → ClassId} {kA : String → Nat → Nat} {ca : Nat → Nat} {S : CS}
theorem vJ7_checkLength {a b : Int32} (h : a ≤ b) : gMetVA l yJ7_checkLength_df160 cJ7_checkLength_df160 2 1 0 0 (fun _ => False) (cP dC dI cg kA ca) (kR kTab kA) [.int a, .int b] S S := gEntryVA (by decide) cOK (Nat.le_of_ble_eq_true rfl) (fun p e s m args below meth c Q ls X hP hS hret hl => by
  have hx := X.hx
  have hb := X.hb
  refine lv_iload_n hx hb dJ7_checkLength_df160_0 rfl (lv_at hl 1 rfl) ?_
  refine lv_iload_n hx hb dJ7_checkLength_df160_1 rfl (lv_at hl 0 rfl) ?_
  refine lv_icmp_ge (tgt := 37) hx hb dJ7_checkLength_df160_2 (by decide) (fun _ => ?_) (fun c => absurd h c)
  exact hret _ _ _ _ _ _ dJ7_checkLength_df160_37 hP hS (Nat.le_refl _) (Nat.le_refl _))
/-- the letters that a new array holds -/
def nbA (S : CS) (n : Nat) (Ω : Nat → Prop) : Nat → State → Heap → Prop := fun a U H => va_T .byte a n (fun j => .int (S.1 4 j)) Ω U H
theorem nbA_moved {n : Nat} {Ω : Nat → Prop} : ∀ a u U H, u.vm.Alike U.vm → nbA S n Ω a u H → nbA S n Ω a U H := fun a u U H hvm h => h.moved hvm
theorem ascFit {b : Int32} (h : ∃ k : Fin 128, b = Int32.ofNat k.val) : fits .byte (.int b) = true := by
  obtain ⟨k, rfl⟩ := h
  exact (by decide +kernel : ∀ k : Fin 128, fits .byte (.int (Int32.ofNat k.val)) = true) k
theorem vJ7_copyOfRangeByte {n : Nat} (hn : n < 16) (ha : ∀ j, j < n → ∃ k : Fin 128, S.1 4 j = Int32.ofNat k.val) : gMetO l yJ7_copyOfRangeByte_39247 cJ7_copyOfRangeByte_39247 5 (some (.array .byte)) 3 1 n (fun _ => False) (cP dC dI cg kA ca) (kR kTab kA) [.ref (ca 4), .int 0, .int (nI n)] S S (nbA S n (cΩ ca)) := gEntryO (rt := .array .byte) (by decide) rfl (Or.inr ⟨_, rfl⟩) cOK nbA_moved (Nat.le_of_ble_eq_true rfl) (fun p e s m args below meth c Q ls X hP hS hret hl => by
  have hx := X.hx
  have hb := X.hb
  refine lv_iload_n hx hb dJ7_copyOfRangeByte_39247_0 rfl (lv_at hl 1 rfl) ?_
  refine lv_iload_n hx hb dJ7_copyOfRangeByte_39247_1 rfl (lv_at hl 2 rfl) ?_
  refine gCallTV X cOK (vJ7_checkLength (show (0 : Int32) ≤ nI n from nI_le (a := 0) (Nat.zero_le _) (by omega))) ⟨callB_of 2 X.hts (wT_good tw646) rfl rfl rfl (X.hts _ tw20) (X.hts _ tw644) ⟨by decide, by decide, by decide +kernel⟩ ⟨Nat.le_of_ble_eq_true rfl, Nat.le_of_ble_eq_true rfl⟩, X.hts _ tw645⟩ rfl hP hS (Fr_le hS.1) hl.1 (Nat.le_of_ble_eq_true rfl) ⟨Nat.zero_le _, Nat.zero_le _⟩ dJ7_copyOfRangeByte_39247_2 (As := [.int 0, .int (nI n)]) (rest := []) rfl (fun H locs hP hS => ?_)
  refine lv_iload_n hx hb dJ7_copyOfRangeByte_39247_5 rfl (lv_at hl 2 rfl) ?_
  refine lv_iload_n hx hb dJ7_copyOfRangeByte_39247_6 rfl (lv_at hl 1 rfl) ?_
  refine lv_isub hx hb dJ7_copyOfRangeByte_39247_7 ?_
  rw [show nI n - (0 : Int32) = nI n from pk_sub (b := 0) (Nat.zero_le _)]
  refine lv_istore_n (lv' := [(3, .int (nI n)), (0, .ref (ca 4)), (1, .int 0), (2, .int (nI n))]) hx hb dJ7_copyOfRangeByte_39247_8 rfl hl (by decide) rfl (fun ls hl => ?_)
  refine lv_iload_n hx hb dJ7_copyOfRangeByte_39247_9 rfl (lv_at hl 0 rfl) ?_
  obtain ⟨q, hq⟩ : ∃ q, q = H.size := ⟨_, rfl⟩
  refine va_newaK (atype := .byte) hx hb (X.hts _ tw85) rfl dJ7_copyOfRangeByte_39247_10 rfl (show ¬ nI n < (0 : Int32) from nI_nlt (b := 0) (Nat.zero_le _) (by omega)) (nI_c (show n < 2147483648 by omega)) (by show n * 1 ≤ _; omega) (by show 0 + 1 ≤ 1; omega) (by show 0 + n ≤ n; omega) hq.symm (fun H1 cA e1 z1 o1 hAr hNm => ?_)
  have hP1 : cP dC dI cg kA ca S s H1 := cExt S s H H1 (by omega) (fun a ha => o1 a (by omega)) hP
  have nq : ¬ cΩ ca q := fun h => by
    obtain ⟨w, hw, e⟩ := h
    obtain ⟨nA, hN⟩ := hP
    have := (hN.1 w hw).lt
    have h2 : ca w < H.size := this
    omega
  have hsz := hS.1
  have h4 : ∃ c4, H1[ca 4]? = some (vp_cell c4 (16, .inl (S.1 4))) ∧ ArrOfT s c4 .byte := by
    obtain ⟨nA, hN⟩ := hP1
    exact ⟨cg 1, hN.1 4 (by omega), (hN.2.1.2 1 _ rfl).1⟩
  obtain ⟨c4, h4, t4⟩ := h4
  refine lv_astore (lv' := [(4, .ref q), (3, .int (nI n)), (0, .ref (ca 4)), (1, .int 0), (2, .int (nI n))]) hx hb dJ7_copyOfRangeByte_39247_12 hl (by decide) rfl (fun ls hl => ?_)
  refine lv_aload_n hx hb dJ7_copyOfRangeByte_39247_14 rfl (lv_at hl 2 rfl) ?_
  refine lv_iload_n hx hb dJ7_copyOfRangeByte_39247_15 rfl (lv_at hl 3 rfl) ?_
  refine lv_aload hx hb dJ7_copyOfRangeByte_39247_16 (lv_at hl 0 rfl) ?_
  refine lv_iconst (v := 0) hx hb dJ7_copyOfRangeByte_39247_18 (by decide) ?_
  refine lv_aload_n hx hb dJ7_copyOfRangeByte_39247_19 rfl (lv_at hl 2 rfl) ?_
  refine cr_alen (v := 16) X hP1 (rfl : kc 4 = 4) rfl (fun _ => rfl) rfl rfl dJ7_copyOfRangeByte_39247_20 ?_
  refine lv_iload_n hx hb dJ7_copyOfRangeByte_39247_21 rfl (lv_at hl 3 rfl) ?_
  refine lv_isub hx hb dJ7_copyOfRangeByte_39247_22 ?_
  refine lv_iload_n hx hb dJ7_copyOfRangeByte_39247_23 rfl (lv_at hl 1 rfl) ?_
  refine gMin X rfl tw552 tw553 tw19 tw554 (by decide) hl.1 (Nat.le_of_ble_eq_true rfl) ⟨by show 0 + 0 + 1 ≤ 1; omega, by show 0 + 0 + n ≤ n; omega⟩ dJ7_copyOfRangeByte_39247_24 ?_
  have hmin : (if nI n < (16 : Int32) - 0 then nI n else (16 : Int32) - 0) = nI n := by
    rw [show (16 : Int32) - 0 = nI 16 by decide]
    rw [if_pos (nI_lt hn (by omega))]
  rw [hmin]
  refine cr_copyB (a := q) (n1 := n) (c1 := cA) (g := fun _ => 0) X hl.1 tw555 tw557 tw556 tw21 t4 hAr h4 (e1 : H1[q]? = some (vp_cell cA (n, .inl fun _ => 0))) (by rw [nI_c (by omega)]; omega) (by rw [nI_c (by omega)]; exact Nat.le_refl _) (show ¬ nI n < (0 : Int32) from nI_nlt (b := 0) (Nat.zero_le _) (by omega)) (fun i hi => ascFit (ha i (by rw [nI_c (by omega)] at hi; exact hi))) (Nat.le_of_ble_eq_true rfl) (Nat.le_of_ble_eq_true rfl) dJ7_copyOfRangeByte_39247_27 (fun H2 L e2 z2 o2 hL => ?_)
  rw [nI_c (by omega)] at e2
  refine lv_aload hx hb dJ7_copyOfRangeByte_39247_30 (lv_at hl 0 rfl) ?_
  refine hret _ _ _ _ _ _ _ dJ7_copyOfRangeByte_39247_32 (cExt S s H H2 (by omega) (fun a ha => (o2 a (by omega)).trans (o1 a (by omega))) hP) ?_ ⟨by omega, fun a h1 h2 => ?_, fun z hz => ?_⟩ (Nat.le_refl _) (by show 0 + 0 + n ≤ n; omega)
  · refine ⟨_, e2, hAr n _, (by intro z; cases z), ?_, ?_, fun j hj => ?_, nq⟩
    · show n ≤ (arrV cA n _).slots.size
      rw [arrV_size]; exact Nat.le_refl _
    · show (arrV cA n _).slots.size.toInt32 = _
      rw [arrV_size]
    · show (arrV cA n _).slots[j]? = _
      rw [arrV_read _ _ hj]
      unfold va_cpy
      rw [if_pos ⟨Nat.zero_le _, by omega⟩, Nat.zero_add, Nat.sub_zero]
  · rw [o2 a (by omega), o1 a (by omega)]
    exact hS.2.1 a h1 h2
  · rcases List.mem_append.mp hz with h | h
    · exact hS.2.2 z h
    · rw [hL z h]
      exact Or.inr (by omega))
theorem vJ7_copyOfRange {n : Nat} (hn : n < 16) (ha : ∀ j, j < n → ∃ k : Fin 128, S.1 4 j = Int32.ofNat k.val) : gMetO l yJ7_copyOfRange_39247 cJ7_copyOfRange_39247 3 (some (.array .byte)) 4 1 n (fun _ => False) (cP dC dI cg kA ca) (kR kTab kA) [.ref (ca 4), .int 0, .int (nI n)] S S (nbA S n (cΩ ca)) := gEntryO (rt := .array .byte) (by decide) rfl (Or.inr ⟨_, rfl⟩) cOK nbA_moved (Nat.le_of_ble_eq_true rfl) (fun p e s m args below meth c Q ls X hP hS hret hl => by
  have hx := X.hx
  have hb := X.hb
  refine lv_iload_n hx hb dJ7_copyOfRange_39247_0 rfl (lv_at hl 1 rfl) ?_
  refine lv_if_ne (tgt := 10) hx hb dJ7_copyOfRange_39247_1 (by decide) (fun c => absurd rfl c) (fun _ => ?_)
  refine lv_iload_n hx hb dJ7_copyOfRange_39247_4 rfl (lv_at hl 2 rfl) ?_
  refine lv_aload_n hx hb dJ7_copyOfRange_39247_5 rfl (lv_at hl 0 rfl) ?_
  refine cr_alen (v := 16) X hP (rfl : kc 4 = 4) rfl (fun _ => rfl) rfl rfl dJ7_copyOfRange_39247_6 ?_
  refine lv_icmp_eq (tgt := 17) hx hb dJ7_copyOfRange_39247_7 (by decide) (fun c => absurd ((nI_eq (b := 16) (by omega) (by omega)).mp c) (by omega)) (fun _ => ?_)
  refine lv_aload_n hx hb dJ7_copyOfRange_39247_10 rfl (lv_at hl 0 rfl) ?_
  refine lv_iload_n hx hb dJ7_copyOfRange_39247_11 rfl (lv_at hl 1 rfl) ?_
  refine lv_iload_n hx hb dJ7_copyOfRange_39247_12 rfl (lv_at hl 2 rfl) ?_
  refine gCallTO X cOK nbA_moved (vJ7_copyOfRangeByte hn ha) ⟨callB_of 3 X.hts (wT_good tw643) rfl rfl rfl (X.hts _ tw20) (X.hts _ tw641) ⟨by decide, by decide, by decide +kernel⟩ ⟨Nat.le_of_ble_eq_true rfl, Nat.le_of_ble_eq_true rfl⟩, X.hts _ tw642⟩ rfl hP hS (Fr_le hS.1) hl.1 (Nat.le_of_ble_eq_true rfl) ⟨by show 0 + 1 ≤ 1; omega, by show 0 + n ≤ n; omega⟩ dJ7_copyOfRange_39247_13 (As := [.ref (ca 4), .int 0, .int (nI n)]) (rest := []) rfl (fun H locs a hP ha hS => ?_)
  exact hret _ _ _ _ _ _ _ dJ7_copyOfRange_39247_16 hP ha hS (by omega) (by omega))
end WORD
