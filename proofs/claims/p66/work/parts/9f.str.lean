theorem tw4 : (Jvm.Cond.initialized "java/lang/StringBuilder") ∈ TBG := tb_t 4 (by decide +kernel) (by decide +kernel)
theorem tw45 : (Jvm.Cond.instanceMethod ({ cls := "java/lang/Object", name := "<init>", desc := "()V" } : Jvm.MethodName)) ∈ TBG := tb_t 45 (by decide +kernel) (by decide +kernel)
theorem tw46 : (Jvm.Cond.code ({ cls := "java/lang/Object", name := "<init>", desc := "()V" } : Jvm.MethodName) object_method_1_code (1 : Nat) (Option.none : Option Jvm.ClassFile.FieldType)) ∈ TBG := tb_t 46 (by decide +kernel) (by decide +kernel)
theorem tw87 : (Jvm.Cond.fieldLink "GranaryWatch$Text" (18 : Nat) "GranaryWatch$Text" "letters" "Ljava/lang/StringBuilder;") ∈ TBG := tb_t 87 (by decide +kernel) (by decide +kernel)
theorem tw516 : (Jvm.Cond.methodLink "GranaryWatch$Text" (61 : Nat) ({ cls := "java/lang/StringBuilder", name := "setLength", desc := "(I)V" } : Jvm.MethodName)) ∈ TBG := tb_t 516 (by decide +kernel) (by decide +kernel)
theorem tw517 : (Jvm.Cond.instanceMethod ({ cls := "java/lang/StringBuilder", name := "setLength", desc := "(I)V" } : Jvm.MethodName)) ∈ TBG := tb_t 517 (by decide +kernel) (by decide +kernel)
theorem tw518 : (Jvm.Cond.selects "java/lang/StringBuilder" ({ cls := "java/lang/StringBuilder", name := "setLength", desc := "(I)V" } : Jvm.MethodName) ({ cls := "java/lang/StringBuilder", name := "setLength", desc := "(I)V" } : Jvm.MethodName)) ∈ TBG := tb_t 518 (by decide +kernel) (by decide +kernel)
theorem tw519 : (Jvm.Cond.code ({ cls := "java/lang/StringBuilder", name := "setLength", desc := "(I)V" } : Jvm.MethodName) prog_34_method_89_code (2 : Nat) (Option.none : Option Jvm.ClassFile.FieldType)) ∈ TBG := tb_t 519 (by decide +kernel) (by decide +kernel)
theorem tw576 : (Jvm.Cond.methodLink "GranaryWatch$Text" (64 : Nat) ({ cls := "java/lang/StringBuilder", name := "append", desc := "(C)Ljava/lang/StringBuilder;" } : Jvm.MethodName)) ∈ TBG := tb_t 576 (by decide +kernel) (by decide +kernel)
theorem tw577 : (Jvm.Cond.instanceMethod ({ cls := "java/lang/StringBuilder", name := "append", desc := "(C)Ljava/lang/StringBuilder;" } : Jvm.MethodName)) ∈ TBG := tb_t 577 (by decide +kernel) (by decide +kernel)
theorem tw578 : (Jvm.Cond.selects "java/lang/StringBuilder" ({ cls := "java/lang/StringBuilder", name := "append", desc := "(C)Ljava/lang/StringBuilder;" } : Jvm.MethodName) ({ cls := "java/lang/StringBuilder", name := "append", desc := "(C)Ljava/lang/StringBuilder;" } : Jvm.MethodName)) ∈ TBG := tb_t 578 (by decide +kernel) (by decide +kernel)
theorem tw579 : (Jvm.Cond.code ({ cls := "java/lang/StringBuilder", name := "append", desc := "(C)Ljava/lang/StringBuilder;" } : Jvm.MethodName) prog_34_method_14_code (2 : Nat) (Option.some (Jvm.ClassFile.FieldType.object "java/lang/StringBuilder"))) ∈ TBG := tb_t 579 (by decide +kernel) (by decide +kernel)
theorem tw611 : (Jvm.Cond.methodLink "GranaryWatch$Text" (67 : Nat) ({ cls := "java/lang/StringBuilder", name := "toString", desc := "()Ljava/lang/String;" } : Jvm.MethodName)) ∈ TBG := tb_t 611 (by decide +kernel) (by decide +kernel)
theorem tw612 : (Jvm.Cond.instanceMethod ({ cls := "java/lang/StringBuilder", name := "toString", desc := "()Ljava/lang/String;" } : Jvm.MethodName)) ∈ TBG := tb_t 612 (by decide +kernel) (by decide +kernel)
theorem tw613 : (Jvm.Cond.selects "java/lang/StringBuilder" ({ cls := "java/lang/StringBuilder", name := "toString", desc := "()Ljava/lang/String;" } : Jvm.MethodName) ({ cls := "java/lang/StringBuilder", name := "toString", desc := "()Ljava/lang/String;" } : Jvm.MethodName)) ∈ TBG := tb_t 613 (by decide +kernel) (by decide +kernel)
theorem tw614 : (Jvm.Cond.code ({ cls := "java/lang/StringBuilder", name := "toString", desc := "()Ljava/lang/String;" } : Jvm.MethodName) prog_34_method_42_code (1 : Nat) (Option.some (Jvm.ClassFile.FieldType.object "java/lang/String"))) ∈ TBG := tb_t 614 (by decide +kernel) (by decide +kernel)
theorem tw615 : (Jvm.Cond.classLink "java/lang/StringBuilder" (18 : Nat) "java/lang/String") ∈ TBG := tb_t 615 (by decide +kernel) (by decide +kernel)
theorem tw616 : (Jvm.Cond.instantiable "java/lang/String" (4 : Nat)) ∈ TBG := tb_t 616 (by decide +kernel) (by decide +kernel)
theorem tw617 : (Jvm.Cond.methodLink "java/lang/StringBuilder" (137 : Nat) ({ cls := "java/lang/String", name := "<init>", desc := "(Ljava/lang/StringBuilder;)V" } : Jvm.MethodName)) ∈ TBG := tb_t 617 (by decide +kernel) (by decide +kernel)
theorem tw618 : (Jvm.Cond.instanceMethod ({ cls := "java/lang/String", name := "<init>", desc := "(Ljava/lang/StringBuilder;)V" } : Jvm.MethodName)) ∈ TBG := tb_t 618 (by decide +kernel) (by decide +kernel)
theorem tw619 : (Jvm.Cond.code ({ cls := "java/lang/String", name := "<init>", desc := "(Ljava/lang/StringBuilder;)V" } : Jvm.MethodName) prog_33_method_53_code (2 : Nat) (Option.none : Option Jvm.ClassFile.FieldType)) ∈ TBG := tb_t 619 (by decide +kernel) (by decide +kernel)
theorem tw620 : (Jvm.Cond.methodLink "java/lang/String" (489 : Nat) ({ cls := "java/lang/String", name := "<init>", desc := "(Ljava/lang/AbstractStringBuilder;Ljava/lang/Void;)V" } : Jvm.MethodName)) ∈ TBG := tb_t 620 (by decide +kernel) (by decide +kernel)
theorem tw621 : (Jvm.Cond.instanceMethod ({ cls := "java/lang/String", name := "<init>", desc := "(Ljava/lang/AbstractStringBuilder;Ljava/lang/Void;)V" } : Jvm.MethodName)) ∈ TBG := tb_t 621 (by decide +kernel) (by decide +kernel)
theorem tw622 : (Jvm.Cond.code ({ cls := "java/lang/String", name := "<init>", desc := "(Ljava/lang/AbstractStringBuilder;Ljava/lang/Void;)V" } : Jvm.MethodName) prog_33_method_150_code (5 : Nat) (Option.none : Option Jvm.ClassFile.FieldType)) ∈ TBG := tb_t 622 (by decide +kernel) (by decide +kernel)
theorem tw623 : (Jvm.Cond.methodLink "java/lang/String" (1 : Nat) ({ cls := "java/lang/Object", name := "<init>", desc := "()V" } : Jvm.MethodName)) ∈ TBG := tb_t 623 (by decide +kernel) (by decide +kernel)
theorem tw624 : (Jvm.Cond.methodLink "java/lang/String" (552 : Nat) ({ cls := "java/lang/AbstractStringBuilder", name := "getValue", desc := "()[B" } : Jvm.MethodName)) ∈ TBG := tb_t 624 (by decide +kernel) (by decide +kernel)
theorem tw625 : (Jvm.Cond.instanceMethod ({ cls := "java/lang/AbstractStringBuilder", name := "getValue", desc := "()[B" } : Jvm.MethodName)) ∈ TBG := tb_t 625 (by decide +kernel) (by decide +kernel)
theorem tw627 : (Jvm.Cond.selects "java/lang/StringBuilder" ({ cls := "java/lang/AbstractStringBuilder", name := "getValue", desc := "()[B" } : Jvm.MethodName) ({ cls := "java/lang/AbstractStringBuilder", name := "getValue", desc := "()[B" } : Jvm.MethodName)) ∈ TBG := tb_t 627 (by decide +kernel) (by decide +kernel)
theorem tw628 : (Jvm.Cond.code ({ cls := "java/lang/AbstractStringBuilder", name := "getValue", desc := "()[B" } : Jvm.MethodName) prog_18_method_64_code (1 : Nat) (Option.some (Jvm.ClassFile.FieldType.array Jvm.ClassFile.FieldType.byte))) ∈ TBG := tb_t 628 (by decide +kernel) (by decide +kernel)
theorem tw629 : (Jvm.Cond.methodLink "java/lang/String" (549 : Nat) ({ cls := "java/lang/AbstractStringBuilder", name := "length", desc := "()I" } : Jvm.MethodName)) ∈ TBG := tb_t 629 (by decide +kernel) (by decide +kernel)
theorem tw632 : (Jvm.Cond.selects "java/lang/StringBuilder" ({ cls := "java/lang/AbstractStringBuilder", name := "length", desc := "()I" } : Jvm.MethodName) ({ cls := "java/lang/StringBuilder", name := "length", desc := "()I" } : Jvm.MethodName)) ∈ TBG := tb_t 632 (by decide +kernel) (by decide +kernel)
theorem tw633 : (Jvm.Cond.instanceMethod ({ cls := "java/lang/StringBuilder", name := "length", desc := "()I" } : Jvm.MethodName)) ∈ TBG := tb_t 633 (by decide +kernel) (by decide +kernel)
theorem tw634 : (Jvm.Cond.code ({ cls := "java/lang/StringBuilder", name := "length", desc := "()I" } : Jvm.MethodName) prog_34_method_93_code (1 : Nat) (Option.some Jvm.ClassFile.FieldType.int)) ∈ TBG := tb_t 634 (by decide +kernel) (by decide +kernel)
theorem tw637 : (Jvm.Cond.methodLink "java/lang/String" (1047 : Nat) ({ cls := "java/lang/AbstractStringBuilder", name := "isLatin1", desc := "()Z" } : Jvm.MethodName)) ∈ TBG := tb_t 637 (by decide +kernel) (by decide +kernel)
theorem tw638 : (Jvm.Cond.methodLink "java/lang/String" (54 : Nat) ({ cls := "java/util/Arrays", name := "copyOfRange", desc := "([BII)[B" } : Jvm.MethodName)) ∈ TBG := tb_t 638 (by decide +kernel) (by decide +kernel)
theorem tw639 : (Jvm.Cond.static ({ cls := "java/util/Arrays", name := "copyOfRange", desc := "([BII)[B" } : Jvm.MethodName)) ∈ TBG := tb_t 639 (by decide +kernel) (by decide +kernel)
theorem tw640 : (Jvm.Cond.code ({ cls := "java/util/Arrays", name := "copyOfRange", desc := "([BII)[B" } : Jvm.MethodName) prog_45_method_132_code (3 : Nat) (Option.some (Jvm.ClassFile.FieldType.array Jvm.ClassFile.FieldType.byte))) ∈ TBG := tb_t 640 (by decide +kernel) (by decide +kernel)
/-! a new String out of the StringBuilder, Text.word -/
theorem gT_O {own C owner : String} {idx : Nat} {x y : MethodName} {c : ByteArray} {n : Nat} {r : Option FieldType} (h1 : Cond.methodLink own idx x ∈ TBG) (h2 : Cond.sameMethod x.cls owner x.name x.desc ∈ TBG) (h7 : Cond.instanceMethod ⟨owner, x.name, x.desc⟩ ∈ TBG) (h3 : Cond.selects C x y ∈ TBG) (h4 : Cond.instanceMethod y ∈ TBG) (h5 : Cond.initialized y.cls ∈ TBG) (h6 : Cond.code y c n r ∈ TBG) : GoodIn TBG (va_wsO own idx C owner x y (wT y c n r)) := fun w hw => by
  unfold va_wsO at hw
  rcases List.mem_append.mp hw with hw | hw
  · simp only [List.mem_cons, List.not_mem_nil, or_false] at hw
    rcases hw with rfl | rfl | rfl | rfl | rfl | rfl
    · exact ⟨h1, tb_good h1⟩
    · exact ⟨h2, tb_good h2⟩
    · exact ⟨h7, tb_good h7⟩
    · exact ⟨h3, tb_good h3⟩
    · exact ⟨h4, tb_good h4⟩
    · exact ⟨h5, tb_good h5⟩
  · exact wT_good h6 w hw
section NSTR
variable {l : Launch} {dC : Nat → ClassId} {dI : Nat → Nat → Nat} {cg : Nat → ClassId} {kA : String → Nat → Nat} {ca : Nat → Nat} {S : CS} {s : State} {H : Heap} {a n : Nat} {bs : List Int32}
theorem cinJ0 : ∀ w ∈ u_ws RJ0 TJ0 4, w ∈ TBG := by decide +kernel
/-- the class's world, all of whose cells lie below a -/
def cPa (dC : Nat → ClassId) (dI : Nat → Nat → Nat) (cg : Nat → ClassId) (kA : String → Nat → Nat) (ca : Nat → Nat) (a : Nat) (S : CS) : State → Heap → Prop := fun U H => ∃ H0 : Heap, H0.size ≤ a ∧ H0.size ≤ H.size ∧ (∀ q : Nat, q < H0.size → H[q]? = H0[q]?) ∧ cP dC dI cg kA ca S U H0
theorem cPa.to (h : cPa dC dI cg kA ca a S s H) : cP dC dI cg kA ca S s H := by
  obtain ⟨H0, h1, h2, h3, h4⟩ := h
  exact cExt S s H0 H h2 h3 h4
theorem cPa.kept {H1 : Heap} (h : cPa dC dI cg kA ca a S s H) (hz : H.size ≤ H1.size) (hq : ∀ q : Nat, q < H.size → q ≠ a → H1[q]? = H[q]?) : cPa dC dI cg kA ca a S s H1 := by
  obtain ⟨H0, h1, h2, h3, h4⟩ := h
  exact ⟨H0, h1, by omega, fun q hq0 => (hq q (by omega) (by omega)).trans (h3 q hq0), h4⟩
theorem cPa.moved {U : State} (hvm : s.vm.Alike U.vm) (h : cPa dC dI cg kA ca a S s H) : cPa dC dI cg kA ca a S U H := by
  obtain ⟨H0, h1, h2, h3, h4⟩ := h
  exact ⟨H0, h1, h2, h3, cOK.1 _ _ _ _ hvm h4⟩
theorem cPa.no (h : cPa dC dI cg kA ca a S s H) : ¬ cΩ ca a := fun z => by
  obtain ⟨H0, h1, h2, h3, nA, hN⟩ := h
  obtain ⟨w, hw, e⟩ := z
  have : ca w < H0.size := (hN.1 w hw).lt
  omega
/-- the class's world with a new String at a: with the fields v, then with its text -/
def strF (dC : Nat → ClassId) (dI : Nat → Nat → Nat) (cg : Nat → ClassId) (kA : String → Nat → Nat) (ca : Nat → Nat) (a : Nat) (S : CS) (v : List Value) : State → Heap → Prop := fun U H => cPa dC dI cg kA ca a S U H ∧ va_at (dC, dI) vwCl (a, .inr (0, v)) H
def strW (dC : Nat → ClassId) (dI : Nat → Nat → Nat) (cg : Nat → ClassId) (kA : String → Nat → Nat) (ca : Nat → Nat) (a : Nat) (S : CS) (bs : List Int32) : Bool → State → Heap → Prop := fun b U H => (b = false → strF dC dI cg kA ca a S [.null, .int 0, .int 0, .int 0] U H) ∧ (b = true → cPa dC dI cg kA ca a S U H ∧ strAt a bs (cΩ ca) U H)
theorem strW_ok : gOK (strW dC dI cg kA ca a S bs) (kR kTab kA) := ⟨fun b u U H hvm h => ⟨fun e => ⟨(h.1 e).1.moved hvm, (h.1 e).2⟩, fun e => ⟨(h.2 e).1.moved hvm, (h.2 e).2.moved hvm⟩⟩, kR_ok⟩
theorem strF_fs {v : List Value} : gFs (fun _ => False) (strF dC dI cg kA ca a S v) := ⟨fun u U H hvm h => ⟨h.1.moved hvm, h.2⟩, fun U H H1 hz hk h => ⟨h.1.kept hz (fun q hq _ => hk q hq (fun z => z)), h.2.kept (hk a h.2.lt (fun z => z))⟩⟩
/-- the letters that the StringBuilder holds -/
def sbT (S : CS) (n : Nat) : List Int32 := (List.range n).map fun j => S.1 4 j
theorem sbT_len : (sbT S n).length = n := by unfold sbT; simp
theorem sbT_at {j : Nat} (h : j < n) : (sbT S n).getD j 0 = S.1 4 j := by
  unfold sbT
  rw [List.getD_eq_getElem?_getD, List.getElem?_map, List.getElem?_range h]
  rfl
theorem vJ0_init (hc : cnt S = nI n) (hn : n < 16) (ha : ∀ j, j < n → ∃ k : Fin 128, S.1 4 j = Int32.ofNat k.val) : gMetVA l yJ0_init_db425 cJ0_init_db425 5 5 1 n (fun q => q = a) (strW dC dI cg kA ca a S (sbT S n)) (kR kTab kA) [.ref a, .ref (ca 3), .null] false true := gEntryVN (by decide) strW_ok (Nat.le_of_ble_eq_true rfl) (fun p e s m args below meth c Q ls X hin hP hS hret hl => by
  have hx := X.hx
  have hb := X.hb
  have hF : strF dC dI cg kA ca a S [.null, .int 0, .int 0, .int 0] s s.heap := hP.1 rfl
  have hA : ∀ {H : Heap} {locs : List Loc}, va_S (Fr (fun q => q = a) s.heap.size) s.heap H locs → ∀ q, Fr (fun _ => False) H.size q → Fr (fun q => q = a) s.heap.size q := fun hS => noF hS
  have hK : va_K (dC, dI) vwCl (cTy cg) s := by
    obtain ⟨nA, hN⟩ := hF.1.to
    exact hN.2.1
  refine lv_aload_n hx hb dJ0_init_db425_0 rfl (lv_at hl 0 rfl) ?_
  refine W.objInit hx hb X.hown (X.hts _ tw623) (X.hts _ tw45) (X.hts _ tw46) rfl (by rw [X.hml]; exact hl.1) rfl dJ0_init_db425_1 (Nat.le_of_ble_eq_true rfl) (Nat.le_of_ble_eq_true rfl) ?_
  refine W.eq (g2 := F0 m 4 ls []) rfl ?_
  refine lv_aload_n hx hb dJ0_init_db425_4 rfl (lv_at hl 1 rfl) ?_
  refine gCallWO X (gF_ok cOK strF_fs) (fun _ _ _ _ _ h => h) (gMetO.lift strF_fs vJ5_getValue) (cwC 0 X (wT_good tw628) tw624 tw3 tw625 (X.hts _ tw627) ⟨by decide, by decide, by decide +kernel⟩ ⟨Nat.le_of_ble_eq_true rfl, Nat.le_of_ble_eq_true rfl⟩) rfl ⟨hF.1.to, hF⟩ hS (hA hS) (cSBrec hF.1.to) hl.1 (Nat.le_of_ble_eq_true rfl) ⟨Nat.zero_le _, Nat.zero_le _⟩ dJ0_init_db425_5 (As := []) (rest := []) rfl (fun H locs v hP hv hS => ?_)
  subst hv
  refine lv_astore_n (lv' := [(3, .ref (ca 4)), (0, .ref a), (1, .ref (ca 3)), (2, .null)]) hx hb dJ0_init_db425_8 rfl hl (by decide) rfl (fun ls hl => ?_)
  refine lv_aload_n hx hb dJ0_init_db425_9 rfl (lv_at hl 2 rfl) ?_
  refine gCallUI X (gF_ok cOK strF_fs) (gMetIA.lift strF_fs (gMetIA.of vJ4_length)) (va_cwO 0 X.hts (gT_O (owner := "java/lang/AbstractStringBuilder") tw629 tw631 tw630 tw632 tw633 tw4 tw634) rfl rfl rfl tw636 ⟨by decide, by decide, by decide +kernel⟩ ⟨Nat.le_of_ble_eq_true rfl, Nat.le_of_ble_eq_true rfl⟩) rfl hP hS (hA hS) (cSBrec hP.1) hl.1 (Nat.le_of_ble_eq_true rfl) ⟨Nat.zero_le _, Nat.zero_le _⟩ dJ0_init_db425_10 (As := []) (rest := []) rfl (fun H locs hP hS => ?_)
  rw [hc]
  refine lv_istore (lv' := [(4, .int (nI n)), (3, .ref (ca 4)), (0, .ref a), (1, .ref (ca 3)), (2, .null)]) hx hb dJ0_init_db425_13 hl (by decide) rfl (fun ls hl => ?_)
  refine lv_aload_n hx hb dJ0_init_db425_15 rfl (lv_at hl 3 rfl) ?_
  refine gCallWI X (gF_ok cOK strF_fs) (gMetIA.lift strF_fs (gMetIA.of vJ5_isLatin1)) (gIsl X tw637 ⟨by decide, by decide⟩) rfl hP hS (hA hS) (cSBrec hP.1) hl.1 (Nat.le_of_ble_eq_true rfl) ⟨Nat.zero_le _, Nat.zero_le _⟩ dJ0_init_db425_16 (As := []) (rest := []) rfl (fun H locs hP hS => ?_)
  refine lv_if_eq (tgt := 41) hx hb dJ0_init_db425_19 (by decide) (fun c => absurd c (by decide)) (fun _ => ?_)
  refine lv_aload_n hx hb dJ0_init_db425_22 rfl (lv_at hl 2 rfl) ?_
  refine lv_iconst (v := 0) hx hb dJ0_init_db425_23 (by decide) ?_
  refine va_putFO hx hb X.hts cinJ0 tyJ0 tyJ0_ok nmJ0 X.hown hK hP.2.2 rfl 1 (by decide) (X.hts _ tw658) (fun x h => h) rfl hin rfl (tyJ0_ok 1 (by decide)) (by decide +kernel) (by decide +kernel) (by decide) dJ0_init_db425_24 (fun H1 j h4 hz oq => ?_)
  have hP1 : strF dC dI cg kA ca a S [.null, .int 0, .int 0, .int 0] s H1 := ⟨hP.2.1.kept (by omega) (fun q _ h => oq q h), h4⟩
  have hS1 : va_S (Fr (fun q => q = a) s.heap.size) s.heap H1 (locs ++ [⟨a, j⟩]) := hS.put hz oq (Or.inl rfl)
  refine lv_aload_n hx hb dJ0_init_db425_27 rfl (lv_at hl 2 rfl) ?_
  refine lv_aload_n hx hb dJ0_init_db425_28 rfl (lv_at hl 1 rfl) ?_
  refine lv_iconst (v := 0) hx hb dJ0_init_db425_29 (by decide) ?_
  refine lv_iload hx hb dJ0_init_db425_30 (lv_at hl 0 rfl) ?_
  refine gCallTO X (gF_ok cOK strF_fs) nbA_moved (gMetO.lift strF_fs (vJ7_copyOfRange hn ha)) ⟨callB_of 3 X.hts (wT_good tw640) rfl rfl rfl (X.hts _ tw20) (X.hts _ tw638) ⟨by decide, by decide, by decide +kernel⟩ ⟨Nat.le_of_ble_eq_true rfl, Nat.le_of_ble_eq_true rfl⟩, X.hts _ tw639⟩ rfl ⟨hP1.1.to, hP1⟩ hS1 (hA hS1) hl.1 (Nat.le_of_ble_eq_true rfl) ⟨by show 0 + 0 + 0 + 0 + 1 ≤ 1; omega, by show 0 + 0 + 0 + 0 + n ≤ n; omega⟩ dJ0_init_db425_32 (As := [.ref (ca 4), .int 0, .int (nI n)]) (rest := [.ref a]) rfl (fun H locs t hP ht hS => ?_)
  refine va_putFO hx hb X.hts cinJ0 tyJ0 tyJ0_ok nmJ0 X.hown hK hP.2.2 rfl 0 (by decide) (X.hts _ tw657) (fun x h => h) rfl hin rfl (tyJ0_ok 0 (by decide)) rfl rfl (by decide) dJ0_init_db425_35 (fun H2 j h4 hz oq => ?_)
  have hP2 : strF dC dI cg kA ca a S [.ref t, .int 0, .int 0, .int 0] s H2 := ⟨hP.2.1.kept (by omega) (fun q _ h => oq q h), h4⟩
  refine lv_goto (tgt := 97) hx hb dJ0_init_db425_38 (by decide) ?_
  have hta : t ≠ a := fun z => by
    subst z
    obtain ⟨cell, q1, q2, q3⟩ := ht
    obtain ⟨r, h1, cell', w1, w2, w3, -⟩ := hP.2.2
    have e : cell = cell' := Option.some.inj (q1.symm.trans w1)
    subst e
    obtain ⟨-, k1, q5, comp, q6⟩ := q2
    obtain ⟨k2, w5, w6⟩ := (hK.1 0 _ rfl).2.2
    rw [w2] at q5
    cases Option.some.inj (q5.symm.trans w5)
    rw [q6] at w6
    cases w6
  refine hret _ _ _ _ _ _ dJ0_init_db425_97 ⟨fun z => (by cases z), fun _ => ⟨hP2.1, ?_, by rw [sbT_len]; omega, t, at_O hK hP2.2 rfl hP2.1.no, at_OF (k := 1) X.hts cinJ0 hK hP2.2 rfl (by decide) rfl hP2.1.no, at_OF (k := 0) X.hts cinJ0 hK hP2.2 rfl (by decide) rfl hP2.1.no, ?_⟩⟩ (hS.put hz oq (Or.inl rfl)) (by omega) (by omega)
  · intro b hb'
    unfold sbT at hb'
    obtain ⟨j, hj, rfl⟩ := List.mem_map.mp hb'
    exact ha j (List.mem_range.mp hj)
  · obtain ⟨cell, q1, q2, q3, q4, q5, q6, q7⟩ := ht
    rw [sbT_len]
    exact ⟨cell, (oq t hta).trans q1, q2, q3, q4, q5, fun j hj => (by dsimp only; rw [sbT_at hj]; exact q6 j hj), q7⟩)
theorem vJ0_initSB (hc : cnt S = nI n) (hn : n < 16) (ha : ∀ j, j < n → ∃ k : Fin 128, S.1 4 j = Int32.ofNat k.val) : gMetVA l yJ0_init_81219 cJ0_init_81219 2 6 1 n (fun q => q = a) (strW dC dI cg kA ca a S (sbT S n)) (kR kTab kA) [.ref a, .ref (ca 3)] false true := gEntryVA (by decide) strW_ok (Nat.le_of_ble_eq_true rfl) (fun p e s m args below meth c Q ls X hP hS hret hl => by
  have hx := X.hx
  have hb := X.hb
  refine lv_aload_n hx hb dJ0_init_81219_0 rfl (lv_at hl 0 rfl) ?_
  refine lv_aload_n hx hb dJ0_init_81219_1 rfl (lv_at hl 1 rfl) ?_
  refine lv_null hx hb dJ0_init_81219_2 ?_
  refine gCallCI X strW_ok (vJ0_init hc hn ha) (cwI 2 X.hts (wT_good tw622) rfl rfl rfl (X.hts _ tw5) (X.hts _ tw620) (X.hts _ tw621) rfl ⟨by decide, by decide, by decide +kernel⟩ ⟨Nat.le_of_ble_eq_true rfl, Nat.le_of_ble_eq_true rfl⟩) rfl hP hS (Fr_le hS.1) hl.1 (Nat.le_of_ble_eq_true rfl) ⟨by show 0 + 1 ≤ 1; omega, by show 0 + n ≤ n; omega⟩ dJ0_init_81219_3 (As := [.ref (ca 3), .null]) (rest := []) rfl (fun H locs hP hS => ?_)
  exact hret _ _ _ _ _ _ dJ0_init_81219_6 hP hS (by omega) (by omega))
/-- a text that stands -/
def strB (bs : List Int32) (Ω : Nat → Prop) : Nat → State → Heap → Prop := fun a U H => strAt a bs Ω U H
theorem strB_moved {Ω : Nat → Prop} : ∀ a u U H, u.vm.Alike U.vm → strB bs Ω a u H → strB bs Ω a U H := fun a u U H hvm h => h.moved hvm
theorem vJ4_toString (hc : cnt S = nI n) (hn : n < 16) (ha : ∀ j, j < n → ∃ k : Fin 128, S.1 4 j = Int32.ofNat k.val) : gMetO l yJ4_toString_0e30d cJ4_toString_0e30d 1 (some (.object "java/lang/String")) 7 2 (n + 4) (fun _ => False) (cP dC dI cg kA ca) (kR kTab kA) [.ref (ca 3)] S S (strB (sbT S n) (cΩ ca)) := gEntryO (rt := .object "java/lang/String") (by decide) rfl (Or.inl ⟨_, rfl⟩) cOK strB_moved (Nat.le_of_ble_eq_true rfl) (fun p e s m args below meth c Q ls X hP hS hret hl => by
  have hx := X.hx
  have hb := X.hb
  have hK : va_K (dC, dI) vwCl (cTy cg) s := by
    obtain ⟨nA, hN⟩ := hP
    exact hN.2.1
  refine va_new hx hb X.hts cinJ0 tyJ0 tyJ0_ok X.hown (X.hts _ tw615) (X.hts _ tw616) (X.hts _ tw5) hK (ws := []) (fun k q h => by cases h) ⟨fun i j p q h => (by cases h), fun k q h => (by cases h)⟩ hS (fun q h => Or.inr h) (ci := 0) rfl (fs := [.null, .int 0, .int 0, .int 0]) (fun j hj => by
    rcases (show j = 0 ∨ j = 1 ∨ j = 2 ∨ j = 3 by omega) with z | z | z | z <;> (subst z; rfl)) (by show 0 + 1 ≤ 2; omega) (by show 0 + 4 ≤ n + 4; omega) dJ4_toString_0e30d_0 (fun a H1 hP1 hD1 hS1 => ?_)
  have hat : va_at (dC, dI) vwCl (a, .inr (0, [.null, .int 0, .int 0, .int 0])) H1 := hP1 0 _ rfl
  have hge : s.heap.size ≤ a := (hD1.2 0 _ rfl).elim (fun z => z.elim) (fun z => z)
  have hca : cPa dC dI cg kA ca a S s H1 := ⟨s.heap, hge, hS1.1, fun q hq => hS1.2.1 q hq (fun z => z.elim (fun z => z) (fun z => by omega)), hP⟩
  refine lv_dup hx hb dJ4_toString_0e30d_3 rfl ?_
  refine lv_aload_n hx hb dJ4_toString_0e30d_4 rfl (lv_at hl 0 rfl) ?_
  refine gCallCI X strW_ok (vJ0_initSB (a := a) hc hn ha) (cwI 1 X.hts (wT_good tw619) rfl rfl rfl (X.hts _ tw5) (X.hts _ tw617) (X.hts _ tw618) rfl ⟨by decide, by decide, by decide +kernel⟩ ⟨Nat.le_of_ble_eq_true rfl, Nat.le_of_ble_eq_true rfl⟩) rfl ⟨fun _ => ⟨hca, hat⟩, fun z => by cases z⟩ hS1 (fun q h => Or.inr (h.elim (fun z => by rw [z]; exact hge) (fun z => Nat.le_trans hS1.1 z))) hl.1 (Nat.le_of_ble_eq_true rfl) ⟨by show 0 + 1 + 1 ≤ 2; omega, by show 0 + 4 + n ≤ n + 4; omega⟩ dJ4_toString_0e30d_5 (As := [.ref (ca 3)]) (rest := [.ref a]) rfl (fun H locs hP hS => ?_)
  exact hret _ _ _ _ _ _ _ dJ4_toString_0e30d_8 (hP.2 rfl).1.to (hP.2 rfl).2 hS (by omega) (by omega))
end NSTR
section TWORD
variable {l : Launch} {dC : Nat → ClassId} {dI : Nat → Nat → Nat} {cg : Nat → ClassId} {kA : String → Nat → Nat} {ca : Nat → Nat} {S : CS} {n s0 : Nat}
/-- the StringBuilder after j letters -/
def sbS (S : CS) (s0 j : Nat) : CS := (va_up (va_up S.1 3 (upd (upd (S.1 3) 2 (if 0 < S.1 3 3 then 1 else S.1 3 2)) 3 (nI j))) 4 (fun i => if i < j then S.1 2 (s0 + i) else S.1 4 i), S.2)
theorem sbS_0 : sbS S s0 0 = sbZ S := by
  unfold sbS sbZ
  rw [nI_0, show (fun i => if i < 0 then S.1 2 (s0 + i) else S.1 4 i) = S.1 4 from funext fun i => if_neg (by omega)]
  refine congrArg (fun z => (z, S.2)) (funext fun q => ?_)
  by_cases h : q = 4
  · subst h; rw [vat, vne (by omega)]
  · rw [vne h]
theorem sbS_cnt {j : Nat} (h : j < 2 ^ 31) : cnt (sbS S s0 j) = nI j := by
  have e : (sbS S s0 j).1 3 3 = nI j := by unfold sbS; dsimp only; rw [vne (by omega), vat, pk_us]
  unfold cnt
  rw [e, if_neg (show ¬ nI j < (0 : Int32) from nI_nlt (b := 0) (by omega) (by omega))]
theorem sbS_o {j q : Nat} (h3 : q ≠ 3) (h4 : q ≠ 4) : (sbS S s0 j).1 q = S.1 q := by unfold sbS; dsimp only; rw [vne h4, vne h3]
theorem sbS_P {j : Nat} {x : Int32} (e : vp_nar .byte x.toInt8.toInt32 = S.1 2 (s0 + j)) : sbP (sbS S s0 j) j x = sbS S s0 (j + 1) := by
  unfold sbP
  rw [e]
  unfold sbS
  dsimp only
  rw [vne (show 3 ≠ 4 by omega), vat, vat, upd_upd]
  refine congrArg (fun z => (z, S.2)) (funext fun q => ?_)
  by_cases h : q = 4
  · subst h
    rw [vat, vat]
    funext i
    unfold upd
    by_cases z : i = j
    · subst z; rw [if_pos rfl, if_pos (by omega)]
    · rw [if_neg z]
      by_cases w : i < j
      · dsimp only; rw [if_pos w, if_pos (by omega)]
      · dsimp only; rw [if_neg w, if_neg (by omega)]
  · rw [vne h, vne h]
    by_cases h3 : q = 3
    · subst h3; rw [vat, vat]
    · rw [vne h3, vne h, vne h3, vne h3]
theorem i2c7 : ∀ k : Fin 128, ((nI k.val).toUInt32 % 65536).toInt32 = nI k.val := by decide +kernel
theorem vX8_word (hG : wordG S) : gMetO l yX8_word cX8_word 2 (some (.object "java/lang/String")) 8 2 19 (cΩ ca) (cP dC dI cg kA ca) (kR kTab kA) [.ref (ca 1)] S (wordS S) (strB (wordOf S) (cΩ ca)) := by
  obtain ⟨g1, g2, g3, g4, g5⟩ := hG
  obtain ⟨s0, hs0, es⟩ := nI_of g1
  have hp0 : ¬ S.1 1 3 < 0 := fun h => by
    rw [Int32.lt_iff_toInt_lt] at h g1 g2
    omega
  obtain ⟨p0, hp, ep⟩ := nI_of hp0
  rw [es, ep, nI_c (by omega), nI_c (by omega)] at g4
  rw [ep, nI_c (by omega)] at g3
  rw [es, ep] at g2
  have hlt : s0 < p0 := (nI_ltI (by omega) (by omega)).mp g2
  obtain ⟨L, eL⟩ : ∃ L, L = p0 - s0 := ⟨_, rfl⟩
  have g5' : ∀ j, j < L → ∃ k : Fin 128, S.1 2 (s0 + j) = nI k.val := fun j hj => by
    have := g5 j (by omega) (by rw [es, ep, nI_c (by omega), nI_c (by omega)]; omega)
    rw [es, nI_c (by omega)] at this
    exact this
  have ew : wordOf S = (List.range L).map fun j => S.1 2 (s0 + j) := by
    unfold wordOf
    rw [es, ep, pk_sub (by omega), nI_c (by omega), nI_c (by omega), eL]
  have el : (wordOf S).length = L := by rw [ew]; simp
  have eS : wordS S = sbS S s0 L := by
    unfold wordS sbS
    rw [el]
    refine congrArg (fun z => (z, S.2)) ?_
    refine congrArg (va_up _ 4) (funext fun i => ?_)
    by_cases h : i < L
    · rw [if_pos h, if_pos h, ew, List.getD_eq_getElem?_getD, List.getElem?_map, List.getElem?_range h]; rfl
    · rw [if_neg h, if_neg h]
  have eT : sbT (sbS S s0 L) L = wordOf S := by
    rw [ew]
    unfold sbT
    refine List.map_congr_left fun j hj => ?_
    unfold sbS
    dsimp only
    rw [vat, if_pos (List.mem_range.mp hj)]
  rw [eS]
  refine gEntryO (rt := .object "java/lang/String") (by decide) rfl (Or.inl ⟨_, rfl⟩) cOK strB_moved (Nat.le_of_ble_eq_true rfl) (fun p e s m args below meth c Q ls X hP hS hret hl => ?_)
  have hx := X.hx
  have hb := X.hb
  refine lv_aload_n hx hb dX8_word_0 rfl (lv_at hl 0 rfl) ?_
  refine cr_get (k := 1) X hP (rfl : kc 1 = 1) rfl cv1_1 rfl cinX8 (by decide) rfl tw87 dX8_word_1 ?_
  refine lv_iconst (v := 0) hx hb dX8_word_4 (by decide) ?_
  refine gCallWV X cOK (gMetVA.of vJ4_setLength) (cw_V 1 X (gT_V tw516 tw517 tw518 tw4 tw519) ⟨rfl, by decide, by decide, by decide +kernel⟩ ⟨by decide, by decide⟩) rfl hP hS (Fr_le hS.1) (cSBrec hP) hl.1 (Nat.le_of_ble_eq_true rfl) ⟨Nat.zero_le _, Nat.zero_le _⟩ dX8_word_5 (As := [.int 0]) (rest := []) rfl (fun H locs hP hS => ?_)
  rw [← sbS_0 (s0 := s0)] at hP
  refine lv_aload_n hx hb dX8_word_8 rfl (lv_at hl 0 rfl) ?_
  refine cr_get (k := 5) X hP (rfl : kc 1 = 1) rfl cv1_5 rfl cinX8 (by decide) rfl tw93 dX8_word_9 ?_
  rw [sbS_o (by omega) (by omega), es]
  refine lv_istore_n (lv' := [(1, .int (nI s0)), (0, .ref (ca 1))]) hx hb dX8_word_12 rfl hl (by decide) rfl (fun ls hl => ?_)
  have loop : ∀ r j (ls : Array Slot) (H : Heap) (locs : List Loc), L = j + r → lv_has ls 2 [(1, .int (nI (s0 + j))), (0, .ref (ca 1))] → cP dC dI cg kA ca (sbS S s0 j) s H → va_S (Fr (cΩ ca) s.heap.size) s.heap H locs → W p l e (rmL 8 2 19) s m args below meth c H locs 0 0 Q (F0 m 13 ls []) := by
    intro r
    induction r with
    | zero =>
      intro j ls H locs hj hl hP hS
      have ej : j = L := by omega
      subst ej
      refine lv_iload_n hx hb dX8_word_13 rfl (lv_at hl 0 rfl) ?_
      refine lv_aload_n hx hb dX8_word_14 rfl (lv_at hl 1 rfl) ?_
      refine cr_get (k := 3) X hP (rfl : kc 1 = 1) rfl cv1_3 rfl cinX8 (by decide) rfl tw91 dX8_word_15 ?_
      rw [sbS_o (by omega) (by omega), ep]
      refine lv_icmp_ge (tgt := 42) hx hb dX8_word_18 (by decide) (fun _ => ?_) (fun c => absurd (nI_le (show p0 ≤ s0 + j by omega) (by omega)) c)
      refine lv_aload_n hx hb dX8_word_42 rfl (lv_at hl 1 rfl) ?_
      refine cr_get (k := 1) X hP (rfl : kc 1 = 1) rfl cv1_1 rfl cinX8 (by decide) rfl tw87 dX8_word_43 ?_
      refine gCallWO X cOK strB_moved (vJ4_toString (S := sbS S s0 j) (n := j) (sbS_cnt (by omega)) (by omega) (fun i hi => ?_)) (cw_V 0 X (gT_V tw611 tw612 tw613 tw4 tw614) ⟨rfl, by decide, by decide, by decide +kernel⟩ ⟨Nat.le_of_ble_eq_true rfl, Nat.le_of_ble_eq_true rfl⟩) rfl hP hS (noF hS) (cSBrec hP) hl.1 (Nat.le_of_ble_eq_true rfl) ⟨by show 0 + 2 ≤ 2; omega, by show 0 + (j + 4) ≤ 19; omega⟩ dX8_word_46 (As := []) (rest := []) rfl (fun H locs a hP ha hS => ?_)
      · unfold sbS
        dsimp only
        rw [vat, if_pos hi]
        exact g5' i hi
      · unfold strB at ha
        rw [eT] at ha
        exact hret _ _ _ _ _ _ _ dX8_word_49 hP ha hS (by omega) (by omega)
    | succ r ih =>
      intro j ls H locs hj hl hP hS
      obtain ⟨k, ek⟩ := g5' j (by omega)
      refine lv_iload_n hx hb dX8_word_13 rfl (lv_at hl 0 rfl) ?_
      refine lv_aload_n hx hb dX8_word_14 rfl (lv_at hl 1 rfl) ?_
      refine cr_get (k := 3) X hP (rfl : kc 1 = 1) rfl cv1_3 rfl cinX8 (by decide) rfl tw91 dX8_word_15 ?_
      rw [sbS_o (by omega) (by omega), ep]
      refine lv_icmp_ge (tgt := 42) hx hb dX8_word_18 (by decide) (fun c => absurd c (nI_ge (show s0 + j < p0 by omega) (by omega))) (fun _ => ?_)
      refine lv_aload_n hx hb dX8_word_21 rfl (lv_at hl 1 rfl) ?_
      refine cr_get (k := 1) X hP (rfl : kc 1 = 1) rfl cv1_1 rfl cinX8 (by decide) rfl tw87 dX8_word_22 ?_
      refine lv_aload_n hx hb dX8_word_25 rfl (lv_at hl 1 rfl) ?_
      refine cr_get (k := 0) X hP (rfl : kc 1 = 1) rfl cv1_0 rfl cinX8 (by decide) rfl tw86 dX8_word_26 ?_
      refine lv_iload_n hx hb dX8_word_29 rfl (lv_at hl 0 rfl) ?_
      refine cr_bald X hP (rfl : kc 2 = 2) rfl (fun _ => rfl) (nI_in (show s0 + j < 600 by omega) (by omega)) dX8_word_30 ?_
      rw [sbS_o (by omega) (by omega), nI_c (by omega), ek]
      refine lv_i2c hx hb dX8_word_31 rfl ?_
      rw [i2c7 k]
      refine gCallWO X cOK (fun _ _ _ _ _ h => h) (vJ4_append (S := sbS S s0 j) (x := nI k.val) (j := j) (show ¬ (255 : Int32) < nI k.val from nI_nlt (a := 255) (by omega) (by omega)) (sbS_cnt (by omega)) (by omega)) (cw_V 1 X (gT_V tw576 tw577 tw578 tw4 tw579) ⟨rfl, by decide, by decide, by decide +kernel⟩ ⟨by decide, by decide⟩) rfl hP hS (Fr_le hS.1) (cSBrec hP) hl.1 (Nat.le_of_ble_eq_true rfl) ⟨Nat.zero_le _, Nat.zero_le _⟩ dX8_word_32 (As := [.int (nI k.val)]) (rest := []) rfl (fun H locs a hP ha hS => ?_)
      rw [sbS_P (by rw [nar7 k.isLt, ek])] at hP
      refine lv_pop hx hb dX8_word_35 rfl ?_
      refine lv_iinc (v := nI (s0 + j) + 1) (lv' := [(1, .int (nI (s0 + j) + 1)), (0, .ref (ca 1))]) hx hb dX8_word_36 hl (k := 0) rfl (by rfl) (by decide) rfl (fun ls hl => ?_)
      rw [nI_1] at hl
      refine lv_goto (tgt := 13) hx hb dX8_word_39 (by decide) ?_
      exact ih (j + 1) ls H locs (by omega) hl hP hS
  exact loop L 0 ls H locs (by omega) hl hP hS
end TWORD
