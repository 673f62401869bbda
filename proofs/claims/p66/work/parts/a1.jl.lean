theorem tw25 : (Jvm.Cond.initialized "java/util/ArrayList") ∈ TBG := tb_t 25 (by decide +kernel) (by decide +kernel)
theorem tw30 : (Jvm.Cond.initialized "java/util/Objects") ∈ TBG := tb_t 30 (by decide +kernel) (by decide +kernel)
theorem tw865 : (Jvm.Cond.fieldLink "java/util/ArrayList" (9 : Nat) "java/util/ArrayList" "elementData" "[Ljava/lang/Object;") ∈ TBG := tb_t 865 (by decide +kernel) (by decide +kernel)
theorem tw868 : (Jvm.Cond.fieldLink "java/util/ArrayList" (48 : Nat) "java/util/ArrayList" "size" "I") ∈ TBG := tb_t 868 (by decide +kernel) (by decide +kernel)
theorem tw870 : (Jvm.Cond.fieldLink "java/util/ArrayList$Itr" (17 : Nat) "java/util/ArrayList" "modCount" "I") ∈ TBG := tb_t 870 (by decide +kernel) (by decide +kernel)
theorem tw871 : (Jvm.Cond.sameField "java/util/ArrayList" "java/util/AbstractList" "modCount" "I") ∈ TBG := tb_t 871 (by decide +kernel) (by decide +kernel)
theorem tw1058 : (Jvm.Cond.fieldLink "java/util/ArrayList$Itr" (25 : Nat) "java/util/ArrayList$Itr" "cursor" "I") ∈ TBG := tb_t 1058 (by decide +kernel) (by decide +kernel)
theorem tw1060 : (Jvm.Cond.fieldLink "java/util/ArrayList$Itr" (22 : Nat) "java/util/ArrayList$Itr" "expectedModCount" "I") ∈ TBG := tb_t 1060 (by decide +kernel) (by decide +kernel)
theorem tw1061 : (Jvm.Cond.fieldLink "java/util/ArrayList$Itr" (1 : Nat) "java/util/ArrayList$Itr" "this$0" "Ljava/util/ArrayList;") ∈ TBG := tb_t 1061 (by decide +kernel) (by decide +kernel)
theorem tw1232 : (Jvm.Cond.methodLink "java/util/ArrayList" (118 : Nat) ({ cls := "java/util/Objects", name := "checkIndex", desc := "(II)I" } : Jvm.MethodName)) ∈ TBG := tb_t 1232 (by decide +kernel) (by decide +kernel)
theorem tw1233 : (Jvm.Cond.static ({ cls := "java/util/Objects", name := "checkIndex", desc := "(II)I" } : Jvm.MethodName)) ∈ TBG := tb_t 1233 (by decide +kernel) (by decide +kernel)
theorem tw1234 : (Jvm.Cond.code ({ cls := "java/util/Objects", name := "checkIndex", desc := "(II)I" } : Jvm.MethodName) prog_49_method_17_code (2 : Nat) (Option.some Jvm.ClassFile.FieldType.int)) ∈ TBG := tb_t 1234 (by decide +kernel) (by decide +kernel)
theorem tw1235 : (Jvm.Cond.methodLink "java/util/Objects" (105 : Nat) ({ cls := "jdk/internal/util/Preconditions", name := "checkIndex", desc := "(IILjava/util/function/BiFunction;)I" } : Jvm.MethodName)) ∈ TBG := tb_t 1235 (by decide +kernel) (by decide +kernel)
theorem tw1236 : (Jvm.Cond.methodLink "java/util/ArrayList" (123 : Nat) ({ cls := "java/util/ArrayList", name := "elementData", desc := "(I)Ljava/lang/Object;" } : Jvm.MethodName)) ∈ TBG := tb_t 1236 (by decide +kernel) (by decide +kernel)
theorem tw1237 : (Jvm.Cond.instanceMethod ({ cls := "java/util/ArrayList", name := "elementData", desc := "(I)Ljava/lang/Object;" } : Jvm.MethodName)) ∈ TBG := tb_t 1237 (by decide +kernel) (by decide +kernel)
theorem tw1238 : (Jvm.Cond.selects "java/util/ArrayList" ({ cls := "java/util/ArrayList", name := "elementData", desc := "(I)Ljava/lang/Object;" } : Jvm.MethodName) ({ cls := "java/util/ArrayList", name := "elementData", desc := "(I)Ljava/lang/Object;" } : Jvm.MethodName)) ∈ TBG := tb_t 1238 (by decide +kernel) (by decide +kernel)
theorem tw1239 : (Jvm.Cond.code ({ cls := "java/util/ArrayList", name := "elementData", desc := "(I)Ljava/lang/Object;" } : Jvm.MethodName) prog_43_method_18_code (2 : Nat) (Option.some (Jvm.ClassFile.FieldType.object "java/lang/Object"))) ∈ TBG := tb_t 1239 (by decide +kernel) (by decide +kernel)
theorem xw867 : (Jvm.Cond.fieldLinkNest "java/util/ArrayList$Itr" (28 : Nat) "java/util/ArrayList" "size" "I" "java/util/ArrayList") ∈ xws := xt 867 (by decide +kernel) rfl
/-! lists and their iterators: what the law's loops call -/
theorem cinJx4a65c : ∀ w ∈ u_ws RJx4a65c TJx4a65c 3, w ∈ TBG := by decide +kernel
theorem cinJx35411 : ∀ w ∈ u_ws RJx35411 TJx35411 4, w ∈ TBG := by decide +kernel
theorem cinJ6 : ∀ w ∈ u_ws RJ6 TJ6 1, w ∈ TBG := by decide +kernel
theorem cinX11 : ∀ w ∈ u_ws RX11 TX11 7, w ∈ TBG := by decide +kernel
theorem cinX12 : ∀ w ∈ u_ws RX12 TX12 15, w ∈ TBG := by decide +kernel
theorem cinX13 : ∀ w ∈ u_ws RX13 TX13 5, w ∈ TBG := by decide +kernel
theorem gT_F {own C : String} {idx : Nat} {x y : MethodName} {c : ByteArray} {n : Nat} {r : Option FieldType} (h1 : Cond.methodLink own idx x ∈ TBG) (h3 : Cond.selects C x y ∈ TBG) (h2 : Cond.instanceMethod y ∈ TBG) (h4 : Cond.initialized y.cls ∈ TBG) (h5 : Cond.code y c n r ∈ TBG) : GoodIn TBG (va_wsF own idx C x y (wT y c n r)) := fun w hw => by
  unfold va_wsF at hw
  rcases List.mem_append.mp hw with hw | hw
  · simp only [List.mem_cons, List.not_mem_nil, or_false] at hw
    rcases hw with rfl | rfl | rfl | rfl
    · exact ⟨h1, tb_good h1⟩
    · exact ⟨h3, tb_good h3⟩
    · exact ⟨h2, tb_good h2⟩
    · exact ⟨h4, tb_good h4⟩
  · exact wT_good h5 w hw
/-- a list: its array, how many, what lies there -/
def lsAt (dC : Nat → ClassId) (dI : Nat → Nat → Nat) (cg : Nat → ClassId) (b e n : Nat) (f : Nat → Option Nat) (U : State) (H : Heap) : Prop := va_at (dC, dI) vwCl (b, .inr (4, [.int (nI n), .ref e, .int (nI n)])) H ∧ va_at (dC, dI) vwCl (e, .inl (cg 6, 10, .inr (.inr (.inr (.inr f))))) H ∧ va_K (dC, dI) vwCl (cTy cg) U
def lsB (dC : Nat → ClassId) (dI : Nat → Nat → Nat) (cg : Nat → ClassId) (kA : String → Nat → Nat) (b e n : Nat) (f : Nat → Option Nat) : State → Prop := fun U => lsAt dC dI cg b e n f U U.heap ∧ kR kTab kA U
/-- an iterator at element i -/
def itAt (dC : Nat → ClassId) (dI : Nat → Nat → Nat) (a b n i : Nat) (H : Heap) : Prop := ∃ r, va_at (dC, dI) vwCl (a, .inr (3, [.int (nI i), .int r, .int (nI n), .ref b])) H
def itB (dC : Nat → ClassId) (dI : Nat → Nat → Nat) (cg : Nat → ClassId) (kA : String → Nat → Nat) (a b e n i : Nat) (f : Nat → Option Nat) : State → Prop := fun U => (itAt dC dI a b n i U.heap ∧ lsAt dC dI cg b e n f U U.heap) ∧ kR kTab kA U
section JL
variable {p : Program} {l : Launch} {e : Env} {R : Room} {s : State} {m : MethodId} {args : Array Value} {below : List Frame} {meth : Method} {c : Code} {H : Heap} {locs : List Loc} {cells slots : Nat} {Q : State → Prop}
variable {cc : ByteArray} {pc nL : Nat} {ls : Array Slot} {rest : List Value} {dC : Nat → ClassId} {dI : Nat → Nat → Nat} {cg : Nat → ClassId} {kA : String → Nat → Nat} {own : String} {b ea n i a : Nat} {f : Nat → Option Nat}
theorem lsAt.moved {u U : State} (hvm : u.vm.Alike U.vm) (h : lsAt dC dI cg b ea n f u H) : lsAt dC dI cg b ea n f U H := ⟨h.1, h.2.1, va_K.moved hvm h.2.2⟩
theorem lsB_blind {av : List Value} : FrameBlind (va_Pc av (lsB dC dI cg kA b ea n f)) := fun a U g mk q => ⟨q.1, q.2.1.moved (Vm.Alike.refl U.vm), kR_ok.1 U _ rfl q.2.2⟩
theorem lsB_at (X : gX p s m args c cc nL own (kR kTab kA)) (h : lsAt dC dI cg b ea n f s H) : ∀ U : State, U.heap = H → s.WarmedH U.vm → lsB dC dI cg kA b ea n f U := fun U hU hW => ⟨by rw [hU]; exact h.moved hW.alike, kR_ok.2 _ _ hW X.ks⟩
theorem itB_blind {av : List Value} : FrameBlind (va_Pc av (itB dC dI cg kA a b ea n i f)) := fun a U g mk q => ⟨q.1, ⟨q.2.1.1, q.2.1.2.moved (Vm.Alike.refl U.vm)⟩, kR_ok.1 U _ rfl q.2.2⟩
theorem itB_at (X : gX p s m args c cc nL own (kR kTab kA)) (hi : itAt dC dI a b n i H) (h : lsAt dC dI cg b ea n f s H) : ∀ U : State, U.heap = H → s.WarmedH U.vm → itB dC dI cg kA a b ea n i f U := fun U hU hW => ⟨⟨by rw [hU]; exact hi, by rw [hU]; exact h.moved hW.alike⟩, kR_ok.2 _ _ hW X.ks⟩
theorem lsAt.rec (h : lsAt dC dI cg b ea n f s H) : gRec RJx4a65c b s H := va_recv h.2.2 (cwo h.1) (q0 := 0) (rfl : vwCl[4]? = some (RJx4a65c, TJx4a65c, 3)) rfl
theorem it_rec (hK : va_K (dC, dI) vwCl (cTy cg) s) (h : itAt dC dI a b n i H) : gRec RJx35411 a s H := by
  obtain ⟨r, h⟩ := h
  exact va_recv hK (cwo h) (q0 := 0) (rfl : vwCl[3]? = some (RJx35411, TJx35411, 4)) rfl
theorem vJL_size : gMetR l yJx4a65c_size_8abf5 cJx4a65c_size_8abf5 1 (some .int) 1 (lsB dC dI cg kA b ea n f) [.ref b] (nI n) := gEntryR (KS := kR kTab kA) (ty := .int) (by decide) rfl rfl (Nat.le_of_ble_eq_true rfl) (fun _ h => h.2) (fun p e s m args below meth c Q ls X hB hret hl => by
  have hx := X.hx
  have hb := X.hb
  refine lv_aload_n hx hb dJx4a65c_size_8abf5_0 rfl (lv_at hl 0 rfl) ?_
  refine va_get X.hx X.hb X.hts cinJx4a65c X.hown hB.1.2.2 (cwo hB.1.1) 0 rfl (rfl : vwCl[4]? = some (RJx4a65c, TJx4a65c, 3)) 2 (by decide) (X.hts _ tw868) (fun x h => h) rfl dJx4a65c_size_8abf5_1 ?_
  exact hret _ _ dJx4a65c_size_8abf5_4)
theorem vJL_elem {x : Int32} {q : Nat} (hin : vp_in x 10) (hf : f x.toNatClampNeg = some q) : gMetP l yJx4a65c_elementData_915e3 cJx4a65c_elementData_915e3 2 (some (.object "java/lang/Object")) 1 (lsB dC dI cg kA b ea n f) [.ref b, .int x] q := gEntryP (KS := kR kTab kA) (C := "java/lang/Object") (by decide) rfl (Nat.le_of_ble_eq_true rfl) (fun _ h => h.2) (fun p e s m args below meth c Q ls X hB hret hl => by
  have hx := X.hx
  have hb := X.hb
  refine lv_aload_n hx hb dJx4a65c_elementData_915e3_0 rfl (lv_at hl 0 rfl) ?_
  refine va_get X.hx X.hb X.hts cinJx4a65c X.hown hB.1.2.2 (cwo hB.1.1) 0 rfl (rfl : vwCl[4]? = some (RJx4a65c, TJx4a65c, 3)) 1 (by decide) (X.hts _ tw865) (fun x h => h) rfl dJx4a65c_elementData_915e3_1 ?_
  refine lv_iload_n hx hb dJx4a65c_elementData_915e3_4 rfl (lv_at hl 1 rfl) ?_
  refine va_aldq X.hx X.hb hB.1.2.2 (cwo hB.1.2.1) 0 6 rfl rfl hin dJx4a65c_elementData_915e3_5 ?_
  rw [hf]
  exact hret _ _ dJx4a65c_elementData_915e3_6)
theorem gs_oci : GoodIn TBG (va_wsS RJ15 105 yJ3_checkIndex_8e157 (wT yJ3_checkIndex_8e157 cJ3_checkIndex_8e157 3 (some .int))) := gT_S tw1235 tw424 tw17 tw425
theorem vJ15_checkIndex {x y : Int32} (h0 : ¬ x < 0) (h1 : x < y) : gMetR l yJ15_checkIndex_7cf53 cJ15_checkIndex_7cf53 2 (some .int) 2 (fun _ => True) [.int x, .int y] x := gEntryR (KS := fun _ => True) (ty := .int) (by decide) rfl rfl (Nat.le_of_ble_eq_true rfl) (fun _ _ => trivial) (fun p e s m args below meth c Q ls X hB hret hl => by
  have hx := X.hx
  have hb := X.hb
  refine lv_iload_n hx hb dJ15_checkIndex_7cf53_0 rfl (lv_at hl 0 rfl) ?_
  refine lv_iload_n hx hb dJ15_checkIndex_7cf53_1 rfl (lv_at hl 1 rfl) ?_
  refine lv_null hx hb dJ15_checkIndex_7cf53_2 ?_
  refine gCallSR X rfl (vJ3_checkIndex (vq := none) h0 h1) gs_oci hdJ3_checkIndex rfl ⟨by decide, by decide⟩ (fun a U g mk q => ⟨q.1, trivial⟩) (fun U hU hW => trivial) hl.1 (Nat.le_of_ble_eq_true rfl) ⟨Nat.le_refl _, Nat.le_refl _⟩ dJ15_checkIndex_7cf53_3 (As := [.int x, .int y, .null]) (rest := []) rfl ?_
  exact hret _ _ dJ15_checkIndex_7cf53_6)
theorem gs_jci : GoodIn TBG (va_wsS RJx4a65c 118 yJ15_checkIndex_7cf53 (wT yJ15_checkIndex_7cf53 cJ15_checkIndex_7cf53 2 (some .int))) := gT_S tw1232 tw1233 tw30 tw1234
theorem hdJ15_ci : yJ15_checkIndex_7cf53.cls = RJ15 ∧ yJ15_checkIndex_7cf53.cls ≠ "java/lang/invoke/MethodHandle" ∧ yJ15_checkIndex_7cf53.cls ≠ "java/lang/invoke/VarHandle" ∧ (parseMethodDescriptor yJ15_checkIndex_7cf53.desc).map (fun d => d.parameters.length) = some 2 := ⟨rfl, by decide +kernel, by decide +kernel, by decide +kernel⟩
theorem gs_jel : GoodIn TBG (wsV RJx4a65c 123 RJx4a65c yJx4a65c_elementData_915e3 (wT yJx4a65c_elementData_915e3 cJx4a65c_elementData_915e3 2 (some (.object "java/lang/Object")))) := gT_V tw1236 tw1237 tw1238 tw25 tw1239
theorem hdJL_el : yJx4a65c_elementData_915e3.cls = RJx4a65c ∧ yJx4a65c_elementData_915e3.cls ≠ "java/lang/invoke/MethodHandle" ∧ yJx4a65c_elementData_915e3.cls ≠ "java/lang/invoke/VarHandle" ∧ (parseMethodDescriptor yJx4a65c_elementData_915e3.desc).map (fun d => d.parameters.length) = some 1 := ⟨rfl, by decide +kernel, by decide +kernel, by decide +kernel⟩
theorem vJL_get {x : Int32} {q : Nat} (hn : n ≤ 10) (hin : vp_in x n) (hf : f x.toNatClampNeg = some q) : gMetP l yJx4a65c_get_915e3 cJx4a65c_get_915e3 2 (some (.object "java/lang/Object")) 3 (lsB dC dI cg kA b ea n f) [.ref b, .int x] q := gEntryP (KS := kR kTab kA) (C := "java/lang/Object") (by decide) rfl (Nat.le_of_ble_eq_true rfl) (fun _ h => h.2) (fun p e s m args below meth c Q ls X hB hret hl => by
  have hx := X.hx
  have hb := X.hb
  have h0 : ¬ x < 0 := fun z => hin (Or.inl z)
  have h1 : x.toNatClampNeg < n := Nat.not_le.mp fun z => hin (Or.inr z)
  have hxe : x = nI x.toNatClampNeg := nI_tc h0
  refine lv_iload_n hx hb dJx4a65c_get_915e3_0 rfl (lv_at hl 1 rfl) ?_
  refine lv_aload_n hx hb dJx4a65c_get_915e3_1 rfl (lv_at hl 0 rfl) ?_
  refine va_get X.hx X.hb X.hts cinJx4a65c X.hown hB.1.2.2 (cwo hB.1.1) 0 rfl (rfl : vwCl[4]? = some (RJx4a65c, TJx4a65c, 3)) 2 (by decide) (X.hts _ tw868) (fun x h => h) rfl dJx4a65c_get_915e3_2 ?_
  refine gCallSR X rfl (vJ15_checkIndex h0 (by rw [hxe]; exact nI_lt h1 (by omega))) gs_jci hdJ15_ci rfl ⟨by decide, by decide⟩ (fun a U g mk q => ⟨q.1, trivial⟩) (fun U hU hW => trivial) hl.1 (Nat.le_of_ble_eq_true rfl) ⟨Nat.le_refl _, Nat.le_refl _⟩ dJx4a65c_get_915e3_5 (As := [.int x, .int (nI n)]) (rest := []) rfl ?_
  refine lv_pop hx hb dJx4a65c_get_915e3_8 rfl ?_
  refine lv_aload_n hx hb dJx4a65c_get_915e3_9 rfl (lv_at hl 0 rfl) ?_
  refine lv_iload_n hx hb dJx4a65c_get_915e3_10 rfl (lv_at hl 1 rfl) ?_
  refine gCallVP X rfl (vJL_elem (b := b) (ea := ea) (n := n) (f := f) (fun z => hin (z.imp id (fun z => Nat.le_trans hn z))) hf) gs_jel hdJL_el rfl ⟨by decide, by decide⟩ lsB_blind (lsB_at X hB.1) hB.1.rec hl.1 (Nat.le_of_ble_eq_true rfl) ⟨Nat.le_refl _, Nat.le_refl _⟩ dJx4a65c_get_915e3_11 (As := [.int x]) (rest := []) rfl ?_
  exact hret _ _ dJx4a65c_get_915e3_14)
theorem vJI_hasNext (hi : i ≤ n) (hn : n < 2 ^ 31) : gMetR l yJx35411_hasNext_aae02 cJx35411_hasNext_aae02 1 (some .boolean) 1 (itB dC dI cg kA a b ea n i f) [.ref a] (if i = n then 0 else 1) := gEntryR (KS := kR kTab kA) (ty := .boolean) (by decide) rfl (by split <;> decide +kernel) (Nat.le_of_ble_eq_true rfl) (fun _ h => h.2) (fun p e s m args below meth c Q ls X hB hret hl => by
  have hx := X.hx
  have hb := X.hb
  obtain ⟨⟨⟨r, hit⟩, hls⟩, -⟩ := hB
  refine lv_aload_n hx hb dJx35411_hasNext_aae02_0 rfl (lv_at hl 0 rfl) ?_
  refine va_get X.hx X.hb X.hts cinJx35411 X.hown hls.2.2 (cwo hit) 0 rfl (rfl : vwCl[3]? = some (RJx35411, TJx35411, 4)) 0 (by decide) (X.hts _ tw1058) (fun x h => h) rfl dJx35411_hasNext_aae02_1 ?_
  refine lv_aload_n hx hb dJx35411_hasNext_aae02_4 rfl (lv_at hl 0 rfl) ?_
  refine va_get X.hx X.hb X.hts cinJx35411 X.hown hls.2.2 (cwo hit) 0 rfl (rfl : vwCl[3]? = some (RJx35411, TJx35411, 4)) 3 (by decide) (X.hts _ tw1061) (fun x h => h) rfl dJx35411_hasNext_aae02_5 ?_
  refine va_getN X.hx X.hb X.hts cinJx4a65c X.hown hls.2.2 (cwo hls.1) 0 rfl (rfl : vwCl[4]? = some (RJx4a65c, TJx4a65c, 3)) 2 (by decide) (xw_use rfl (X.ks.2.1 _ xw867)) (fun x h => h) rfl dJx35411_hasNext_aae02_8 ?_
  refine lv_icmp_eq (tgt := 18) hx hb dJx35411_hasNext_aae02_11 (by decide) (fun c1 => ?_) (fun c1 => ?_)
  · have ei : i = n := (nI_eq (by omega) hn).mp c1
    rw [if_pos ei] at hret
    refine lv_iconst (v := 0) hx hb dJx35411_hasNext_aae02_18 (by decide) ?_
    exact hret _ _ dJx35411_hasNext_aae02_19
  · rw [if_neg (fun z => c1 (by rw [z]))] at hret
    refine lv_iconst (v := 1) hx hb dJx35411_hasNext_aae02_14 (by decide) ?_
    refine lv_goto (tgt := 19) hx hb dJx35411_hasNext_aae02_15 (by decide) ?_
    exact hret _ _ dJx35411_hasNext_aae02_19)
theorem vJI_check : gMetRV l yJx35411_checkForComodification_da8c8 cJx35411_checkForComodification_da8c8 1 1 (itB dC dI cg kA a b ea n i f) [.ref a] := gEntryRV (KS := kR kTab kA) (by decide) (Nat.le_of_ble_eq_true rfl) (fun _ h => h.2) (fun p e s m args below meth c Q ls X hB hret hl => by
  have hx := X.hx
  have hb := X.hb
  obtain ⟨⟨⟨r, hit⟩, hls⟩, -⟩ := hB
  refine lv_aload_n hx hb dJx35411_checkForComodification_da8c8_0 rfl (lv_at hl 0 rfl) ?_
  refine va_get X.hx X.hb X.hts cinJx35411 X.hown hls.2.2 (cwo hit) 0 rfl (rfl : vwCl[3]? = some (RJx35411, TJx35411, 4)) 3 (by decide) (X.hts _ tw1061) (fun x h => h) rfl dJx35411_checkForComodification_da8c8_1 ?_
  refine va_get (ref := RJx4a65c) X.hx X.hb X.hts cinJx4a65c X.hown hls.2.2 (cwo hls.1) 0 rfl (rfl : vwCl[4]? = some (RJx4a65c, TJx4a65c, 3)) 0 (by decide) (X.hts _ tw870) (fun x h => u_same (X.hts _ tw871) x h) rfl dJx35411_checkForComodification_da8c8_4 ?_
  refine lv_aload_n hx hb dJx35411_checkForComodification_da8c8_7 rfl (lv_at hl 0 rfl) ?_
  refine va_get X.hx X.hb X.hts cinJx35411 X.hown hls.2.2 (cwo hit) 0 rfl (rfl : vwCl[3]? = some (RJx35411, TJx35411, 4)) 2 (by decide) (X.hts _ tw1060) (fun x h => h) rfl dJx35411_checkForComodification_da8c8_8 ?_
  refine lv_icmp_eq (tgt := 22) hx hb dJx35411_checkForComodification_da8c8_11 (by decide) (fun _ => ?_) (fun c1 => absurd rfl c1)
  exact hret _ _ dJx35411_checkForComodification_da8c8_22)
end JL
