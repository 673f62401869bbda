theorem tw981 : (Jvm.Cond.methodLink "GranaryWatchLaw" (7 : Nat) ({ cls := "java/lang/String", name := "length", desc := "()I" } : Jvm.MethodName)) ∈ TBG := tb_t 981 (by decide +kernel) (by decide +kernel)
theorem tw982 : (Jvm.Cond.methodLink "GranaryWatchLaw" (13 : Nat) ({ cls := "java/lang/String", name := "charAt", desc := "(I)C" } : Jvm.MethodName)) ∈ TBG := tb_t 982 (by decide +kernel) (by decide +kernel)
theorem tw983 : (Jvm.Cond.methodLink "GranaryWatchLaw" (17 : Nat) ({ cls := "GranaryWatch", name := "appendInput", desc := "(IIIII)I" } : Jvm.MethodName)) ∈ TBG := tb_t 983 (by decide +kernel) (by decide +kernel)
theorem tw984 : (Jvm.Cond.instanceMethod ({ cls := "GranaryWatch", name := "appendInput", desc := "(IIIII)I" } : Jvm.MethodName)) ∈ TBG := tb_t 984 (by decide +kernel) (by decide +kernel)
theorem tw985 : (Jvm.Cond.selects "GranaryWatch" ({ cls := "GranaryWatch", name := "appendInput", desc := "(IIIII)I" } : Jvm.MethodName) ({ cls := "GranaryWatch", name := "appendInput", desc := "(IIIII)I" } : Jvm.MethodName)) ∈ TBG := tb_t 985 (by decide +kernel) (by decide +kernel)
theorem tw986 : (Jvm.Cond.code ({ cls := "GranaryWatch", name := "appendInput", desc := "(IIIII)I" } : Jvm.MethodName) prog_1_method_2_code (6 : Nat) (Option.some Jvm.ClassFile.FieldType.int)) ∈ TBG := tb_t 986 (by decide +kernel) (by decide +kernel)
theorem tw991 : (Jvm.Cond.methodLink "GranaryWatchLaw" (23 : Nat) ({ cls := "GranaryWatch", name := "truncateInput", desc := "(I)Z" } : Jvm.MethodName)) ∈ TBG := tb_t 991 (by decide +kernel) (by decide +kernel)
theorem tw992 : (Jvm.Cond.instanceMethod ({ cls := "GranaryWatch", name := "truncateInput", desc := "(I)Z" } : Jvm.MethodName)) ∈ TBG := tb_t 992 (by decide +kernel) (by decide +kernel)
theorem tw993 : (Jvm.Cond.selects "GranaryWatch" ({ cls := "GranaryWatch", name := "truncateInput", desc := "(I)Z" } : Jvm.MethodName) ({ cls := "GranaryWatch", name := "truncateInput", desc := "(I)Z" } : Jvm.MethodName)) ∈ TBG := tb_t 993 (by decide +kernel) (by decide +kernel)
theorem tw994 : (Jvm.Cond.code ({ cls := "GranaryWatch", name := "truncateInput", desc := "(I)Z" } : Jvm.MethodName) prog_1_method_3_code (2 : Nat) (Option.some Jvm.ClassFile.FieldType.boolean)) ∈ TBG := tb_t 994 (by decide +kernel) (by decide +kernel)
/-! the law tells its text to the class -/
theorem gsL_appendInput : GoodIn TBG (wsV RL 17 RX10 yX10_appendInput (wT yX10_appendInput cX10_appendInput 6 (some .int))) := gT_V tw983 tw984 tw985 tw1 tw986
theorem hdL_appendInput : yX10_appendInput.cls = RX10 ∧ yX10_appendInput.cls ≠ "java/lang/invoke/MethodHandle" ∧ yX10_appendInput.cls ≠ "java/lang/invoke/VarHandle" ∧ (parseMethodDescriptor yX10_appendInput.desc).map (fun d => d.parameters.length) = some 5 := ⟨rfl, by decide +kernel, by decide +kernel, by decide +kernel⟩
theorem gsL_truncateInput : GoodIn TBG (wsV RL 23 RX10 yX10_truncateInput (wT yX10_truncateInput cX10_truncateInput 2 (some .boolean))) := gT_V tw991 tw992 tw993 tw1 tw994
theorem hdL_truncateInput : yX10_truncateInput.cls = RX10 ∧ yX10_truncateInput.cls ≠ "java/lang/invoke/MethodHandle" ∧ yX10_truncateInput.cls ≠ "java/lang/invoke/VarHandle" ∧ (parseMethodDescriptor yX10_truncateInput.desc).map (fun d => d.parameters.length) = some 1 := ⟨rfl, by decide +kernel, by decide +kernel, by decide +kernel⟩
theorem gsL_length : GoodIn TBG (wsV RL 7 RJ0 yJ0_length_8abf5 (wT yJ0_length_8abf5 cJ0_length_8abf5 1 (some .int))) := gT_V tw981 tw399 tw400 tw5 tw401
theorem hdL_length : yJ0_length_8abf5.cls = RJ0 ∧ yJ0_length_8abf5.cls ≠ "java/lang/invoke/MethodHandle" ∧ yJ0_length_8abf5.cls ≠ "java/lang/invoke/VarHandle" ∧ (parseMethodDescriptor yJ0_length_8abf5.desc).map (fun d => d.parameters.length) = some 0 := ⟨rfl, by decide +kernel, by decide +kernel, by decide +kernel⟩
theorem gsL_charAt : GoodIn TBG (wsV RL 13 RJ0 yJ0_charAt_5068e (wT yJ0_charAt_5068e cJ0_charAt_5068e 2 (some .char))) := gT_V tw982 tw408 tw409 tw5 tw410
theorem hdL_charAt : yJ0_charAt_5068e.cls = RJ0 ∧ yJ0_charAt_5068e.cls ≠ "java/lang/invoke/MethodHandle" ∧ yJ0_charAt_5068e.cls ≠ "java/lang/invoke/VarHandle" ∧ (parseMethodDescriptor yJ0_charAt_5068e.desc).map (fun d => d.parameters.length) = some 1 := ⟨rfl, by decide +kernel, by decide +kernel, by decide +kernel⟩
theorem acI : Cond.arrayClass .int ∈ TBG := tw163
theorem or_step' {a y n : Nat} (ha : a < 2 ^ (8 * n)) (hy : y < 128) (hn : n ≤ 3 := by omega) : (nI a <<< ((8 : Int32) &&& 31)) ||| nI y = nI (a * 256 + y) := by
  have h24 : a < 2 ^ 24 := Nat.lt_of_lt_of_le ha (Nat.pow_le_pow_right (by omega) (by omega))
  have e : nI a <<< ((8 : Int32) &&& 31) = nI (a * 2 ^ 8) := pk_shlN _ 8 (by decide +kernel) (by omega)
  rw [e]
  apply Int32.toBitVec_inj.mp
  apply BitVec.eq_of_toNat_eq
  rw [Int32.toBitVec_or, BitVec.toNat_or]
  show (BitVec.ofNat 32 (a * 2 ^ 8)).toNat ||| (BitVec.ofNat 32 y).toNat = (BitVec.ofNat 32 (a * 256 + y)).toNat
  rw [BitVec.toNat_ofNat, BitVec.toNat_ofNat, BitVec.toNat_ofNat, Nat.mod_eq_of_lt (by omega), Nat.mod_eq_of_lt (by omega), Nat.mod_eq_of_lt (by omega)]
  have := Nat.two_pow_add_eq_or_of_lt (i := 8) (show y < 2 ^ 8 by omega) a
  rw [Nat.mul_comm] at this
  rw [← this]
section TOLD
variable {p : Program} {l : Launch} {e : Env} {s : State} {m : MethodId} {args : Array Value} {below : List Frame} {meth : Method} {c : Code} {Q : State → Prop}
variable {dC : Nat → ClassId} {dI : Nat → Nat → Nat} {cg : Nat → ClassId} {kA : String → Nat → Nat} {b1 k a ar N : Nat} {S S' : CS} {T : List Int32} {t : Nat → Nat}
/-- the class, the text, what was read at the start -/
def tW (dC : Nat → ClassId) (dI : Nat → Nat → Nat) (cg : Nat → ClassId) (kA : String → Nat → Nat) (b1 a : Nat) (T : List Int32) : CS → State → Heap → Prop := fun S U H => cP dC dI cg kA (caOf b1) S U H ∧ strAt a T (cΩ (caOf b1)) U H ∧ kE kTab kA (fun q => b1 ≤ q) U H
def tF (kA : String → Nat → Nat) (b1 a : Nat) (T : List Int32) : State → Heap → Prop := fun U H => strAt a T (cΩ (caOf b1)) U H ∧ kE kTab kA (fun q => b1 ≤ q) U H
theorem tF_fs : gFs (cΩ (caOf b1)) (tF kA b1 a T) := ⟨fun u U H hvm h => ⟨h.1.moved hvm, h.2.moved hvm⟩, fun U H H1 hz hk h => ⟨h.1.kept hk, h.2.kept (fun q hq nq => hk q hq (fun z => nq (cΩ_in z).1))⟩⟩
theorem tW_ok : gOK (tW dC dI cg kA b1 a T) (kR kTab kA) := ⟨fun S u U H hvm h => ⟨cOK.1 _ _ _ _ hvm h.1, h.2.1.moved hvm, h.2.2.moved hvm⟩, kR_ok⟩
/-- the same while cells from k on may change -/
def tB (dC : Nat → ClassId) (dI : Nat → Nat → Nat) (cg : Nat → ClassId) (kA : String → Nat → Nat) (b1 a : Nat) (T : List Int32) (k : Nat) (S : CS) : State → Heap → Prop := fun U H => cB dC dI cg kA b1 k S U H ∧ strAt a T (fun q => cΩ (caOf b1) q ∨ k ≤ q) U H
theorem tB_fs : gFs (nΩ k) (tB dC dI cg kA b1 a T k S) := ⟨fun u U H hvm h => ⟨cB_fs.1 _ _ _ hvm h.1, h.2.moved hvm⟩, fun U H H1 hz hk h => ⟨cB_fs.2 _ _ _ hz hk h.1, h.2.kept (fun q hq nq => hk q hq (fun z => nq (Or.inr z)))⟩⟩
theorem tB_of {H : Heap} (hz : H.size = k) (h : tW dC dI cg kA b1 a T S s H) : tB dC dI cg kA b1 a T k S s H := ⟨cB_of hz h.1 h.2.2, str_lt (by omega) h.2.1⟩
theorem tB_to {H : Heap} (h : tB dC dI cg kA b1 a T k S s H) : tW dC dI cg kA b1 a T S s H := ⟨cB_to h.1, h.2.narrow (fun q z => Or.inl z), h.1.2.2.2⟩
theorem tB_c {H : Heap} (h : tB dC dI cg kA b1 a T k S s H) : cmpS (fun q => cΩ (caOf b1) q ∨ k ≤ q) s H := h.1.2.2.2.2.narrow (fun q z => by
  have := h.1.2.1
  have z : cΩ (caOf b1) q ∨ k ≤ q := z
  rcases z with z | z
  · exact (cΩ_in z).1
  · show b1 ≤ q; omega)
theorem tT {hT : T.length = N} (ht : ∀ j, t j < 128) (hb : ∀ j, j < N → T.getD j 0 = nI (t j)) : ∀ x ∈ T, ∃ q : Fin 128, x = Int32.ofNat q.val := fun x hx => by
  obtain ⟨j, hj, e⟩ := List.getElem_of_mem hx
  refine ⟨⟨t j, ht j⟩, ?_⟩
  have := hb j (by omega)
  rw [List.getD_eq_getElem?_getD, List.getElem?_eq_getElem hj] at this
  exact e.symm.trans this
set_option maxRecDepth 10000 in
theorem kTo_in {cells slots : Nat} (X : gX p s m args c cL_told 5 RL (kR kTab kA)) (hT : T.length = N) (hN : N ≤ 560) (ht : ∀ j, t j < 128) (hb : ∀ j, j < N → T.getD j 0 = nI (t j)) {kk : Nat} (hkk : 20 * kk ≤ 600) (hcs : cells ≤ 29 ∧ slots ≤ 145) (hK : va_K (dC, dI) vwCl (cTy cg) s) (har : k ≤ ar) (hks : s.heap.size ≤ k) (KK : ∀ (H : Heap) (locs : List Loc) (ls : Array Slot) (f : Nat → Int32), (∀ q, q < 5 → f q = nI (pw (fun i => ltr t N (20 * kk + i)) 20 q)) → va_at (dC, dI) vwCl (ar, .inl (cg 0, 5, .inl f)) H → tB dC dI cg kA b1 a T k S s H → va_S (Fr (cΩ (caOf b1)) s.heap.size) s.heap H locs → lv_has ls 5 [(3, .ref ar), (2, .int (nI (20 * kk))), (0, .ref (caOf b1 0)), (1, .ref a)] → W p l e (rmL 5 29 145) s m args below meth c H locs cells slots Q (F0 m 70 ls [])) : ∀ r' i, 20 = i + r' → ∀ (H : Heap) (locs : List Loc) (ls : Array Slot) (f : Nat → Int32), (∀ q, q < 5 → f q = nI (pw (fun i => ltr t N (20 * kk + i)) i q)) → va_at (dC, dI) vwCl (ar, .inl (cg 0, 5, .inl f)) H → tB dC dI cg kA b1 a T k S s H → va_S (Fr (cΩ (caOf b1)) s.heap.size) s.heap H locs → lv_has ls 5 [(4, .int (nI i)), (3, .ref ar), (2, .int (nI (20 * kk))), (0, .ref (caOf b1 0)), (1, .ref a)] → W p l e (rmL 5 29 145) s m args below meth c H locs cells slots Q (F0 m 17 ls []) := by
  have hx := X.hx
  have hb' := X.hb
  intro r'
  induction r' with
  | zero =>
    intro i hi H locs ls f hf he hP hS hl
    obtain rfl : i = 20 := by omega
    refine lv_iload hx hb' dL_told_17 (lv_at hl 0 rfl) ?_
    refine lv_bipush (v := 20) hx hb' dL_told_19 (by decide) ?_
    refine lv_icmp_ge (tgt := 70) hx hb' dL_told_21 (by decide) (fun c1 => ?_) (fun c1 => absurd (by decide) c1)
    exact KK H locs ls f hf he hP hS (lv_sub hl [1, 2, 3, 4] rfl)
  | succ r' ih =>
    intro i hi H locs ls f hf he hP hS hl
    have i4 : nI i / 4 = nI (i / 4) := pk_div (d := 4) (by omega) (by omega) (by omega)
    have hx2 : ∀ j, ltr t N (20 * kk + j) < 128 := fun j => by
      unfold ltr
      split
      · exact ht _
      · omega
    have hp := pw_23 (x := fun i => ltr t N (20 * kk + i)) hx2 (i := i)
    have hlt := (pw_lt (x := fun i => ltr t N (20 * kk + i)) hx2 i (i / 4)).resolve_right (by omega)
    have hp23 : pw (fun i => ltr t N (20 * kk + i)) i (i / 4) < 2 ^ 24 := hp
    have fi : f (i / 4) = nI (pw (fun i => ltr t N (20 * kk + i)) i (i / 4)) := hf _ (by omega)
    have K62 : ∀ ls, lv_has ls 5 [(4, .int (nI i)), (3, .ref ar), (2, .int (nI (20 * kk))), (0, .ref (caOf b1 0)), (1, .ref a)] → W p l e (rmL 5 29 145) s m args below meth c H locs cells slots Q (F0 m 62 ls [.int (nI (ltr t N (20 * kk + i))), .int (nI (pw (fun i => ltr t N (20 * kk + i)) i (i / 4)) <<< ((8 : Int32) &&& 31)), .int (nI (i / 4)), .ref ar]) := by
      intro ls hl
      refine lv_ior hx hb' dL_told_62 ?_
      rw [or_step' hlt (hx2 i)]
      refine va_iastO hx hb' hK he 0 rfl (show vp_in (nI (i / 4)) 5 from nI_in (by omega) (by omega)) dL_told_63 (fun H1 j he1 hz oq => ?_)
      rw [nI_clamp (by omega)] at he1
      have hP1 : tB dC dI cg kA b1 a T k S s H1 := tB_fs.2 s H H1 (by omega) (fun q hq nq => oq q (fun z => nq (by show k ≤ q; omega))) hP
      have hS1 := hS.put (k := j) hz oq (Or.inr (Nat.le_trans hks har))
      refine lv_iinc (v := (nI i) + 1) (lv' := [(4, .int ((nI i) + 1)), (3, .ref ar), (2, .int (nI (20 * kk))), (0, .ref (caOf b1 0)), (1, .ref a)]) hx hb' dL_told_64 hl (k := 0) rfl (by rfl) (by decide) rfl (fun ls hl => ?_)
      rw [← nI_succ] at hl
      refine lv_goto (tgt := 17) hx hb' dL_told_67 (by decide) ?_
      refine ih (i + 1) (by omega) H1 _ ls _ (fun q hq => ?_) he1 hP1 hS1 (lv_sub hl [0, 1, 2, 3, 4] rfl)
      show _ = nI (if q = i / 4 then pw (fun i => ltr t N (20 * kk + i)) i q * 256 + ltr t N (20 * kk + i) else pw (fun i => ltr t N (20 * kk + i)) i q)
      by_cases cq : q = i / 4
      · rw [if_pos cq, cq, pk_us]
      · rw [if_neg cq, pk_un cq]
        exact hf q hq
    refine lv_iload hx hb' dL_told_17 (lv_at hl 0 rfl) ?_
    refine lv_bipush (v := 20) hx hb' dL_told_19 (by decide) ?_
    refine lv_icmp_ge (tgt := 70) hx hb' dL_told_21 (by decide) (fun c1 => absurd c1 (show ¬ (20 : Int32) ≤ nI i from nI_ge (b := 20) (by omega) (by omega))) (fun c1 => ?_)
    refine lv_aload_n hx hb' dL_told_24 rfl (lv_at hl 1 rfl) ?_
    refine lv_iload hx hb' dL_told_25 (lv_at hl 0 rfl) ?_
    refine lv_iconst (v := 4) hx hb' dL_told_27 (by decide) ?_
    refine lv_idiv hx hb' dL_told_28 (by decide) ?_
    rw [i4]
    refine lv_aload_n hx hb' dL_told_29 rfl (lv_at hl 1 rfl) ?_
    refine lv_iload hx hb' dL_told_30 (lv_at hl 0 rfl) ?_
    refine lv_iconst (v := 4) hx hb' dL_told_32 (by decide) ?_
    refine lv_idiv hx hb' dL_told_33 (by decide) ?_
    rw [i4]
    refine va_iald hx hb' hK (cwo he) 0 0 rfl rfl (show vp_in (nI (i / 4)) 5 from nI_in (by omega) (by omega)) dL_told_34 ?_
    rw [nI_clamp (by omega), fi]
    refine lv_bipush (v := 8) hx hb' dL_told_35 (by decide) ?_
    refine lv_ishl hx hb' dL_told_37 ?_
    refine lv_iload_n hx hb' dL_told_38 rfl (lv_at hl 2 rfl) ?_
    refine lv_iload hx hb' dL_told_39 (lv_at hl 0 rfl) ?_
    refine lv_iadd hx hb' dL_told_41 ?_
    rw [nI_add]
    refine lv_aload_n hx hb' dL_told_42 rfl (lv_at hl 4 rfl) ?_
    refine gCallVR X rfl vJ0_length gsL_length hdL_length rfl ⟨by decide, by decide⟩ sB_blind (sB_at (tB_c hP) hP.2) hP.2.rec hl.1 (Nat.le_of_ble_eq_true rfl) ⟨by omega, by omega⟩ dL_told_43 (As := []) (rest := [.int (nI (20 * kk + i)), .int (nI (pw (fun i => ltr t N (20 * kk + i)) i (i / 4)) <<< ((8 : Int32) &&& 31)), .int (nI (i / 4)), .ref ar]) rfl ?_
    rw [show Int32.ofNat T.length = nI N from by rw [hT]; rfl]
    by_cases cN : 20 * kk + i < N
    · refine lv_icmp_ge (tgt := 60) hx hb' dL_told_46 (by decide) (fun c1 => absurd c1 (nI_ge cN (by omega))) (fun c1 => ?_)
      refine lv_aload_n hx hb' dL_told_49 rfl (lv_at hl 4 rfl) ?_
      refine lv_iload_n hx hb' dL_told_50 rfl (lv_at hl 2 rfl) ?_
      refine lv_iload hx hb' dL_told_51 (lv_at hl 0 rfl) ?_
      refine lv_iadd hx hb' dL_told_53 ?_
      rw [nI_add]
      refine gCallVR X rfl (vJ0_charAt (show gIn (nI (20 * kk + i)) T.length from by rw [hT]; exact nI_in cN (by omega)) (tT (hT := hT) ht hb) (by omega)) gsL_charAt hdL_charAt rfl ⟨by decide, by decide⟩ sB_blind (sB_at (tB_c hP) hP.2) hP.2.rec hl.1 (Nat.le_of_ble_eq_true rfl) ⟨by omega, by omega⟩ dL_told_54 (As := [.int (nI (20 * kk + i))]) (rest := [.int (nI (pw (fun i => ltr t N (20 * kk + i)) i (i / 4)) <<< ((8 : Int32) &&& 31)), .int (nI (i / 4)), .ref ar]) rfl ?_
      rw [nI_clamp (by omega), hb _ cN, show t (20 * kk + i) = ltr t N (20 * kk + i) from by unfold ltr; rw [if_pos cN]]
      refine lv_goto (tgt := 62) hx hb' dL_told_57 (by decide) ?_
      exact K62 ls hl
    · refine lv_icmp_ge (tgt := 60) hx hb' dL_told_46 (by decide) (fun c1 => ?_) (fun c1 => absurd (nI_le (by omega) (by omega)) c1)
      refine lv_bipush (v := 32) hx hb' dL_told_60 (by decide) ?_
      rw [show (32 : Int32) = nI (ltr t N (20 * kk + i)) from by unfold ltr; rw [if_neg cN]; rfl]
      exact K62 ls hl
set_option maxRecDepth 10000 in
theorem kTo_out (X : gX p s m args c cL_told 5 RL (kR kTab kA)) (hT : T.length = N) (hN : N ≤ 560) (ht : ∀ j, t j < 128) (hb : ∀ j, j < N → T.getD j 0 = nI (t j)) (hbz : b1 + 433 ≤ s.heap.size) {Se S1 : CS} {ans : Int32} (hret : gRetVA p l e (rmL 5 29 145) s m args below meth c cL_told 29 145 (cΩ (caOf b1)) (tW dC dI cg kA b1 a T) Q S') (htr : fX10_truncateInput S1 (nI N) = some (ans, S')) : ∀ r' kk (S : CS) (H : Heap) (locs : List Loc) (ls : Array Slot) (cells slots : Nat), (N + 19) / 20 = kk + r' → TDs (ltr t N) r' kk S S1 → cells + r' ≤ 29 → slots + 5 * r' ≤ 145 → tW dC dI cg kA b1 a T S s H → va_S (Fr (cΩ (caOf b1)) s.heap.size) s.heap H locs → lv_has ls 5 [(2, .int (nI (20 * kk))), (0, .ref (caOf b1 0)), (1, .ref a)] → W p l e (rmL 5 29 145) s m args below meth c H locs cells slots Q (F0 m 2 ls []) := by
  have hx := X.hx
  have hb' := X.hb
  intro r'
  induction r' with
  | zero =>
    intro kk S H locs ls cells slots hk htd hc1 hc2 hP hS hl
    have htd : S1 = S := htd
    subst htd
    have hPB := tB_of (k := H.size) rfl hP
    refine lv_iload_n hx hb' dL_told_2 rfl (lv_at hl 0 rfl) ?_
    refine lv_aload_n hx hb' dL_told_3 rfl (lv_at hl 2 rfl) ?_
    refine gCallVR X rfl vJ0_length gsL_length hdL_length rfl ⟨by decide, by decide⟩ sB_blind (sB_at (tB_c hPB) hPB.2) hPB.2.rec hl.1 (Nat.le_of_ble_eq_true rfl) ⟨by omega, by omega⟩ dL_told_4 (As := []) (rest := [.int (nI (20 * kk))]) rfl ?_
    rw [show Int32.ofNat T.length = nI N from by rw [hT]; rfl]
    refine lv_icmp_ge (tgt := 96) hx hb' dL_told_7 (by decide) (fun c1 => ?_) (fun c1 => absurd (nI_le (show N ≤ 20 * kk by omega) (by omega)) c1)
    refine lv_aload_n hx hb' dL_told_96 rfl (lv_at hl 1 rfl) ?_
    refine lv_aload_n hx hb' dL_told_97 rfl (lv_at hl 2 rfl) ?_
    refine gCallVR X rfl vJ0_length gsL_length hdL_length rfl ⟨by decide, by decide⟩ sB_blind (sB_at (tB_c hPB) hPB.2) hPB.2.rec hl.1 (Nat.le_of_ble_eq_true rfl) ⟨by omega, by omega⟩ dL_told_98 (As := []) (rest := [.ref (caOf b1 0)]) rfl ?_
    rw [show Int32.ofNat T.length = nI N from by rw [hT]; rfl]
    refine gCallWI X (gF_ok cOK (tF_fs (a := a) (T := T))) ((gMetI.A (vX10_truncateInput htr)).lift tF_fs) (cw_V 1 X gsL_truncateInput hdL_truncateInput ⟨by decide, by decide⟩) rfl hP hS (Fr_le hS.1) (cr_rec hP.1 (rfl : kc 0 = 0) rfl cw0 rfl) hl.1 (Nat.le_of_ble_eq_true rfl) ⟨by show _ + 0 ≤ 29; omega, by show _ + 0 ≤ 145; omega⟩ dL_told_101 (As := [.int (nI N)]) (rest := []) rfl (fun H locs hP hS => ?_)
    refine lv_pop hx hb' dL_told_104 rfl ?_
    exact hret _ _ _ _ _ _ dL_told_105 hP hS (by omega) (by omega)
  | succ r' ih =>
    intro kk S H locs ls cells slots hk htd hc1 hc2 hP hS hl
    obtain ⟨an, S2, hap, htd⟩ := htd
    have hPB := tB_of (k := H.size) rfl hP
    obtain ⟨-, hK, -, -, -⟩ := hP.1.choose_spec
    refine lv_iload_n hx hb' dL_told_2 rfl (lv_at hl 0 rfl) ?_
    refine lv_aload_n hx hb' dL_told_3 rfl (lv_at hl 2 rfl) ?_
    refine gCallVR X rfl vJ0_length gsL_length hdL_length rfl ⟨by decide, by decide⟩ sB_blind (sB_at (tB_c hPB) hPB.2) hPB.2.rec hl.1 (Nat.le_of_ble_eq_true rfl) ⟨by omega, by omega⟩ dL_told_4 (As := []) (rest := [.int (nI (20 * kk))]) rfl ?_
    rw [show Int32.ofNat T.length = nI N from by rw [hT]; rfl]
    refine lv_icmp_ge (tgt := 96) hx hb' dL_told_7 (by decide) (fun c1 => absurd c1 (nI_ge (show 20 * kk < N by omega) (by omega))) (fun c1 => ?_)
    refine lv_iconst (v := 5) hx hb' dL_told_10 (by decide) ?_
    obtain ⟨q, hq⟩ : ∃ q, q = H.size := ⟨_, rfl⟩
    refine va_newaK (atype := .int) (N := 5) hx hb' (X.hts _ acI) rfl dL_told_11 rfl (by decide) (by decide) (Nat.le_of_ble_eq_true rfl) (by show _ + 1 ≤ 29; omega) (by show _ + 5 ≤ 145; omega) hq.symm (fun H1 cA e1 z1 o1 hAr hNm => ?_)
    have hcA : cA = cg 0 := Option.some.inj (hNm.symm.trans (hK.2 0 _ rfl).2)
    subst hcA
    have he : va_at (dC, dI) vwCl (q, .inl (cg 0, 5, .inl fun _ => 0)) H1 := e1
    have hP1 : tB dC dI cg kA b1 a T H.size S s H1 := tB_fs.2 s H H1 (by omega) (fun w hw _ => o1 w (by omega)) hPB
    have hS1 : va_S (Fr (cΩ (caOf b1)) s.heap.size) s.heap H1 locs := nS_add hq.symm hS z1 o1
    refine lv_astore_n (lv' := [(3, .ref q), (2, .int (nI (20 * kk))), (0, .ref (caOf b1 0)), (1, .ref a)]) hx hb' dL_told_13 rfl hl (by decide) rfl (fun ls hl => ?_)
    refine lv_iconst (v := 0) hx hb' dL_told_14 (by decide) ?_
    refine lv_istore (lv' := [(4, .int 0), (3, .ref q), (2, .int (nI (20 * kk))), (0, .ref (caOf b1 0)), (1, .ref a)]) hx hb' dL_told_15 hl (by decide) rfl (fun ls hl => ?_)
    refine kTo_in (k := H.size) (ar := q) (S := S) (cells := cells + 1) (slots := slots + 5) X hT hN ht hb (kk := kk) (by omega) ⟨by omega, by omega⟩ hK (by omega) hS.1 (fun H locs ls f hf he hP hS hl => ?_) 20 0 rfl H1 locs ls _ (fun q _ => rfl) he hP1 hS1 (lv_sub hl [0, 1, 2, 3, 4] rfl)
    refine lv_aload_n hx hb' dL_told_70 rfl (lv_at hl 2 rfl) ?_
    refine lv_aload_n hx hb' dL_told_71 rfl (lv_at hl 0 rfl) ?_
    refine lv_iconst (v := 0) hx hb' dL_told_72 (by decide) ?_
    refine va_iald hx hb' hK (cwo he) 0 0 rfl rfl (show vp_in 0 5 from nI_in (c := 0) (by omega) (by omega)) dL_told_73 ?_
    rw [show f (0 : Int32).toNatClampNeg = nI (pw (fun i => ltr t N (20 * kk + i)) 20 0) from hf 0 (by omega)]
    refine lv_aload_n hx hb' dL_told_74 rfl (lv_at hl 0 rfl) ?_
    refine lv_iconst (v := 1) hx hb' dL_told_75 (by decide) ?_
    refine va_iald hx hb' hK (cwo he) 0 0 rfl rfl (show vp_in 1 5 from nI_in (c := 1) (by omega) (by omega)) dL_told_76 ?_
    rw [show f (1 : Int32).toNatClampNeg = nI (pw (fun i => ltr t N (20 * kk + i)) 20 1) from hf 1 (by omega)]
    refine lv_aload_n hx hb' dL_told_77 rfl (lv_at hl 0 rfl) ?_
    refine lv_iconst (v := 2) hx hb' dL_told_78 (by decide) ?_
    refine va_iald hx hb' hK (cwo he) 0 0 rfl rfl (show vp_in 2 5 from nI_in (c := 2) (by omega) (by omega)) dL_told_79 ?_
    rw [show f (2 : Int32).toNatClampNeg = nI (pw (fun i => ltr t N (20 * kk + i)) 20 2) from hf 2 (by omega)]
    refine lv_aload_n hx hb' dL_told_80 rfl (lv_at hl 0 rfl) ?_
    refine lv_iconst (v := 3) hx hb' dL_told_81 (by decide) ?_
    refine va_iald hx hb' hK (cwo he) 0 0 rfl rfl (show vp_in 3 5 from nI_in (c := 3) (by omega) (by omega)) dL_told_82 ?_
    rw [show f (3 : Int32).toNatClampNeg = nI (pw (fun i => ltr t N (20 * kk + i)) 20 3) from hf 3 (by omega)]
    refine lv_aload_n hx hb' dL_told_83 rfl (lv_at hl 0 rfl) ?_
    refine lv_iconst (v := 4) hx hb' dL_told_84 (by decide) ?_
    refine va_iald hx hb' hK (cwo he) 0 0 rfl rfl (show vp_in 4 5 from nI_in (c := 4) (by omega) (by omega)) dL_told_85 ?_
    rw [show f (4 : Int32).toNatClampNeg = nI (pw (fun i => ltr t N (20 * kk + i)) 20 4) from hf 4 (by omega)]
    refine gCallWI X (gF_ok cOK (tF_fs (a := a) (T := T))) ((gMetI.A (vX10_appendInput hap)).lift tF_fs) (cw_V 5 X gsL_appendInput hdL_appendInput ⟨by decide, by decide⟩) rfl (tB_to hP) hS (Fr_le hS.1) (cr_rec (tB_to hP).1 (rfl : kc 0 = 0) rfl cw0 rfl) hl.1 (Nat.le_of_ble_eq_true rfl) ⟨by show _ + 0 ≤ 29; omega, by show _ + 0 ≤ 145; omega⟩ dL_told_86 (As := [.int (nI (pw (fun i => ltr t N (20 * kk + i)) 20 0)), .int (nI (pw (fun i => ltr t N (20 * kk + i)) 20 1)), .int (nI (pw (fun i => ltr t N (20 * kk + i)) 20 2)), .int (nI (pw (fun i => ltr t N (20 * kk + i)) 20 3)), .int (nI (pw (fun i => ltr t N (20 * kk + i)) 20 4))]) (rest := []) rfl (fun H locs hP hS => ?_)
    refine lv_pop hx hb' dL_told_89 rfl ?_
    refine lv_iinc (v := (nI (20 * kk)) + 20) (lv' := [(2, .int ((nI (20 * kk)) + 20)), (3, .ref q), (0, .ref (caOf b1 0)), (1, .ref a)]) hx hb' dL_told_90 hl (k := 1) rfl (by rfl) (by decide) rfl (fun ls hl => ?_)
    rw [show nI (20 * kk) + 20 = nI (20 * (kk + 1)) from (nI_add (20 * kk) 20).trans (congrArg nI (by omega))] at hl
    refine lv_goto (tgt := 2) hx hb' dL_told_93 (by decide) ?_
    exact ih (kk + 1) S2 H locs ls _ _ (by omega) htd (by omega) (by omega) hP hS (lv_sub hl [0, 2, 3] rfl)
theorem vL_told {S1 : CS} {ans : Int32} (hT : T.length = N) (hN : N ≤ 560) (ht : ∀ j, t j < 128) (hb : ∀ j, j < N → T.getD j 0 = nI (t j)) (htd : TDs (ltr t N) ((N + 19) / 20) 0 S S1) (htr : fX10_truncateInput S1 (nI N) = some (ans, S')) : gMetVA l yL_told cL_told 5 5 29 145 (cΩ (caOf b1)) (tW dC dI cg kA b1 a T) (kR kTab kA) [.ref (caOf b1 0), .ref a] S S' := gEntryVA (by decide) tW_ok (Nat.le_of_ble_eq_true rfl) (fun p e s m args below meth c Q ls X hP hS hret hl => by
  have hP : tW dC dI cg kA b1 a T S s s.heap := hP
  obtain ⟨nA, hN1⟩ := hP.1
  have h4 := (hN1.1 432 (by omega)).lt
  have h4 : b1 + 432 < s.heap.size := h4
  have hx := X.hx
  have hb' := X.hb
  refine lv_iconst (v := 0) hx hb' dL_told_0 (by decide) ?_
  refine lv_istore_n (lv' := [(2, .int (nI (20 * 0))), (0, .ref (caOf b1 0)), (1, .ref a)]) hx hb' dL_told_1 rfl hl (by decide) rfl (fun ls hl => ?_)
  exact kTo_out (Se := S) X hT hN ht hb (by omega) hret htr ((N + 19) / 20) 0 S s.heap [] ls 0 0 (by omega) htd (by omega) (by omega) hP hS hl)
end TOLD
