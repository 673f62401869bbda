theorem tw0 : (Jvm.Cond.initialized "GranaryWatchLaw") ∈ TBG := tb_t 0 (by decide +kernel) (by decide +kernel)
theorem tw975 : (Jvm.Cond.methodLink "GranaryWatchLaw" (169 : Nat) ({ cls := "GranaryWatchLaw", name := "bits", desc := "(III)I" } : Jvm.MethodName)) ∈ TBG := tb_t 975 (by decide +kernel) (by decide +kernel)
theorem tw976 : (Jvm.Cond.static ({ cls := "GranaryWatchLaw", name := "bits", desc := "(III)I" } : Jvm.MethodName)) ∈ TBG := tb_t 976 (by decide +kernel) (by decide +kernel)
theorem tw977 : (Jvm.Cond.code ({ cls := "GranaryWatchLaw", name := "bits", desc := "(III)I" } : Jvm.MethodName) method_3_code (3 : Nat) (Option.some Jvm.ClassFile.FieldType.int)) ∈ TBG := tb_t 977 (by decide +kernel) (by decide +kernel)
theorem tw1240 : (Jvm.Cond.methodLink "GranaryWatchLaw" (182 : Nat) ({ cls := "GranaryWatch", name := "openFlap", desc := "(I)I" } : Jvm.MethodName)) ∈ TBG := tb_t 1240 (by decide +kernel) (by decide +kernel)
theorem tw1241 : (Jvm.Cond.instanceMethod ({ cls := "GranaryWatch", name := "openFlap", desc := "(I)I" } : Jvm.MethodName)) ∈ TBG := tb_t 1241 (by decide +kernel) (by decide +kernel)
theorem tw1242 : (Jvm.Cond.selects "GranaryWatch" ({ cls := "GranaryWatch", name := "openFlap", desc := "(I)I" } : Jvm.MethodName) ({ cls := "GranaryWatch", name := "openFlap", desc := "(I)I" } : Jvm.MethodName)) ∈ TBG := tb_t 1242 (by decide +kernel) (by decide +kernel)
theorem tw1243 : (Jvm.Cond.code ({ cls := "GranaryWatch", name := "openFlap", desc := "(I)I" } : Jvm.MethodName) prog_1_method_54_code (2 : Nat) (Option.some Jvm.ClassFile.FieldType.int)) ∈ TBG := tb_t 1243 (by decide +kernel) (by decide +kernel)
theorem tw1346 : (Jvm.Cond.methodLink "GranaryWatchLaw" (185 : Nat) ({ cls := "GranaryWatch", name := "shutFlap", desc := "(I)I" } : Jvm.MethodName)) ∈ TBG := tb_t 1346 (by decide +kernel) (by decide +kernel)
theorem tw1347 : (Jvm.Cond.instanceMethod ({ cls := "GranaryWatch", name := "shutFlap", desc := "(I)I" } : Jvm.MethodName)) ∈ TBG := tb_t 1347 (by decide +kernel) (by decide +kernel)
theorem tw1348 : (Jvm.Cond.selects "GranaryWatch" ({ cls := "GranaryWatch", name := "shutFlap", desc := "(I)I" } : Jvm.MethodName) ({ cls := "GranaryWatch", name := "shutFlap", desc := "(I)I" } : Jvm.MethodName)) ∈ TBG := tb_t 1348 (by decide +kernel) (by decide +kernel)
theorem tw1349 : (Jvm.Cond.code ({ cls := "GranaryWatch", name := "shutFlap", desc := "(I)I" } : Jvm.MethodName) prog_1_method_55_code (2 : Nat) (Option.some Jvm.ClassFile.FieldType.int)) ∈ TBG := tb_t 1349 (by decide +kernel) (by decide +kernel)
theorem tw1350 : (Jvm.Cond.methodLink "GranaryWatchLaw" (188 : Nat) ({ cls := "GranaryWatch", name := "addMice", desc := "(II)I" } : Jvm.MethodName)) ∈ TBG := tb_t 1350 (by decide +kernel) (by decide +kernel)
theorem tw1351 : (Jvm.Cond.instanceMethod ({ cls := "GranaryWatch", name := "addMice", desc := "(II)I" } : Jvm.MethodName)) ∈ TBG := tb_t 1351 (by decide +kernel) (by decide +kernel)
theorem tw1352 : (Jvm.Cond.selects "GranaryWatch" ({ cls := "GranaryWatch", name := "addMice", desc := "(II)I" } : Jvm.MethodName) ({ cls := "GranaryWatch", name := "addMice", desc := "(II)I" } : Jvm.MethodName)) ∈ TBG := tb_t 1352 (by decide +kernel) (by decide +kernel)
theorem tw1353 : (Jvm.Cond.code ({ cls := "GranaryWatch", name := "addMice", desc := "(II)I" } : Jvm.MethodName) prog_1_method_56_code (3 : Nat) (Option.some Jvm.ClassFile.FieldType.int)) ∈ TBG := tb_t 1353 (by decide +kernel) (by decide +kernel)
theorem tw1373 : (Jvm.Cond.methodLink "GranaryWatchLaw" (192 : Nat) ({ cls := "GranaryWatch", name := "addGrain", desc := "(II)I" } : Jvm.MethodName)) ∈ TBG := tb_t 1373 (by decide +kernel) (by decide +kernel)
theorem tw1374 : (Jvm.Cond.instanceMethod ({ cls := "GranaryWatch", name := "addGrain", desc := "(II)I" } : Jvm.MethodName)) ∈ TBG := tb_t 1374 (by decide +kernel) (by decide +kernel)
theorem tw1375 : (Jvm.Cond.selects "GranaryWatch" ({ cls := "GranaryWatch", name := "addGrain", desc := "(II)I" } : Jvm.MethodName) ({ cls := "GranaryWatch", name := "addGrain", desc := "(II)I" } : Jvm.MethodName)) ∈ TBG := tb_t 1375 (by decide +kernel) (by decide +kernel)
theorem tw1376 : (Jvm.Cond.code ({ cls := "GranaryWatch", name := "addGrain", desc := "(II)I" } : Jvm.MethodName) prog_1_method_57_code (3 : Nat) (Option.some Jvm.ClassFile.FieldType.int)) ∈ TBG := tb_t 1376 (by decide +kernel) (by decide +kernel)
theorem tw1377 : (Jvm.Cond.methodLink "GranaryWatchLaw" (195 : Nat) ({ cls := "GranaryWatch", name := "dismiss", desc := "()I" } : Jvm.MethodName)) ∈ TBG := tb_t 1377 (by decide +kernel) (by decide +kernel)
theorem tw1378 : (Jvm.Cond.instanceMethod ({ cls := "GranaryWatch", name := "dismiss", desc := "()I" } : Jvm.MethodName)) ∈ TBG := tb_t 1378 (by decide +kernel) (by decide +kernel)
theorem tw1379 : (Jvm.Cond.selects "GranaryWatch" ({ cls := "GranaryWatch", name := "dismiss", desc := "()I" } : Jvm.MethodName) ({ cls := "GranaryWatch", name := "dismiss", desc := "()I" } : Jvm.MethodName)) ∈ TBG := tb_t 1379 (by decide +kernel) (by decide +kernel)
theorem tw1380 : (Jvm.Cond.code ({ cls := "GranaryWatch", name := "dismiss", desc := "()I" } : Jvm.MethodName) prog_1_method_58_code (1 : Nat) (Option.some Jvm.ClassFile.FieldType.int)) ∈ TBG := tb_t 1380 (by decide +kernel) (by decide +kernel)
theorem tw1381 : (Jvm.Cond.methodLink "GranaryWatchLaw" (198 : Nat) ({ cls := "GranaryWatch", name := "setMilk", desc := "(I)I" } : Jvm.MethodName)) ∈ TBG := tb_t 1381 (by decide +kernel) (by decide +kernel)
theorem tw1382 : (Jvm.Cond.instanceMethod ({ cls := "GranaryWatch", name := "setMilk", desc := "(I)I" } : Jvm.MethodName)) ∈ TBG := tb_t 1382 (by decide +kernel) (by decide +kernel)
theorem tw1383 : (Jvm.Cond.selects "GranaryWatch" ({ cls := "GranaryWatch", name := "setMilk", desc := "(I)I" } : Jvm.MethodName) ({ cls := "GranaryWatch", name := "setMilk", desc := "(I)I" } : Jvm.MethodName)) ∈ TBG := tb_t 1383 (by decide +kernel) (by decide +kernel)
theorem tw1384 : (Jvm.Cond.code ({ cls := "GranaryWatch", name := "setMilk", desc := "(I)I" } : Jvm.MethodName) prog_1_method_59_code (2 : Nat) (Option.some Jvm.ClassFile.FieldType.int)) ∈ TBG := tb_t 1384 (by decide +kernel) (by decide +kernel)
theorem tw1385 : (Jvm.Cond.methodLink "GranaryWatchLaw" (201 : Nat) ({ cls := "GranaryWatchLaw$Granary", name := "hour", desc := "()V" } : Jvm.MethodName)) ∈ TBG := tb_t 1385 (by decide +kernel) (by decide +kernel)
theorem tw1386 : (Jvm.Cond.instanceMethod ({ cls := "GranaryWatchLaw$Granary", name := "hour", desc := "()V" } : Jvm.MethodName)) ∈ TBG := tb_t 1386 (by decide +kernel) (by decide +kernel)
theorem tw1387 : (Jvm.Cond.selects "GranaryWatchLaw$Granary" ({ cls := "GranaryWatchLaw$Granary", name := "hour", desc := "()V" } : Jvm.MethodName) ({ cls := "GranaryWatchLaw$Granary", name := "hour", desc := "()V" } : Jvm.MethodName)) ∈ TBG := tb_t 1387 (by decide +kernel) (by decide +kernel)
theorem tw1388 : (Jvm.Cond.code ({ cls := "GranaryWatchLaw$Granary", name := "hour", desc := "()V" } : Jvm.MethodName) prog_14_method_6_code (4 : Nat) (Option.none : Option Jvm.ClassFile.FieldType)) ∈ TBG := tb_t 1388 (by decide +kernel) (by decide +kernel)
theorem tw1420 : (Jvm.Cond.methodLink "GranaryWatchLaw" (204 : Nat) ({ cls := "GranaryWatch", name := "letPass", desc := "(I)I" } : Jvm.MethodName)) ∈ TBG := tb_t 1420 (by decide +kernel) (by decide +kernel)
theorem tw1421 : (Jvm.Cond.instanceMethod ({ cls := "GranaryWatch", name := "letPass", desc := "(I)I" } : Jvm.MethodName)) ∈ TBG := tb_t 1421 (by decide +kernel) (by decide +kernel)
theorem tw1422 : (Jvm.Cond.selects "GranaryWatch" ({ cls := "GranaryWatch", name := "letPass", desc := "(I)I" } : Jvm.MethodName) ({ cls := "GranaryWatch", name := "letPass", desc := "(I)I" } : Jvm.MethodName)) ∈ TBG := tb_t 1422 (by decide +kernel) (by decide +kernel)
theorem tw1423 : (Jvm.Cond.code ({ cls := "GranaryWatch", name := "letPass", desc := "(I)I" } : Jvm.MethodName) prog_1_method_53_code (2 : Nat) (Option.some Jvm.ClassFile.FieldType.int)) ∈ TBG := tb_t 1423 (by decide +kernel) (by decide +kernel)
/-! the law's events -/
theorem gsL_openFlap : GoodIn TBG (wsV RL 182 RX10 yX10_openFlap (wT yX10_openFlap cX10_openFlap 2 (some .int))) := gT_V tw1240 tw1241 tw1242 tw1 tw1243
theorem hdL_openFlap : yX10_openFlap.cls = RX10 ∧ yX10_openFlap.cls ≠ "java/lang/invoke/MethodHandle" ∧ yX10_openFlap.cls ≠ "java/lang/invoke/VarHandle" ∧ (parseMethodDescriptor yX10_openFlap.desc).map (fun d => d.parameters.length) = some 1 := ⟨rfl, by decide +kernel, by decide +kernel, by decide +kernel⟩
theorem gsL_shutFlap : GoodIn TBG (wsV RL 185 RX10 yX10_shutFlap (wT yX10_shutFlap cX10_shutFlap 2 (some .int))) := gT_V tw1346 tw1347 tw1348 tw1 tw1349
theorem hdL_shutFlap : yX10_shutFlap.cls = RX10 ∧ yX10_shutFlap.cls ≠ "java/lang/invoke/MethodHandle" ∧ yX10_shutFlap.cls ≠ "java/lang/invoke/VarHandle" ∧ (parseMethodDescriptor yX10_shutFlap.desc).map (fun d => d.parameters.length) = some 1 := ⟨rfl, by decide +kernel, by decide +kernel, by decide +kernel⟩
theorem gsL_addMice : GoodIn TBG (wsV RL 188 RX10 yX10_addMice (wT yX10_addMice cX10_addMice 3 (some .int))) := gT_V tw1350 tw1351 tw1352 tw1 tw1353
theorem hdL_addMice : yX10_addMice.cls = RX10 ∧ yX10_addMice.cls ≠ "java/lang/invoke/MethodHandle" ∧ yX10_addMice.cls ≠ "java/lang/invoke/VarHandle" ∧ (parseMethodDescriptor yX10_addMice.desc).map (fun d => d.parameters.length) = some 2 := ⟨rfl, by decide +kernel, by decide +kernel, by decide +kernel⟩
theorem gsL_addGrain : GoodIn TBG (wsV RL 192 RX10 yX10_addGrain (wT yX10_addGrain cX10_addGrain 3 (some .int))) := gT_V tw1373 tw1374 tw1375 tw1 tw1376
theorem hdL_addGrain : yX10_addGrain.cls = RX10 ∧ yX10_addGrain.cls ≠ "java/lang/invoke/MethodHandle" ∧ yX10_addGrain.cls ≠ "java/lang/invoke/VarHandle" ∧ (parseMethodDescriptor yX10_addGrain.desc).map (fun d => d.parameters.length) = some 2 := ⟨rfl, by decide +kernel, by decide +kernel, by decide +kernel⟩
theorem gsL_dismiss : GoodIn TBG (wsV RL 195 RX10 yX10_dismiss (wT yX10_dismiss cX10_dismiss 1 (some .int))) := gT_V tw1377 tw1378 tw1379 tw1 tw1380
theorem hdL_dismiss : yX10_dismiss.cls = RX10 ∧ yX10_dismiss.cls ≠ "java/lang/invoke/MethodHandle" ∧ yX10_dismiss.cls ≠ "java/lang/invoke/VarHandle" ∧ (parseMethodDescriptor yX10_dismiss.desc).map (fun d => d.parameters.length) = some 0 := ⟨rfl, by decide +kernel, by decide +kernel, by decide +kernel⟩
theorem gsL_setMilk : GoodIn TBG (wsV RL 198 RX10 yX10_setMilk (wT yX10_setMilk cX10_setMilk 2 (some .int))) := gT_V tw1381 tw1382 tw1383 tw1 tw1384
theorem hdL_setMilk : yX10_setMilk.cls = RX10 ∧ yX10_setMilk.cls ≠ "java/lang/invoke/MethodHandle" ∧ yX10_setMilk.cls ≠ "java/lang/invoke/VarHandle" ∧ (parseMethodDescriptor yX10_setMilk.desc).map (fun d => d.parameters.length) = some 1 := ⟨rfl, by decide +kernel, by decide +kernel, by decide +kernel⟩
theorem gsL_letPass : GoodIn TBG (wsV RL 204 RX10 yX10_letPass (wT yX10_letPass cX10_letPass 2 (some .int))) := gT_V tw1420 tw1421 tw1422 tw1 tw1423
theorem hdL_letPass : yX10_letPass.cls = RX10 ∧ yX10_letPass.cls ≠ "java/lang/invoke/MethodHandle" ∧ yX10_letPass.cls ≠ "java/lang/invoke/VarHandle" ∧ (parseMethodDescriptor yX10_letPass.desc).map (fun d => d.parameters.length) = some 1 := ⟨rfl, by decide +kernel, by decide +kernel, by decide +kernel⟩
theorem gsL_hour : GoodIn TBG (wsV RL 201 RX12 yX12_hour (wT yX12_hour cX12_hour 4 none)) := gT_V tw1385 tw1386 tw1387 tw22 tw1388
theorem hdL_hour : yX12_hour.cls = RX12 ∧ yX12_hour.cls ≠ "java/lang/invoke/MethodHandle" ∧ yX12_hour.cls ≠ "java/lang/invoke/VarHandle" ∧ (parseMethodDescriptor yX12_hour.desc).map (fun d => d.parameters.length) = some 0 := ⟨rfl, by decide +kernel, by decide +kernel, by decide +kernel⟩
theorem gsL_bits : GoodIn TBG (va_wsS RL 169 yL_bits (wT yL_bits cL_bits 3 (some .int))) := gT_S tw975 tw976 tw0 tw977
theorem hdL_bits : yL_bits.cls = RL ∧ yL_bits.cls ≠ "java/lang/invoke/MethodHandle" ∧ yL_bits.cls ≠ "java/lang/invoke/VarHandle" ∧ (parseMethodDescriptor yL_bits.desc).map (fun d => d.parameters.length) = some 3 := ⟨rfl, by decide +kernel, by decide +kernel, by decide +kernel⟩
/-- a part of a number -/
def bitV (x a m : Int32) : Int32 := (x.toUInt32 >>> (a.toUInt32 &&& Int32.toUInt32 31)).toInt32 &&& ((1 <<< (m &&& 31)) - 1)
theorem bitV_4 (x a : Int32) : ∃ j, j < 16 ∧ bitV x a 4 = nI j := pk_andE _ 4 (by decide +kernel)
theorem gMetI.A {Y : Type} {l : Launch} {P : Y → State → Heap → Prop} {KS : State → Prop} {Ω : Nat → Prop} {y : MethodName} {ret : Option FieldType} {lev n : Nat} {cc : ByteArray} {av : List Value} {S S1 : Y} {r : Int32} (h : gMetI l y cc n ret lev Ω P KS av S r S1) : gMetIA l y cc n ret lev 0 0 Ω P KS av S r S1 := h
/-- so many hours of the law -/
def LHs (C : LC) : Nat → Wd → (Nat → Int32) → (Nat → Int32) → Prop
  | 0, _, h, h' => h' = h
  | n + 1, w, h, h' => ∃ g, fZ12_hour C (w, h) = some (hourV w, g) ∧ OL (hourW w) (hourV w) ∧ LHs C n (hourW w) g h'
theorem EI.hours {C : LC} (hC : lC C) {b : Nat} : ∀ (n t : Nat) (w : Wd) (h : Nat → Int32), In w → EI C t b w h → ∃ h', LHs C n w h h' ∧ EI C (t + n) b (hoursW n w) h'
  | 0, t, w, h, _, e => ⟨h, rfl, e⟩
  | n + 1, t, w, h, i, e => by
    obtain ⟨g, a1, a2, a3, a4⟩ := e.hour hC i
    obtain ⟨h', c1, c2⟩ := EI.hours hC n (t + 1) _ _ a4 a3
    exact ⟨h', ⟨g, a1, a2, c1⟩, by rw [show t + (n + 1) = t + 1 + n by omega, hoursW_s]; exact c2⟩
section BITS
variable {p : Program} {l : Launch} {e : Env} {R : Room} {s : State} {m : MethodId} {args : Array Value} {below : List Frame} {meth : Method} {c : Code} {H : Heap} {locs : List Loc} {cells slots : Nat} {Q : State → Prop}
variable {pc nL : Nat} {ls : Array Slot} {rest : List Value} {dC : Nat → ClassId} {dI : Nat → Nat → Nat} {cg : Nat → ClassId} {kA : String → Nat → Nat} {la iA : Nat → Nat} {C : LC} {b1 z : Nat} {S S' : CS} {M M' : MS} {h : Nat → Int32}
theorem kR_blind {av : List Value} : FrameBlind (va_Pc av (kR kTab kA)) := fun a U g mk q => ⟨q.1, kR_ok.1 U _ rfl q.2⟩
theorem vL_bits {x a k : Int32} : gMetR l yL_bits cL_bits 3 (some .int) 1 (kR kTab kA) [.int x, .int a, .int k] (bitV x a k) := gEntryR (KS := kR kTab kA) (ty := .int) (by decide) rfl rfl (Nat.le_of_ble_eq_true rfl) (fun _ h => h) (fun p e s m args below meth c Q ls X hB hret hl => by
  have hx := X.hx
  have hb := X.hb
  refine lv_iload_n hx hb dL_bits_0 rfl (lv_at hl 0 rfl) ?_
  refine lv_iload_n hx hb dL_bits_1 rfl (lv_at hl 1 rfl) ?_
  refine lv_iushr hx hb dL_bits_2 rfl ?_
  refine lv_iconst (v := 1) hx hb dL_bits_3 (by decide) ?_
  refine lv_iload_n hx hb dL_bits_4 rfl (lv_at hl 2 rfl) ?_
  refine lv_ishl hx hb dL_bits_5 ?_
  refine lv_iconst (v := 1) hx hb dL_bits_6 (by decide) ?_
  refine lv_isub hx hb dL_bits_7 ?_
  refine lv_iand hx hb dL_bits_8 ?_
  exact hret _ _ dL_bits_9)
variable {q N ci k index lev mc ms : Nat} {Cn host : String} {T : u_T} {tyT : Nat → FieldType} {fs : List Value} {v : Value} {cc : ByteArray} {F : State → Heap → Prop} {M0 : XL} {own : String} {bs : Nat}
/-- putfield at a place of the law's, beside any world that keeps off it -/
theorem lr_putNA {A0 : Nat → Prop} (M1 : XL) (X : gX p s m args c cc nL own (kR kTab kA)) (hF : gFs (lΩ la C) F) (hP : gF (lP dC dI cg kA la iA C bs) F M0 s H) (hS : va_S A0 s.heap H locs) (hA : A0 (la q)) (hq : lEx C q) (hr : lRow cg la iA C q M0 = .inr (ci, fs)) (hr1 : lRow cg la iA C q M1 = .inr (ci, fs.set k v)) (hro : ∀ p, p ≠ q → lRow cg la iA C p M1 = lRow cg la iA C p M0) (hc : vwCl[ci]? = some (Cn, T, N)) (hin : ∀ w ∈ u_ws Cn T N, w ∈ TBG) (hty : ∀ k, k < N → parseFieldDescriptor (T k).2.2.1 = some (tyT k)) (hnm : ∀ a, a < N → ∀ b, b < N → a ≠ b → (T a).2.1 ≠ (T b).2.1) (hk : k < N) (ho : (T k).1 = Cn) (hfin : (T k).2.2.2 = false) (hn : narrow (tyT k) v = v) (hfit : fits (tyT k) v = true) (hl : k < fs.length) (hlink : Cond.fieldLinkNest own index Cn (T k).2.1 (T k).2.2.1 host ∈ xws) (hdg : decode cc pc = .ok (.putfield index, 3))
    (kk : ∀ (H1 : Heap) (locs1 : List Loc), gF (lP dC dI cg kA la iA C bs) F M1 s H1 → va_S A0 s.heap H1 locs1 → W p l e R s m args below meth c H1 locs1 cells slots Q (F0 m (pc + 3) ls rest)) : W p l e R s m args below meth c H locs cells slots Q (F0 m pc ls (v :: .ref (la q) :: rest)) := by
  have h0 := hP.1.1 q hq
  rw [hr] at h0
  refine va_putNO X.hx X.hb X.hts hin tyT hty hnm X.hown hP.1.2.1 h0 hc k hk (xw_use rfl (X.ks.2.1 _ hlink)) (fun x h => by rw [ho] at h; exact h) hfin (hty k hk) hn hfit hl hdg (fun H1 j h4 hz oq => ?_)
  rw [← hr1] at h4
  exact kk H1 _ (lP_up hF hP hq h4 hro hz oq) (hS.put hz oq hA)
theorem cq_fr {n k : Nat} (h : n ≤ k) : ∀ q, Fr (cΩ (caOf b1)) k q → Fr (qΩ b1 la C) n q := fun q z => z.elim (fun z => Or.inl (Or.inl z)) (fun z => Or.inr (Nat.le_trans h z))
end BITS
