theorem tw787 : (Jvm.Cond.methodLink "GranaryWatchLaw" (283 : Nat) ({ cls := "GranaryWatch", name := "loadGranary", desc := "()I" } : Jvm.MethodName)) ∈ TBG := tb_t 787 (by decide +kernel) (by decide +kernel)
theorem tw788 : (Jvm.Cond.instanceMethod ({ cls := "GranaryWatch", name := "loadGranary", desc := "()I" } : Jvm.MethodName)) ∈ TBG := tb_t 788 (by decide +kernel) (by decide +kernel)
theorem tw789 : (Jvm.Cond.selects "GranaryWatch" ({ cls := "GranaryWatch", name := "loadGranary", desc := "()I" } : Jvm.MethodName) ({ cls := "GranaryWatch", name := "loadGranary", desc := "()I" } : Jvm.MethodName)) ∈ TBG := tb_t 789 (by decide +kernel) (by decide +kernel)
theorem tw790 : (Jvm.Cond.code ({ cls := "GranaryWatch", name := "loadGranary", desc := "()I" } : Jvm.MethodName) prog_1_method_4_code (2 : Nat) (Option.some Jvm.ClassFile.FieldType.int)) ∈ TBG := tb_t 790 (by decide +kernel) (by decide +kernel)
theorem tw791 : (Jvm.Cond.methodLink "GranaryWatchLaw" (294 : Nat) ({ cls := "GranaryWatch", name := "isConsistent", desc := "()Z" } : Jvm.MethodName)) ∈ TBG := tb_t 791 (by decide +kernel) (by decide +kernel)
theorem tw792 : (Jvm.Cond.instanceMethod ({ cls := "GranaryWatch", name := "isConsistent", desc := "()Z" } : Jvm.MethodName)) ∈ TBG := tb_t 792 (by decide +kernel) (by decide +kernel)
theorem tw793 : (Jvm.Cond.selects "GranaryWatch" ({ cls := "GranaryWatch", name := "isConsistent", desc := "()Z" } : Jvm.MethodName) ({ cls := "GranaryWatch", name := "isConsistent", desc := "()Z" } : Jvm.MethodName)) ∈ TBG := tb_t 793 (by decide +kernel) (by decide +kernel)
theorem tw794 : (Jvm.Cond.code ({ cls := "GranaryWatch", name := "isConsistent", desc := "()Z" } : Jvm.MethodName) prog_1_method_50_code (1 : Nat) (Option.some Jvm.ClassFile.FieldType.boolean)) ∈ TBG := tb_t 794 (by decide +kernel) (by decide +kernel)
theorem tw972 : (Jvm.Cond.methodLink "GranaryWatchLaw" (209 : Nat) ({ cls := "GranaryWatchLaw", name := "cell", desc := "([II)I" } : Jvm.MethodName)) ∈ TBG := tb_t 972 (by decide +kernel) (by decide +kernel)
theorem tw973 : (Jvm.Cond.static ({ cls := "GranaryWatchLaw", name := "cell", desc := "([II)I" } : Jvm.MethodName)) ∈ TBG := tb_t 973 (by decide +kernel) (by decide +kernel)
theorem tw974 : (Jvm.Cond.code ({ cls := "GranaryWatchLaw", name := "cell", desc := "([II)I" } : Jvm.MethodName) method_2_code (2 : Nat) (Option.some Jvm.ClassFile.FieldType.int)) ∈ TBG := tb_t 974 (by decide +kernel) (by decide +kernel)
theorem tw995 : (Jvm.Cond.methodLink "GranaryWatchLaw" (286 : Nat) ({ cls := "GranaryWatchLaw", name := "isWhole", desc := "(LGranaryWatch;LGranaryWatchLaw$Granary;)Z" } : Jvm.MethodName)) ∈ TBG := tb_t 995 (by decide +kernel) (by decide +kernel)
theorem tw996 : (Jvm.Cond.static ({ cls := "GranaryWatchLaw", name := "isWhole", desc := "(LGranaryWatch;LGranaryWatchLaw$Granary;)Z" } : Jvm.MethodName)) ∈ TBG := tb_t 996 (by decide +kernel) (by decide +kernel)
theorem tw997 : (Jvm.Cond.code ({ cls := "GranaryWatchLaw", name := "isWhole", desc := "(LGranaryWatch;LGranaryWatchLaw$Granary;)Z" } : Jvm.MethodName) method_5_code (4 : Nat) (Option.some Jvm.ClassFile.FieldType.boolean)) ∈ TBG := tb_t 997 (by decide +kernel) (by decide +kernel)
theorem tw1211 : (Jvm.Cond.methodLink "GranaryWatchLaw" (290 : Nat) ({ cls := "GranaryWatchLaw", name := "event", desc := "(LGranaryWatch;LGranaryWatchLaw$Granary;I)Z" } : Jvm.MethodName)) ∈ TBG := tb_t 1211 (by decide +kernel) (by decide +kernel)
theorem tw1212 : (Jvm.Cond.static ({ cls := "GranaryWatchLaw", name := "event", desc := "(LGranaryWatch;LGranaryWatchLaw$Granary;I)Z" } : Jvm.MethodName)) ∈ TBG := tb_t 1212 (by decide +kernel) (by decide +kernel)
theorem tw1213 : (Jvm.Cond.code ({ cls := "GranaryWatchLaw", name := "event", desc := "(LGranaryWatch;LGranaryWatchLaw$Granary;I)Z" } : Jvm.MethodName) method_6_code (8 : Nat) (Option.some Jvm.ClassFile.FieldType.boolean)) ∈ TBG := tb_t 1213 (by decide +kernel) (by decide +kernel)
/-! the law from the loaded granary to its end -/
theorem gsL_cell : GoodIn TBG (va_wsS RL 209 yL_cell (wT yL_cell cL_cell 2 (some .int))) := gT_S tw972 tw973 tw0 tw974
theorem hdL_cell : yL_cell.cls = RL ∧ yL_cell.cls ≠ "java/lang/invoke/MethodHandle" ∧ yL_cell.cls ≠ "java/lang/invoke/VarHandle" ∧ (parseMethodDescriptor yL_cell.desc).map (fun d => d.parameters.length) = some 2 := ⟨rfl, by decide +kernel, by decide +kernel, by decide +kernel⟩
theorem gsL_event : GoodIn TBG (va_wsS RL 290 yL_event (wT yL_event cL_event 8 (some .boolean))) := gT_S tw1211 tw1212 tw0 tw1213
theorem hdL_event : yL_event.cls = RL ∧ yL_event.cls ≠ "java/lang/invoke/MethodHandle" ∧ yL_event.cls ≠ "java/lang/invoke/VarHandle" ∧ (parseMethodDescriptor yL_event.desc).map (fun d => d.parameters.length) = some 3 := ⟨rfl, by decide +kernel, by decide +kernel, by decide +kernel⟩
theorem gsL_isWhole : GoodIn TBG (va_wsS RL 286 yL_isWhole (wT yL_isWhole cL_isWhole 4 (some .boolean))) := gT_S tw995 tw996 tw0 tw997
theorem hdL_isWhole : yL_isWhole.cls = RL ∧ yL_isWhole.cls ≠ "java/lang/invoke/MethodHandle" ∧ yL_isWhole.cls ≠ "java/lang/invoke/VarHandle" ∧ (parseMethodDescriptor yL_isWhole.desc).map (fun d => d.parameters.length) = some 2 := ⟨rfl, by decide +kernel, by decide +kernel, by decide +kernel⟩
theorem gsL_isConsistent : GoodIn TBG (wsV RL 294 RX10 yX10_isConsistent (wT yX10_isConsistent cX10_isConsistent 1 (some .boolean))) := gT_V tw791 tw792 tw793 tw1 tw794
theorem hdL_isConsistent : yX10_isConsistent.cls = RX10 ∧ yX10_isConsistent.cls ≠ "java/lang/invoke/MethodHandle" ∧ yX10_isConsistent.cls ≠ "java/lang/invoke/VarHandle" ∧ (parseMethodDescriptor yX10_isConsistent.desc).map (fun d => d.parameters.length) = some 0 := ⟨rfl, by decide +kernel, by decide +kernel, by decide +kernel⟩
theorem gsL_loadGranary : GoodIn TBG (wsV RL 283 RX10 yX10_loadGranary (wT yX10_loadGranary cX10_loadGranary 2 (some .int))) := gT_V tw787 tw788 tw789 tw1 tw790
theorem hdL_loadGranary : yX10_loadGranary.cls = RX10 ∧ yX10_loadGranary.cls ≠ "java/lang/invoke/MethodHandle" ∧ yX10_loadGranary.cls ≠ "java/lang/invoke/VarHandle" ∧ (parseMethodDescriptor yX10_loadGranary.desc).map (fun d => d.parameters.length) = some 0 := ⟨rfl, by decide +kernel, by decide +kernel, by decide +kernel⟩
section CELL
variable {p : Program} {l : Launch} {e : Env} {R : Room} {s : State} {m : MethodId} {args : Array Value} {below : List Frame} {meth : Method} {c : Code} {H : Heap} {locs : List Loc} {cells slots : Nat} {Q : State → Prop}
variable {pc nL : Nat} {ls : Array Slot} {rest : List Value} {dC : Nat → ClassId} {dI : Nat → Nat → Nat} {cg : Nat → ClassId} {kA : String → Nat → Nat} {la iA : Nat → Nat} {C : LC} {b1 z : Nat} {S S' : CS} {M M' : MS} {h : Nat → Int32} {cc : ByteArray} {own : String} {KS : State → Prop}
/-- a number of the script, or what stands for it -/
def cellV (L : Nat) (xs : Nat → Int32) (k : Nat) : Int32 := if k < L then xs k else 113 * nI k + 67
def xB (kA : String → Nat → Nat) (b L : Nat) (xs : Nat → Int32) : State → Prop := fun U => va_X b L xs U U.heap ∧ b < U.heap.size ∧ kR kTab kA U
theorem xB_blind {av : List Value} {b L : Nat} {xs : Nat → Int32} : FrameBlind (va_Pc av (xB kA b L xs)) := fun a U g mk q => ⟨q.1, va_X.moved (Vm.Alike.refl U.vm) q.2.1, q.2.2.1, kR_ok.1 U _ rfl q.2.2.2⟩
theorem vL_cell {b L k : Nat} {xs : Nat → Int32} (hL : L ≤ 260) (hk : k < 1000) : gMetR l yL_cell cL_cell 2 (some .int) 1 (xB kA b L xs) [.ref b, .int (nI k)] (cellV L xs k) := gEntryR (KS := kR kTab kA) (ty := .int) (by decide) rfl rfl (Nat.le_of_ble_eq_true rfl) (fun _ h => h.2.2) (fun p e s m args below meth c Q ls X hB hret hl => by
  have hx := X.hx
  have hb := X.hb
  obtain ⟨hX, hbl, -⟩ := hB
  have hS : va_S (fun _ => False) s.heap s.heap [] := va_S.rf
  refine lv_iload_n hx hb dL_cell_0 rfl (lv_at hl 1 rfl) ?_
  refine lv_aload_n hx hb dL_cell_1 rfl (lv_at hl 0 rfl) ?_
  refine va_slen hx hb hX hbl (fun z => z) hS dL_cell_2 ?_
  by_cases q : k < L
  · refine lv_icmp_ge (tgt := 12) hx hb dL_cell_3 (by decide) (fun c1 => absurd c1 (nI_ge q (by omega))) (fun _ => ?_)
    refine lv_aload_n hx hb dL_cell_6 rfl (lv_at hl 0 rfl) ?_
    refine lv_iload_n hx hb dL_cell_7 rfl (lv_at hl 1 rfl) ?_
    refine va_sld hx hb hX hbl (fun z => z) hS (show vp_in (nI k) L from nI_in q (by omega)) dL_cell_8 ?_
    rw [nI_clamp (by omega), show xs k = cellV L xs k from by unfold cellV; rw [if_pos q]]
    refine lv_goto (tgt := 19) hx hb dL_cell_9 (by decide) ?_
    exact hret _ _ dL_cell_19
  · refine lv_icmp_ge (tgt := 12) hx hb dL_cell_3 (by decide) (fun _ => ?_) (fun c1 => absurd (nI_le (by omega) (by omega)) c1)
    refine lv_bipush (v := 113) hx hb dL_cell_12 (by decide) ?_
    refine lv_iload_n hx hb dL_cell_14 rfl (lv_at hl 1 rfl) ?_
    refine lv_imul hx hb dL_cell_15 ?_
    refine lv_bipush (v := 67) hx hb dL_cell_16 (by decide) ?_
    refine lv_iadd hx hb dL_cell_18 ?_
    rw [show (113 : Int32) * nI k + 67 = cellV L xs k from by unfold cellV; rw [if_neg q]]
    exact hret _ _ dL_cell_19)
/-- calls of methods that change nothing, in a room of any size -/
theorem gCallSRr {y : MethodName} {c' : ByteArray} {n' idx nA : Nat} {ret : Option FieldType} {As : List Value} {r : Int32} {B0 : State → Prop} (hX : gX p s m args c cc nL own KS) {lev' : Nat} (hM : gMetR l y c' n' ret lev' B0 As r) (hG : GoodIn TBG (va_wsS own idx y (wT y c' n' ret)))
    {C : String} (hd : y.cls = C ∧ y.cls ≠ "java/lang/invoke/MethodHandle" ∧ y.cls ≠ "java/lang/invoke/VarHandle" ∧ (parseMethodDescriptor y.desc).map (fun d => d.parameters.length) = some nA) (hnA : As.length = nA) (hroom : lev' + 1 ≤ R.frames ∧ 8 + (n' + 11) + 38 * lev' ≤ R.locals)
    (hbl : FrameBlind (va_Pc As B0)) (hB : ∀ U : State, U.heap = H → s.WarmedH U.vm → B0 U) (hls : ls.size = nL) (hcat : (rest.map fun v => v.category).sum ≤ 8) (hcells : cells ≤ R.cells ∧ slots ≤ R.slots) (hdg : decode cc pc = .ok (.invokestatic idx, 3)) {st : List Value} (hst : st = As.reverse ++ rest)
    (kk : W p l e R s m args below meth c H locs cells slots Q (F0 m (pc + 3) ls (.int r :: rest))) : W p l e R s m args below meth c H locs cells slots Q (F0 m pc ls st) := by
  refine vp_callSi (W.runS (As := As) (rest := rest) ⟨hX.hx, hX.hb, hX.hml, hX.hown, hX.hts⟩ hM (va_cwS nA hX.hts hG rfl rfl rfl hd.2 ⟨hroom.1, hroom.2⟩) ⟨hbl, fun U hU hW => ⟨rfl, hB U hU hW⟩⟩ rfl hnA hls hst (lv_room hcat) hdg ⟨hcells.1, hcells.2⟩) (fun r' hr => ?_)
  subst hr
  exact kk
theorem gCallVRr {y : MethodName} {c' : ByteArray} {n' idx nA : Nat} {ret : Option FieldType} {C : String} {b : Nat} {As : List Value} {r : Int32} {B0 : State → Prop} (hX : gX p s m args c cc nL own KS) {lev' : Nat} (hM : gMetR l y c' n' ret lev' B0 (.ref b :: As) r) (hG : GoodIn TBG (wsV own idx C y (wT y c' n' ret)))
    (hd : y.cls = C ∧ y.cls ≠ "java/lang/invoke/MethodHandle" ∧ y.cls ≠ "java/lang/invoke/VarHandle" ∧ (parseMethodDescriptor y.desc).map (fun d => d.parameters.length) = some nA) (hnA : As.length = nA) (hroom : lev' + 1 ≤ R.frames ∧ 8 + (n' + 11) + 38 * lev' ≤ R.locals)
    (hbl : FrameBlind (va_Pc (.ref b :: As) B0)) (hB : ∀ U : State, U.heap = H → s.WarmedH U.vm → B0 U) (hrec : gRec C b s H) (hls : ls.size = nL) (hcat : (rest.map fun v => v.category).sum ≤ 8) (hcells : cells ≤ R.cells ∧ slots ≤ R.slots) (hdg : decode cc pc = .ok (.invokevirtual idx, 3)) {st : List Value} (hst : st = As.reverse ++ .ref b :: rest)
    (kk : W p l e R s m args below meth c H locs cells slots Q (F0 m (pc + 3) ls (.int r :: rest))) : W p l e R s m args below meth c H locs cells slots Q (F0 m pc ls st) := by
  refine vp_callSi (W.runV (As := As) (rest := rest) ⟨hX.hx, hX.hb, hX.hml, hX.hown, hX.hts⟩ hM (cwV nA hX.hts hG rfl rfl rfl hd ⟨hroom.1, hroom.2⟩) ⟨hbl, hrec, fun U hU hW => ⟨rfl, hB U hU hW⟩⟩ rfl hnA hls hst (lv_room hcat) hdg ⟨hcells.1, hcells.2⟩) (fun r' hr => ?_)
  subst hr
  exact kk
theorem qΩ_ge (hs : lS b1 la C) {q : Nat} (h : qΩ b1 la C q) : b1 ≤ q := h.elim (fun z => (cΩ_in z).1) (fun z => by obtain ⟨p, hp, e⟩ := z; have := hs p hp; omega)
end CELL
section TAIL
variable {p : Program} {l : Launch} {e : Env} {s : State} {m : MethodId} {below : List Frame} {meth : Method} {c : Code}
variable {dC : Nat → ClassId} {dI : Nat → Nat → Nat} {cg : Nat → ClassId} {kA : String → Nat → Nat} {la iA : Nat → Nat} {C : LC} {b b1 L : Nat} {xs : Nat → Int32}
set_option maxRecDepth 10000 in
theorem law_end (hL : L ≤ 260) (X : gX p s m #[.ref b] c cL_law 11 RL (kR kTab kA)) (hr : meth.sig.returnType = ret) (hlocks : meth.locks = false) (hXs : va_X b L xs s s.heap) (hbl : b < s.heap.size) (hb1 : s.heap.size ≤ b1) (hC : lC C) (hs : lS b1 la C) : ∀ (r' k : Nat) (S : CS) (M : MS) (h : Nat → Int32) (H : Heap) (locs : List Loc) (ls : Array Slot) (cl sl : Nat), 28 = k + r' → Rel S M → EI C (15 + 8 * k) (127 + 80 * k) (M.2 0) h → qP dC dI cg kA la iA C b1 (S, (M.2 0, h)) s H → va_S (fun q => s.heap.size ≤ q) s.heap H locs → lv_has ls 11 [(8, .int (nI k)), (0, .ref b), (1, .ref (caOf b1 0)), (2, .ref (la 0))] → cl + 50 * r' ≤ 200000 → sl + 200 * r' ≤ 2000000 → W p l e room_1 s m #[.ref b] below meth c H locs cl sl (lw_Z below #[.ref b] s) (F0 m 612 ls []) := by
  have hx := X.hx
  have hb := X.hb
  have hA : ∀ {H : Heap}, s.heap.size ≤ H.size → ∀ q, Fr (qΩ b1 la C) H.size q → s.heap.size ≤ q := fun hz q z => z.elim (fun z => Nat.le_trans hb1 (qΩ_ge hs z)) (fun z => Nat.le_trans hz z)
  intro r'
  induction r' with
  | zero =>
    intro k S M h H locs ls cl sl hk rel ei hP hS hl hc1 hc2
    refine lv_iload hx hb dL_law_612 (lv_at hl 0 rfl) ?_
    refine lv_bipush (v := 28) hx hb dL_law_614 (by decide) ?_
    refine lv_icmp_ge (tgt := 652) hx hb dL_law_616 (by decide) (fun _ => ?_) (fun c1 => absurd (show (28 : Int32) ≤ nI k from nI_le (a := 28) (by omega) (by omega)) c1)
    refine lv_aload_n hx hb dL_law_652 rfl (lv_at hl 2 rfl) ?_
    refine gCallVRr X (vX10_isConsistent (x_isConsistent hC rel ei)) gsL_isConsistent hdL_isConsistent rfl ⟨Nat.le_of_ble_eq_true rfl, Nat.le_of_ble_eq_true rfl⟩ (gB_blind cOK) (gB_at cOK X hP.1) (cr_rec hP.1 (rfl : kc 0 = 0) rfl cw0 rfl) hl.1 (Nat.le_of_ble_eq_true rfl) ⟨Nat.le_trans (show _ ≤ 200000 by omega) rmC, Nat.le_trans (show _ ≤ 2000000 by omega) rmS⟩ dL_law_653 (As := []) (rest := []) rfl ?_
    refine va_forget (fun q hq => hS.2.2 q hq) ?_
    refine W.widen (k := room_1.cells) (n := room_1.slots) (Nat.le_trans (show _ ≤ 200000 by omega) rmC) (Nat.le_trans (show _ ≤ 2000000 by omega) rmS) ?_
    exact lw_ret hx hb hr hlocks dL_law_656
  | succ r' ih =>
    intro k S M h H locs ls cl sl hk rel ei hP hS hl hc1 hc2
    refine lv_iload hx hb dL_law_612 (lv_at hl 0 rfl) ?_
    refine lv_bipush (v := 28) hx hb dL_law_614 (by decide) ?_
    refine lv_icmp_ge (tgt := 652) hx hb dL_law_616 (by decide) (fun c1 => absurd c1 (show ¬ (28 : Int32) ≤ nI k from nI_ge (b := 28) (by omega) (by omega))) (fun _ => ?_)
    refine lv_aload_n hx hb dL_law_619 rfl (lv_at hl 2 rfl) ?_
    refine lv_aload_n hx hb dL_law_620 rfl (lv_at hl 3 rfl) ?_
    refine lv_aload_n hx hb dL_law_621 rfl (lv_at hl 1 rfl) ?_
    refine lv_bipush (v := 17) hx hb dL_law_622 (by decide) ?_
    refine lv_iload hx hb dL_law_624 (lv_at hl 0 rfl) ?_
    refine lv_iadd hx hb dL_law_626 ?_
    rw [show (17 : Int32) + nI k = nI (17 + k) from nI_add 17 k]
    have hXH : va_X b L xs s H := hXs.kept (hS.2.1 b hbl (Nat.not_le.mpr hbl))
    refine gCallSRr X (vL_cell (kA := kA) (b := b) (xs := xs) (k := 17 + k) hL (by omega)) gsL_cell hdL_cell rfl ⟨Nat.le_of_ble_eq_true rfl, Nat.le_of_ble_eq_true rfl⟩ xB_blind (fun U hU hW => ⟨by rw [hU]; exact va_X.moved hW.alike hXH, by rw [hU]; exact Nat.lt_of_lt_of_le hbl hS.1, kR_ok.2 _ _ hW X.ks⟩) hl.1 (Nat.le_of_ble_eq_true rfl) ⟨Nat.le_trans (show _ ≤ 200000 by omega) rmC, Nat.le_trans (show _ ≤ 2000000 by omega) rmS⟩ dL_law_627 (As := [.ref b, .int (nI (17 + k))]) (rest := [.ref (la 0), .ref (caOf b1 0)]) rfl ?_
    obtain ⟨S', M', h', rel', ei', ev⟩ := vL_event (dC := dC) (dI := dI) (cg := cg) (kA := kA) (iA := iA) (x := cellV L xs (17 + k)) hC hs rel ei (by omega) (by omega)
    have ei' := ei'.le (t' := 15 + 8 * (k + 1)) (b' := 127 + 80 * (k + 1)) (by omega) (by omega)
    refine gCallTI X qOK (ev l) (va_cwS 3 X.hts gsL_event rfl rfl rfl hdL_event.2 ⟨Nat.le_of_ble_eq_true rfl, Nat.le_of_ble_eq_true rfl⟩) rfl hP hS (hA hS.1) hl.1 (Nat.le_of_ble_eq_true rfl) ⟨Nat.le_trans (show _ + 48 ≤ 200000 by omega) rmC, Nat.le_trans (show _ + 192 ≤ 2000000 by omega) rmS⟩ dL_law_630 (As := [.ref (caOf b1 0), .ref (la 0), .int (cellV L xs (17 + k))]) (rest := []) rfl (fun H locs hP hS => ?_)
    refine lv_if_eq (tgt := 644) hx hb dL_law_633 (by decide) (fun c1 => absurd c1 (by decide)) (fun _ => ?_)
    refine lv_aload_n hx hb dL_law_636 rfl (lv_at hl 2 rfl) ?_
    refine lv_aload_n hx hb dL_law_637 rfl (lv_at hl 3 rfl) ?_
    refine gCallTI X qOK (vL_isWhole (h := h') hC hs rel'.1 (ei'.nc hC) (ei'.ns hC)) (va_cwS 2 X.hts gsL_isWhole rfl rfl rfl hdL_isWhole.2 ⟨Nat.le_of_ble_eq_true rfl, Nat.le_of_ble_eq_true rfl⟩) rfl hP hS (hA hS.1) hl.1 (Nat.le_of_ble_eq_true rfl) ⟨Nat.le_trans (show _ + 2 ≤ 200000 by omega) rmC, Nat.le_trans (show _ + 8 ≤ 2000000 by omega) rmS⟩ dL_law_638 (As := [.ref (caOf b1 0), .ref (la 0)]) (rest := []) rfl (fun H locs hP hS => ?_)
    refine lv_if_ne (tgt := 646) hx hb dL_law_641 (by decide) (fun _ => ?_) (fun c1 => absurd c1 (by decide))
    refine lv_iinc (v := nI k + 1) (lv' := [(8, .int (nI k + 1)), (0, .ref b), (1, .ref (caOf b1 0)), (2, .ref (la 0))]) hx hb dL_law_646 hl (k := 0) rfl (by rfl) (by decide) rfl (fun ls hl => ?_)
    rw [← nI_succ] at hl
    refine lv_goto (tgt := 612) hx hb dL_law_649 (by decide) ?_
    exact ih (k + 1) S' M' h' H locs ls _ _ (by omega) rel' ei' hP hS hl (by omega) (by omega)
set_option maxRecDepth 10000 in
/-- from the told text: it is loaded, looked at, and the events follow -/
theorem law_load (hL : L ≤ 260) (X : gX p s m #[.ref b] c cL_law 11 RL (kR kTab kA)) (hr : meth.sig.returnType = ret) (hlocks : meth.locks = false) (hXs : va_X b L xs s s.heap) (hbl : b < s.heap.size) (hb1 : s.heap.size ≤ b1) (hC : lC C) (hs : lS b1 la C) {S S' : CS} {M' : MS} {w : Wd} {h : Nat → Int32} {H : Heap} {locs : List Loc} {ls : Array Slot} {cl sl : Nat} (f1 : fX10_loadGranary S = some (nI C.1.1, S')) (rel : Rel S' M') (ei : EI C 15 127 (M'.2 0) h) (hw : ∀ q, q < 14 ∨ 65 ≤ q → M'.2 0 q = w q) (hP : qP dC dI cg kA la iA C b1 (S, (w, h)) s H) (hS : va_S (fun q => s.heap.size ≤ q) s.heap H locs) (hl : lv_has ls 11 [(5, .int (nI C.1.1)), (0, .ref b), (1, .ref (caOf b1 0)), (2, .ref (la 0))]) (hc1 : cl ≤ 100000) (hc2 : sl ≤ 1000000) : W p l e room_1 s m #[.ref b] below meth c H locs cl sl (lw_Z below #[.ref b] s) (F0 m 590 ls []) := by
  have hx := X.hx
  have hb := X.hb
  have hA : ∀ {H : Heap}, s.heap.size ≤ H.size → ∀ q, Fr (qΩ b1 la C) H.size q → s.heap.size ≤ q := fun hz q z => z.elim (fun z => Nat.le_trans hb1 (qΩ_ge hs z)) (fun z => Nat.le_trans hz z)
  refine lv_aload_n hx hb dL_law_590 rfl (lv_at hl 2 rfl) ?_
  refine gCallWI X (gF_ok cOK (lP_fsC (iA := iA) (X := (w, h)) hs)) ((vX10_loadGranary f1).lift (lP_fsC hs)) (cwV 0 X.hts gsL_loadGranary rfl rfl rfl hdL_loadGranary ⟨Nat.le_of_ble_eq_true rfl, Nat.le_of_ble_eq_true rfl⟩) rfl hP hS (fun q z => hA hS.1 q (z.elim (fun z => Or.inl (Or.inl z)) (fun z => Or.inr z))) (cr_rec hP.1 (rfl : kc 0 = 0) rfl cw0 rfl) hl.1 (Nat.le_of_ble_eq_true rfl) ⟨Nat.le_trans (show _ + 402 ≤ 200000 by omega) rmC, Nat.le_trans (show _ + 3819 ≤ 2000000 by omega) rmS⟩ dL_law_591 (As := []) (rest := []) rfl (fun H locs hP hS => ?_)
  have hP : qP dC dI cg kA la iA C b1 (S', (M'.2 0, h)) s H := ⟨hP.1, lP_cong hw hP.2⟩
  refine lv_iload hx hb dL_law_594 (lv_at hl 0 rfl) ?_
  refine lv_icmp_ne (tgt := 607) hx hb dL_law_596 (by decide) (fun c1 => absurd rfl c1) (fun _ => ?_)
  refine lv_aload_n hx hb dL_law_599 rfl (lv_at hl 2 rfl) ?_
  refine lv_aload_n hx hb dL_law_600 rfl (lv_at hl 3 rfl) ?_
  refine gCallTI X qOK (vL_isWhole (h := h) hC hs rel.1 (ei.nc hC) (ei.ns hC)) (va_cwS 2 X.hts gsL_isWhole rfl rfl rfl hdL_isWhole.2 ⟨Nat.le_of_ble_eq_true rfl, Nat.le_of_ble_eq_true rfl⟩) rfl hP hS (hA hS.1) hl.1 (Nat.le_of_ble_eq_true rfl) ⟨Nat.le_trans (show _ + 2 ≤ 200000 by omega) rmC, Nat.le_trans (show _ + 8 ≤ 2000000 by omega) rmS⟩ dL_law_601 (As := [.ref (caOf b1 0), .ref (la 0)]) (rest := []) rfl (fun H locs hP hS => ?_)
  refine lv_if_ne (tgt := 609) hx hb dL_law_604 (by decide) (fun _ => ?_) (fun c1 => absurd c1 (by decide))
  refine lv_iconst (v := 0) hx hb dL_law_609 (by decide) ?_
  refine lv_istore (lv' := [(8, .int 0), (5, .int (nI C.1.1)), (0, .ref b), (1, .ref (caOf b1 0)), (2, .ref (la 0))]) hx hb dL_law_610 hl (by decide) rfl (fun ls hl => ?_)
  exact law_end hL X hr hlocks hXs hbl hb1 hC hs 28 0 S' M' h H locs ls _ _ rfl rel ei hP hS (lv_sub hl [0, 2, 3, 4] rfl) (by omega) (by omega)
end TAIL
