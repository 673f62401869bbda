theorem tw32 : (Jvm.Cond.initialized "java/util/ArrayList$Itr") ∈ TBG := tb_t 32 (by decide +kernel) (by decide +kernel)
theorem tw866 : (Jvm.Cond.fieldLink "java/util/ArrayList$Itr" (37 : Nat) "java/util/ArrayList" "elementData" "[Ljava/lang/Object;") ∈ TBG := tb_t 866 (by decide +kernel) (by decide +kernel)
theorem tw1052 : (Jvm.Cond.classLink "java/util/ArrayList" (267 : Nat) "java/util/ArrayList$Itr") ∈ TBG := tb_t 1052 (by decide +kernel) (by decide +kernel)
theorem tw1053 : (Jvm.Cond.instantiable "java/util/ArrayList$Itr" (4 : Nat)) ∈ TBG := tb_t 1053 (by decide +kernel) (by decide +kernel)
theorem tw1054 : (Jvm.Cond.methodLink "java/util/ArrayList" (269 : Nat) ({ cls := "java/util/ArrayList$Itr", name := "<init>", desc := "(Ljava/util/ArrayList;)V" } : Jvm.MethodName)) ∈ TBG := tb_t 1054 (by decide +kernel) (by decide +kernel)
theorem tw1055 : (Jvm.Cond.instanceMethod ({ cls := "java/util/ArrayList$Itr", name := "<init>", desc := "(Ljava/util/ArrayList;)V" } : Jvm.MethodName)) ∈ TBG := tb_t 1055 (by decide +kernel) (by decide +kernel)
theorem tw1056 : (Jvm.Cond.code ({ cls := "java/util/ArrayList$Itr", name := "<init>", desc := "(Ljava/util/ArrayList;)V" } : Jvm.MethodName) prog_44_method_1_code (2 : Nat) (Option.none : Option Jvm.ClassFile.FieldType)) ∈ TBG := tb_t 1056 (by decide +kernel) (by decide +kernel)
theorem tw1057 : (Jvm.Cond.methodLink "java/util/ArrayList$Itr" (7 : Nat) ({ cls := "java/lang/Object", name := "<init>", desc := "()V" } : Jvm.MethodName)) ∈ TBG := tb_t 1057 (by decide +kernel) (by decide +kernel)
theorem tw1059 : (Jvm.Cond.fieldLink "java/util/ArrayList$Itr" (13 : Nat) "java/util/ArrayList$Itr" "lastRet" "I") ∈ TBG := tb_t 1059 (by decide +kernel) (by decide +kernel)
theorem tw1090 : (Jvm.Cond.methodLink "java/util/ArrayList$Itr" (31 : Nat) ({ cls := "java/util/ArrayList$Itr", name := "checkForComodification", desc := "()V" } : Jvm.MethodName)) ∈ TBG := tb_t 1090 (by decide +kernel) (by decide +kernel)
theorem tw1091 : (Jvm.Cond.instanceMethod ({ cls := "java/util/ArrayList$Itr", name := "checkForComodification", desc := "()V" } : Jvm.MethodName)) ∈ TBG := tb_t 1091 (by decide +kernel) (by decide +kernel)
theorem tw1092 : (Jvm.Cond.selects "java/util/ArrayList$Itr" ({ cls := "java/util/ArrayList$Itr", name := "checkForComodification", desc := "()V" } : Jvm.MethodName) ({ cls := "java/util/ArrayList$Itr", name := "checkForComodification", desc := "()V" } : Jvm.MethodName)) ∈ TBG := tb_t 1092 (by decide +kernel) (by decide +kernel)
theorem tw1093 : (Jvm.Cond.code ({ cls := "java/util/ArrayList$Itr", name := "checkForComodification", desc := "()V" } : Jvm.MethodName) prog_44_method_6_code (1 : Nat) (Option.none : Option Jvm.ClassFile.FieldType)) ∈ TBG := tb_t 1093 (by decide +kernel) (by decide +kernel)
/-! iterators made and moved; calls through an interface -/
section NREF
variable {X : Type}
/-- a method that makes a cell, at most mc of ms slots in all, and answers it -/
def gMetN (l : Launch) (y : MethodName) (c : ByteArray) (n : Nat) (ret : Option FieldType) (lev mc ms : Nat) (Ω : Nat → Prop) (P : X → State → Heap → Prop) (KS : State → Prop) (av : List Value) (S : X) (S1 : X) (B : Nat → State → Heap → Prop) : Prop :=
  ∀ sz, Met l y (wT y c n ret) (rmL lev mc ms) (va_Pc av (gPre P KS S sz)) (va_Qr (fun (u : X) => u = S1) (fun u a t => P u t t.heap ∧ B a t t.heap ∧ sz ≤ a) (Fr Ω sz)) mc ms (Fr Ω sz)
variable {p : Program} {l : Launch} {e : Env} {R : Room} {s : State} {m : MethodId} {args : Array Value} {below : List Frame} {meth : Method} {c : Code} {H : Heap} {locs : List Loc} {cells slots : Nat} {Q : State → Prop}
variable {cc : ByteArray} {pc nL : Nat} {ls : Array Slot} {rest : List Value} {own : String} {Ω : Nat → Prop} {P : X → State → Heap → Prop} {KS : State → Prop}
def gRetN (p : Program) (l : Launch) (e : Env) (R : Room) (s : State) (m : MethodId) (args : Array Value) (below : List Frame) (meth : Method) (c : Code) (cc : ByteArray) (mc ms : Nat) (Ω : Nat → Prop) (P : X → State → Heap → Prop) (Q : State → Prop) (S1 : X) (B : Nat → State → Heap → Prop) : Prop :=
  ∀ (pc : Nat) (ls : Array Slot) (H : Heap) (locs : List Loc) (cells slots a : Nat), decode cc pc = .ok (.areturn, 1) → P S1 s H → B a s H → s.heap.size ≤ a → va_S (Fr Ω s.heap.size) s.heap H locs → cells ≤ mc → slots ≤ ms → W p l e R s m args below meth c H locs cells slots Q (F0 m pc ls [.ref a])
theorem gEntryN {y : MethodName} {ret : Option FieldType} {rt : FieldType} {lev mc ms : Nat} {av : List Value} {S S1 : X} {B : Nat → State → Heap → Prop} (hpl : plainName y.cls = true) (hret : ret = some rt) (hrt : (∃ n, rt = .object n) ∨ ∃ t, rt = .array t) (hO : gOK P KS) (hB : ∀ a u U H, u.vm.Alike U.vm → B a u H → B a U H) (hav : (lg_sl av).length ≤ nL)
    (body : ∀ (p : Program) (e : Env) (s : State) (m : MethodId) (args : Array Value) (below : List Frame) (meth : Method) (c : Code) (Q : State → Prop) (ls : Array Slot), gX p s m args c cc nL y.cls KS → P S s s.heap → va_S (Fr Ω s.heap.size) s.heap s.heap [] → gRetN p l e (rmL lev mc ms) s m args below meth c cc mc ms Ω P Q S1 B → lv_has ls nL (lv_args 0 av) → W p l e (rmL lev mc ms) s m args below meth c s.heap [] 0 0 Q (F0 m 0 ls [])) :
    gMetN l y cc nL ret lev mc ms Ω P KS av S S1 B := by
  intro sz
  refine Met.ofW (cc := cc) (maxL := nL) (ret := ret) hpl rfl ?_
  intro p e s m args below meth c s₁ B hml hv
  obtain ⟨rfl, hsz, hP, hK⟩ := hv
  subst hsz
  have hlocks := B.notSynchronized
  have hts := atoms_spec (ws := wT y cc nL ret) B.pre
  have hown : s.vm.findClass y.cls = some m.cls := findClass_of_methodNamed B.named
  have hl := lv_entry av (n := nL) hav
  rw [lg_entry_eq]
  refine body p e s m _ below meth c _ _ ⟨B.exec, B.bytes, hml, hown, fun w hw => hts w (List.mem_cons_of_mem _ hw), hK⟩ hP va_S.rf ?_ hl
  intro pc ls H locs cells slots a hdg hP1 hB1 hz1 hS1 hc hs
  refine W.widen hc hs ?_
  refine W.aret (rt := rt) B.exec B.bytes (by rw [B.returns, hret]) hrt (Or.inr ⟨a, rfl⟩) (fun t ht hW => ⟨⟨S1, a, rfl, rfl, ?_, ?_, hz1⟩, hS1.F ht⟩) hS1.2.2 hdg
  · rw [ht]; exact hO.1 _ _ _ _ hW.alike hP1
  · rw [ht]; exact hB _ _ _ _ hW.alike hB1
/-- calls through an interface -/
theorem gCallFR {x y : MethodName} {c' : ByteArray} {n' idx cnt nA : Nat} {ret : Option FieldType} {lev mc ms : Nat} {C : String} {cC : ClassId} {b : Nat} {As : List Value} {r : Int32} {B0 : State → Prop} (hX : gX p s m args c cc nL own KS) (hR : R = rmL lev mc ms) {lev' : Nat} (hM : gMetR l y c' n' ret lev' B0 (.ref b :: As) r) (hG : GoodIn TBG (va_wsF own idx C x y (wT y c' n' ret))) (hat : ClassAt s C cC) (hF : va_Fw C x y s)
    (hd : x.cls ≠ "java/lang/invoke/MethodHandle" ∧ x.cls ≠ "java/lang/invoke/VarHandle" ∧ (parseMethodDescriptor x.desc).map (fun d => d.parameters.length) = some nA) (hnA : As.length = nA) (hroom : lev' + 1 ≤ lev ∧ 8 + (n' + 11) + 38 * lev' ≤ 38 * lev)
    (hbl : FrameBlind (va_Pc (.ref b :: As) B0)) (hB : ∀ U : State, U.heap = H → s.WarmedH U.vm → B0 U) (hrec : gRec C b s H) (hls : ls.size = nL) (hcat : (rest.map fun v => v.category).sum ≤ 8) (hcells : cells ≤ mc ∧ slots ≤ ms) (hdg : decode cc pc = .ok (.invokeinterface idx cnt, 5)) {st : List Value} (hst : st = As.reverse ++ .ref b :: rest)
    (kk : W p l e R s m args below meth c H locs cells slots Q (F0 m (pc + 5) ls (.int r :: rest))) : W p l e R s m args below meth c H locs cells slots Q (F0 m pc ls st) := by
  subst hR
  refine va_csFi (va_runF (As := As) (rest := rest) hat ⟨hX.hx, hX.hb, hX.hml, hX.hown, hX.hts⟩ hM (va_cwF nA hX.hts hG rfl rfl rfl hF hd ⟨hroom.1, hroom.2⟩) ⟨hbl, hrec, fun U hU hW => ⟨rfl, hB U hU hW⟩⟩ rfl hnA hls hst (lv_room hcat) hdg ⟨hcells.1, hcells.2⟩) (fun r' hr => ?_)
  subst hr
  exact kk
theorem gCallFP {x y : MethodName} {c' : ByteArray} {n' idx cnt nA : Nat} {ret : Option FieldType} {lev mc ms : Nat} {C : String} {cC : ClassId} {b a : Nat} {As : List Value} {B0 : State → Prop} (hX : gX p s m args c cc nL own KS) (hR : R = rmL lev mc ms) {lev' : Nat} (hM : gMetP l y c' n' ret lev' B0 (.ref b :: As) a) (hG : GoodIn TBG (va_wsF own idx C x y (wT y c' n' ret))) (hat : ClassAt s C cC) (hF : va_Fw C x y s)
    (hd : x.cls ≠ "java/lang/invoke/MethodHandle" ∧ x.cls ≠ "java/lang/invoke/VarHandle" ∧ (parseMethodDescriptor x.desc).map (fun d => d.parameters.length) = some nA) (hnA : As.length = nA) (hroom : lev' + 1 ≤ lev ∧ 8 + (n' + 11) + 38 * lev' ≤ 38 * lev)
    (hbl : FrameBlind (va_Pc (.ref b :: As) B0)) (hB : ∀ U : State, U.heap = H → s.WarmedH U.vm → B0 U) (hrec : gRec C b s H) (hls : ls.size = nL) (hcat : (rest.map fun v => v.category).sum ≤ 8) (hcells : cells ≤ mc ∧ slots ≤ ms) (hdg : decode cc pc = .ok (.invokeinterface idx cnt, 5)) {st : List Value} (hst : st = As.reverse ++ .ref b :: rest)
    (kk : W p l e R s m args below meth c H locs cells slots Q (F0 m (pc + 5) ls (.ref a :: rest))) : W p l e R s m args below meth c H locs cells slots Q (F0 m pc ls st) := by
  subst hR
  refine va_csFr (va_runF (As := As) (rest := rest) hat ⟨hX.hx, hX.hb, hX.hml, hX.hown, hX.hts⟩ hM (va_cwF nA hX.hts hG rfl rfl rfl hF hd ⟨hroom.1, hroom.2⟩) ⟨hbl, hrec, fun U hU hW => ⟨rfl, hB U hU hW⟩⟩ rfl hnA hls hst (lv_room hcat) hdg ⟨hcells.1, hcells.2⟩) (fun r' hr => ?_)
  subst hr
  exact kk
theorem gCallFO {x y : MethodName} {c' : ByteArray} {n' idx cnt nA : Nat} {ret : Option FieldType} {lev' mc' ms' : Nat} {C : String} {cC : ClassId} {b : Nat} {A0 : Nat → Prop} {As : List Value} {S S1 : X} {B : Nat → State → Heap → Prop} (hX : gX p s m args c cc nL own KS) (hO : gOK P KS) (hBm : ∀ a u U H, u.vm.Alike U.vm → B a u H → B a U H) (hM : gMetO l y c' n' ret lev' mc' ms' Ω P KS (.ref b :: As) S S1 B) (hG : GoodIn TBG (va_wsF own idx C x y (wT y c' n' ret))) (hat : ClassAt s C cC) (hF : va_Fw C x y s)
    (hd : x.cls ≠ "java/lang/invoke/MethodHandle" ∧ x.cls ≠ "java/lang/invoke/VarHandle" ∧ (parseMethodDescriptor x.desc).map (fun d => d.parameters.length) = some nA) (hnA : As.length = nA) (hroom : lev' + 1 ≤ R.frames ∧ 8 + (n' + 11) + 38 * lev' ≤ R.locals)
    (hP : P S s H) (hS : va_S A0 s.heap H locs) (hA : ∀ q, Fr Ω H.size q → A0 q) (hrec : gRec C b s H) (hls : ls.size = nL) (hcat : (rest.map fun v => v.category).sum ≤ 8) (hcells : cells + mc' ≤ R.cells ∧ slots + ms' ≤ R.slots) (hdg : decode cc pc = .ok (.invokeinterface idx cnt, 5)) {st : List Value} (hst : st = As.reverse ++ .ref b :: rest)
    (kk : ∀ (H1 : Heap) (locs1 : List Loc) (a : Nat), P S1 s H1 → B a s H1 → va_S A0 s.heap H1 locs1 → H.size ≤ H1.size → (∀ q : Nat, q < H.size → ¬ Fr Ω H.size q → H1[q]? = H[q]?) → W p l e R s m args below meth c H1 locs1 (cells + mc') (slots + ms') Q (F0 m (pc + 5) ls (.ref a :: rest))) : W p l e R s m args below meth c H locs cells slots Q (F0 m pc ls st) := by
  refine va_callFr (va_runF (As := As) (rest := rest) hat ⟨hX.hx, hX.hb, hX.hml, hX.hown, hX.hts⟩ (hM H.size) (va_cwF nA hX.hts hG rfl rfl rfl hF hd ⟨hroom.1, hroom.2⟩) ⟨gPre_blind hO, hrec, fun U hU hW => ⟨rfl, by rw [hU], by rw [hU]; exact hO.1 _ _ _ _ hW.alike hP, hO.2.2 _ _ hW hX.ks⟩⟩ rfl hnA hls hst (lv_room hcat) hdg hcells) hS (fun q _ h => hA q h) hA (fun u a t H1 locs1 ht hvm hw hB hz1 hk1 hS1 => ?_)
  obtain rfl := hw
  have hB : P _ t t.heap ∧ B a t t.heap := hB
  rw [ht] at hB
  exact kk H1 locs1 a (hO.1 _ _ _ _ hvm.symm hB.1) (hBm _ _ _ _ hvm.symm hB.2) hS1 hz1 hk1
theorem gCallFN {x y : MethodName} {c' : ByteArray} {n' idx cnt nA : Nat} {ret : Option FieldType} {lev' mc' ms' : Nat} {C : String} {cC : ClassId} {b : Nat} {A0 : Nat → Prop} {As : List Value} {S S1 : X} {B : Nat → State → Heap → Prop} (hX : gX p s m args c cc nL own KS) (hO : gOK P KS) (hBm : ∀ a u U H, u.vm.Alike U.vm → B a u H → B a U H) (hM : gMetN l y c' n' ret lev' mc' ms' Ω P KS (.ref b :: As) S S1 B) (hG : GoodIn TBG (va_wsF own idx C x y (wT y c' n' ret))) (hat : ClassAt s C cC) (hF : va_Fw C x y s)
    (hd : x.cls ≠ "java/lang/invoke/MethodHandle" ∧ x.cls ≠ "java/lang/invoke/VarHandle" ∧ (parseMethodDescriptor x.desc).map (fun d => d.parameters.length) = some nA) (hnA : As.length = nA) (hroom : lev' + 1 ≤ R.frames ∧ 8 + (n' + 11) + 38 * lev' ≤ R.locals)
    (hP : P S s H) (hS : va_S A0 s.heap H locs) (hA : ∀ q, Fr Ω H.size q → A0 q) (hrec : gRec C b s H) (hls : ls.size = nL) (hcat : (rest.map fun v => v.category).sum ≤ 8) (hcells : cells + mc' ≤ R.cells ∧ slots + ms' ≤ R.slots) (hdg : decode cc pc = .ok (.invokeinterface idx cnt, 5)) {st : List Value} (hst : st = As.reverse ++ .ref b :: rest)
    (kk : ∀ (H1 : Heap) (locs1 : List Loc) (a : Nat), P S1 s H1 → B a s H1 → H.size ≤ a → va_S A0 s.heap H1 locs1 → H.size ≤ H1.size → (∀ q : Nat, q < H.size → ¬ Fr Ω H.size q → H1[q]? = H[q]?) → W p l e R s m args below meth c H1 locs1 (cells + mc') (slots + ms') Q (F0 m (pc + 5) ls (.ref a :: rest))) : W p l e R s m args below meth c H locs cells slots Q (F0 m pc ls st) := by
  refine va_callFr (va_runF (As := As) (rest := rest) hat ⟨hX.hx, hX.hb, hX.hml, hX.hown, hX.hts⟩ (hM H.size) (va_cwF nA hX.hts hG rfl rfl rfl hF hd ⟨hroom.1, hroom.2⟩) ⟨gPre_blind hO, hrec, fun U hU hW => ⟨rfl, by rw [hU], by rw [hU]; exact hO.1 _ _ _ _ hW.alike hP, hO.2.2 _ _ hW hX.ks⟩⟩ rfl hnA hls hst (lv_room hcat) hdg hcells) hS (fun q _ h => hA q h) hA (fun u a t H1 locs1 ht hvm hw hB hz1 hk1 hS1 => ?_)
  obtain rfl := hw
  have hB : P _ t t.heap ∧ B a t t.heap ∧ H.size ≤ a := hB
  rw [ht] at hB
  exact kk H1 locs1 a (hO.1 _ _ _ _ hvm.symm hB.1) (hBm _ _ _ _ hvm.symm hB.2.1) hB.2.2 hS1 hz1 hk1
theorem gCallVRV {y : MethodName} {c' : ByteArray} {n' idx nA : Nat} {lev mc ms : Nat} {C : String} {b : Nat} {As : List Value} {B0 : State → Prop} (hX : gX p s m args c cc nL own KS) (hR : R = rmL lev mc ms) {lev' : Nat} (hM : gMetRV l y c' n' lev' B0 (.ref b :: As)) (hG : GoodIn TBG (wsV own idx C y (wT y c' n' none)))
    (hd : y.cls = C ∧ y.cls ≠ "java/lang/invoke/MethodHandle" ∧ y.cls ≠ "java/lang/invoke/VarHandle" ∧ (parseMethodDescriptor y.desc).map (fun d => d.parameters.length) = some nA) (hnA : As.length = nA) (hroom : lev' + 1 ≤ lev ∧ 8 + (n' + 11) + 38 * lev' ≤ 38 * lev)
    (hbl : FrameBlind (va_Pc (.ref b :: As) B0)) (hB : ∀ U : State, U.heap = H → s.WarmedH U.vm → B0 U) (hrec : gRec C b s H) (hls : ls.size = nL) (hcat : (rest.map fun v => v.category).sum ≤ 8) (hcells : cells ≤ mc ∧ slots ≤ ms) (hdg : decode cc pc = .ok (.invokevirtual idx, 3)) {st : List Value} (hst : st = As.reverse ++ .ref b :: rest)
    (kk : W p l e R s m args below meth c H locs cells slots Q (F0 m (pc + 3) ls rest)) : W p l e R s m args below meth c H locs cells slots Q (F0 m pc ls st) := by
  subst hR
  exact va_csv (W.runV (As := As) (rest := rest) ⟨hX.hx, hX.hb, hX.hml, hX.hown, hX.hts⟩ hM (cwV nA hX.hts hG rfl rfl rfl hd ⟨hroom.1, hroom.2⟩) ⟨hbl, hrec, fun U hU hW => ⟨rfl, hB U hU hW⟩⟩ rfl hnA hls hst (lv_room hcat) hdg ⟨hcells.1, hcells.2⟩) (fun _ => kk)
end NREF
section JIT
variable {p : Program} {l : Launch} {e : Env} {R : Room} {s : State} {m : MethodId} {args : Array Value} {below : List Frame} {meth : Method} {c : Code} {H : Heap} {locs : List Loc} {cells slots : Nat} {Q : State → Prop}
variable {cc : ByteArray} {pc nL : Nat} {ls : Array Slot} {rest : List Value} {dC : Nat → ClassId} {dI : Nat → Nat → Nat} {cg : Nat → ClassId} {kA : String → Nat → Nat} {own : String} {b ea n i a : Nat} {f : Nat → Option Nat}
def itW (dC : Nat → ClassId) (dI : Nat → Nat → Nat) (cg : Nat → ClassId) (a b ea n : Nat) (f : Nat → Option Nat) : List Value → State → Heap → Prop := fun fs U H => va_at (dC, dI) vwCl (a, .inr (3, fs)) H ∧ lsAt dC dI cg b ea n f U H
def nxW (dC : Nat → ClassId) (dI : Nat → Nat → Nat) (cg : Nat → ClassId) (a b ea n : Nat) (f : Nat → Option Nat) : Nat → State → Heap → Prop := fun i U H => itAt dC dI a b n i H ∧ lsAt dC dI cg b ea n f U H
def lsW (dC : Nat → ClassId) (dI : Nat → Nat → Nat) (cg : Nat → ClassId) (b ea n : Nat) (f : Nat → Option Nat) : Unit → State → Heap → Prop := fun _ U H => lsAt dC dI cg b ea n f U H
theorem itW_ok : gOK (itW dC dI cg a b ea n f) (kR kTab kA) := ⟨fun S u U H hvm h => ⟨h.1, h.2.moved hvm⟩, kR_ok⟩
theorem nxW_ok : gOK (nxW dC dI cg a b ea n f) (kR kTab kA) := ⟨fun S u U H hvm h => ⟨h.1, h.2.moved hvm⟩, kR_ok⟩
theorem lsW_ok : gOK (lsW dC dI cg b ea n f) (kR kTab kA) := ⟨fun S u U H hvm h => h.moved hvm, kR_ok⟩
theorem lsAt.kept {H1 : Heap} (h : lsAt dC dI cg b ea n f s H) (k1 : H1[b]? = H[b]?) (k2 : H1[ea]? = H[ea]?) : lsAt dC dI cg b ea n f s H1 := ⟨h.1.kept k1, h.2.1.kept k2, h.2.2⟩
theorem lsAt.lt (h : lsAt dC dI cg b ea n f s H) : b < H.size ∧ ea < H.size := ⟨h.1.lt, h.2.1.lt⟩
theorem vJI_init (h1 : b ≠ a) (h2 : ea ≠ a) : gMetVA l yJx35411_init_45d68 cJx35411_init_45d68 2 2 0 0 (fun q => q = a) (itW dC dI cg a b ea n f) (kR kTab kA) [.ref a, .ref b] [.int 0, .int 0, .int 0, .null] [.int 0, .int (-1), .int (nI n), .ref b] := gEntryVN (by decide) itW_ok (Nat.le_of_ble_eq_true rfl) (fun p e s m args below meth c Q ls X hmn hP hS hret hl => by
  have hx := X.hx
  have hb := X.hb
  refine lv_aload_n hx hb dJx35411_init_45d68_0 rfl (lv_at hl 0 rfl) ?_
  refine lv_aload_n hx hb dJx35411_init_45d68_1 rfl (lv_at hl 1 rfl) ?_
  refine va_putFO X.hx X.hb X.hts cinJx35411 tyJx35411 tyJx35411_ok nmJx35411 X.hown hP.2.2.2 hP.1 (rfl : vwCl[3]? = some (RJx35411, TJx35411, 4)) 3 (by decide) (X.hts _ tw1061) (fun x h => h) rfl hmn rfl (tyJx35411_ok 3 (by decide)) rfl rfl (Nat.le_of_ble_eq_true rfl) dJx35411_init_45d68_2 (fun H1 j h4 hz oq => ?_)
  have hls := hP.2.kept (H1 := H1) (oq b h1) (oq ea h2)
  have hS1 := hS.put (k := j) hz oq (Or.inl rfl)
  refine lv_aload_n hx hb dJx35411_init_45d68_5 rfl (lv_at hl 0 rfl) ?_
  refine W.objInit hx hb X.hown (X.hts _ tw1057) (X.hts _ tw45) (X.hts _ tw46) rfl (by rw [X.hml]; exact hl.1) rfl dJx35411_init_45d68_6 (Nat.le_of_ble_eq_true rfl) (Nat.le_of_ble_eq_true rfl) ?_
  refine lv_aload_n hx hb dJx35411_init_45d68_9 rfl (lv_at hl 0 rfl) ?_
  refine lv_iconst (v := (-1)) hx hb dJx35411_init_45d68_10 (by decide) ?_
  refine va_putO X.hx X.hb X.hts cinJx35411 tyJx35411 tyJx35411_ok nmJx35411 X.hown hls.2.2 h4 (rfl : vwCl[3]? = some (RJx35411, TJx35411, 4)) 1 (by decide) (X.hts _ tw1059) (fun x h => h) rfl (tyJx35411_ok 1 (by decide)) rfl rfl (Nat.le_of_ble_eq_true rfl) dJx35411_init_45d68_11 (fun H2 j2 h5 hz2 oq2 => ?_)
  have hls2 := hls.kept (H1 := H2) (oq2 b h1) (oq2 ea h2)
  have hS2 := hS1.put (k := j2) hz2 oq2 (Or.inl rfl)
  refine lv_aload_n hx hb dJx35411_init_45d68_14 rfl (lv_at hl 0 rfl) ?_
  refine lv_aload_n hx hb dJx35411_init_45d68_15 rfl (lv_at hl 0 rfl) ?_
  refine va_get X.hx X.hb X.hts cinJx35411 X.hown hls2.2.2 (cwo h5) 0 rfl (rfl : vwCl[3]? = some (RJx35411, TJx35411, 4)) 3 (by decide) (X.hts _ tw1061) (fun x h => h) (show ([.int 0, .int (-1), .int 0, .ref b] : List Value)[3]? = some (.ref b) from rfl) dJx35411_init_45d68_16 ?_
  refine va_get (ref := RJx4a65c) X.hx X.hb X.hts cinJx4a65c X.hown hls2.2.2 (cwo hls2.1) 0 rfl (rfl : vwCl[4]? = some (RJx4a65c, TJx4a65c, 3)) 0 (by decide) (X.hts _ tw870) (fun x h => u_same (X.hts _ tw871) x h) rfl dJx35411_init_45d68_19 ?_
  refine va_putO X.hx X.hb X.hts cinJx35411 tyJx35411 tyJx35411_ok nmJx35411 X.hown hls2.2.2 h5 (rfl : vwCl[3]? = some (RJx35411, TJx35411, 4)) 2 (by decide) (X.hts _ tw1060) (fun x h => h) rfl (tyJx35411_ok 2 (by decide)) rfl rfl (Nat.le_of_ble_eq_true rfl) dJx35411_init_45d68_22 (fun H3 j3 h6 hz3 oq3 => ?_)
  exact hret _ _ _ _ 0 0 dJx35411_init_45d68_25 ⟨h6, hls2.kept (oq3 b h1) (oq3 ea h2)⟩ (hS2.put (k := j3) hz3 oq3 (Or.inl rfl)) (Nat.le_refl _) (Nat.le_refl _))
theorem vJL_iterator : gMetN l yJx4a65c_iterator_32c93 cJx4a65c_iterator_32c93 1 (some (.object "java/util/Iterator")) 3 1 4 (fun _ => False) (lsW dC dI cg b ea n f) (kR kTab kA) [.ref b] () () (fun a U H => itAt dC dI a b n 0 H) := gEntryN (by decide) rfl (Or.inl ⟨_, rfl⟩) lsW_ok (fun _ _ _ _ _ h => h) (Nat.le_of_ble_eq_true rfl) (fun p e s m args below meth c Q ls X hP hS hret hl => by
  have hx := X.hx
  have hb := X.hb
  have hls : lsAt dC dI cg b ea n f s s.heap := hP
  have hKn := hls.2.2.1 3 _ rfl
  have hlt := hls.lt
  refine W.newcK hx hb X.hown (X.hts _ tw1052) (X.hts _ tw1053) (X.hts _ tw32) rfl dJx4a65c_iterator_32c93_0 (Nat.le_of_ble_eq_true rfl) (Nat.le_of_ble_eq_true rfl) hKn.2.1 rfl (fun H1 kC hkC e1 z1 o1 => ?_)
  have hI : va_at (dC, dI) vwCl (s.heap.size, .inr (3, [.int 0, .int 0, .int 0, .null])) H1 := ⟨_, rfl, (u_born tyJx35411 X.hts cinJx35411 hKn hkC e1 tyJx35411_ok).to (fun j hj => by rcases (show j = 0 ∨ j = 1 ∨ j = 2 ∨ j = 3 by omega) with rfl | rfl | rfl | rfl <;> rfl)⟩
  have hS1 : va_S (Fr (fun _ => False) s.heap.size) s.heap H1 [] := nS_add rfl hS z1 o1
  refine lv_dup hx hb dJx4a65c_iterator_32c93_3 rfl ?_
  refine lv_aload_n hx hb dJx4a65c_iterator_32c93_4 rfl (lv_at hl 0 rfl) ?_
  refine gCallCI X itW_ok (vJI_init (dC := dC) (dI := dI) (cg := cg) (kA := kA) (a := s.heap.size) (b := b) (ea := ea) (n := n) (f := f) (by omega) (by omega)) (cwI 1 X.hts (wT_good tw1056) rfl rfl rfl (X.hts _ tw32) (X.hts _ tw1054) (X.hts _ tw1055) rfl ⟨by decide, by decide, by decide +kernel⟩ ⟨Nat.le_of_ble_eq_true rfl, Nat.le_of_ble_eq_true rfl⟩) rfl ⟨hI, hls.kept (o1 _ hlt.1) (o1 _ hlt.2)⟩ hS1 (fun q z => Or.inr (z.elim (fun z => by rw [z]; exact Nat.le_refl _) (fun z => Nat.le_trans (by omega) z))) hl.1 (Nat.le_of_ble_eq_true rfl) ⟨Nat.le_of_ble_eq_true rfl, Nat.le_of_ble_eq_true rfl⟩ dJx4a65c_iterator_32c93_5 (As := [.ref b]) (rest := [.ref s.heap.size]) rfl (fun H2 locs2 hP2 hS2 => ?_)
  exact hret _ _ _ _ _ _ _ dJx4a65c_iterator_32c93_8 hP2.2 ⟨_, hP2.1⟩ (Nat.le_refl _) hS2 (Nat.le_of_ble_eq_true rfl) (Nat.le_of_ble_eq_true rfl))
theorem gs_jcc : GoodIn TBG (wsV RJx35411 31 RJx35411 yJx35411_checkForComodification_da8c8 (wT yJx35411_checkForComodification_da8c8 cJx35411_checkForComodification_da8c8 1 none)) := gT_V tw1090 tw1091 tw1092 tw32 tw1093
theorem hdJI_cc : yJx35411_checkForComodification_da8c8.cls = RJx35411 ∧ yJx35411_checkForComodification_da8c8.cls ≠ "java/lang/invoke/MethodHandle" ∧ yJx35411_checkForComodification_da8c8.cls ≠ "java/lang/invoke/VarHandle" ∧ (parseMethodDescriptor yJx35411_checkForComodification_da8c8.desc).map (fun d => d.parameters.length) = some 0 := ⟨rfl, by decide +kernel, by decide +kernel, by decide +kernel⟩
theorem vJI_next {q : Nat} (h1 : b ≠ a) (h2 : ea ≠ a) (hi : i < n) (hn : n ≤ 10) (hf : f i = some q) : gMetO l yJx35411_next_0502b cJx35411_next_0502b 3 (some (.object "java/lang/Object")) 2 0 0 (fun q => q = a) (nxW dC dI cg a b ea n f) (kR kTab kA) [.ref a] i (i + 1) (fun z _ _ => z = q) := gEntryO (by decide) rfl (Or.inl ⟨_, rfl⟩) nxW_ok (fun _ _ _ _ _ h => h) (Nat.le_of_ble_eq_true rfl) (fun p e s m args below meth c Q ls X hP hS hret hl => by
  have hx := X.hx
  have hb := X.hb
  obtain ⟨hit0, hls⟩ := hP
  have hit := hit0
  obtain ⟨r, hit⟩ := hit
  refine lv_aload_n hx hb dJx35411_next_0502b_0 rfl (lv_at hl 0 rfl) ?_
  refine gCallVRV X rfl (vJI_check (a := a) (b := b) (ea := ea) (n := n) (i := i) (f := f)) gs_jcc hdJI_cc rfl ⟨by decide, by decide⟩ itB_blind (itB_at X hit0 hls) (it_rec hls.2.2 hit0) hl.1 (Nat.le_of_ble_eq_true rfl) ⟨Nat.le_refl _, Nat.le_refl _⟩ dJx35411_next_0502b_1 (As := []) (rest := []) rfl ?_
  refine lv_aload_n hx hb dJx35411_next_0502b_4 rfl (lv_at hl 0 rfl) ?_
  refine va_get X.hx X.hb X.hts cinJx35411 X.hown hls.2.2 (cwo hit) 0 rfl (rfl : vwCl[3]? = some (RJx35411, TJx35411, 4)) 0 (by decide) (X.hts _ tw1058) (fun x h => h) rfl dJx35411_next_0502b_5 ?_
  refine lv_istore_n (lv' := [(1, .int (nI i)), (0, .ref a)]) hx hb dJx35411_next_0502b_8 rfl hl (by decide) rfl (fun ls hl => ?_)
  refine lv_iload_n hx hb dJx35411_next_0502b_9 rfl (lv_at hl 0 rfl) ?_
  refine lv_aload_n hx hb dJx35411_next_0502b_10 rfl (lv_at hl 1 rfl) ?_
  refine va_get X.hx X.hb X.hts cinJx35411 X.hown hls.2.2 (cwo hit) 0 rfl (rfl : vwCl[3]? = some (RJx35411, TJx35411, 4)) 3 (by decide) (X.hts _ tw1061) (fun x h => h) rfl dJx35411_next_0502b_11 ?_
  refine va_getN X.hx X.hb X.hts cinJx4a65c X.hown hls.2.2 (cwo hls.1) 0 rfl (rfl : vwCl[4]? = some (RJx4a65c, TJx4a65c, 3)) 2 (by decide) (xw_use rfl (X.ks.2.1 _ xw867)) (fun x h => h) rfl dJx35411_next_0502b_14 ?_
  refine lv_icmp_lt (tgt := 28) hx hb dJx35411_next_0502b_17 (by decide) (fun _ => ?_) (fun c1 => absurd (nI_lt hi (by omega)) c1)
  refine lv_aload_n hx hb dJx35411_next_0502b_28 rfl (lv_at hl 1 rfl) ?_
  refine va_get X.hx X.hb X.hts cinJx35411 X.hown hls.2.2 (cwo hit) 0 rfl (rfl : vwCl[3]? = some (RJx35411, TJx35411, 4)) 3 (by decide) (X.hts _ tw1061) (fun x h => h) rfl dJx35411_next_0502b_29 ?_
  refine va_get X.hx X.hb X.hts cinJx4a65c X.hown hls.2.2 (cwo hls.1) 0 rfl (rfl : vwCl[4]? = some (RJx4a65c, TJx4a65c, 3)) 1 (by decide) (X.hts _ tw866) (fun x h => h) rfl dJx35411_next_0502b_32 ?_
  refine lv_astore_n (lv' := [(2, .ref ea), (1, .int (nI i)), (0, .ref a)]) hx hb dJx35411_next_0502b_35 rfl hl (by decide) rfl (fun ls hl => ?_)
  refine lv_iload_n hx hb dJx35411_next_0502b_36 rfl (lv_at hl 1 rfl) ?_
  refine lv_aload_n hx hb dJx35411_next_0502b_37 rfl (lv_at hl 0 rfl) ?_
  refine va_alen (v := 10) X.hx X.hb hls.2.2 (cwo hls.2.1) 0 6 rfl rfl rfl dJx35411_next_0502b_38 ?_
  refine lv_icmp_lt (tgt := 50) hx hb dJx35411_next_0502b_39 (by decide) (fun _ => ?_) (fun c1 => absurd (show nI i < (10 : Int32) from nI_lt (b := 10) (by omega) (by omega)) c1)
  refine lv_aload_n hx hb dJx35411_next_0502b_50 rfl (lv_at hl 2 rfl) ?_
  refine lv_iload_n hx hb dJx35411_next_0502b_51 rfl (lv_at hl 1 rfl) ?_
  refine lv_iconst (v := 1) hx hb dJx35411_next_0502b_52 (by decide) ?_
  refine lv_iadd hx hb dJx35411_next_0502b_53 ?_
  refine va_putO X.hx X.hb X.hts cinJx35411 tyJx35411 tyJx35411_ok nmJx35411 X.hown hls.2.2 hit (rfl : vwCl[3]? = some (RJx35411, TJx35411, 4)) 0 (by decide) (X.hts _ tw1058) (fun x h => h) rfl (tyJx35411_ok 0 (by decide)) rfl rfl (Nat.le_of_ble_eq_true rfl) dJx35411_next_0502b_54 (fun H1 j h4 hz oq => ?_)
  have hls1 := hls.kept (H1 := H1) (oq b h1) (oq ea h2)
  have hS1 := hS.put (k := j) hz oq (Or.inl rfl)
  refine lv_aload_n hx hb dJx35411_next_0502b_57 rfl (lv_at hl 0 rfl) ?_
  refine lv_aload_n hx hb dJx35411_next_0502b_58 rfl (lv_at hl 2 rfl) ?_
  refine lv_iload_n hx hb dJx35411_next_0502b_59 rfl (lv_at hl 1 rfl) ?_
  refine lv_dup_x1 hx hb dJx35411_next_0502b_60 rfl rfl ?_
  refine va_putO X.hx X.hb X.hts cinJx35411 tyJx35411 tyJx35411_ok nmJx35411 X.hown hls1.2.2 h4 (rfl : vwCl[3]? = some (RJx35411, TJx35411, 4)) 1 (by decide) (X.hts _ tw1059) (fun x h => h) rfl (tyJx35411_ok 1 (by decide)) rfl rfl (Nat.le_of_ble_eq_true rfl) dJx35411_next_0502b_61 (fun H2 j2 h5 hz2 oq2 => ?_)
  have hls2 := hls1.kept (H1 := H2) (oq2 b h1) (oq2 ea h2)
  have hS2 := hS1.put (k := j2) hz2 oq2 (Or.inl rfl)
  refine va_aldq X.hx X.hb hls2.2.2 (cwo hls2.2.1) 0 6 rfl rfl (show vp_in (nI i) 10 from nI_in (by omega) (by omega)) dJx35411_next_0502b_64 ?_
  rw [nI_clamp (by omega), hf]
  refine hret _ _ _ _ 0 0 q dJx35411_next_0502b_65 ⟨⟨nI i, ?_⟩, hls2⟩ rfl hS2 (Nat.le_refl _) (Nat.le_refl _)
  rw [nI_succ]
  exact h5)
end JIT
