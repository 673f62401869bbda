/-! contracts that make new cells or answer references; receivers of a subclass; a superclass's method -/
section ALC
variable {X : Type}
/-- a method that answers a reference, makes at most mc cells of ms slots, and leaves the world of S1; B: what is known of the answer -/
def gMetO (l : Launch) (y : MethodName) (c : ByteArray) (n : Nat) (ret : Option FieldType) (lev mc ms : Nat) (Ω : Nat → Prop) (P : X → State → Heap → Prop) (KS : State → Prop) (av : List Value) (S : X) (S1 : X) (B : Nat → State → Heap → Prop) : Prop :=
  ∀ sz, Met l y (wT y c n ret) (rmL lev mc ms) (va_Pc av (gPre P KS S sz)) (va_Qr (fun (u : X) => u = S1) (fun u a t => P u t t.heap ∧ B a t t.heap) (Fr Ω sz)) mc ms (Fr Ω sz)
/-- a method that answers an int, makes at most mc cells of ms slots, and leaves the world of S1 -/
def gMetIA (l : Launch) (y : MethodName) (c : ByteArray) (n : Nat) (ret : Option FieldType) (lev mc ms : Nat) (Ω : Nat → Prop) (P : X → State → Heap → Prop) (KS : State → Prop) (av : List Value) (S : X) (r : Int32) (S1 : X) : Prop :=
  ∀ sz, Met l y (wT y c n ret) (rmL lev mc ms) (va_Pc av (gPre P KS S sz)) (va_Qi (fun (r' : Int32) (u : X) => r' = r ∧ u = S1) (fun u t => P u t t.heap) (Fr Ω sz)) mc ms (Fr Ω sz)
def gMetVA (l : Launch) (y : MethodName) (c : ByteArray) (n : Nat) (lev mc ms : Nat) (Ω : Nat → Prop) (P : X → State → Heap → Prop) (KS : State → Prop) (av : List Value) (S : X) (S1 : X) : Prop :=
  ∀ sz, Met l y (wT y c n none) (rmL lev mc ms) (va_Pc av (gPre P KS S sz)) (va_Qv (fun (u : X) => u = S1) (fun u t => P u t t.heap) (Fr Ω sz)) mc ms (Fr Ω sz)
variable {p : Program} {l : Launch} {e : Env} {R : Room} {s : State} {m : MethodId} {args : Array Value} {below : List Frame} {meth : Method} {c : Code} {H : Heap} {locs : List Loc} {cells slots : Nat} {Q : State → Prop}
variable {cc : ByteArray} {pc nL : Nat} {ls : Array Slot} {rest : List Value} {own : String} {Ω : Nat → Prop} {P : X → State → Heap → Prop} {KS : State → Prop}
def gRetO (p : Program) (l : Launch) (e : Env) (R : Room) (s : State) (m : MethodId) (args : Array Value) (below : List Frame) (meth : Method) (c : Code) (cc : ByteArray) (mc ms : Nat) (Ω : Nat → Prop) (P : X → State → Heap → Prop) (Q : State → Prop) (S1 : X) (B : Nat → State → Heap → Prop) : Prop :=
  ∀ (pc : Nat) (ls : Array Slot) (H : Heap) (locs : List Loc) (cells slots a : Nat), decode cc pc = .ok (.areturn, 1) → P S1 s H → B a s H → va_S (Fr Ω s.heap.size) s.heap H locs → cells ≤ mc → slots ≤ ms → W p l e R s m args below meth c H locs cells slots Q (F0 m pc ls [.ref a])
def gRetIA (p : Program) (l : Launch) (e : Env) (R : Room) (s : State) (m : MethodId) (args : Array Value) (below : List Frame) (meth : Method) (c : Code) (cc : ByteArray) (mc ms : Nat) (Ω : Nat → Prop) (P : X → State → Heap → Prop) (Q : State → Prop) (r : Int32) (S1 : X) : Prop :=
  ∀ (pc : Nat) (ls : Array Slot) (H : Heap) (locs : List Loc) (cells slots : Nat), decode cc pc = .ok (.ireturn, 1) → P S1 s H → va_S (Fr Ω s.heap.size) s.heap H locs → cells ≤ mc → slots ≤ ms → W p l e R s m args below meth c H locs cells slots Q (F0 m pc ls [.int r])
def gRetVA (p : Program) (l : Launch) (e : Env) (R : Room) (s : State) (m : MethodId) (args : Array Value) (below : List Frame) (meth : Method) (c : Code) (cc : ByteArray) (mc ms : Nat) (Ω : Nat → Prop) (P : X → State → Heap → Prop) (Q : State → Prop) (S1 : X) : Prop :=
  ∀ (pc : Nat) (ls : Array Slot) (H : Heap) (locs : List Loc) (cells slots : Nat), decode cc pc = .ok (.return_, 1) → P S1 s H → va_S (Fr Ω s.heap.size) s.heap H locs → cells ≤ mc → slots ≤ ms → W p l e R s m args below meth c H locs cells slots Q (F0 m pc ls [])
theorem gEntryO {y : MethodName} {ret : Option FieldType} {rt : FieldType} {lev mc ms : Nat} {av : List Value} {S S1 : X} {B : Nat → State → Heap → Prop} (hpl : plainName y.cls = true) (hret : ret = some rt) (hrt : (∃ n, rt = .object n) ∨ ∃ t, rt = .array t) (hO : gOK P KS) (hB : ∀ a u U H, u.vm.Alike U.vm → B a u H → B a U H) (hav : (lg_sl av).length ≤ nL)
    (body : ∀ (p : Program) (e : Env) (s : State) (m : MethodId) (args : Array Value) (below : List Frame) (meth : Method) (c : Code) (Q : State → Prop) (ls : Array Slot), gX p s m args c cc nL y.cls KS → P S s s.heap → va_S (Fr Ω s.heap.size) s.heap s.heap [] → gRetO p l e (rmL lev mc ms) s m args below meth c cc mc ms Ω P Q S1 B → lv_has ls nL (lv_args 0 av) → W p l e (rmL lev mc ms) s m args below meth c s.heap [] 0 0 Q (F0 m 0 ls [])) :
    gMetO l y cc nL ret lev mc ms Ω P KS av S S1 B := by
  intro sz
  refine Met.ofW (cc := cc) (maxL := nL) (ret := ret) hpl rfl ?_
  intro p e s m args below meth c s₁ B hml hv
  obtain ⟨rfl, hsz, hP, hK⟩ := hv
  subst hsz
  have hlocks := B.notSynchronized
  have hts := atoms_spec (ws := wT y cc nL ret) B.pre
  have hown : s.vm.findClass y.cls = some m.cls := findClass_of_methodNamed B.named
  have hl := lv_entry av (n := nL) hav
  rw [lg_entry_eq]
  refine body p e s m _ below meth c _ _ ⟨B.exec, B.bytes, hml, hown, fun w hw => hts w (List.mem_cons_of_mem _ hw), hK⟩ hP va_S.rf ?_ hl
  intro pc ls H locs cells slots a hdg hP1 hB1 hS1 hc hs
  refine W.widen hc hs ?_
  refine W.aret (rt := rt) B.exec B.bytes (by rw [B.returns, hret]) hrt (Or.inr ⟨a, rfl⟩) (fun t ht hW => ⟨⟨S1, a, rfl, rfl, ?_, ?_⟩, hS1.F ht⟩) hS1.2.2 hdg
  · rw [ht]; exact hO.1 _ _ _ _ hW.alike hP1
  · rw [ht]; exact hB _ _ _ _ hW.alike hB1
theorem gEntryIA {y : MethodName} {ret : Option FieldType} {ty : FieldType} {lev mc ms : Nat} {av : List Value} {S S1 : X} {r : Int32} (hpl : plainName y.cls = true) (hret : ret = some ty) (hn : narrow ty (.int r) = .int r) (hO : gOK P KS) (hav : (lg_sl av).length ≤ nL)
    (body : ∀ (p : Program) (e : Env) (s : State) (m : MethodId) (args : Array Value) (below : List Frame) (meth : Method) (c : Code) (Q : State → Prop) (ls : Array Slot), gX p s m args c cc nL y.cls KS → P S s s.heap → va_S (Fr Ω s.heap.size) s.heap s.heap [] → gRetIA p l e (rmL lev mc ms) s m args below meth c cc mc ms Ω P Q r S1 → lv_has ls nL (lv_args 0 av) → W p l e (rmL lev mc ms) s m args below meth c s.heap [] 0 0 Q (F0 m 0 ls [])) :
    gMetIA l y cc nL ret lev mc ms Ω P KS av S r S1 := by
  intro sz
  refine Met.ofW (cc := cc) (maxL := nL) (ret := ret) hpl rfl ?_
  intro p e s m args below meth c s₁ B hml hv
  obtain ⟨rfl, hsz, hP, hK⟩ := hv
  subst hsz
  have hlocks := B.notSynchronized
  have hts := atoms_spec (ws := wT y cc nL ret) B.pre
  have hown : s.vm.findClass y.cls = some m.cls := findClass_of_methodNamed B.named
  have hl := lv_entry av (n := nL) hav
  rw [lg_entry_eq]
  refine body p e s m _ below meth c _ _ ⟨B.exec, B.bytes, hml, hown, fun w hw => hts w (List.mem_cons_of_mem _ hw), hK⟩ hP va_S.rf ?_ hl
  intro pc ls H locs cells slots hdg hP1 hS1 hc hs
  refine W.widen hc hs ?_
  refine W.zret (v := r) (ty := ty) B.exec B.bytes (by rw [B.returns, hret]) hn (fun t ht hW => ⟨⟨r, S1, rfl, ⟨rfl, rfl⟩, by show P S1 t t.heap; rw [ht]; exact hO.1 _ _ _ _ hW.alike hP1⟩, hS1.F ht⟩) hS1.2.2 hdg
theorem gEntryVA {y : MethodName} {lev mc ms : Nat} {av : List Value} {S S1 : X} (hpl : plainName y.cls = true) (hO : gOK P KS) (hav : (lg_sl av).length ≤ nL)
    (body : ∀ (p : Program) (e : Env) (s : State) (m : MethodId) (args : Array Value) (below : List Frame) (meth : Method) (c : Code) (Q : State → Prop) (ls : Array Slot), gX p s m args c cc nL y.cls KS → P S s s.heap → va_S (Fr Ω s.heap.size) s.heap s.heap [] → gRetVA p l e (rmL lev mc ms) s m args below meth c cc mc ms Ω P Q S1 → lv_has ls nL (lv_args 0 av) → W p l e (rmL lev mc ms) s m args below meth c s.heap [] 0 0 Q (F0 m 0 ls [])) :
    gMetVA l y cc nL lev mc ms Ω P KS av S S1 := by
  intro sz
  refine Met.ofW (cc := cc) (maxL := nL) (ret := none) hpl rfl ?_
  intro p e s m args below meth c s₁ B hml hv
  obtain ⟨rfl, hsz, hP, hK⟩ := hv
  subst hsz
  have hlocks := B.notSynchronized
  have hts := atoms_spec (ws := wT y cc nL none) B.pre
  have hown : s.vm.findClass y.cls = some m.cls := findClass_of_methodNamed B.named
  have hl := lv_entry av (n := nL) hav
  rw [lg_entry_eq]
  refine body p e s m _ below meth c _ _ ⟨B.exec, B.bytes, hml, hown, fun w hw => hts w (List.mem_cons_of_mem _ hw), hK⟩ hP va_S.rf ?_ hl
  intro pc ls H locs cells slots hdg hP1 hS1 hc hs
  refine W.widen hc hs ?_
  refine W.vret B.exec B.bytes B.returns (fun t ht hW => ⟨⟨S1, rfl, rfl, by show P S1 t t.heap; rw [ht]; exact hO.1 _ _ _ _ hW.alike hP1⟩, hS1.F ht⟩) hS1.2.2 hdg
theorem gEntryVN {y : MethodName} {lev mc ms : Nat} {av : List Value} {S S1 : X} (hpl : plainName y.cls = true) (hO : gOK P KS) (hav : (lg_sl av).length ≤ nL)
    (body : ∀ (p : Program) (e : Env) (s : State) (m : MethodId) (args : Array Value) (below : List Frame) (meth : Method) (c : Code) (Q : State → Prop) (ls : Array Slot), gX p s m args c cc nL y.cls KS → meth.name = y.name → P S s s.heap → va_S (Fr Ω s.heap.size) s.heap s.heap [] → gRetVA p l e (rmL lev mc ms) s m args below meth c cc mc ms Ω P Q S1 → lv_has ls nL (lv_args 0 av) → W p l e (rmL lev mc ms) s m args below meth c s.heap [] 0 0 Q (F0 m 0 ls [])) :
    gMetVA l y cc nL lev mc ms Ω P KS av S S1 := by
  intro sz
  refine Met.ofW (cc := cc) (maxL := nL) (ret := none) hpl rfl ?_
  intro p e s m args below meth c s₁ B hml hv
  obtain ⟨rfl, hsz, hP, hK⟩ := hv
  subst hsz
  have hlocks := B.notSynchronized
  have hts := atoms_spec (ws := wT y cc nL none) B.pre
  have hown : s.vm.findClass y.cls = some m.cls := findClass_of_methodNamed B.named
  have hl := lv_entry av (n := nL) hav
  rw [lg_entry_eq]
  refine body p e s m _ below meth c _ _ ⟨B.exec, B.bytes, hml, hown, fun w hw => hts w (List.mem_cons_of_mem _ hw), hK⟩ (name_of_methodNamed B.named B.method).1 hP va_S.rf ?_ hl
  intro pc ls H locs cells slots hdg hP1 hS1 hc hs
  refine W.widen hc hs ?_
  refine W.vret B.exec B.bytes B.returns (fun t ht hW => ⟨⟨S1, rfl, rfl, by show P S1 t t.heap; rw [ht]; exact hO.1 _ _ _ _ hW.alike hP1⟩, hS1.F ht⟩) hS1.2.2 hdg
/-- a call's words where the receiver's class is C, whatever class declares the method -/
theorem cwC {own C : String} {index maxL mc ms lev lev' mc0 ms0 : Nat} {y : MethodName} {bytes : ByteArray} {ret : Option FieldType} (n : Nat) (hX : gX p s m args c cc nL own KS) (hG : GoodIn TBG (wT y bytes maxL ret)) (hl : Cond.methodLink own index y ∈ TBG) (hi : Cond.initialized y.cls ∈ TBG) (hin : Cond.instanceMethod y ∈ TBG) (hsel : (Cond.selects C y y).before args s = true)
    (hd : y.cls ≠ "java/lang/invoke/MethodHandle" ∧ y.cls ≠ "java/lang/invoke/VarHandle" ∧ (parseMethodDescriptor y.desc).map (fun d => d.parameters.length) = some n) (hR : lev' + 1 ≤ lev ∧ 8 + (maxL + 11) + 38 * lev' ≤ 38 * lev) :
    CallW (rmL lev mc0 ms0) s args own C index y bytes maxL ret (wT y bytes maxL ret) (rmL lev' mc ms) mc ms n :=
  ⟨callB_of n hX.hts hG rfl rfl rfl (hX.hts _ hi) (hX.hts _ hl) hd ⟨hR.1, hR.2⟩, hX.hts _ hin, hsel⟩
theorem cw_V {own C : String} {index maxL mc ms lev lev' mc0 ms0 : Nat} {y : MethodName} {bytes : ByteArray} {ret : Option FieldType} (n : Nat) (hX : gX p s m args c cc nL own KS) (hG : GoodIn TBG (wsV own index C y (wT y bytes maxL ret)))
    (hd : y.cls = C ∧ y.cls ≠ "java/lang/invoke/MethodHandle" ∧ y.cls ≠ "java/lang/invoke/VarHandle" ∧ (parseMethodDescriptor y.desc).map (fun d => d.parameters.length) = some n) (hR : lev' + 1 ≤ lev ∧ 8 + (maxL + 11) + 38 * lev' ≤ 38 * lev) :
    CallW (rmL lev mc0 ms0) s args own C index y bytes maxL ret (wT y bytes maxL ret) (rmL lev' mc ms) mc ms n := cwV n hX.hts hG rfl rfl rfl hd ⟨hR.1, hR.2⟩
/-- a private method is selected whatever the receiver's class is -/
theorem sel_priv {C : String} {y : MethodName} {n : Nat} {u : State} {a : Array Value} (hy : y.cls ≠ "java/lang/invoke/MethodHandle" ∧ y.cls ≠ "java/lang/invoke/VarHandle") (hins : (Cond.instantiable C n).before a u = true) (hpriv : (Cond.privateMethod y).before a u = true) (hinst : (Cond.instanceMethod y).before a u = true) (hsame : (Cond.sameMethod y.cls y.cls y.name y.desc).before a u = true) :
    (Cond.selects C y y).before a u = true := by
  obtain ⟨c, k, hc, hk, -, -, -, -⟩ := Cond.instantiable_spec hins
  obtain ⟨mk, methM, hnamed, hmethM, -, -⟩ := Cond.instanceMethod_spec hinst
  have hfound : u.methodFound? y.cls y.name y.desc = some mk := State.methodFound?_of_named hnamed hy
  have hsel : selectMethod {} u.vm c mk = .method mk := selectMethod_private hmethM (Cond.privateMethod_at hpriv mk methM hnamed hmethM)
  obtain ⟨e1, k', e2, e3⟩ := Cond.sameMethod_spec (findClass_of_methodNamed hnamed) hfound hsame
  simp only [Cond.before, Cond.holds, Cond.value, hc, hfound, hnamed, hsel, e2]
  simp; exact e3
/-- a virtual call: an answer that is an int -/
theorem gCallWI {y : MethodName} {c' : ByteArray} {n' idx nA : Nat} {ret : Option FieldType} {lev' mc' ms' : Nat} {C : String} {b : Nat} {A0 : Nat → Prop} {As : List Value} {S S1 : X} {r : Int32} (hX : gX p s m args c cc nL own KS) (hO : gOK P KS) (hM : gMetIA l y c' n' ret lev' mc' ms' Ω P KS (.ref b :: As) S r S1)
    (cw : CallW R s args own C idx y c' n' ret (wT y c' n' ret) (rmL lev' mc' ms') mc' ms' nA) (hnA : As.length = nA)
    (hP : P S s H) (hS : va_S A0 s.heap H locs) (hA : ∀ q, Fr Ω H.size q → A0 q) (hrec : gRec C b s H) (hls : ls.size = nL) (hcat : (rest.map fun v => v.category).sum ≤ 8) (hcells : cells + mc' ≤ R.cells ∧ slots + ms' ≤ R.slots) (hdg : decode cc pc = .ok (.invokevirtual idx, 3)) {st : List Value} (hst : st = As.reverse ++ .ref b :: rest)
    (kk : ∀ (H1 : Heap) (locs1 : List Loc), P S1 s H1 → va_S A0 s.heap H1 locs1 → W p l e R s m args below meth c H1 locs1 (cells + mc') (slots + ms') Q (F0 m (pc + 3) ls (.int r :: rest))) : W p l e R s m args below meth c H locs cells slots Q (F0 m pc ls st) := by
  refine va_calli (va_runV (As := As) (rest := rest) ⟨hX.hx, hX.hb, hX.hml, hX.hown, hX.hts⟩ (hM H.size) cw ⟨gPre_blind hO, hrec, fun U hU hW => ⟨rfl, by rw [hU], by rw [hU]; exact hO.1 _ _ _ _ hW.alike hP, hO.2.2 _ _ hW hX.ks⟩⟩ rfl hnA hls hst (lv_room hcat) hdg hcells) hS (fun q _ h => hA q h) hA (fun r' u t H1 locs1 ht hvm hw hB hz1 hk1 hS1 => ?_)
  obtain ⟨rfl, rfl⟩ := hw
  have hB : P _ t t.heap := hB
  rw [ht] at hB
  exact kk H1 locs1 (hO.1 _ _ _ _ hvm.symm hB) hS1
theorem gCallWV {y : MethodName} {c' : ByteArray} {n' idx nA : Nat} {lev' mc' ms' : Nat} {C : String} {b : Nat} {A0 : Nat → Prop} {As : List Value} {S S1 : X} (hX : gX p s m args c cc nL own KS) (hO : gOK P KS) (hM : gMetVA l y c' n' lev' mc' ms' Ω P KS (.ref b :: As) S S1)
    (cw : CallW R s args own C idx y c' n' none (wT y c' n' none) (rmL lev' mc' ms') mc' ms' nA) (hnA : As.length = nA)
    (hP : P S s H) (hS : va_S A0 s.heap H locs) (hA : ∀ q, Fr Ω H.size q → A0 q) (hrec : gRec C b s H) (hls : ls.size = nL) (hcat : (rest.map fun v => v.category).sum ≤ 8) (hcells : cells + mc' ≤ R.cells ∧ slots + ms' ≤ R.slots) (hdg : decode cc pc = .ok (.invokevirtual idx, 3)) {st : List Value} (hst : st = As.reverse ++ .ref b :: rest)
    (kk : ∀ (H1 : Heap) (locs1 : List Loc), P S1 s H1 → va_S A0 s.heap H1 locs1 → W p l e R s m args below meth c H1 locs1 (cells + mc') (slots + ms') Q (F0 m (pc + 3) ls rest)) : W p l e R s m args below meth c H locs cells slots Q (F0 m pc ls st) := by
  refine va_callv (va_runV (As := As) (rest := rest) ⟨hX.hx, hX.hb, hX.hml, hX.hown, hX.hts⟩ (hM H.size) cw ⟨gPre_blind hO, hrec, fun U hU hW => ⟨rfl, by rw [hU], by rw [hU]; exact hO.1 _ _ _ _ hW.alike hP, hO.2.2 _ _ hW hX.ks⟩⟩ rfl hnA hls hst (lv_room hcat) hdg hcells) hS (fun q _ h => hA q h) hA (fun u t H1 locs1 ht hvm hw hB hz1 hk1 hS1 => ?_)
  obtain rfl := hw
  have hB : P _ t t.heap := hB
  rw [ht] at hB
  exact kk H1 locs1 (hO.1 _ _ _ _ hvm.symm hB) hS1
theorem gCallWO {y : MethodName} {c' : ByteArray} {n' idx nA : Nat} {ret : Option FieldType} {lev' mc' ms' : Nat} {C : String} {b : Nat} {A0 : Nat → Prop} {As : List Value} {S S1 : X} {B : Nat → State → Heap → Prop} (hX : gX p s m args c cc nL own KS) (hO : gOK P KS) (hBm : ∀ a u U H, u.vm.Alike U.vm → B a u H → B a U H) (hM : gMetO l y c' n' ret lev' mc' ms' Ω P KS (.ref b :: As) S S1 B)
    (cw : CallW R s args own C idx y c' n' ret (wT y c' n' ret) (rmL lev' mc' ms') mc' ms' nA) (hnA : As.length = nA)
    (hP : P S s H) (hS : va_S A0 s.heap H locs) (hA : ∀ q, Fr Ω H.size q → A0 q) (hrec : gRec C b s H) (hls : ls.size = nL) (hcat : (rest.map fun v => v.category).sum ≤ 8) (hcells : cells + mc' ≤ R.cells ∧ slots + ms' ≤ R.slots) (hdg : decode cc pc = .ok (.invokevirtual idx, 3)) {st : List Value} (hst : st = As.reverse ++ .ref b :: rest)
    (kk : ∀ (H1 : Heap) (locs1 : List Loc) (a : Nat), P S1 s H1 → B a s H1 → va_S A0 s.heap H1 locs1 → W p l e R s m args below meth c H1 locs1 (cells + mc') (slots + ms') Q (F0 m (pc + 3) ls (.ref a :: rest))) : W p l e R s m args below meth c H locs cells slots Q (F0 m pc ls st) := by
  refine va_callr (va_runV (As := As) (rest := rest) ⟨hX.hx, hX.hb, hX.hml, hX.hown, hX.hts⟩ (hM H.size) cw ⟨gPre_blind hO, hrec, fun U hU hW => ⟨rfl, by rw [hU], by rw [hU]; exact hO.1 _ _ _ _ hW.alike hP, hO.2.2 _ _ hW hX.ks⟩⟩ rfl hnA hls hst (lv_room hcat) hdg hcells) hS (fun q _ h => hA q h) hA (fun u a t H1 locs1 ht hvm hw hB hz1 hk1 hS1 => ?_)
  obtain rfl := hw
  have hB : P _ t t.heap ∧ B a t t.heap := hB
  rw [ht] at hB
  exact kk H1 locs1 a (hO.1 _ _ _ _ hvm.symm hB.1) (hBm _ _ _ _ hvm.symm hB.2) hS1
/-- a call of a superclass's method -/
theorem gCallPV {y : MethodName} {c' : ByteArray} {n' idx nA : Nat} {lev' mc' ms' : Nat} {C : String} {cC : ClassId} {b : Nat} {A0 : Nat → Prop} {As : List Value} {S S1 : X} (hat : ClassAt s C cC) (hX : gX p s m args c cc nL own KS) (hO : gOK P KS) (hM : gMetVA l y c' n' lev' mc' ms' Ω P KS (.ref b :: As) S S1)
    (cw : va_CS R s args own idx y c' n' none (wT y c' n' none) (rmL lev' mc' ms') mc' ms' nA) (hnA : As.length = nA)
    (hP : P S s H) (hS : va_S A0 s.heap H locs) (hA : ∀ q, Fr Ω H.size q → A0 q) (hrec : gRec C b s H) (hls : ls.size = nL) (hcat : (rest.map fun v => v.category).sum ≤ 8) (hcells : cells + mc' ≤ R.cells ∧ slots + ms' ≤ R.slots) (hdg : decode cc pc = .ok (.invokespecial idx, 3)) {st : List Value} (hst : st = As.reverse ++ .ref b :: rest)
    (kk : ∀ (H1 : Heap) (locs1 : List Loc), P S1 s H1 → va_S A0 s.heap H1 locs1 → W p l e R s m args below meth c H1 locs1 (cells + mc') (slots + ms') Q (F0 m (pc + 3) ls rest)) : W p l e R s m args below meth c H locs cells slots Q (F0 m pc ls st) := by
  refine va_callv (va_runSU (As := As) (rest := rest) hat ⟨hX.hx, hX.hb, hX.hml, hX.hown, hX.hts⟩ (hM H.size) cw ⟨gPre_blind hO, hrec, fun U hU hW => ⟨rfl, by rw [hU], by rw [hU]; exact hO.1 _ _ _ _ hW.alike hP, hO.2.2 _ _ hW hX.ks⟩⟩ rfl hnA hls hst (lv_room hcat) hdg hcells) hS (fun q _ h => hA q h) hA (fun u t H1 locs1 ht hvm hw hB hz1 hk1 hS1 => ?_)
  obtain rfl := hw
  have hB : P _ t t.heap := hB
  rw [ht] at hB
  exact kk H1 locs1 (hO.1 _ _ _ _ hvm.symm hB) hS1
theorem gCallPO {y : MethodName} {c' : ByteArray} {n' idx nA : Nat} {ret : Option FieldType} {lev' mc' ms' : Nat} {C : String} {cC : ClassId} {b : Nat} {A0 : Nat → Prop} {As : List Value} {S S1 : X} {B : Nat → State → Heap → Prop} (hat : ClassAt s C cC) (hX : gX p s m args c cc nL own KS) (hO : gOK P KS) (hBm : ∀ a u U H, u.vm.Alike U.vm → B a u H → B a U H) (hM : gMetO l y c' n' ret lev' mc' ms' Ω P KS (.ref b :: As) S S1 B)
    (cw : va_CS R s args own idx y c' n' ret (wT y c' n' ret) (rmL lev' mc' ms') mc' ms' nA) (hnA : As.length = nA)
    (hP : P S s H) (hS : va_S A0 s.heap H locs) (hA : ∀ q, Fr Ω H.size q → A0 q) (hrec : gRec C b s H) (hls : ls.size = nL) (hcat : (rest.map fun v => v.category).sum ≤ 8) (hcells : cells + mc' ≤ R.cells ∧ slots + ms' ≤ R.slots) (hdg : decode cc pc = .ok (.invokespecial idx, 3)) {st : List Value} (hst : st = As.reverse ++ .ref b :: rest)
    (kk : ∀ (H1 : Heap) (locs1 : List Loc) (a : Nat), P S1 s H1 → B a s H1 → va_S A0 s.heap H1 locs1 → W p l e R s m args below meth c H1 locs1 (cells + mc') (slots + ms') Q (F0 m (pc + 3) ls (.ref a :: rest))) : W p l e R s m args below meth c H locs cells slots Q (F0 m pc ls st) := by
  refine va_callr (va_runSU (As := As) (rest := rest) hat ⟨hX.hx, hX.hb, hX.hml, hX.hown, hX.hts⟩ (hM H.size) cw ⟨gPre_blind hO, hrec, fun U hU hW => ⟨rfl, by rw [hU], by rw [hU]; exact hO.1 _ _ _ _ hW.alike hP, hO.2.2 _ _ hW hX.ks⟩⟩ rfl hnA hls hst (lv_room hcat) hdg hcells) hS (fun q _ h => hA q h) hA (fun u a t H1 locs1 ht hvm hw hB hz1 hk1 hS1 => ?_)
  obtain rfl := hw
  have hB : P _ t t.heap ∧ B a t t.heap := hB
  rw [ht] at hB
  exact kk H1 locs1 a (hO.1 _ _ _ _ hvm.symm hB.1) (hBm _ _ _ _ hvm.symm hB.2) hS1
theorem gCallPI {y : MethodName} {c' : ByteArray} {n' idx nA : Nat} {ret : Option FieldType} {lev' mc' ms' : Nat} {C : String} {cC : ClassId} {b : Nat} {A0 : Nat → Prop} {As : List Value} {S S1 : X} {r : Int32} (hat : ClassAt s C cC) (hX : gX p s m args c cc nL own KS) (hO : gOK P KS) (hM : gMetIA l y c' n' ret lev' mc' ms' Ω P KS (.ref b :: As) S r S1)
    (cw : va_CS R s args own idx y c' n' ret (wT y c' n' ret) (rmL lev' mc' ms') mc' ms' nA) (hnA : As.length = nA)
    (hP : P S s H) (hS : va_S A0 s.heap H locs) (hA : ∀ q, Fr Ω H.size q → A0 q) (hrec : gRec C b s H) (hls : ls.size = nL) (hcat : (rest.map fun v => v.category).sum ≤ 8) (hcells : cells + mc' ≤ R.cells ∧ slots + ms' ≤ R.slots) (hdg : decode cc pc = .ok (.invokespecial idx, 3)) {st : List Value} (hst : st = As.reverse ++ .ref b :: rest)
    (kk : ∀ (H1 : Heap) (locs1 : List Loc), P S1 s H1 → va_S A0 s.heap H1 locs1 → W p l e R s m args below meth c H1 locs1 (cells + mc') (slots + ms') Q (F0 m (pc + 3) ls (.int r :: rest))) : W p l e R s m args below meth c H locs cells slots Q (F0 m pc ls st) := by
  refine va_calli (va_runSU (As := As) (rest := rest) hat ⟨hX.hx, hX.hb, hX.hml, hX.hown, hX.hts⟩ (hM H.size) cw ⟨gPre_blind hO, hrec, fun U hU hW => ⟨rfl, by rw [hU], by rw [hU]; exact hO.1 _ _ _ _ hW.alike hP, hO.2.2 _ _ hW hX.ks⟩⟩ rfl hnA hls hst (lv_room hcat) hdg hcells) hS (fun q _ h => hA q h) hA (fun r' u t H1 locs1 ht hvm hw hB hz1 hk1 hS1 => ?_)
  obtain ⟨rfl, rfl⟩ := hw
  have hB : P _ t t.heap := hB
  rw [ht] at hB
  exact kk H1 locs1 (hO.1 _ _ _ _ hvm.symm hB) hS1
/-- a virtual call that lands in another class's method; a constructor's call -/
theorem gCallUI {x y : MethodName} {c' : ByteArray} {n' idx nA : Nat} {ret : Option FieldType} {lev' mc' ms' : Nat} {C owner : String} {b : Nat} {A0 : Nat → Prop} {As : List Value} {S S1 : X} {r : Int32} (hX : gX p s m args c cc nL own KS) (hO : gOK P KS) (hM : gMetIA l y c' n' ret lev' mc' ms' Ω P KS (.ref b :: As) S r S1)
    (cw : va_CU R s args own C owner idx x y c' n' ret (wT y c' n' ret) (rmL lev' mc' ms') mc' ms' nA) (hnA : As.length = nA)
    (hP : P S s H) (hS : va_S A0 s.heap H locs) (hA : ∀ q, Fr Ω H.size q → A0 q) (hrec : gRec C b s H) (hls : ls.size = nL) (hcat : (rest.map fun v => v.category).sum ≤ 8) (hcells : cells + mc' ≤ R.cells ∧ slots + ms' ≤ R.slots) (hdg : decode cc pc = .ok (.invokevirtual idx, 3)) {st : List Value} (hst : st = As.reverse ++ .ref b :: rest)
    (kk : ∀ (H1 : Heap) (locs1 : List Loc), P S1 s H1 → va_S A0 s.heap H1 locs1 → W p l e R s m args below meth c H1 locs1 (cells + mc') (slots + ms') Q (F0 m (pc + 3) ls (.int r :: rest))) : W p l e R s m args below meth c H locs cells slots Q (F0 m pc ls st) := by
  refine va_calli (va_runU (As := As) (rest := rest) ⟨hX.hx, hX.hb, hX.hml, hX.hown, hX.hts⟩ (hM H.size) cw ⟨gPre_blind hO, hrec, fun U hU hW => ⟨rfl, by rw [hU], by rw [hU]; exact hO.1 _ _ _ _ hW.alike hP, hO.2.2 _ _ hW hX.ks⟩⟩ rfl hnA hls hst (lv_room hcat) hdg hcells) hS (fun q _ h => hA q h) hA (fun r' u t H1 locs1 ht hvm hw hB hz1 hk1 hS1 => ?_)
  obtain ⟨rfl, rfl⟩ := hw
  have hB : P _ t t.heap := hB
  rw [ht] at hB
  exact kk H1 locs1 (hO.1 _ _ _ _ hvm.symm hB) hS1
theorem gCallCI {y : MethodName} {c' : ByteArray} {n' idx nA : Nat} {lev' mc' ms' : Nat} {b : Nat} {A0 : Nat → Prop} {As : List Value} {S S1 : X} (hX : gX p s m args c cc nL own KS) (hO : gOK P KS) (hM : gMetVA l y c' n' lev' mc' ms' Ω P KS (.ref b :: As) S S1)
    (cw : CallB R s args own idx y c' n' none (wT y c' n' none) (rmL lev' mc' ms') mc' ms' nA ∧ y.name = "<init>" ∧ (Cond.instanceMethod y).before args s = true) (hnA : As.length = nA)
    (hP : P S s H) (hS : va_S A0 s.heap H locs) (hA : ∀ q, Fr Ω H.size q → A0 q) (hls : ls.size = nL) (hcat : (rest.map fun v => v.category).sum ≤ 8) (hcells : cells + mc' ≤ R.cells ∧ slots + ms' ≤ R.slots) (hdg : decode cc pc = .ok (.invokespecial idx, 3)) {st : List Value} (hst : st = As.reverse ++ .ref b :: rest)
    (kk : ∀ (H1 : Heap) (locs1 : List Loc), P S1 s H1 → va_S A0 s.heap H1 locs1 → W p l e R s m args below meth c H1 locs1 (cells + mc') (slots + ms') Q (F0 m (pc + 3) ls rest)) : W p l e R s m args below meth c H locs cells slots Q (F0 m pc ls st) := by
  refine va_callv (va_runI (As := As) (rest := rest) ⟨hX.hx, hX.hb, hX.hml, hX.hown, hX.hts⟩ (hM H.size) cw ⟨gPre_blind hO, fun U hU hW => ⟨rfl, by rw [hU], by rw [hU]; exact hO.1 _ _ _ _ hW.alike hP, hO.2.2 _ _ hW hX.ks⟩⟩ rfl hnA hls hst (lv_room hcat) hdg hcells) hS (fun q _ h => hA q h) hA (fun u t H1 locs1 ht hvm hw hB hz1 hk1 hS1 => ?_)
  obtain rfl := hw
  have hB : P _ t t.heap := hB
  rw [ht] at hB
  exact kk H1 locs1 (hO.1 _ _ _ _ hvm.symm hB) hS1
/-- static calls -/
theorem gCallTI {y : MethodName} {c' : ByteArray} {n' idx nA : Nat} {ret : Option FieldType} {lev' mc' ms' : Nat} {A0 : Nat → Prop} {As : List Value} {S S1 : X} {r : Int32} (hX : gX p s m args c cc nL own KS) (hO : gOK P KS) (hM : gMetIA l y c' n' ret lev' mc' ms' Ω P KS As S r S1)
    (cw : CallB R s args own idx y c' n' ret (wT y c' n' ret) (rmL lev' mc' ms') mc' ms' nA ∧ (Cond.static y).before args s = true) (hnA : As.length = nA)
    (hP : P S s H) (hS : va_S A0 s.heap H locs) (hA : ∀ q, Fr Ω H.size q → A0 q) (hls : ls.size = nL) (hcat : (rest.map fun v => v.category).sum ≤ 8) (hcells : cells + mc' ≤ R.cells ∧ slots + ms' ≤ R.slots) (hdg : decode cc pc = .ok (.invokestatic idx, 3)) {st : List Value} (hst : st = As.reverse ++ rest)
    (kk : ∀ (H1 : Heap) (locs1 : List Loc), P S1 s H1 → va_S A0 s.heap H1 locs1 → W p l e R s m args below meth c H1 locs1 (cells + mc') (slots + ms') Q (F0 m (pc + 3) ls (.int r :: rest))) : W p l e R s m args below meth c H locs cells slots Q (F0 m pc ls st) := by
  refine va_calli (va_runS (As := As) (rest := rest) ⟨hX.hx, hX.hb, hX.hml, hX.hown, hX.hts⟩ (hM H.size) cw ⟨gPre_blind hO, fun U hU hW => ⟨rfl, by rw [hU], by rw [hU]; exact hO.1 _ _ _ _ hW.alike hP, hO.2.2 _ _ hW hX.ks⟩⟩ rfl hnA hls hst (lv_room hcat) hdg hcells) hS (fun q _ h => hA q h) hA (fun r' u t H1 locs1 ht hvm hw hB hz1 hk1 hS1 => ?_)
  obtain ⟨rfl, rfl⟩ := hw
  have hB : P _ t t.heap := hB
  rw [ht] at hB
  exact kk H1 locs1 (hO.1 _ _ _ _ hvm.symm hB) hS1
theorem gCallTV {y : MethodName} {c' : ByteArray} {n' idx nA : Nat} {lev' mc' ms' : Nat} {A0 : Nat → Prop} {As : List Value} {S S1 : X} (hX : gX p s m args c cc nL own KS) (hO : gOK P KS) (hM : gMetVA l y c' n' lev' mc' ms' Ω P KS As S S1)
    (cw : CallB R s args own idx y c' n' none (wT y c' n' none) (rmL lev' mc' ms') mc' ms' nA ∧ (Cond.static y).before args s = true) (hnA : As.length = nA)
    (hP : P S s H) (hS : va_S A0 s.heap H locs) (hA : ∀ q, Fr Ω H.size q → A0 q) (hls : ls.size = nL) (hcat : (rest.map fun v => v.category).sum ≤ 8) (hcells : cells + mc' ≤ R.cells ∧ slots + ms' ≤ R.slots) (hdg : decode cc pc = .ok (.invokestatic idx, 3)) {st : List Value} (hst : st = As.reverse ++ rest)
    (kk : ∀ (H1 : Heap) (locs1 : List Loc), P S1 s H1 → va_S A0 s.heap H1 locs1 → W p l e R s m args below meth c H1 locs1 (cells + mc') (slots + ms') Q (F0 m (pc + 3) ls rest)) : W p l e R s m args below meth c H locs cells slots Q (F0 m pc ls st) := by
  refine va_callv (va_runS (As := As) (rest := rest) ⟨hX.hx, hX.hb, hX.hml, hX.hown, hX.hts⟩ (hM H.size) cw ⟨gPre_blind hO, fun U hU hW => ⟨rfl, by rw [hU], by rw [hU]; exact hO.1 _ _ _ _ hW.alike hP, hO.2.2 _ _ hW hX.ks⟩⟩ rfl hnA hls hst (lv_room hcat) hdg hcells) hS (fun q _ h => hA q h) hA (fun u t H1 locs1 ht hvm hw hB hz1 hk1 hS1 => ?_)
  obtain rfl := hw
  have hB : P _ t t.heap := hB
  rw [ht] at hB
  exact kk H1 locs1 (hO.1 _ _ _ _ hvm.symm hB) hS1
theorem gCallTO {y : MethodName} {c' : ByteArray} {n' idx nA : Nat} {ret : Option FieldType} {lev' mc' ms' : Nat} {A0 : Nat → Prop} {As : List Value} {S S1 : X} {B : Nat → State → Heap → Prop} (hX : gX p s m args c cc nL own KS) (hO : gOK P KS) (hBm : ∀ a u U H, u.vm.Alike U.vm → B a u H → B a U H) (hM : gMetO l y c' n' ret lev' mc' ms' Ω P KS As S S1 B)
    (cw : CallB R s args own idx y c' n' ret (wT y c' n' ret) (rmL lev' mc' ms') mc' ms' nA ∧ (Cond.static y).before args s = true) (hnA : As.length = nA)
    (hP : P S s H) (hS : va_S A0 s.heap H locs) (hA : ∀ q, Fr Ω H.size q → A0 q) (hls : ls.size = nL) (hcat : (rest.map fun v => v.category).sum ≤ 8) (hcells : cells + mc' ≤ R.cells ∧ slots + ms' ≤ R.slots) (hdg : decode cc pc = .ok (.invokestatic idx, 3)) {st : List Value} (hst : st = As.reverse ++ rest)
    (kk : ∀ (H1 : Heap) (locs1 : List Loc) (a : Nat), P S1 s H1 → B a s H1 → va_S A0 s.heap H1 locs1 → W p l e R s m args below meth c H1 locs1 (cells + mc') (slots + ms') Q (F0 m (pc + 3) ls (.ref a :: rest))) : W p l e R s m args below meth c H locs cells slots Q (F0 m pc ls st) := by
  refine va_callr (va_runS (As := As) (rest := rest) ⟨hX.hx, hX.hb, hX.hml, hX.hown, hX.hts⟩ (hM H.size) cw ⟨gPre_blind hO, fun U hU hW => ⟨rfl, by rw [hU], by rw [hU]; exact hO.1 _ _ _ _ hW.alike hP, hO.2.2 _ _ hW hX.ks⟩⟩ rfl hnA hls hst (lv_room hcat) hdg hcells) hS (fun q _ h => hA q h) hA (fun u a t H1 locs1 ht hvm hw hB hz1 hk1 hS1 => ?_)
  obtain rfl := hw
  have hB : P _ t t.heap ∧ B a t t.heap := hB
  rw [ht] at hB
  exact kk H1 locs1 a (hO.1 _ _ _ _ hvm.symm hB.1) (hBm _ _ _ _ hvm.symm hB.2) hS1
/-- a contract's premise made stronger, its promise with it -/
theorem Met.fr {y : MethodName} {ws : List Cond} {rm : Room} {Pc Pc' : Array Value → State → Prop} {Qc Qc' : Array Value → State → Outcome → State → Prop} {mc ms : Nat} {free : Addr → Prop} (h : Met l y ws rm Pc Qc mc ms free) (hp : ∀ a s, Pc' a s → Pc a s) (hq : ∀ a s o t, Pc' a s → s.WarmedH t.vm → Qc a s o t → Qc' a s o t) : Met l y ws rm Pc' Qc' mc ms free := fun p e ha h1 h2 s m args below hf hs hP hK => by
  obtain ⟨n, o, a, b, c, d1, L, d2, d3⟩ := h p e ha h1 h2 s m args below hf hs (hp _ _ hP) hK
  exact ⟨n, o, a, b, c, hq _ _ _ _ hP d2.2.1 d1, L, d2, d3⟩
/-- a world beside which something else stands, that the method doesn't touch -/
def gF (P : X → State → Heap → Prop) (F : State → Heap → Prop) : X → State → Heap → Prop := fun S U H => P S U H ∧ F U H
def gFs (Ω : Nat → Prop) (F : State → Heap → Prop) : Prop := (∀ u U H, u.vm.Alike U.vm → F u H → F U H) ∧ ∀ U H H1, H.size ≤ H1.size → (∀ a : Nat, a < H.size → ¬ Ω a → H1[a]? = H[a]?) → F U H → F U H1
theorem gFs.at {F : State → Heap → Prop} (h : gFs Ω F) {sz : Nat} {st t : State} (hz : st.heap.size = sz) (hF : va_F (Fr Ω sz) st t) (hW : st.WarmedH t.vm) (hf : F st st.heap) : F t t.heap :=
  h.1 _ _ _ hW.alike (h.2 _ _ _ hF.1 (fun a h1 h2 => hF.2 a h1 (fun z => z.elim h2 (fun z => by omega))) hf)
theorem gF_ok {F : State → Heap → Prop} (hO : gOK P KS) (h : gFs Ω F) : gOK (gF P F) KS := ⟨fun S u U H hvm q => ⟨hO.1 S u U H hvm q.1, h.1 _ _ _ hvm q.2⟩, hO.2⟩
theorem gMetIA.lift {y : MethodName} {ret : Option FieldType} {lev n mc ms : Nat} {cc : ByteArray} {av : List Value} {S S1 : X} {r : Int32} {F : State → Heap → Prop} (hF : gFs Ω F) (h : gMetIA l y cc n ret lev mc ms Ω P KS av S r S1) : gMetIA l y cc n ret lev mc ms Ω (gF P F) KS av S r S1 := fun sz => (h sz).fr (fun a s q => by
  obtain ⟨q0, q1, q2, q3⟩ := q
  exact ⟨q0, q1, q2.1, q3⟩) (fun a s o t q hW z => by
  obtain ⟨q0, q1, q2, q3⟩ := q
  obtain ⟨⟨r', u, z1, z2, z3⟩, z4⟩ := z
  exact ⟨⟨r', u, z1, z2, z3, hF.at q1 z4 hW q2.2⟩, z4⟩)
theorem gMetVA.lift {y : MethodName} {lev n mc ms : Nat} {cc : ByteArray} {av : List Value} {S S1 : X} {F : State → Heap → Prop} (hF : gFs Ω F) (h : gMetVA l y cc n lev mc ms Ω P KS av S S1) : gMetVA l y cc n lev mc ms Ω (gF P F) KS av S S1 := fun sz => (h sz).fr (fun a s q => by
  obtain ⟨q0, q1, q2, q3⟩ := q
  exact ⟨q0, q1, q2.1, q3⟩) (fun a s o t q hW z => by
  obtain ⟨q0, q1, q2, q3⟩ := q
  obtain ⟨⟨u, z1, z2, z3⟩, z4⟩ := z
  exact ⟨⟨u, z1, z2, z3, hF.at q1 z4 hW q2.2⟩, z4⟩)
theorem gMetO.lift {y : MethodName} {ret : Option FieldType} {lev n mc ms : Nat} {cc : ByteArray} {av : List Value} {S S1 : X} {B : Nat → State → Heap → Prop} {F : State → Heap → Prop} (hF : gFs Ω F) (h : gMetO l y cc n ret lev mc ms Ω P KS av S S1 B) : gMetO l y cc n ret lev mc ms Ω (gF P F) KS av S S1 B := fun sz => (h sz).fr (fun a s q => by
  obtain ⟨q0, q1, q2, q3⟩ := q
  exact ⟨q0, q1, q2.1, q3⟩) (fun a s o t q hW z => by
  obtain ⟨q0, q1, q2, q3⟩ := q
  obtain ⟨⟨u, k, z1, z2, z3, z5⟩, z4⟩ := z
  exact ⟨⟨u, k, z1, z2, ⟨z3, hF.at q1 z4 hW q2.2⟩, z5⟩, z4⟩)
/-- contracts without new cells are contracts with none -/
theorem gMetIA.of {y : MethodName} {ret : Option FieldType} {lev n : Nat} {cc : ByteArray} {av : List Value} {S S1 : X} {r : Int32} (h : gMetI l y cc n ret lev Ω P KS av S r S1) : gMetIA l y cc n ret lev 0 0 Ω P KS av S r S1 := h
theorem gMetVA.of {y : MethodName} {lev n : Nat} {cc : ByteArray} {av : List Value} {S S1 : X} (h : gMetV l y cc n lev Ω P KS av S S1) : gMetVA l y cc n lev 0 0 Ω P KS av S S1 := h
end ALC
section ALC2
theorem gT_SU {own : String} {idx : Nat} {y : MethodName} {c : ByteArray} {n : Nat} {r : Option FieldType} (h1 : Cond.methodLink own idx y ∈ TBG) (h2 : Cond.sameMethod y.cls y.cls y.name y.desc ∈ TBG) (h3 : Cond.superclass own y.cls ∈ TBG) (h4 : Cond.instanceMethod y ∈ TBG) (h5 : Cond.initialized y.cls ∈ TBG) (h6 : Cond.code y c n r ∈ TBG) : GoodIn TBG (va_wsSU own idx y (wT y c n r)) := fun w hw => by
  unfold va_wsSU at hw
  rcases List.mem_append.mp hw with hw | hw
  · simp only [List.mem_cons, List.not_mem_nil, or_false] at hw
    rcases hw with rfl | rfl | rfl | rfl | rfl
    · exact ⟨h1, tb_good h1⟩
    · exact ⟨h2, tb_good h2⟩
    · exact ⟨h3, tb_good h3⟩
    · exact ⟨h4, tb_good h4⟩
    · exact ⟨h5, tb_good h5⟩
  · exact wT_good h6 w hw
theorem gT_U {own C owner : String} {idx : Nat} {x y : MethodName} {c : ByteArray} {n : Nat} {r : Option FieldType} (h1 : Cond.methodLink own idx x ∈ TBG) (h2 : Cond.sameMethod x.cls owner x.name x.desc ∈ TBG) (h3 : Cond.selects C x y ∈ TBG) (h4 : Cond.instanceMethod y ∈ TBG) (h5 : Cond.initialized y.cls ∈ TBG) (h6 : Cond.code y c n r ∈ TBG) : GoodIn TBG (va_wsU own idx C owner x y (wT y c n r)) := fun w hw => by
  unfold va_wsU at hw
  rcases List.mem_append.mp hw with hw | hw
  · simp only [List.mem_cons, List.not_mem_nil, or_false] at hw
    rcases hw with rfl | rfl | rfl | rfl | rfl
    · exact ⟨h1, tb_good h1⟩
    · exact ⟨h2, tb_good h2⟩
    · exact ⟨h3, tb_good h3⟩
    · exact ⟨h4, tb_good h4⟩
    · exact ⟨h5, tb_good h5⟩
  · exact wT_good h6 w hw
end ALC2
