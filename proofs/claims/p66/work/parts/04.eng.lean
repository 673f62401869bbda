/-! THE ENGINE: words of every method out of one list, contracts over a world that a value of a type X lays out, entry, return, calls. -/
def TBG : List Cond := lw_tbl.filter goodWord
theorem tb_t {w : Cond} (i : Nat) (h : tables_1[i]? = some w) (g : goodWord w = true) : w ∈ TBG := List.mem_filter.mpr ⟨List.mem_append_right _ (List.mem_of_getElem? h), g⟩
theorem tb_s {q : MethodName × Nat} (i : Nat) (h : lw_privs[i]? = some q) (g : goodWord (.selects q.1.cls q.1 q.1) = true) : Cond.selects q.1.cls q.1 q.1 ∈ TBG := List.mem_filter.mpr ⟨List.mem_append_left _ (List.mem_map.mpr ⟨q, List.mem_of_getElem? h, rfl⟩), g⟩
theorem tb_good {w : Cond} (h : w ∈ TBG) : (w.onTables && w.keeps) = true ∨ ∃ ty, w = .arrayClass ty := good_of_word (List.mem_filter.mp h).2
def wT (y : MethodName) (c : ByteArray) (n : Nat) (r : Option FieldType) : List Cond := .code y c n r :: TBG
theorem wT_in {x y : MethodName} {c c' : ByteArray} {n n' : Nat} {r r' : Option FieldType} (h : Cond.code y c n r ∈ TBG) : ∀ w ∈ wT y c n r, w ∈ wT x c' n' r' := fun w hw => by
  rcases List.mem_cons.mp hw with rfl | hw
  · exact List.mem_cons_of_mem _ h
  · exact List.mem_cons_of_mem _ hw
theorem wT_good {y : MethodName} {c : ByteArray} {n : Nat} {r : Option FieldType} (h : Cond.code y c n r ∈ TBG) : GoodIn TBG (wT y c n r) := fun w hw => by
  rcases List.mem_cons.mp hw with rfl | hw
  · exact ⟨h, tb_good h⟩
  · exact ⟨hw, tb_good hw⟩
theorem gT_V {own C : String} {idx : Nat} {y : MethodName} {c : ByteArray} {n : Nat} {r : Option FieldType} (h1 : Cond.methodLink own idx y ∈ TBG) (h2 : Cond.instanceMethod y ∈ TBG) (h3 : Cond.selects C y y ∈ TBG) (h4 : Cond.initialized C ∈ TBG) (h5 : Cond.code y c n r ∈ TBG) : GoodIn TBG (wsV own idx C y (wT y c n r)) := fun w hw => by
  unfold wsV at hw
  rcases List.mem_append.mp hw with hw | hw
  · simp only [List.mem_cons, List.not_mem_nil, or_false] at hw
    rcases hw with rfl | rfl | rfl | rfl
    · exact ⟨h1, tb_good h1⟩
    · exact ⟨h2, tb_good h2⟩
    · exact ⟨h3, tb_good h3⟩
    · exact ⟨h4, tb_good h4⟩
  · exact wT_good h5 w hw
theorem gT_S {own : String} {idx : Nat} {y : MethodName} {c : ByteArray} {n : Nat} {r : Option FieldType} (h1 : Cond.methodLink own idx y ∈ TBG) (h2 : Cond.static y ∈ TBG) (h4 : Cond.initialized y.cls ∈ TBG) (h5 : Cond.code y c n r ∈ TBG) : GoodIn TBG (va_wsS own idx y (wT y c n r)) := fun w hw => by
  unfold va_wsS at hw
  rcases List.mem_append.mp hw with hw | hw
  · simp only [List.mem_cons, List.not_mem_nil, or_false] at hw
    rcases hw with rfl | rfl | rfl
    · exact ⟨h1, tb_good h1⟩
    · exact ⟨h2, tb_good h2⟩
    · exact ⟨h4, tb_good h4⟩
  · exact wT_good h5 w hw
/-- the room of a method at a height of the call tree -/
abbrev rmL (lev mc ms : Nat) : Room := { frames := lev, cells := mc, slots := ms, locals := 38 * lev }
/-- which cells a method may write: its world's own, and those that it makes -/
def Fr (Ω : Nat → Prop) (sz : Nat) : Nat → Prop := fun q => Ω q ∨ sz ≤ q
theorem Fr_le {Ω : Nat → Prop} {a b : Nat} (h : a ≤ b) : ∀ q, Fr Ω b q → Fr Ω a q := fun q z => z.elim Or.inl (fun z => Or.inr (Nat.le_trans h z))
/-- what a walk has at hand -/
def gX (p : Program) (s : State) (m : MethodId) (args : Array Value) (c : Code) (cc : ByteArray) (nL : Nat) (own : String) (KS : State → Prop) : Prop :=
  p.tables.exec = Jvm.exec ∧ c.code = cc ∧ c.maxLocals = nL ∧ s.vm.findClass own = some m.cls ∧ (∀ w ∈ TBG, w.before args s = true) ∧ KS s
section ENG
variable {X : Type}
/-- a world moves with the tables; the static facts move with warmed tables -/
def gOK (P : X → State → Heap → Prop) (KS : State → Prop) : Prop := (∀ S u U H, u.vm.Alike U.vm → P S u H → P S U H) ∧ (∀ u U : State, U.vm = u.vm → KS u → KS U) ∧ ∀ u U : State, u.WarmedH U.vm → KS u → KS U
def gB (P : X → State → Heap → Prop) (KS : State → Prop) (S : X) : State → Prop := fun U => P S U U.heap ∧ KS U
def gPre (P : X → State → Heap → Prop) (KS : State → Prop) (S : X) (sz : Nat) : State → Prop := fun U => U.heap.size = sz ∧ P S U U.heap ∧ KS U
/-- a method that answers an int (or a boolean) and leaves the world of S1 -/
def gMetI (l : Launch) (y : MethodName) (c : ByteArray) (n : Nat) (ret : Option FieldType) (lev : Nat) (Ω : Nat → Prop) (P : X → State → Heap → Prop) (KS : State → Prop) (av : List Value) (S : X) (r : Int32) (S1 : X) : Prop :=
  ∀ sz, Met l y (wT y c n ret) (rmL lev 0 0) (va_Pc av (gPre P KS S sz)) (va_Qi (fun (r' : Int32) (u : X) => r' = r ∧ u = S1) (fun u t => P u t t.heap) (Fr Ω sz)) 0 0 (Fr Ω sz)
/-- a method without an answer -/
def gMetV (l : Launch) (y : MethodName) (c : ByteArray) (n : Nat) (lev : Nat) (Ω : Nat → Prop) (P : X → State → Heap → Prop) (KS : State → Prop) (av : List Value) (S : X) (S1 : X) : Prop :=
  ∀ sz, Met l y (wT y c n none) (rmL lev 0 0) (va_Pc av (gPre P KS S sz)) (va_Qv (fun (u : X) => u = S1) (fun u t => P u t t.heap) (Fr Ω sz)) 0 0 (Fr Ω sz)
/-- a method that answers an int and changes nothing; B: what it asks of its start -/
def gMetR (l : Launch) (y : MethodName) (c : ByteArray) (n : Nat) (ret : Option FieldType) (lev : Nat) (B : State → Prop) (av : List Value) (r : Int32) : Prop :=
  Met l y (wT y c n ret) (rmL lev 0 0) (va_Pc av B) (vp_Si (fun r' => r' = r)) 0 0 (fun _ => False)
variable {p : Program} {l : Launch} {e : Env} {R : Room} {s : State} {m : MethodId} {args : Array Value} {below : List Frame} {meth : Method} {c : Code} {H : Heap} {locs : List Loc} {cells slots : Nat} {Q : State → Prop}
variable {cc : ByteArray} {pc nL : Nat} {ls : Array Slot} {rest : List Value} {own : String} {Ω : Nat → Prop} {P : X → State → Heap → Prop} {KS : State → Prop}
theorem gX.hx (h : gX p s m args c cc nL own KS) : p.tables.exec = Jvm.exec := h.1
theorem gX.hb (h : gX p s m args c cc nL own KS) : c.code = cc := h.2.1
theorem gX.hml (h : gX p s m args c cc nL own KS) : c.maxLocals = nL := h.2.2.1
theorem gX.hown (h : gX p s m args c cc nL own KS) : s.vm.findClass own = some m.cls := h.2.2.2.1
theorem gX.hts (h : gX p s m args c cc nL own KS) : ∀ w ∈ TBG, w.before args s = true := h.2.2.2.2.1
theorem gX.ks (h : gX p s m args c cc nL own KS) : KS s := h.2.2.2.2.2
/-- what is left to show where a method returns r in the world of S1 -/
def gRetI (p : Program) (l : Launch) (e : Env) (R : Room) (s : State) (m : MethodId) (args : Array Value) (below : List Frame) (meth : Method) (c : Code) (cc : ByteArray) (Ω : Nat → Prop) (P : X → State → Heap → Prop) (Q : State → Prop) (r : Int32) (S1 : X) : Prop :=
  ∀ (pc : Nat) (ls : Array Slot) (H : Heap) (locs : List Loc), decode cc pc = .ok (.ireturn, 1) → P S1 s H → va_S (Fr Ω s.heap.size) s.heap H locs → W p l e R s m args below meth c H locs 0 0 Q (F0 m pc ls [.int r])
def gRetV (p : Program) (l : Launch) (e : Env) (R : Room) (s : State) (m : MethodId) (args : Array Value) (below : List Frame) (meth : Method) (c : Code) (cc : ByteArray) (Ω : Nat → Prop) (P : X → State → Heap → Prop) (Q : State → Prop) (S1 : X) : Prop :=
  ∀ (pc : Nat) (ls : Array Slot) (H : Heap) (locs : List Loc), decode cc pc = .ok (.return_, 1) → P S1 s H → va_S (Fr Ω s.heap.size) s.heap H locs → W p l e R s m args below meth c H locs 0 0 Q (F0 m pc ls [])
def gRetR (p : Program) (l : Launch) (e : Env) (R : Room) (s : State) (m : MethodId) (args : Array Value) (below : List Frame) (meth : Method) (c : Code) (cc : ByteArray) (Q : State → Prop) (r : Int32) : Prop :=
  ∀ (pc : Nat) (ls : Array Slot), decode cc pc = .ok (.ireturn, 1) → W p l e R s m args below meth c s.heap [] 0 0 Q (F0 m pc ls [.int r])
/-- a contract out of the walk of its body -/
theorem gEntryI {y : MethodName} {ret : Option FieldType} {ty : FieldType} {lev : Nat} {av : List Value} {S S1 : X} {r : Int32} (hpl : plainName y.cls = true) (hret : ret = some ty) (hn : narrow ty (.int r) = .int r) (hO : gOK P KS) (hav : (lg_sl av).length ≤ nL)
    (body : ∀ (p : Program) (e : Env) (s : State) (m : MethodId) (args : Array Value) (below : List Frame) (meth : Method) (c : Code) (Q : State → Prop) (ls : Array Slot), gX p s m args c cc nL y.cls KS → P S s s.heap → va_S (Fr Ω s.heap.size) s.heap s.heap [] → gRetI p l e (rmL lev 0 0) s m args below meth c cc Ω P Q r S1 → lv_has ls nL (lv_args 0 av) → W p l e (rmL lev 0 0) s m args below meth c s.heap [] 0 0 Q (F0 m 0 ls [])) :
    gMetI l y cc nL ret lev Ω P KS av S r S1 := by
  intro sz
  refine Met.ofW (cc := cc) (maxL := nL) (ret := ret) hpl rfl ?_
  intro p e s m args below meth c s₁ B hml hv
  obtain ⟨rfl, hsz, hP, hK⟩ := hv
  subst hsz
  have hlocks := B.notSynchronized
  have hts := atoms_spec (ws := wT y cc nL ret) B.pre
  have hown : s.vm.findClass y.cls = some m.cls := findClass_of_methodNamed B.named
  have hl := lv_entry av (n := nL) hav
  rw [lg_entry_eq]
  refine body p e s m _ below meth c _ _ ⟨B.exec, B.bytes, hml, hown, fun w hw => hts w (List.mem_cons_of_mem _ hw), hK⟩ hP va_S.rf ?_ hl
  intro pc ls H locs hdg hP1 hS1
  refine W.zret (v := r) (ty := ty) B.exec B.bytes (by rw [B.returns, hret]) hn (fun t ht hW => ⟨⟨r, S1, rfl, ⟨rfl, rfl⟩, by show P S1 t t.heap; rw [ht]; exact hO.1 _ _ _ _ hW.alike hP1⟩, hS1.F ht⟩) hS1.2.2 hdg
theorem gEntryV {y : MethodName} {lev : Nat} {av : List Value} {S S1 : X} (hpl : plainName y.cls = true) (hO : gOK P KS) (hav : (lg_sl av).length ≤ nL)
    (body : ∀ (p : Program) (e : Env) (s : State) (m : MethodId) (args : Array Value) (below : List Frame) (meth : Method) (c : Code) (Q : State → Prop) (ls : Array Slot), gX p s m args c cc nL y.cls KS → P S s s.heap → va_S (Fr Ω s.heap.size) s.heap s.heap [] → gRetV p l e (rmL lev 0 0) s m args below meth c cc Ω P Q S1 → lv_has ls nL (lv_args 0 av) → W p l e (rmL lev 0 0) s m args below meth c s.heap [] 0 0 Q (F0 m 0 ls [])) :
    gMetV l y cc nL lev Ω P KS av S S1 := by
  intro sz
  refine Met.ofW (cc := cc) (maxL := nL) (ret := none) hpl rfl ?_
  intro p e s m args below meth c s₁ B hml hv
  obtain ⟨rfl, hsz, hP, hK⟩ := hv
  subst hsz
  have hlocks := B.notSynchronized
  have hts := atoms_spec (ws := wT y cc nL none) B.pre
  have hown : s.vm.findClass y.cls = some m.cls := findClass_of_methodNamed B.named
  have hl := lv_entry av (n := nL) hav
  rw [lg_entry_eq]
  refine body p e s m _ below meth c _ _ ⟨B.exec, B.bytes, hml, hown, fun w hw => hts w (List.mem_cons_of_mem _ hw), hK⟩ hP va_S.rf ?_ hl
  intro pc ls H locs hdg hP1 hS1
  refine W.vret B.exec B.bytes B.returns (fun t ht hW => ⟨⟨S1, rfl, rfl, by show P S1 t t.heap; rw [ht]; exact hO.1 _ _ _ _ hW.alike hP1⟩, hS1.F ht⟩) hS1.2.2 hdg
theorem gEntryR {y : MethodName} {ret : Option FieldType} {ty : FieldType} {lev : Nat} {av : List Value} {r : Int32} {B0 : State → Prop} (hpl : plainName y.cls = true) (hret : ret = some ty) (hn : narrow ty (.int r) = .int r) (hav : (lg_sl av).length ≤ nL) (hB : ∀ U, B0 U → KS U)
    (body : ∀ (p : Program) (e : Env) (s : State) (m : MethodId) (args : Array Value) (below : List Frame) (meth : Method) (c : Code) (Q : State → Prop) (ls : Array Slot), gX p s m args c cc nL y.cls KS → B0 s → gRetR p l e (rmL lev 0 0) s m args below meth c cc Q r → lv_has ls nL (lv_args 0 av) → W p l e (rmL lev 0 0) s m args below meth c s.heap [] 0 0 Q (F0 m 0 ls [])) :
    gMetR l y cc nL ret lev B0 av r := by
  refine Met.ofW (cc := cc) (maxL := nL) (ret := ret) hpl rfl ?_
  intro p e s m args below meth c s₁ B hml hv
  obtain ⟨rfl, hP⟩ := hv
  have hlocks := B.notSynchronized
  have hts := atoms_spec (ws := wT y cc nL ret) B.pre
  have hown : s.vm.findClass y.cls = some m.cls := findClass_of_methodNamed B.named
  have hl := lv_entry av (n := nL) hav
  rw [lg_entry_eq]
  refine body p e s m _ below meth c _ _ ⟨B.exec, B.bytes, hml, hown, fun w hw => hts w (List.mem_cons_of_mem _ hw), hB _ hP⟩ hP ?_ hl
  intro pc ls hdg
  exact W.zret (v := r) (ty := ty) B.exec B.bytes (by rw [B.returns, hret]) hn (fun t ht hW => ⟨r, rfl, rfl, ht⟩) (fun q hq => absurd hq List.not_mem_nil) hdg
theorem gPre_blind {S : X} {sz : Nat} {av : List Value} (hO : gOK P KS) : FrameBlind (va_Pc av (gPre P KS S sz)) := fun a U g mk q => by
  obtain ⟨q0, q1, qP, qK⟩ := q
  exact ⟨q0, q1, hO.1 _ _ _ _ (Vm.Alike.refl U.vm) qP, hO.2.1 U _ rfl qK⟩
theorem gB_blind {S : X} {av : List Value} (hO : gOK P KS) : FrameBlind (va_Pc av (gB P KS S)) := fun a U g mk q => by
  obtain ⟨q0, qP, qK⟩ := q
  exact ⟨q0, hO.1 _ _ _ _ (Vm.Alike.refl U.vm) qP, hO.2.1 U _ rfl qK⟩
/-- a receiver: an object of the class stands there -/
def gRec (C : String) (b : Nat) (s : State) (H : Heap) : Prop := ∃ cell : Cell, H[b]? = some cell ∧ cell.vm.isStatics = false ∧ s.vm.findClass C = some cell.cls
/-- a call of an instance method that answers an int -/
theorem gCallVI {y : MethodName} {c' : ByteArray} {n' idx nA : Nat} {ret : Option FieldType} {lev mc ms : Nat} {C : String} {b : Nat} {As : List Value} {S S1 : X} {r : Int32} (hX : gX p s m args c cc nL own KS) (hO : gOK P KS) (hR : R = rmL lev mc ms) {lev' : Nat} (hM : gMetI l y c' n' ret lev' Ω P KS (.ref b :: As) S r S1) (hG : GoodIn TBG (wsV own idx C y (wT y c' n' ret)))
    (hd : y.cls = C ∧ y.cls ≠ "java/lang/invoke/MethodHandle" ∧ y.cls ≠ "java/lang/invoke/VarHandle" ∧ (parseMethodDescriptor y.desc).map (fun d => d.parameters.length) = some nA) (hnA : As.length = nA) (hroom : lev' + 1 ≤ lev ∧ 8 + (n' + 11) + 38 * lev' ≤ 38 * lev)
    (hP : P S s H) (hS : va_S (Fr Ω s.heap.size) s.heap H locs) (hrec : gRec C b s H) (hls : ls.size = nL) (hcat : (rest.map fun v => v.category).sum ≤ 8) (hcells : cells ≤ mc ∧ slots ≤ ms) (hdg : decode cc pc = .ok (.invokevirtual idx, 3)) {st : List Value} (hst : st = As.reverse ++ .ref b :: rest)
    (kk : ∀ (H1 : Heap) (locs1 : List Loc), P S1 s H1 → va_S (Fr Ω s.heap.size) s.heap H1 locs1 → W p l e R s m args below meth c H1 locs1 cells slots Q (F0 m (pc + 3) ls (.int r :: rest))) : W p l e R s m args below meth c H locs cells slots Q (F0 m pc ls st) := by
  have hFc : ∀ q, Fr Ω H.size q → Fr Ω s.heap.size q := Fr_le hS.1
  subst hR
  refine va_calli (va_runV (As := As) (rest := rest) ⟨hX.hx, hX.hb, hX.hml, hX.hown, hX.hts⟩ (hM H.size) (cwV nA hX.hts hG rfl rfl rfl hd ⟨hroom.1, hroom.2⟩) ⟨gPre_blind hO, hrec, fun U hU hW => ⟨rfl, by rw [hU], by rw [hU]; exact hO.1 _ _ _ _ hW.alike hP, hO.2.2 _ _ hW hX.ks⟩⟩ rfl hnA hls hst (lv_room hcat) hdg ⟨hcells.1, hcells.2⟩) hS (fun q _ h => hFc q h) hFc (fun r' u t H1 locs1 ht hvm hw hB hz1 hk1 hS1 => ?_)
  obtain ⟨rfl, rfl⟩ := hw
  have hB : P _ t t.heap := hB
  rw [ht] at hB
  exact kk H1 locs1 (hO.1 _ _ _ _ hvm.symm hB) hS1
theorem gCallVV {y : MethodName} {c' : ByteArray} {n' idx nA : Nat} {lev mc ms : Nat} {C : String} {b : Nat} {As : List Value} {S S1 : X} (hX : gX p s m args c cc nL own KS) (hO : gOK P KS) (hR : R = rmL lev mc ms) {lev' : Nat} (hM : gMetV l y c' n' lev' Ω P KS (.ref b :: As) S S1) (hG : GoodIn TBG (wsV own idx C y (wT y c' n' none)))
    (hd : y.cls = C ∧ y.cls ≠ "java/lang/invoke/MethodHandle" ∧ y.cls ≠ "java/lang/invoke/VarHandle" ∧ (parseMethodDescriptor y.desc).map (fun d => d.parameters.length) = some nA) (hnA : As.length = nA) (hroom : lev' + 1 ≤ lev ∧ 8 + (n' + 11) + 38 * lev' ≤ 38 * lev)
    (hP : P S s H) (hS : va_S (Fr Ω s.heap.size) s.heap H locs) (hrec : gRec C b s H) (hls : ls.size = nL) (hcat : (rest.map fun v => v.category).sum ≤ 8) (hcells : cells ≤ mc ∧ slots ≤ ms) (hdg : decode cc pc = .ok (.invokevirtual idx, 3)) {st : List Value} (hst : st = As.reverse ++ .ref b :: rest)
    (kk : ∀ (H1 : Heap) (locs1 : List Loc), P S1 s H1 → va_S (Fr Ω s.heap.size) s.heap H1 locs1 → W p l e R s m args below meth c H1 locs1 cells slots Q (F0 m (pc + 3) ls rest)) : W p l e R s m args below meth c H locs cells slots Q (F0 m pc ls st) := by
  have hFc : ∀ q, Fr Ω H.size q → Fr Ω s.heap.size q := Fr_le hS.1
  subst hR
  refine va_callv (va_runV (As := As) (rest := rest) ⟨hX.hx, hX.hb, hX.hml, hX.hown, hX.hts⟩ (hM H.size) (cwV nA hX.hts hG rfl rfl rfl hd ⟨hroom.1, hroom.2⟩) ⟨gPre_blind hO, hrec, fun U hU hW => ⟨rfl, by rw [hU], by rw [hU]; exact hO.1 _ _ _ _ hW.alike hP, hO.2.2 _ _ hW hX.ks⟩⟩ rfl hnA hls hst (lv_room hcat) hdg ⟨hcells.1, hcells.2⟩) hS (fun q _ h => hFc q h) hFc (fun u t H1 locs1 ht hvm hw hB hz1 hk1 hS1 => ?_)
  obtain rfl := hw
  have hB : P _ t t.heap := hB
  rw [ht] at hB
  exact kk H1 locs1 (hO.1 _ _ _ _ hvm.symm hB) hS1
/-- a call of a static method of the own class -/
theorem gCallSI {y : MethodName} {c' : ByteArray} {n' idx nA : Nat} {ret : Option FieldType} {lev mc ms : Nat} {As : List Value} {S S1 : X} {r : Int32} (hX : gX p s m args c cc nL own KS) (hO : gOK P KS) (hR : R = rmL lev mc ms) {lev' : Nat} (hM : gMetI l y c' n' ret lev' Ω P KS As S r S1) (hG : GoodIn TBG (va_wsS own idx y (wT y c' n' ret)))
    {C : String} (hd : y.cls = C ∧ y.cls ≠ "java/lang/invoke/MethodHandle" ∧ y.cls ≠ "java/lang/invoke/VarHandle" ∧ (parseMethodDescriptor y.desc).map (fun d => d.parameters.length) = some nA) (hnA : As.length = nA) (hroom : lev' + 1 ≤ lev ∧ 8 + (n' + 11) + 38 * lev' ≤ 38 * lev)
    (hP : P S s H) (hS : va_S (Fr Ω s.heap.size) s.heap H locs) (hls : ls.size = nL) (hcat : (rest.map fun v => v.category).sum ≤ 8) (hcells : cells ≤ mc ∧ slots ≤ ms) (hdg : decode cc pc = .ok (.invokestatic idx, 3)) {st : List Value} (hst : st = As.reverse ++ rest)
    (kk : ∀ (H1 : Heap) (locs1 : List Loc), P S1 s H1 → va_S (Fr Ω s.heap.size) s.heap H1 locs1 → W p l e R s m args below meth c H1 locs1 cells slots Q (F0 m (pc + 3) ls (.int r :: rest))) : W p l e R s m args below meth c H locs cells slots Q (F0 m pc ls st) := by
  have hFc : ∀ q, Fr Ω H.size q → Fr Ω s.heap.size q := Fr_le hS.1
  subst hR
  refine va_calli (va_runS (As := As) (rest := rest) ⟨hX.hx, hX.hb, hX.hml, hX.hown, hX.hts⟩ (hM H.size) (va_cwS nA hX.hts hG rfl rfl rfl hd.2 ⟨hroom.1, hroom.2⟩) ⟨gPre_blind hO, fun U hU hW => ⟨rfl, by rw [hU], by rw [hU]; exact hO.1 _ _ _ _ hW.alike hP, hO.2.2 _ _ hW hX.ks⟩⟩ rfl hnA hls hst (lv_room hcat) hdg ⟨hcells.1, hcells.2⟩) hS (fun q _ h => hFc q h) hFc (fun r' u t H1 locs1 ht hvm hw hB hz1 hk1 hS1 => ?_)
  obtain ⟨rfl, rfl⟩ := hw
  have hB : P _ t t.heap := hB
  rw [ht] at hB
  exact kk H1 locs1 (hO.1 _ _ _ _ hvm.symm hB) hS1
theorem gCallSV {y : MethodName} {c' : ByteArray} {n' idx nA : Nat} {lev mc ms : Nat} {As : List Value} {S S1 : X} (hX : gX p s m args c cc nL own KS) (hO : gOK P KS) (hR : R = rmL lev mc ms) {lev' : Nat} (hM : gMetV l y c' n' lev' Ω P KS As S S1) (hG : GoodIn TBG (va_wsS own idx y (wT y c' n' none)))
    {C : String} (hd : y.cls = C ∧ y.cls ≠ "java/lang/invoke/MethodHandle" ∧ y.cls ≠ "java/lang/invoke/VarHandle" ∧ (parseMethodDescriptor y.desc).map (fun d => d.parameters.length) = some nA) (hnA : As.length = nA) (hroom : lev' + 1 ≤ lev ∧ 8 + (n' + 11) + 38 * lev' ≤ 38 * lev)
    (hP : P S s H) (hS : va_S (Fr Ω s.heap.size) s.heap H locs) (hls : ls.size = nL) (hcat : (rest.map fun v => v.category).sum ≤ 8) (hcells : cells ≤ mc ∧ slots ≤ ms) (hdg : decode cc pc = .ok (.invokestatic idx, 3)) {st : List Value} (hst : st = As.reverse ++ rest)
    (kk : ∀ (H1 : Heap) (locs1 : List Loc), P S1 s H1 → va_S (Fr Ω s.heap.size) s.heap H1 locs1 → W p l e R s m args below meth c H1 locs1 cells slots Q (F0 m (pc + 3) ls rest)) : W p l e R s m args below meth c H locs cells slots Q (F0 m pc ls st) := by
  have hFc : ∀ q, Fr Ω H.size q → Fr Ω s.heap.size q := Fr_le hS.1
  subst hR
  refine va_callv (va_runS (As := As) (rest := rest) ⟨hX.hx, hX.hb, hX.hml, hX.hown, hX.hts⟩ (hM H.size) (va_cwS nA hX.hts hG rfl rfl rfl hd.2 ⟨hroom.1, hroom.2⟩) ⟨gPre_blind hO, fun U hU hW => ⟨rfl, by rw [hU], by rw [hU]; exact hO.1 _ _ _ _ hW.alike hP, hO.2.2 _ _ hW hX.ks⟩⟩ rfl hnA hls hst (lv_room hcat) hdg ⟨hcells.1, hcells.2⟩) hS (fun q _ h => hFc q h) hFc (fun u t H1 locs1 ht hvm hw hB hz1 hk1 hS1 => ?_)
  obtain rfl := hw
  have hB : P _ t t.heap := hB
  rw [ht] at hB
  exact kk H1 locs1 (hO.1 _ _ _ _ hvm.symm hB) hS1
/-- a call of a method that changes nothing -/
theorem gCallVR {y : MethodName} {c' : ByteArray} {n' idx nA : Nat} {ret : Option FieldType} {lev mc ms : Nat} {C : String} {b : Nat} {As : List Value} {r : Int32} {B0 : State → Prop} (hX : gX p s m args c cc nL own KS) (hR : R = rmL lev mc ms) {lev' : Nat} (hM : gMetR l y c' n' ret lev' B0 (.ref b :: As) r) (hG : GoodIn TBG (wsV own idx C y (wT y c' n' ret)))
    (hd : y.cls = C ∧ y.cls ≠ "java/lang/invoke/MethodHandle" ∧ y.cls ≠ "java/lang/invoke/VarHandle" ∧ (parseMethodDescriptor y.desc).map (fun d => d.parameters.length) = some nA) (hnA : As.length = nA) (hroom : lev' + 1 ≤ lev ∧ 8 + (n' + 11) + 38 * lev' ≤ 38 * lev)
    (hbl : FrameBlind (va_Pc (.ref b :: As) B0)) (hB : ∀ U : State, U.heap = H → s.WarmedH U.vm → B0 U) (hrec : gRec C b s H) (hls : ls.size = nL) (hcat : (rest.map fun v => v.category).sum ≤ 8) (hcells : cells ≤ mc ∧ slots ≤ ms) (hdg : decode cc pc = .ok (.invokevirtual idx, 3)) {st : List Value} (hst : st = As.reverse ++ .ref b :: rest)
    (kk : W p l e R s m args below meth c H locs cells slots Q (F0 m (pc + 3) ls (.int r :: rest))) : W p l e R s m args below meth c H locs cells slots Q (F0 m pc ls st) := by
  subst hR
  refine vp_callSi (W.runV (As := As) (rest := rest) ⟨hX.hx, hX.hb, hX.hml, hX.hown, hX.hts⟩ hM (cwV nA hX.hts hG rfl rfl rfl hd ⟨hroom.1, hroom.2⟩) ⟨hbl, hrec, fun U hU hW => ⟨rfl, hB U hU hW⟩⟩ rfl hnA hls hst (lv_room hcat) hdg ⟨hcells.1, hcells.2⟩) (fun r' hr => ?_)
  subst hr
  exact kk
theorem gCallSR {y : MethodName} {c' : ByteArray} {n' idx nA : Nat} {ret : Option FieldType} {lev mc ms : Nat} {As : List Value} {r : Int32} {B0 : State → Prop} (hX : gX p s m args c cc nL own KS) (hR : R = rmL lev mc ms) {lev' : Nat} (hM : gMetR l y c' n' ret lev' B0 As r) (hG : GoodIn TBG (va_wsS own idx y (wT y c' n' ret)))
    {C : String} (hd : y.cls = C ∧ y.cls ≠ "java/lang/invoke/MethodHandle" ∧ y.cls ≠ "java/lang/invoke/VarHandle" ∧ (parseMethodDescriptor y.desc).map (fun d => d.parameters.length) = some nA) (hnA : As.length = nA) (hroom : lev' + 1 ≤ lev ∧ 8 + (n' + 11) + 38 * lev' ≤ 38 * lev)
    (hbl : FrameBlind (va_Pc As B0)) (hB : ∀ U : State, U.heap = H → s.WarmedH U.vm → B0 U) (hls : ls.size = nL) (hcat : (rest.map fun v => v.category).sum ≤ 8) (hcells : cells ≤ mc ∧ slots ≤ ms) (hdg : decode cc pc = .ok (.invokestatic idx, 3)) {st : List Value} (hst : st = As.reverse ++ rest)
    (kk : W p l e R s m args below meth c H locs cells slots Q (F0 m (pc + 3) ls (.int r :: rest))) : W p l e R s m args below meth c H locs cells slots Q (F0 m pc ls st) := by
  subst hR
  refine vp_callSi (W.runS (As := As) (rest := rest) ⟨hX.hx, hX.hb, hX.hml, hX.hown, hX.hts⟩ hM (va_cwS nA hX.hts hG rfl rfl rfl hd.2 ⟨hroom.1, hroom.2⟩) ⟨hbl, fun U hU hW => ⟨rfl, hB U hU hW⟩⟩ rfl hnA hls hst (lv_room hcat) hdg ⟨hcells.1, hcells.2⟩) (fun r' hr => ?_)
  subst hr
  exact kk
/-- a method without an answer that changes nothing -/
def gMetRV (l : Launch) (y : MethodName) (c : ByteArray) (n : Nat) (lev : Nat) (B : State → Prop) (av : List Value) : Prop :=
  Met l y (wT y c n none) (rmL lev 0 0) (va_Pc av B) (va_Sv (fun _ => True)) 0 0 (fun _ => False)
theorem gEntryRV {y : MethodName} {lev : Nat} {av : List Value} {B0 : State → Prop} (hpl : plainName y.cls = true) (hav : (lg_sl av).length ≤ nL) (hB : ∀ U, B0 U → KS U)
    (body : ∀ (p : Program) (e : Env) (s : State) (m : MethodId) (args : Array Value) (below : List Frame) (meth : Method) (c : Code) (Q : State → Prop) (ls : Array Slot), gX p s m args c cc nL y.cls KS → B0 s → (∀ (pc : Nat) (ls : Array Slot), decode cc pc = .ok (.return_, 1) → W p l e (rmL lev 0 0) s m args below meth c s.heap [] 0 0 Q (F0 m pc ls [])) → lv_has ls nL (lv_args 0 av) → W p l e (rmL lev 0 0) s m args below meth c s.heap [] 0 0 Q (F0 m 0 ls [])) :
    gMetRV l y cc nL lev B0 av := by
  refine Met.ofW (cc := cc) (maxL := nL) (ret := none) hpl rfl ?_
  intro p e s m args below meth c s₁ B hml hv
  obtain ⟨rfl, hP⟩ := hv
  have hlocks := B.notSynchronized
  have hts := atoms_spec (ws := wT y cc nL none) B.pre
  have hown : s.vm.findClass y.cls = some m.cls := findClass_of_methodNamed B.named
  have hl := lv_entry av (n := nL) hav
  rw [lg_entry_eq]
  refine body p e s m _ below meth c _ _ ⟨B.exec, B.bytes, hml, hown, fun w hw => hts w (List.mem_cons_of_mem _ hw), hB _ hP⟩ hP ?_ hl
  intro pc ls hdg
  exact W.vret B.exec B.bytes B.returns (fun t ht hW => ⟨rfl, trivial, ht⟩) (fun q hq => absurd hq List.not_mem_nil) hdg
theorem gCallSRV {y : MethodName} {c' : ByteArray} {n' idx nA : Nat} {lev mc ms : Nat} {As : List Value} {B0 : State → Prop} (hX : gX p s m args c cc nL own KS) (hR : R = rmL lev mc ms) {lev' : Nat} (hM : gMetRV l y c' n' lev' B0 As) (hG : GoodIn TBG (va_wsS own idx y (wT y c' n' none)))
    {C : String} (hd : y.cls = C ∧ y.cls ≠ "java/lang/invoke/MethodHandle" ∧ y.cls ≠ "java/lang/invoke/VarHandle" ∧ (parseMethodDescriptor y.desc).map (fun d => d.parameters.length) = some nA) (hnA : As.length = nA) (hroom : lev' + 1 ≤ lev ∧ 8 + (n' + 11) + 38 * lev' ≤ 38 * lev)
    (hbl : FrameBlind (va_Pc As B0)) (hB : ∀ U : State, U.heap = H → s.WarmedH U.vm → B0 U) (hls : ls.size = nL) (hcat : (rest.map fun v => v.category).sum ≤ 8) (hcells : cells ≤ mc ∧ slots ≤ ms) (hdg : decode cc pc = .ok (.invokestatic idx, 3)) {st : List Value} (hst : st = As.reverse ++ rest)
    (kk : W p l e R s m args below meth c H locs cells slots Q (F0 m (pc + 3) ls rest)) : W p l e R s m args below meth c H locs cells slots Q (F0 m pc ls st) := by
  subst hR
  exact va_csv (W.runS (As := As) (rest := rest) ⟨hX.hx, hX.hb, hX.hml, hX.hown, hX.hts⟩ hM (va_cwS nA hX.hts hG rfl rfl rfl hd.2 ⟨hroom.1, hroom.2⟩) ⟨hbl, fun U hU hW => ⟨rfl, hB U hU hW⟩⟩ rfl hnA hls hst (lv_room hcat) hdg ⟨hcells.1, hcells.2⟩) (fun _ => kk)
/-- what a world gives a callee that changes nothing -/
theorem gB_at {S : X} (hO : gOK P KS) (hX : gX p s m args c cc nL own KS) (hP : P S s H) : ∀ U : State, U.heap = H → s.WarmedH U.vm → gB P KS S U := fun U hU hW => ⟨by rw [hU]; exact hO.1 _ _ _ _ hW.alike hP, hO.2.2 _ _ hW hX.ks⟩
/-- Math.max, Math.min -/
theorem gMax {idx : Nat} {lev mc ms : Nat} {x y : Int32} (hX : gX p s m args c cc nL own KS) (hR : R = rmL lev mc ms) (h1 : Cond.methodLink own idx Lib.Math.max.name ∈ TBG) (h2 : Cond.static Lib.Math.max.name ∈ TBG) (h3 : Cond.initialized "java/lang/Math" ∈ TBG) (h4 : Cond.code Lib.Math.max.name Lib.Math.max.code 2 (some .int) ∈ TBG) (hlev : 1 ≤ lev) (hls : ls.size = nL) (hcat : (rest.map fun v => v.category).sum ≤ 8) (hcells : cells ≤ mc ∧ slots ≤ ms) (hdg : decode cc pc = .ok (.invokestatic idx, 3))
    (kk : W p l e R s m args below meth c H locs cells slots Q (F0 m (pc + 3) ls (.int (if x < y then y else x) :: rest))) : W p l e R s m args below meth c H locs cells slots Q (F0 m pc ls (.int y :: .int x :: rest)) := by
  subst hR
  exact va_mmax hX.hx hX.hb (hX.hml.trans hls.symm) hX.hown (hX.hts _ h1) (hX.hts _ h2) (hX.hts _ h3) (hX.hts _ h4) (by show 1 ≤ lev; omega) (by show _ ≤ 38 * lev; omega) hcells.1 hcells.2 hdg kk
theorem gMin {idx : Nat} {lev mc ms : Nat} {x y : Int32} (hX : gX p s m args c cc nL own KS) (hR : R = rmL lev mc ms) (h1 : Cond.methodLink own idx Lib.Math.min.name ∈ TBG) (h2 : Cond.static Lib.Math.min.name ∈ TBG) (h3 : Cond.initialized "java/lang/Math" ∈ TBG) (h4 : Cond.code Lib.Math.min.name Lib.Math.min.code 2 (some .int) ∈ TBG) (hlev : 1 ≤ lev) (hls : ls.size = nL) (hcat : (rest.map fun v => v.category).sum ≤ 8) (hcells : cells ≤ mc ∧ slots ≤ ms) (hdg : decode cc pc = .ok (.invokestatic idx, 3))
    (kk : W p l e R s m args below meth c H locs cells slots Q (F0 m (pc + 3) ls (.int (if y < x then y else x) :: rest))) : W p l e R s m args below meth c H locs cells slots Q (F0 m pc ls (.int y :: .int x :: rest)) := by
  subst hR
  exact va_mmin hX.hx hX.hb (hX.hml.trans hls.symm) hX.hown (hX.hts _ h1) (hX.hts _ h2) (hX.hts _ h3) (hX.hts _ h4) (by show 1 ≤ lev; omega) (by show _ ≤ 38 * lev; omega) hcells.1 hcells.2 hdg kk
/-- texts: a String of Latin-1 bytes that nothing of the world's own is -/
def strAt (a : Nat) (bs : List Int32) (Ω : Nat → Prop) (U : State) (H : Heap) : Prop := (∀ b ∈ bs, ∃ k : Fin 128, b = Int32.ofNat k.val) ∧ bs.length < 2 ^ 31 ∧ ∃ v, va_O "java/lang/String" a Ω U H ∧ va_OF "java/lang/String" "coder" "B" (.int 0) a Ω U H ∧ va_OF "java/lang/String" "value" "[B" (.ref v) a Ω U H ∧ va_T .byte v bs.length (fun j => .int (bs.getD j 0)) Ω U H
theorem strAt.moved {a : Nat} {bs : List Int32} {u U : State} (hvm : u.vm.Alike U.vm) (h : strAt a bs Ω u H) : strAt a bs Ω U H := by
  obtain ⟨ha, hn, v, h1, h2, h3, h4⟩ := h
  exact ⟨ha, hn, v, h1.moved hvm, h2.moved hvm, h3.moved hvm, h4.moved hvm⟩
theorem strAt.kept {a : Nat} {bs : List Int32} {H1 : Heap} (h : strAt a bs Ω s H) (hq : ∀ a : Nat, a < H.size → ¬ Ω a → H1[a]? = H[a]?) : strAt a bs Ω s H1 := by
  obtain ⟨ha, hn, v, h1, h2, h3, h4⟩ := h
  exact ⟨ha, hn, v, h1.kept hq, h2.kept hq, h3.kept hq, h4.kept hq⟩
theorem strAt.rec {a : Nat} {bs : List Int32} (h : strAt a bs Ω s H) : gRec "java/lang/String" a s H := by
  obtain ⟨-, -, v, ⟨cell, h1, h2, h3, -⟩, -⟩ := h
  exact ⟨cell, h1, h2, h3⟩
/-- String.COMPACT_STRINGS, as it was read -/
def cmpS (Ω : Nat → Prop) (U : State) (H : Heap) : Prop := va_Z "java/lang/String" "COMPACT_STRINGS" "Z" (.int 1) Ω U H ∧ va_Zq "jdk/internal/util/Preconditions" "SIOOBE_FORMATTER" "Ljava/util/function/BiFunction;" Ω U H ∧ vx_Zq Bundle.tN "UNASSIGNED_STACK" Bundle.steD Ω U H ∧ vx_Zq Bundle.tN "SUPPRESSED_SENTINEL" Bundle.listD Ω U H
theorem cmpS.moved {u U : State} (hvm : u.vm.Alike U.vm) (h : cmpS Ω u H) : cmpS Ω U H := ⟨va_Z.moved hvm h.1, va_Zq.moved hvm h.2.1, vx_Zq.moved hvm h.2.2.1, vx_Zq.moved hvm h.2.2.2⟩
theorem cmpS.kept {H1 : Heap} (h : cmpS Ω s H) (hq : ∀ a : Nat, a < H.size → ¬ Ω a → H1[a]? = H[a]?) : cmpS Ω s H1 := ⟨va_Z.kept h.1 hq, va_Zq.kept h.2.1 hq, vx_Zq.kept h.2.2.1 hq, vx_Zq.kept h.2.2.2 hq⟩
end ENG
