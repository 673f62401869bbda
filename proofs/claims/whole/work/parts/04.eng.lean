/-! THE ENGINE: words of every method out of one list, contracts over a world that a value of a type X lays out, entry, return, calls. -/
def TBG : List Cond := lw_tbl.filter goodWord
theorem tb_t {w : Cond} (i : Nat) (h : tables_1[i]? = some w) (g : goodWord w = true) : w ∈ TBG := List.mem_filter.mpr ⟨List.mem_append_right _ (List.mem_of_getElem? h), g⟩
theorem tb_s {q : MethodName × Nat} (i : Nat) (h : lw_privs[i]? = some q) (g : goodWord (.selects q.1.cls q.1 q.1) = true) : Cond.selects q.1.cls q.1 q.1 ∈ TBG := List.mem_filter.mpr ⟨List.mem_append_left _ (List.mem_map.mpr ⟨q, List.mem_of_getElem? h, rfl⟩), g⟩
theorem tb_good {w : Cond} (h : w ∈ TBG) : (w.onTables && w.keeps) = true ∨ ∃ ty, w = .arrayClass ty := good_of_word (List.mem_filter.mp h).2
def wT (y : MethodName) (c : ByteArray) (n : Nat) (r : Option FieldType) : List Cond := .code y c n r :: TBG
theorem wT_in {x y : MethodName} {c c' : ByteArray} {n n' : Nat} {r r' : Option FieldType} (h : Cond.code y c n r ∈ TBG) : ∀ w ∈ wT y c n r, w ∈ wT x c' n' r' := fun w hw => by
  rcases List.mem_cons.mp hw with rfl | hw
  · exact List.mem_cons_of_mem _ h
  · exact List.mem_cons_of_mem _ hw
theorem wT_good {y : MethodName} {c : ByteArray} {n : Nat} {r : Option FieldType} (h : Cond.code y c n r ∈ TBG) : GoodIn TBG (wT y c n r) := fun w hw => by
  rcases List.mem_cons.mp hw with rfl | hw
  · exact ⟨h, tb_good h⟩
  · exact ⟨hw, tb_good hw⟩
theorem gT_V {own C : String} {idx : Nat} {y : MethodName} {c : ByteArray} {n : Nat} {r : Option FieldType} (h1 : Cond.methodLink own idx y ∈ TBG) (h2 : Cond.instanceMethod y ∈ TBG) (h3 : Cond.selects C y y ∈ TBG) (h4 : Cond.initialized C ∈ TBG) (h5 : Cond.code y c n r ∈ TBG) : GoodIn TBG (wsV own idx C y (wT y c n r)) := fun w hw => by
  unfold wsV at hw
  rcases List.mem_append.mp hw with hw | hw
  · simp only [List.mem_cons, List.not_mem_nil, or_false] at hw
    rcases hw with rfl | rfl | rfl | rfl
    · exact ⟨h1, tb_good h1⟩
    · exact ⟨h2, tb_good h2⟩
    · exact ⟨h3, tb_good h3⟩
    · exact ⟨h4, tb_good h4⟩
  · exact wT_good h5 w hw
theorem gT_S {own : String} {idx : Nat} {y : MethodName} {c : ByteArray} {n : Nat} {r : Option FieldType} (h1 : Cond.methodLink own idx y ∈ TBG) (h2 : Cond.static y ∈ TBG) (h4 : Cond.initialized own ∈ TBG) (h5 : Cond.code y c n r ∈ TBG) : GoodIn TBG (wsS own idx y (wT y c n r)) := fun w hw => by
  unfold wsS at hw
  rcases List.mem_append.mp hw with hw | hw
  · simp only [List.mem_cons, List.not_mem_nil, or_false] at hw
    rcases hw with rfl | rfl | rfl
    · exact ⟨h1, tb_good h1⟩
    · exact ⟨h2, tb_good h2⟩
    · exact ⟨h4, tb_good h4⟩
  · exact wT_good h5 w hw
/-- the room of a method at a height of the call tree -/
abbrev rmL (lev mc ms : Nat) : Room := { frames := 2 * lev, cells := mc, slots := ms, locals := 60 * lev }
/-- what a walk has at hand -/
def gX (p : Program) (s : State) (m : MethodId) (args : Array Value) (c : Code) (cc : ByteArray) (nL : Nat) (own : String) (D : va_G) (tys : List (ClassId × FieldType)) (A : Nat → Prop) : Prop :=
  p.tables.exec = Jvm.exec ∧ c.code = cc ∧ c.maxLocals = nL ∧ s.vm.findClass own = some m.cls ∧ (∀ w ∈ TBG, w.before args s = true) ∧ va_K D vwCl tys s ∧ ∀ q, s.heap.size ≤ q → A q
section ENG
variable {X : Type}
def gPre (D : va_G) (tys : List (ClassId × FieldType)) (w : X → va_W) (S : X) (sz : Nat) : State → Prop := fun U => U.heap.size = sz ∧ va_P D vwCl (w S) U.heap ∧ va_K D vwCl tys U ∧ va_D (fun _ => True) (w S)
def gPost (D : va_G) (tys : List (ClassId × FieldType)) (w : X → va_W) (A : Nat → Prop) : X → State → Prop := fun u t => va_P D vwCl (w u) t.heap ∧ va_K D vwCl tys t ∧ va_D A (w u)
/-- a method that answers an int (or a boolean) and leaves the world of S1 -/
def gMetI (l : Launch) (y : MethodName) (c : ByteArray) (n : Nat) (ret : Option FieldType) (lev : Nat) (D : va_G) (tys : List (ClassId × FieldType)) (w : X → va_W) (av : List Value) (S : X) (r : Int32) (S1 : X) : Prop :=
  ∀ sz, Met l y (wT y c n ret) (rmL lev 0 0) (va_Pc av (gPre D tys w S sz)) (va_Qi (fun (r' : Int32) (u : X) => r' = r ∧ u = S1) (gPost D tys w (va_A (w S) sz)) (va_A (w S) sz)) 0 0 (va_A (w S) sz)
/-- a method without an answer -/
def gMetV (l : Launch) (y : MethodName) (c : ByteArray) (n : Nat) (lev : Nat) (D : va_G) (tys : List (ClassId × FieldType)) (w : X → va_W) (av : List Value) (S : X) (S1 : X) : Prop :=
  ∀ sz, Met l y (wT y c n none) (rmL lev 0 0) (va_Pc av (gPre D tys w S sz)) (va_Qv (fun (u : X) => u = S1) (gPost D tys w (va_A (w S) sz)) (va_A (w S) sz)) 0 0 (va_A (w S) sz)
/-- the places of a world's addresses don't hang on what it holds -/
def gFix (w : X → va_W) : Prop := ∀ S S', (w S).map Prod.fst = (w S').map Prod.fst
theorem gFix_at {w : X → va_W} (h : gFix w) (S S' : X) {k : Nat} {q : Nat × va_E} (hk : (w S)[k]? = some q) : ∃ e, (w S')[k]? = some (q.1, e) := by
  have h1 : ((w S).map Prod.fst)[k]? = some q.1 := by rw [List.getElem?_map, hk]; rfl
  rw [h S S', List.getElem?_map] at h1
  cases h2 : (w S')[k]? with
  | none => rw [h2] at h1; cases h1
  | some z =>
    rw [h2] at h1
    refine ⟨z.2, ?_⟩
    have h3 : z.1 = q.1 := Option.some.inj h1
    rw [← h3]
theorem gFix_D {w : X → va_W} (h : gFix w) {A : Nat → Prop} {S : X} (hD : va_D A (w S)) (S' : X) : va_D A (w S') := by
  refine ⟨fun i j p q hi hj hpq => ?_, fun k q hk => ?_⟩
  · obtain ⟨e1, h1⟩ := gFix_at h S' S hi
    obtain ⟨e2, h2⟩ := gFix_at h S' S hj
    exact hD.1 i j _ _ h1 h2 hpq
  · obtain ⟨e1, h1⟩ := gFix_at h S' S hk
    exact hD.2 k (q.1, e1) h1
variable {p : Program} {l : Launch} {e : Env} {R : Room} {s : State} {m : MethodId} {args : Array Value} {below : List Frame} {meth : Method} {c : Code} {H : Heap} {locs : List Loc} {cells slots : Nat} {Q : State → Prop}
variable {cc : ByteArray} {pc nL : Nat} {ls : Array Slot} {rest : List Value} {D : va_G} {A : Nat → Prop} {tys : List (ClassId × FieldType)} {own : String} {w : X → va_W}
theorem gX.hx (h : gX p s m args c cc nL own D tys A) : p.tables.exec = Jvm.exec := h.1
theorem gX.hb (h : gX p s m args c cc nL own D tys A) : c.code = cc := h.2.1
theorem gX.hml (h : gX p s m args c cc nL own D tys A) : c.maxLocals = nL := h.2.2.1
theorem gX.hown (h : gX p s m args c cc nL own D tys A) : s.vm.findClass own = some m.cls := h.2.2.2.1
theorem gX.hts (h : gX p s m args c cc nL own D tys A) : ∀ w ∈ TBG, w.before args s = true := h.2.2.2.2.1
theorem gX.hK (h : gX p s m args c cc nL own D tys A) : va_K D vwCl tys s := h.2.2.2.2.2.1
theorem gX.hA (h : gX p s m args c cc nL own D tys A) : ∀ q, s.heap.size ≤ q → A q := h.2.2.2.2.2.2
/-- what is left to show where a method returns r in the world of S1 -/
def gRetI (p : Program) (l : Launch) (e : Env) (R : Room) (s : State) (m : MethodId) (args : Array Value) (below : List Frame) (meth : Method) (c : Code) (cc : ByteArray) (D : va_G) (A : Nat → Prop) (w : X → va_W) (Q : State → Prop) (r : Int32) (S1 : X) : Prop :=
  ∀ (pc : Nat) (ls : Array Slot) (H : Heap) (locs : List Loc), decode cc pc = .ok (.ireturn, 1) → va_P D vwCl (w S1) H → va_S A s.heap H locs → W p l e R s m args below meth c H locs 0 0 Q (F0 m pc ls [.int r])
def gRetV (p : Program) (l : Launch) (e : Env) (R : Room) (s : State) (m : MethodId) (args : Array Value) (below : List Frame) (meth : Method) (c : Code) (cc : ByteArray) (D : va_G) (A : Nat → Prop) (w : X → va_W) (Q : State → Prop) (S1 : X) : Prop :=
  ∀ (pc : Nat) (ls : Array Slot) (H : Heap) (locs : List Loc), decode cc pc = .ok (.return_, 1) → va_P D vwCl (w S1) H → va_S A s.heap H locs → W p l e R s m args below meth c H locs 0 0 Q (F0 m pc ls [])
/-- a contract out of the walk of its body -/
theorem gEntryI {y : MethodName} {ret : Option FieldType} {ty : FieldType} {lev : Nat} {av : List Value} {S S1 : X} {r : Int32} (hpl : plainName y.cls = true) (hret : ret = some ty) (hn : narrow ty (.int r) = .int r) (hfx : gFix w) (hav : (lg_sl av).length ≤ nL)
    (body : ∀ (p : Program) (e : Env) (s : State) (m : MethodId) (args : Array Value) (below : List Frame) (meth : Method) (c : Code) (A : Nat → Prop) (Q : State → Prop) (ls : Array Slot), gX p s m args c cc nL y.cls D tys A → (∀ S, va_D A (w S)) → va_P D vwCl (w S) s.heap → va_S A s.heap s.heap [] → gRetI p l e (rmL lev 0 0) s m args below meth c cc D A w Q r S1 → lv_has ls nL (lv_args 0 av) → W p l e (rmL lev 0 0) s m args below meth c s.heap [] 0 0 Q (F0 m 0 ls [])) :
    gMetI l y cc nL ret lev D tys w av S r S1 := by
  intro sz
  refine Met.ofW (cc := cc) (maxL := nL) (ret := ret) hpl rfl ?_
  intro p e s m args below meth c s₁ B hml hv
  obtain ⟨rfl, hsz, hP, hK, hD0⟩ := hv
  subst hsz
  have hlocks := B.notSynchronized
  have hts := atoms_spec (ws := wT y cc nL ret) B.pre
  have hown : s.vm.findClass y.cls = some m.cls := findClass_of_methodNamed B.named
  have hD := hD0.self (sz := s.heap.size)
  generalize hAe : va_A (w S) s.heap.size = A at hD ⊢
  have hA : ∀ q : Nat, s.heap.size ≤ q → A q := fun q h => by rw [← hAe]; exact Or.inr h
  have hl := lv_entry av (n := nL) hav
  rw [lg_entry_eq]
  refine body p e s m _ below meth c A _ _ ⟨B.exec, B.bytes, hml, hown, fun w hw => hts w (List.mem_cons_of_mem _ hw), hK, hA⟩ (gFix_D hfx hD) hP va_S.rf ?_ hl
  intro pc ls H locs hdg hP1 hS1
  refine W.zret (v := r) (ty := ty) B.exec B.bytes (by rw [B.returns, hret]) hn (fun t ht hW => ⟨⟨r, S1, rfl, ⟨rfl, rfl⟩, by rw [ht]; exact hP1, va_K.moved hW.alike hK, gFix_D hfx hD S1⟩, hS1.F ht⟩) hS1.2.2 hdg
theorem gEntryV {y : MethodName} {lev : Nat} {av : List Value} {S S1 : X} (hpl : plainName y.cls = true) (hfx : gFix w) (hav : (lg_sl av).length ≤ nL)
    (body : ∀ (p : Program) (e : Env) (s : State) (m : MethodId) (args : Array Value) (below : List Frame) (meth : Method) (c : Code) (A : Nat → Prop) (Q : State → Prop) (ls : Array Slot), gX p s m args c cc nL y.cls D tys A → (∀ S, va_D A (w S)) → va_P D vwCl (w S) s.heap → va_S A s.heap s.heap [] → gRetV p l e (rmL lev 0 0) s m args below meth c cc D A w Q S1 → lv_has ls nL (lv_args 0 av) → W p l e (rmL lev 0 0) s m args below meth c s.heap [] 0 0 Q (F0 m 0 ls [])) :
    gMetV l y cc nL lev D tys w av S S1 := by
  intro sz
  refine Met.ofW (cc := cc) (maxL := nL) (ret := none) hpl rfl ?_
  intro p e s m args below meth c s₁ B hml hv
  obtain ⟨rfl, hsz, hP, hK, hD0⟩ := hv
  subst hsz
  have hlocks := B.notSynchronized
  have hts := atoms_spec (ws := wT y cc nL none) B.pre
  have hown : s.vm.findClass y.cls = some m.cls := findClass_of_methodNamed B.named
  have hD := hD0.self (sz := s.heap.size)
  generalize hAe : va_A (w S) s.heap.size = A at hD ⊢
  have hA : ∀ q : Nat, s.heap.size ≤ q → A q := fun q h => by rw [← hAe]; exact Or.inr h
  have hl := lv_entry av (n := nL) hav
  rw [lg_entry_eq]
  refine body p e s m _ below meth c A _ _ ⟨B.exec, B.bytes, hml, hown, fun w hw => hts w (List.mem_cons_of_mem _ hw), hK, hA⟩ (gFix_D hfx hD) hP va_S.rf ?_ hl
  intro pc ls H locs hdg hP1 hS1
  refine W.vret B.exec B.bytes B.returns (fun t ht hW => ⟨⟨S1, rfl, rfl, by rw [ht]; exact hP1, va_K.moved hW.alike hK, gFix_D hfx hD S1⟩, hS1.F ht⟩) hS1.2.2 hdg
theorem gFree {S : X} {H0 : Heap} (hD : va_D A (w S)) (hS : va_S A H0 H locs) (hA : ∀ q, H0.size ≤ q → A q) : ∀ q, va_A (w S) H.size q → A q := fun q h => by
  rcases h with ⟨k, e, h⟩ | h
  · exact hD.2 k _ h
  · exact hA q (Nat.le_trans hS.1 h)
theorem gPre_blind {S : X} {sz : Nat} {av : List Value} : FrameBlind (va_Pc av (gPre D tys w S sz)) := fun a U g mk q => by
  obtain ⟨q0, q1, qP, qK, qD⟩ := q
  exact ⟨q0, q1, qP, va_K.moved (u := U) (U := U.calling g mk a) (Vm.Alike.refl U.vm) qK, qD⟩
/-- a call of an instance method that answers an int -/
theorem gCallVI {y : MethodName} {c' : ByteArray} {n' idx k0 nA ci : Nat} {ret : Option FieldType} {lev mc ms : Nat} {C : String} {T : u_T} {N : Nat} {b : Nat} {fs : List Value} {As : List Value} {S S1 : X} {r : Int32} (hX : gX p s m args c cc nL own D tys A) (hDA : ∀ S, va_D A (w S)) (hR : R = rmL lev mc ms) {lev' : Nat} (hM : gMetI l y c' n' ret lev' D tys w (.ref b :: As) S r S1) (hG : GoodIn TBG (wsV own idx C y (wT y c' n' ret)))
    (hd : y.cls = C ∧ y.cls ≠ "java/lang/invoke/MethodHandle" ∧ y.cls ≠ "java/lang/invoke/VarHandle" ∧ (parseMethodDescriptor y.desc).map (fun d => d.parameters.length) = some nA) (hnA : As.length = nA) (hroom : 2 * lev' + 1 ≤ 2 * lev ∧ 8 + (n' + 11) + 60 * lev' ≤ 60 * lev)
    (hP : va_P D vwCl (w S) H) (hS : va_S A s.heap H locs) (hrec : (w S)[k0]? = some (b, .inr (ci, fs))) (hci : vwCl[ci]? = some (C, T, N)) (hls : ls.size = nL) (hcat : (rest.map fun v => v.category).sum ≤ 8) (hcells : cells ≤ mc ∧ slots ≤ ms) (hdg : decode cc pc = .ok (.invokevirtual idx, 3)) {st : List Value} (hst : st = As.reverse ++ .ref b :: rest)
    (kk : ∀ (H1 : Heap) (locs1 : List Loc), va_P D vwCl (w S1) H1 → va_S A s.heap H1 locs1 → W p l e R s m args below meth c H1 locs1 cells slots Q (F0 m (pc + 3) ls (.int r :: rest))) : W p l e R s m args below meth c H locs cells slots Q (F0 m pc ls st) := by
  have hFc := gFree (hDA S) hS hX.hA
  subst hR
  refine va_calli (va_runV (As := As) (rest := rest) ⟨hX.hx, hX.hb, hX.hml, hX.hown, hX.hts⟩ (hM H.size) (cwV nA hX.hts hG rfl rfl rfl hd ⟨hroom.1, hroom.2⟩) ⟨gPre_blind, va_recv hX.hK hP hci hrec, fun U hU hW => ⟨rfl, by rw [hU], by rw [hU]; exact hP, va_K.moved hW.alike hX.hK, (hDA S).weaken (fun _ _ _ _ => trivial)⟩⟩ rfl hnA hls hst (lv_room hcat) hdg ⟨hcells.1, hcells.2⟩) hS (fun q _ h => hFc q h) hFc (fun r' u t H1 locs1 ht hvm hw hB hz1 hk1 hS1 => ?_)
  obtain ⟨rfl, rfl⟩ := hw
  obtain ⟨hP1, -, -⟩ := hB
  rw [ht] at hP1
  exact kk H1 locs1 hP1 hS1
theorem gCallVV {y : MethodName} {c' : ByteArray} {n' idx k0 nA ci : Nat} {lev mc ms : Nat} {C : String} {T : u_T} {N : Nat} {b : Nat} {fs : List Value} {As : List Value} {S S1 : X} (hX : gX p s m args c cc nL own D tys A) (hDA : ∀ S, va_D A (w S)) (hR : R = rmL lev mc ms) {lev' : Nat} (hM : gMetV l y c' n' lev' D tys w (.ref b :: As) S S1) (hG : GoodIn TBG (wsV own idx C y (wT y c' n' none)))
    (hd : y.cls = C ∧ y.cls ≠ "java/lang/invoke/MethodHandle" ∧ y.cls ≠ "java/lang/invoke/VarHandle" ∧ (parseMethodDescriptor y.desc).map (fun d => d.parameters.length) = some nA) (hnA : As.length = nA) (hroom : 2 * lev' + 1 ≤ 2 * lev ∧ 8 + (n' + 11) + 60 * lev' ≤ 60 * lev)
    (hP : va_P D vwCl (w S) H) (hS : va_S A s.heap H locs) (hrec : (w S)[k0]? = some (b, .inr (ci, fs))) (hci : vwCl[ci]? = some (C, T, N)) (hls : ls.size = nL) (hcat : (rest.map fun v => v.category).sum ≤ 8) (hcells : cells ≤ mc ∧ slots ≤ ms) (hdg : decode cc pc = .ok (.invokevirtual idx, 3)) {st : List Value} (hst : st = As.reverse ++ .ref b :: rest)
    (kk : ∀ (H1 : Heap) (locs1 : List Loc), va_P D vwCl (w S1) H1 → va_S A s.heap H1 locs1 → W p l e R s m args below meth c H1 locs1 cells slots Q (F0 m (pc + 3) ls rest)) : W p l e R s m args below meth c H locs cells slots Q (F0 m pc ls st) := by
  have hFc := gFree (hDA S) hS hX.hA
  subst hR
  refine va_callv (va_runV (As := As) (rest := rest) ⟨hX.hx, hX.hb, hX.hml, hX.hown, hX.hts⟩ (hM H.size) (cwV nA hX.hts hG rfl rfl rfl hd ⟨hroom.1, hroom.2⟩) ⟨gPre_blind, va_recv hX.hK hP hci hrec, fun U hU hW => ⟨rfl, by rw [hU], by rw [hU]; exact hP, va_K.moved hW.alike hX.hK, (hDA S).weaken (fun _ _ _ _ => trivial)⟩⟩ rfl hnA hls hst (lv_room hcat) hdg ⟨hcells.1, hcells.2⟩) hS (fun q _ h => hFc q h) hFc (fun u t H1 locs1 ht hvm hw hB hz1 hk1 hS1 => ?_)
  obtain rfl := hw
  obtain ⟨hP1, -, -⟩ := hB
  rw [ht] at hP1
  exact kk H1 locs1 hP1 hS1
/-- a call of a static method of the own class -/
theorem gCallSI {y : MethodName} {c' : ByteArray} {n' idx nA : Nat} {ret : Option FieldType} {lev mc ms : Nat} {As : List Value} {S S1 : X} {r : Int32} (hX : gX p s m args c cc nL own D tys A) (hDA : ∀ S, va_D A (w S)) (hR : R = rmL lev mc ms) {lev' : Nat} (hM : gMetI l y c' n' ret lev' D tys w As S r S1) (hG : GoodIn TBG (wsS own idx y (wT y c' n' ret)))
    (hd : y.cls = own ∧ y.cls ≠ "java/lang/invoke/MethodHandle" ∧ y.cls ≠ "java/lang/invoke/VarHandle" ∧ (parseMethodDescriptor y.desc).map (fun d => d.parameters.length) = some nA) (hnA : As.length = nA) (hroom : 2 * lev' + 1 ≤ 2 * lev ∧ 8 + (n' + 11) + 60 * lev' ≤ 60 * lev)
    (hP : va_P D vwCl (w S) H) (hS : va_S A s.heap H locs) (hls : ls.size = nL) (hcat : (rest.map fun v => v.category).sum ≤ 8) (hcells : cells ≤ mc ∧ slots ≤ ms) (hdg : decode cc pc = .ok (.invokestatic idx, 3)) {st : List Value} (hst : st = As.reverse ++ rest)
    (kk : ∀ (H1 : Heap) (locs1 : List Loc), va_P D vwCl (w S1) H1 → va_S A s.heap H1 locs1 → W p l e R s m args below meth c H1 locs1 cells slots Q (F0 m (pc + 3) ls (.int r :: rest))) : W p l e R s m args below meth c H locs cells slots Q (F0 m pc ls st) := by
  have hFc := gFree (hDA S) hS hX.hA
  subst hR
  refine va_calli (va_runS (As := As) (rest := rest) ⟨hX.hx, hX.hb, hX.hml, hX.hown, hX.hts⟩ (hM H.size) (cwS nA hX.hts hG rfl rfl rfl hd ⟨hroom.1, hroom.2⟩) ⟨gPre_blind, fun U hU hW => ⟨rfl, by rw [hU], by rw [hU]; exact hP, va_K.moved hW.alike hX.hK, (hDA S).weaken (fun _ _ _ _ => trivial)⟩⟩ rfl hnA hls hst (lv_room hcat) hdg ⟨hcells.1, hcells.2⟩) hS (fun q _ h => hFc q h) hFc (fun r' u t H1 locs1 ht hvm hw hB hz1 hk1 hS1 => ?_)
  obtain ⟨rfl, rfl⟩ := hw
  obtain ⟨hP1, -, -⟩ := hB
  rw [ht] at hP1
  exact kk H1 locs1 hP1 hS1
theorem gCallSV {y : MethodName} {c' : ByteArray} {n' idx nA : Nat} {lev mc ms : Nat} {As : List Value} {S S1 : X} (hX : gX p s m args c cc nL own D tys A) (hDA : ∀ S, va_D A (w S)) (hR : R = rmL lev mc ms) {lev' : Nat} (hM : gMetV l y c' n' lev' D tys w As S S1) (hG : GoodIn TBG (wsS own idx y (wT y c' n' none)))
    (hd : y.cls = own ∧ y.cls ≠ "java/lang/invoke/MethodHandle" ∧ y.cls ≠ "java/lang/invoke/VarHandle" ∧ (parseMethodDescriptor y.desc).map (fun d => d.parameters.length) = some nA) (hnA : As.length = nA) (hroom : 2 * lev' + 1 ≤ 2 * lev ∧ 8 + (n' + 11) + 60 * lev' ≤ 60 * lev)
    (hP : va_P D vwCl (w S) H) (hS : va_S A s.heap H locs) (hls : ls.size = nL) (hcat : (rest.map fun v => v.category).sum ≤ 8) (hcells : cells ≤ mc ∧ slots ≤ ms) (hdg : decode cc pc = .ok (.invokestatic idx, 3)) {st : List Value} (hst : st = As.reverse ++ rest)
    (kk : ∀ (H1 : Heap) (locs1 : List Loc), va_P D vwCl (w S1) H1 → va_S A s.heap H1 locs1 → W p l e R s m args below meth c H1 locs1 cells slots Q (F0 m (pc + 3) ls rest)) : W p l e R s m args below meth c H locs cells slots Q (F0 m pc ls st) := by
  have hFc := gFree (hDA S) hS hX.hA
  subst hR
  refine va_callv (va_runS (As := As) (rest := rest) ⟨hX.hx, hX.hb, hX.hml, hX.hown, hX.hts⟩ (hM H.size) (cwS nA hX.hts hG rfl rfl rfl hd ⟨hroom.1, hroom.2⟩) ⟨gPre_blind, fun U hU hW => ⟨rfl, by rw [hU], by rw [hU]; exact hP, va_K.moved hW.alike hX.hK, (hDA S).weaken (fun _ _ _ _ => trivial)⟩⟩ rfl hnA hls hst (lv_room hcat) hdg ⟨hcells.1, hcells.2⟩) hS (fun q _ h => hFc q h) hFc (fun u t H1 locs1 ht hvm hw hB hz1 hk1 hS1 => ?_)
  obtain rfl := hw
  obtain ⟨hP1, -, -⟩ := hB
  rw [ht] at hP1
  exact kk H1 locs1 hP1 hS1
/-- Math.max, Math.min -/
theorem gMax {idx : Nat} {lev mc ms : Nat} {x y : Int32} (hX : gX p s m args c cc nL own D tys A) (hR : R = rmL lev mc ms) (h1 : Cond.methodLink own idx Lib.Math.max.name ∈ TBG) (h2 : Cond.static Lib.Math.max.name ∈ TBG) (h3 : Cond.initialized "java/lang/Math" ∈ TBG) (h4 : Cond.code Lib.Math.max.name Lib.Math.max.code 2 (some .int) ∈ TBG) (hlev : 1 ≤ lev) (hls : ls.size = nL) (hcat : (rest.map fun v => v.category).sum ≤ 8) (hcells : cells ≤ mc ∧ slots ≤ ms) (hdg : decode cc pc = .ok (.invokestatic idx, 3))
    (kk : W p l e R s m args below meth c H locs cells slots Q (F0 m (pc + 3) ls (.int (if x < y then y else x) :: rest))) : W p l e R s m args below meth c H locs cells slots Q (F0 m pc ls (.int y :: .int x :: rest)) := by
  subst hR
  exact va_mmax hX.hx hX.hb (hX.hml.trans hls.symm) hX.hown (hX.hts _ h1) (hX.hts _ h2) (hX.hts _ h3) (hX.hts _ h4) (by show 1 ≤ 2 * lev; omega) (by show _ ≤ 60 * lev; omega) hcells.1 hcells.2 hdg kk
theorem gMin {idx : Nat} {lev mc ms : Nat} {x y : Int32} (hX : gX p s m args c cc nL own D tys A) (hR : R = rmL lev mc ms) (h1 : Cond.methodLink own idx Lib.Math.min.name ∈ TBG) (h2 : Cond.static Lib.Math.min.name ∈ TBG) (h3 : Cond.initialized "java/lang/Math" ∈ TBG) (h4 : Cond.code Lib.Math.min.name Lib.Math.min.code 2 (some .int) ∈ TBG) (hlev : 1 ≤ lev) (hls : ls.size = nL) (hcat : (rest.map fun v => v.category).sum ≤ 8) (hcells : cells ≤ mc ∧ slots ≤ ms) (hdg : decode cc pc = .ok (.invokestatic idx, 3))
    (kk : W p l e R s m args below meth c H locs cells slots Q (F0 m (pc + 3) ls (.int (if y < x then y else x) :: rest))) : W p l e R s m args below meth c H locs cells slots Q (F0 m pc ls (.int y :: .int x :: rest)) := by
  subst hR
  exact va_mmin hX.hx hX.hb (hX.hml.trans hls.symm) hX.hown (hX.hts _ h1) (hX.hts _ h2) (hX.hts _ h3) (hX.hts _ h4) (by show 1 ≤ 2 * lev; omega) (by show _ ≤ 60 * lev; omega) hcells.1 hcells.2 hdg kk
end ENG
