/-! the throw of an exception whose constructor names its superclass by another index -/
def nxB : ByteArray := ⟨#[0x2a, 0x2b, 0xb7, 0x00, 0x0d, 0xb1]⟩
theorem nxB_0 : decode nxB 0 = .ok (.aload_n 0, 1) := by decide +kernel
theorem nxB_1 : decode nxB 1 = .ok (.aload_n 1, 1) := by decide +kernel
theorem nxB_2 : decode nxB 2 = .ok (.invokespecial 13, 3) := by decide +kernel
theorem nxB_5 : decode nxB 5 = .ok (.return_, 1) := by decide +kernel
/-- the first link by index 13, the links behind it as everywhere -/
def nxChain (X : String) (names : List String) : List Cond :=
  Bundle.passSAtoms X (names.headD Bundle.tN) 13 nxB ++ match names with
    | [] => []
    | Y :: r => Bundle.chainSAtoms Y r
theorem nx_chain {args : Array Value} {s : State} {pl : Platform} (hpl : pl.magicAccessors = ({} : Platform).magicAccessors) {top : MethodId} (htop : s.methodNamed? (Bundle.initS Bundle.tN) = some top) {names : List String} {X : String} (hX : Bundle.fit X = true) (hn : ∀ n ∈ names, Bundle.fit n = true) (h : ∀ c ∈ nxChain X names, c.before args s = true) :
    ∃ (P : PassC) (Ps : List PassC), Ps.length = names.length ∧ (∀ Q ∈ P :: Ps, PassC.LinksS Q pl s) ∧ s.methodNamed? (Bundle.initS X) = some P.m ∧ PassesOn top ((P :: Ps).map (·.toPassT)) := by
  have hY : Bundle.fit (names.headD Bundle.tN) = true := by
    cases names with
    | nil => decide
    | cons Y r => exact hn Y (.head _)
  obtain ⟨P, lP, nP, sP⟩ := PassC.ofS_atoms (args := args) (s := s) hpl (Bundle.fit_spec hX).1 (Bundle.fit_spec hY).2 nxB_0 nxB_1 nxB_2 nxB_5 (fun c hc => h c (List.mem_append_left _ hc))
  revert hn h sP hY
  cases names with
  | nil =>
    intro _ _ _ sP
    refine ⟨P, [], rfl, fun Q hQ => ?_, nP, ?_, trivial⟩
    · obtain rfl := List.mem_singleton.mp hQ
      exact lP
    · exact (Option.some.inj (htop.symm.trans sP)).symm
  | cons Y r =>
    intro hn h _ sP
    obtain ⟨Q, Qs, e1, lQ, lQs, nQ, e2⟩ := Bundle.chainS (args := args) hpl htop r Y (hn Y (.head _)) (fun n hm => hn n (.tail _ hm)) (fun c hc => h c (List.mem_append_right _ hc))
    refine ⟨P, Q :: Qs, congrArg Nat.succ e1, fun Z hZ => ?_, nP, Option.some.inj (sP.symm.trans nQ), e2⟩
    cases hZ with
    | head => exact lP
    | tail _ hZ => cases hZ with
      | head => exact lQ
      | tail _ hZ => exact lQs Z hZ
/-- the fields of Throwable that a thrown object has, with their types -/
def nxFs : List (String × String) := [("detailMessage", "Ljava/lang/String;"), ("cause", "Ljava/lang/Throwable;"), ("stackTrace", Bundle.steD), ("suppressedExceptions", Bundle.listD), ("backtrace", "Ljava/lang/Object;")]
def nxOwn (own : String) (ic : Nat) (X : String) : List Cond :=
  [.instantiable X 6, .castable X X, .methodLink own ic (Bundle.initS X), .fieldLink Bundle.tN 198 Bundle.tN "backtrace" "Ljava/lang/Object;", .lays Bundle.tN Bundle.tN "backtrace" "Ljava/lang/Object;"] ++
  [Bundle.tFill, Bundle.tFill0].map (fun t => .selects X t t) ++ nxFs.map (fun d => .lays X Bundle.tN d.1 d.2) ++ [("UNASSIGNED_STACK", Bundle.steD), ("SUPPRESSED_SENTINEL", Bundle.listD)].map (fun d => .isRef (.static Bundle.tN d.1 d.2))
def nxAtoms (own : String) (ic : Nat) (X : String) (names : List String) : List Cond := nxOwn own ic X ++ nxChain X names ++ (Bundle.throwableAtoms ++ Bundle.throwableSAtoms)
def nx_atS (own : String) (ic : Nat) (X : String) (names : List String) : List Cond := (nxAtoms own ic X names).filter vx_no
section NXF
variable {args : Array Value} {s : State} {C : Nat} {K : Class} {f g : Field}
/-- class C lays Throwable's field f at f's own place -/
def nx_lies (s : State) (C : Nat) (K : Class) (f : Field) : Prop := K.instanceTypes[f.slot]? = some f.type ∧ ∃ d : Class × Field, Jmm.declares? s.vm f.slot (C + 1) C = some d ∧ d.2.name = f.name
theorem nx_apart (h : nx_lies s C K f) (h' : nx_lies s C K g) (n : f.name ≠ g.name) : f.slot ≠ g.slot := by
  obtain ⟨-, d, k1, k2⟩ := h
  obtain ⟨-, d', k3, k4⟩ := h'
  exact Cond.laysApart k1 k3 k2 k4 n
theorem nx_sel {p : Program} {l : Launch} {e : Env} {R : Room} {m : MethodId} {below : List Frame} {meth : Method} {c : Code} {W : State} {locs : List Loc} {cells slots : Nat} (X : Stand p l e R s m args below meth c W locs cells slots) {N : String} {t : MethodName} {y : MethodId}
    (hw : (Cond.selects N t t).before args s = true) (hC : s.vm.findClass N = some C) (hy : s.methodNamed? t = some y) (ho : t.cls ≠ "java/lang/invoke/MethodHandle" ∧ t.cls ≠ "java/lang/invoke/VarHandle") : selectMethod e.platform s.vm C y = .method y := by
  obtain ⟨C', y1, y2, k1, k2, k3, k4, -⟩ := Cond.selects_spec hw
  rw [State.methodFound?_of_named hy ho] at k2
  rw [hy] at k3
  rw [hC] at k1
  cases k1
  cases k2
  cases k3
  exact (Launch.admits_selectMethod X.admits _ _ _).trans k4
end NXF
section NX
variable {p : Program} {l : Launch} {e : Env} {R : Room} {s : State} {m₀ : MethodId} {args : Array Value} {below : List Frame} {meth : Method} {c : Code} {W : State} {cells slots : Nat}
/-- what Throwable's two statics hold, as they stand in W -/
theorem nx_stat (X : Stand p l e R s m₀ args below meth c W [] cells slots) {T : ThrowableC} {Z : Init0T} (L : T.Links e.platform s) (Y : Bundle.Ties T Z s)
    (hU : (Cond.isRef (.static Bundle.tN "UNASSIGNED_STACK" Bundle.steD)).before args s = true) (hN : (Cond.isRef (.static Bundle.tN "SUPPRESSED_SENTINEL" Bundle.listD)).before args s = true) :
    ∃ (x : Cell) (u v : RefV), W.heap[T.aS]? = some x ∧ x.vm ≠ .unknown ∧ T.aS < s.heap.size ∧ x.slots[T.fUnassigned.slot]? = some u.v ∧ x.slots[T.fSentinel.slot]? = some v.v := by
  obtain ⟨x0, h0, k0⟩ := Y.statics
  obtain ⟨u, hu⟩ := Cond.staticRefV Y.unassigned L.unassignedStatic L.statics h0 k0 hU
  obtain ⟨v, hv⟩ := Cond.staticRefV Y.sentinel L.sentinelStatic L.statics h0 k0 hN
  obtain ⟨x, hx, ex, -, hk⟩ := X.same.2.2.2.2.2 T.aS x0 h0
  refine ⟨x, u, v, hx, ?_, (Array.getElem?_eq_some_iff.mp h0).1, (hk _ nofun).trans hu, (hk _ nofun).trans hv⟩
  rw [ex]
  intro z
  rw [z] at k0
  exact absurd k0 nofun
/-- the way past the native: the fresh object's backtrace is null, and stays so -/
theorem nx_skip {T : ThrowableC} {Z : Init0T} (hpl : e.platform.magicAccessors = ({} : Platform).magicAccessors) (L : T.Links e.platform s) (Y : Bundle.Ties T Z s) {C : Nat} {K : Class} (hC : (Cond.fieldLink Bundle.tN 198 Bundle.tN "backtrace" "Ljava/lang/Object;").before args s = true)
    (hD : (Cond.lays Bundle.tN Bundle.tN "backtrace" "Ljava/lang/Object;").before args s = true) (a : Nat) (u v : RefV) (q : Nat) (hc : nx_lies s C K T.fCause) (hs : nx_lies s C K T.fStack) (hp : nx_lies s C K T.fSupp)
    (hb : ∀ i f, s.fieldFound? Bundle.tN "backtrace" "Ljava/lang/Object;" = some (T.cT, T.kT, i, f) → nx_lies s C K f) : SkipFacts T e.platform s (fun z => z) u ((preparedCellV T.toThrowableT (freshCell C K) a u v).withEntry q) := by
  obtain ⟨ci, i, f, k1, k2, k3, k4, -, nf, tf, hf⟩ := Cond.ownField (t := .object "java/lang/Object") Y.found L.cls (by decide +kernel) hC hD e.platform hpl
  have hl := hb i f hf
  have n1 : f.slot ≠ T.fCause.slot := nx_apart hl hc (by rw [nf, Y.causeName]; decide)
  have n2 : f.slot ≠ T.fStack.slot := nx_apart hl hs (by rw [nf, Y.stackName]; decide)
  have n3 : f.slot ≠ T.fSupp.slot := nx_apart hl hp (by rw [nf, Y.suppName]; decide)
  have h0 : (freshCell C K).slots[f.slot]? = some .null := by
    rw [fresh_default hl.1, tf]
    rfl
  refine ⟨⟨ci, i, f⟩, ⟨k1, k2, k3, k4⟩, ?_, fun _ _ => rfl⟩
  show ((((freshCell C K).setSlot _ _).setSlot _ _).setSlot _ _).slots[f.slot]? = _
  simp only [Cell.setSlot, Array.getElem?_setIfInBounds_ne n1.symm, Array.getElem?_setIfInBounds_ne n2.symm, Array.getElem?_setIfInBounds_ne n3.symm]
  exact h0
set_option maxHeartbeats 1000000 in
/-- from the constructor's call, its object made, to the throw of it -/
theorem nx_thrown (X : Stand p l e R s m₀ args below meth c W [] cells slots) (hexec : p.tables.exec = Jvm.exec) (htr : e.platform.stackTraces = false) {own cls : String} {names : List String} {ic : Nat} (hown : s.vm.findClass own = some m₀.cls) (hcls : Bundle.fit cls = true) (hnames : ∀ n ∈ names, Bundle.fit n = true) (h : ∀ w ∈ nxAtoms own ic cls names, w.before args s = true)
    {a : Addr} {C : ClassId} {K : Class} (hC : s.vm.findClass cls = some C) (hK : s.vm.classes[C]? = some K) (hcell : W.heap[a]? = some (freshCell C K)) (hnew : s.heap.size ≤ a) {msg : Value} (hmsg : msg.isRef = true) {g : JFrame} (hg : g.method = m₀) (hsize : g.locals.size = c.maxLocals) (hlocked : g.locked = none) (hentered : g.entered = [])
    {rest : List Value} (hstack : g.stack = msg :: .ref a :: .ref a :: rest) (d1 : decode c.code g.pc = .ok (.invokespecial ic, 3)) (d2 : decode c.code (g.pc + 3) = .ok (.athrow, 1)) (hout : ∀ x ∈ c.exceptionTable.toList, covers x (g.pc + 3) = false) (hRf : names.length + 3 < R.frames)
    (hRl : 2 * g.monitorRoom + ((Value.ref a :: rest).map fun v => v.category).sum + (13 * (names.length + 1) + 42) ≤ R.locals) (hlocks : meth.locks = false) :
    ∃ U : State, Steps p.tables e below (W.setTop g) U ∧ U.status = .running ∧ Ended U below (.threw a) ∧ s.WarmedH U.vm ∧ s.sameButNew ({ U with vm := s.vm } : State) [] cells slots ∧ ∃ ce, U.heap[a]? = some ce ∧ (s.vm.findClass cls = some ce.cls ∧ ce.vm = .none) := by
  have hpl : e.platform.magicAccessors = ({} : Platform).magicAccessors := by rw [X.admits.platform]
  have hT : ∀ w ∈ Bundle.throwableAtoms ++ Bundle.throwableSAtoms, w.before args s = true := fun w hw => h w (List.mem_append_right _ hw)
  have hO : ∀ w ∈ nxOwn own ic cls, w.before args s = true := fun w hw => h w (List.mem_append_left _ (List.mem_append_left _ hw))
  have hH : ∀ w ∈ nxChain cls names, w.before args s = true := fun w hw => h w (List.mem_append_left _ (List.mem_append_right _ hw))
  obtain ⟨T, Z0, L, -, Y⟩ := ThrowableC.of_atoms (args := args) (by rw [X.admits.platform]) (by rw [X.admits.platform]) hpl (fun w hw => hT w (List.mem_append_left _ hw))
  obtain ⟨Z, M, LZ, LM, top⟩ := Init0T.ofS_atoms (args := args) hpl L Y (fun w hw => hT w (List.mem_append_right _ hw))
  obtain ⟨P, Ps, len, LP, nP, on⟩ := nx_chain (args := args) hpl top hcls hnames hH
  obtain ⟨x, u, v, hx, hxu, hxa, hu, hv⟩ := nx_stat X L Y (hO _ (by simp [nxOwn])) (hO _ (by simp [nxOwn]))
  obtain ⟨C', K', i1, i2, hord, -⟩ := Cond.instantiable_spec (hO (.instantiable cls 6) (by simp [nxOwn]))
  rw [hC] at i1
  cases i1
  rw [hK] at i2
  cases i2
  have lay : ∀ d ∈ nxFs, ∀ i f, s.fieldFound? Bundle.tN d.1 d.2 = some (T.cT, T.kT, i, f) → nx_lies s C K f := fun d hd i f hf =>
    Cond.laysAt hC hK hf (hO (.lays cls Bundle.tN d.1 d.2) (by
      unfold nxOwn
      exact List.mem_append_left _ (List.mem_append_right _ (List.mem_map.mpr ⟨d, hd, rfl⟩))))
  obtain ⟨iM, hM⟩ := Y.msg
  have lM := lay ("detailMessage", "Ljava/lang/String;") (by simp [nxFs]) _ _ hM
  have lC := lay ("cause", "Ljava/lang/Throwable;") (by simp [nxFs]) _ _ Y.cause
  have lS := lay ("stackTrace", Bundle.steD) (by simp [nxFs]) _ _ Y.stack
  have lP := lay ("suppressedExceptions", Bundle.listD) (by simp [nxFs]) _ _ Y.supp
  have hskip := nx_skip (args := args) (a := a) (u := u) (v := v) (q := W.cur) hpl L Y (hO _ (by simp [nxOwn])) (hO _ (by simp [nxOwn])) lC lS lP (fun i f hf => lay ("backtrace", "Ljava/lang/Object;") (by simp [nxFs]) i f hf)
  have s0 := nx_sel X (hO (.selects cls Bundle.tFill0 Bundle.tFill0) (by simp [nxOwn])) hC Y.fill0 (by decide)
  have s1 := nx_sel X (hO (.selects cls Bundle.tFill Bundle.tFill) (by simp [nxOwn])) hC Y.fill (by decide)
  have hin : ∀ w ∈ Bundle.passSAtoms cls (names.headD Bundle.tN) 13 nxB, w.before args s = true := fun w hw => hH w (List.mem_append_left _ hw)
  obtain ⟨y, _, _, _, vm1, ny, -, -, -, -, -, -, -, w1, go1⟩ := Steps.initColdS (tb := p.tables) (e := e) (below := below) (s := s) (U := W) X.here hexec X.warmed hpl hown (t := Bundle.initS cls) rfl rfl (Bundle.fit_spec hcls).2 (hO _ (by simp [nxOwn])) (hin _ (by simp [Bundle.passSAtoms])) (bytes := nxB) (maxL := 2) (hin _ (by simp [Bundle.passSAtoms])) (f := g) hg hstack d1
  rw [nP] at ny
  cases ny
  obtain ⟨vm2, X2, go2⟩ := (X.noted w1).ctorMessageOffV hexec (g := { g with stack := .ref a :: rest }) hg hsize T L Z LZ M LM (P :: Ps) LP on (u0 := u) (sen := v) (self := a) (cell := freshCell C K) (cellS := x) hmsg hcell nofun nofun rfl rfl s0 s1 hx (fun z => absurd hxa (Nat.not_lt.mpr (z ▸ hnew))) hxu hu hv
    (Takes.of_laid hK hord lC.1 (by rw [Y.causeType]; rfl)) (Takes.of_laid hK hord lS.1 (by rw [Y.stackType]; exact fits_refV_array _ u)) (Takes.of_laid hK hord lP.1 (by rw [Y.suppType]; exact fits_refV_object _ v)) (Takes.of_laid hK hord lM.1 (by rw [Y.msgType]; exact fits_refV_object _ ⟨msg, hmsg⟩)) Y.objLocals hskip htr [] d1
    (by show Ps.length + 1 + 2 < _; omega) (by show _ + _ + (13 * (Ps.length + 1) + 42) ≤ _; rw [len]; exact hRl)
  obtain ⟨go3, run, fin, warm, same⟩ := X2.athrowLeaves hexec (g := { g with stack := .ref a :: rest, pc := g.pc + 3 }) hg hlocked hentered hout rfl d2 hlocks
  refine ⟨_, go1 _ fun acts => ?_, run, fin, warm, same.weaken (fun z hz hlt => ?_) (Nat.le_refl _) (Nat.le_refl _), _, heapAt_setCell_self (plainBareV T.toThrowableT (freshCell C K) a u v msg) (Array.getElem?_eq_some_iff.mp hcell).1, hC, rfl⟩
  · rw [doInvoke_state]
    exact go2 _ go3
  · have hb : z.base = a := by
      rw [List.nil_append] at hz
      simp at hz
      rcases hz with z1 | z1 | z1 | z1 | z1 <;> rw [z1]
    rw [hb] at hlt
    exact absurd hlt (Nat.not_lt.mpr hnew)
end NX
section NX2
variable {p : Program} {l : Launch} {e : Env} {R : Room} {s : State} {m : MethodId} {args : Array Value} {below : List Frame} {meth : Method} {c : Code} {H : Heap} {locs : List Loc} {cells slots : Nat} {Q : State → Prop}
variable {mc ms : Nat} {free : Addr → Prop} {A0 A1 : Nat → Prop} {H0 : Heap} {a : Array Value} {ls : Array Slot} {st0 rest : List Value}
variable {Qc : Array Value → State → Outcome → State → Prop} {XC : String → State → State → Prop}
theorem nx_throwSW {cc : ByteArray} {pc : Nat} (hexec : p.tables.exec = Jvm.exec) (hb : c.code = cc) (hl : l.stackTraces = false) {own cls text : String} {names : List String} {ik is ic mc ms sa : Nat} {A : Nat → Prop}
    (hown : s.vm.findClass own = some m.cls) (hcls : Bundle.fit cls = true) (hnames : ∀ n ∈ names, Bundle.fit n = true)
    (hk : (Cond.classLink own ik cls).before args s = true) (hini : (Cond.initialized cls).before args s = true) (hstr : vk_R own is text sa s) (hat : ∀ w ∈ nx_atS own ic cls names, w.before args s = true)
    (hgood : ∀ w ∈ Cond.classLink own ik cls :: Cond.initialized cls :: nx_atS own ic cls names, vx_ot w = true)
    (hU : vx_Zq Bundle.tN "UNASSIGNED_STACK" Bundle.steD A s s.heap) (hN : vx_Zq Bundle.tN "SUPPRESSED_SENTINEL" Bundle.listD A s s.heap) (hS : va_S A s.heap H locs) (hsize : ls.size = c.maxLocals)
    (d0 : decode cc pc = .ok (.new ik, 3)) (d3 : decode cc (pc + 3) = .ok (.dup, 1)) (d4 : decode cc (pc + 4) = .ok (.ldc_w is, 3)) (d7 : decode cc (pc + 7) = .ok (.invokespecial ic, 3)) (d10 : decode cc (pc + 10) = .ok (.athrow, 1))
    (hout : ∀ x ∈ c.exceptionTable.toList, covers x (pc + 10) = false)
    (hRframes : names.length + 3 < R.frames) (hRlocals : (rest.map fun v => v.category).sum + (13 * (names.length + 1) + 43) ≤ R.locals) (hRcells : cells + 1 ≤ R.cells) (hRslots : slots + 6 ≤ R.slots) (hlocks : meth.locks = false)
    (hx : ∀ t : State, s.vm.Alike t.vm → H.size ≤ t.heap.size → (∀ q : Nat, q < H.size → t.heap[q]? = H[q]?) → XC cls s t)
    (hf : ∀ z ∈ locs, free z.base) (hc : cells + 1 ≤ mc) (hs : slots + 6 ≤ ms) :
    W p l e R s m args below meth c H locs cells slots (vx_MQ below Qc XC args s mc ms free) (F0 m pc ls rest) := by
  intro T hT X
  have htr : e.platform.stackTraces = false := (show e.platform.stackTraces = l.stackTraces by rw [X.admits.platform]).trans hl
  have Y := vx_rebase X (R' := { frames := R.frames, locals := R.locals, cells := 1, slots := 6 }) (Nat.le_refl _) (Nat.le_refl _) hRcells hRslots
  obtain ⟨s', hA⟩ : ∃ z, z = (T.setVm s.vm).setFrames (.invoking m args :: below) := ⟨_, rfl⟩
  rw [← hA] at Y
  have hvm : s'.vm = s.vm := by rw [hA]; rfl
  have hhp : s'.heap = H := by rw [hA]; exact hT
  have hW0 : s.WarmedH s'.vm := by rw [hvm]; exact State.WarmedH.refl s
  have hat' : ∀ w ∈ nx_atS own ic cls names, w.before args s' = true := fun w hw => vx_ot_at hW0 hvm.symm (hgood w (List.mem_cons_of_mem _ (List.mem_cons_of_mem _ hw))) (hat w hw)
  have hk' : (Cond.classLink own ik cls).before args s' = true := vx_ot_at hW0 hvm.symm (hgood _ List.mem_cons_self) hk
  have hini' : (Cond.initialized cls).before args s' = true := vx_ot_at hW0 hvm.symm (hgood _ (List.mem_cons_of_mem _ List.mem_cons_self)) hini
  have hU' : vx_Zq Bundle.tN "UNASSIGNED_STACK" Bundle.steD A s' s'.heap := by rw [hhp]; exact vx_Zq.moved hW0.alike (hU.kept hS.2.1)
  have hN' : vx_Zq Bundle.tN "SUPPRESSED_SENTINEL" Bundle.listD A s' s'.heap := by rw [hhp]; exact vx_Zq.moved hW0.alike (hN.kept hS.2.1)
  have h : ∀ w ∈ nxAtoms own ic cls names, w.before args s' = true := vx_own hat' (vx_isRefq hU'.1) (vx_isRefq hN'.1) hU'.2.word hN'.2.word
  have hown' : s'.vm.findClass own = some m.cls := by rw [hvm]; exact hown
  have hins : (Cond.instantiable cls 6).before args s' = true := h _ (by simp [nxAtoms, nxOwn])
  obtain ⟨vm₁, cX, kX, hfX, hkX, -, -, X₁, st1⟩ := Y.newCold hexec (own := own) (C := cls) (index := ik) (n := 6) hown' hk' hins hini'
    (g := F0 m pc ls rest) rfl (by rw [hb]; exact d0) (Nat.le_refl _) (Nat.le_refl _)
  generalize hT1 : (T.setVm vm₁).pushCell { cls := cX, slots := kX.instanceTypes.map defaultValue, vm := .none } = T1 at X₁ st1
  have hcat : (Value.ref T.heap.size).category = 1 := rfl
  have hcellA : T1.heap[T.heap.size]? = some (freshCell cX kX) := by rw [← hT1]; exact State.heap_pushCell_size _ _
  have d3' : decode c.code (pc + 3) = .ok (.dup, 1) := by rw [hb]; exact d3
  have d4' : decode c.code (pc + 4) = .ok (.ldc_w is, 3) := by rw [hb]; exact d4
  have hstr' : vk_R own is text sa s' := vk_R.warm hW0 hstr
  obtain ⟨U, hsteps, hrun, hend, hW, hsame, ce, hce, hO⟩ := nx_thrown X₁ hexec htr (own := own) (cls := cls) (names := names) (ic := ic) hown' hcls hnames h hfX hkX hcellA (by rw [hhp, hT]; exact Nat.le_refl _) (msg := .ref sa) rfl
    (g := { method := m, pc := pc + 7, locals := ls, stack := .ref sa :: .ref T.heap.size :: .ref T.heap.size :: rest, locked := none }) rfl hsize rfl rfl (rest := rest) rfl
    (by rw [hb]; exact d7) (by rw [hb]; exact d10) hout hRframes (by simp only [List.map_cons, List.sum_cons, hcat]; omega) hlocks
  obtain ⟨f1, f2⟩ := vx_frame hsame
  rw [hhp] at f1 f2
  have hWs : s.WarmedH U.vm := State.WarmedH.trans hW0 hW
  have hcl : s.vm.findClass cls = some ce.cls := by
    have h9 := hO.1
    rw [hvm] at h9
    exact h9
  have hall : s.sameButNew ({ U with vm := s.vm } : State) locs mc ms := by
    subst hA
    obtain ⟨e1, e2⟩ := hsame
    rw [State.setFrames_setFrames] at e1
    have h2 : (T.setVm s.vm).sameButNew ({ U with vm := s.vm } : State) [] (0 + 1) (0 + 6) := ⟨e1, e2⟩
    have h3 := X.same.trans h2
    rw [List.append_nil] at h3
    exact h3.mono hc hs
  refine ⟨U, ?_, .threw T.heap.size, hrun, hend, Or.inr ⟨T.heap.size, rfl, cls, ce, locs, hx U hWs.alike f1 (fun q hq => f2 q hq (fun z hz => nomatch hz)), hce, hO.2, hcl, hWs, hall, hf⟩⟩
  refine st1 _ ?_
  show Steps p.tables e below (T1.setTop { method := m, pc := pc + 3, locals := ls, stack := .ref T.heap.size :: rest, locked := none }) _
  jvm_step X₁.here [X₁.here.top, hexec, d3', Value.category]
  exact X₁.ldcStringW hexec (own := own) (text := text) (index := is) (a := sa) hown' hstr'.1 hstr'.2
    (g := { method := m, pc := pc + 4, locals := ls, stack := .ref T.heap.size :: .ref T.heap.size :: rest, locked := none }) rfl d4' _ hsteps
end NX2
