/-! throwing: contracts of what always throws from here, the rows of a throw, of a call that throws -/
section THR
variable {X : Type}
def gTX (Ω : Nat → Prop) (P : X → State → Heap → Prop) (Ex : String) (S1 : X) (sz : Nat) : String → State → State → Prop := fun E' st t => E' = Ex ∧ P S1 t t.heap ∧ va_F (Fr Ω sz) st t
def gThr (l : Launch) (y : MethodName) (c : ByteArray) (n : Nat) (ret : Option FieldType) (lev : Nat) (Ω : Nat → Prop) (P : X → State → Heap → Prop) (KS : State → Prop) (av : List Value) (S : X) (Ex : String) (S1 : X) : Prop :=
  ∀ sz, vx_Met l y (wT y c n ret) (rmL lev 1 6) (va_Pc av (gPre P KS S sz)) (fun _ _ _ _ => False) (gTX Ω P Ex S1 sz) 1 6 (Fr Ω sz)
abbrev gTQ (below : List Frame) (Ω : Nat → Prop) (P : X → State → Heap → Prop) (Ex : String) (S1 : X) (args : Array Value) (s : State) : State → Prop := vx_MQ below (fun _ _ _ _ => False) (gTX Ω P Ex S1 s.heap.size) args s 1 6 (Fr Ω s.heap.size)
/-- a world stays where only new cells are added -/
def gExt (P : X → State → Heap → Prop) : Prop := ∀ (S : X) (U : State) (H H1 : Heap), H.size ≤ H1.size → (∀ a : Nat, a < H.size → H1[a]? = H[a]?) → P S U H → P S U H1
variable {p : Program} {l : Launch} {e : Env} {R : Room} {s : State} {m : MethodId} {args : Array Value} {below : List Frame} {meth : Method} {c : Code} {H : Heap} {locs : List Loc} {cells slots : Nat} {Q : State → Prop}
variable {cc : ByteArray} {pc nL : Nat} {ls : Array Slot} {rest : List Value} {own : String} {Ω : Nat → Prop} {P : X → State → Heap → Prop} {KS : State → Prop}
theorem gEntryT {y : MethodName} {ret : Option FieldType} {lev : Nat} {av : List Value} {S S1 : X} {Ex : String} (hpl : plainName y.cls = true) (hO : gOK P KS) (hav : (lg_sl av).length ≤ nL)
    (body : ∀ (p : Program) (e : Env) (s : State) (m : MethodId) (args : Array Value) (below : List Frame) (meth : Method) (c : Code) (ls : Array Slot), gX p s m args c cc nL y.cls KS → (∀ x ∈ c.exceptionTable.toList, False) → meth.locks = false → P S s s.heap → va_S (Fr Ω s.heap.size) s.heap s.heap [] → lv_has ls nL (lv_args 0 av) → W p l e (rmL lev 1 6) s m args below meth c s.heap [] 0 0 (gTQ below Ω P Ex S1 args s) (F0 m 0 ls [])) :
    gThr l y cc nL ret lev Ω P KS av S Ex S1 := by
  intro sz
  refine vx_ofW (cc := cc) (maxL := nL) (ret := ret) hpl rfl ?_
  intro p e s m args below meth c s₁ B hml hT hv
  obtain ⟨rfl, hsz, hP, hK⟩ := hv
  subst hsz
  have hts := atoms_spec (ws := wT y cc nL ret) B.pre
  have hown : s.vm.findClass y.cls = some m.cls := findClass_of_methodNamed B.named
  have hl := lv_entry av (n := nL) hav
  rw [lg_entry_eq]
  exact body p e s m _ below meth c _ ⟨B.exec, B.bytes, hml, hown, fun w hw => hts w (List.mem_cons_of_mem _ hw), hK⟩ hT B.notSynchronized hP va_S.rf hl
theorem zq_fr {C n d : String} (h : vx_Zq C n d Ω s s.heap) : vx_Zq C n d (Fr Ω s.heap.size) s s.heap := by
  obtain ⟨h1, c, k, i, f, a, cell, q1, q2, q3, q4, q5, q6, q7, q8, q9, q10⟩ := h
  have lt : ∀ {a : Nat} {cell : Cell}, s.heap[a]? = some cell → a < s.heap.size := fun h => (Array.getElem?_eq_some_iff.mp h).1
  have zz : ∀ v, va_Z C n d v Ω s s.heap → va_Z C n d v (Fr Ω s.heap.size) s s.heap := fun v z => by
    obtain ⟨c, k, i, f, a, cell, z1, z2, z3, z4, z5, z6, z7, z8⟩ := z
    exact ⟨c, k, i, f, a, cell, z1, z2, z3, z4, z5, z6, z7, fun y => y.elim z8 (fun y => absurd (lt z5) (Nat.not_lt.mpr y))⟩
  refine ⟨?_, c, k, i, f, a, cell, q1, q2, q3, q4, q5, q6, q7, q8, q9, fun y => y.elim q10 (fun y => absurd (lt q5) (Nat.not_lt.mpr y))⟩
  rcases h1 with h | ⟨t, h⟩
  · exact Or.inl (zz _ h)
  · exact Or.inr ⟨t, zz _ h⟩
theorem gThrowSW {q : String × Nat × String × List Int32} {cls : String} {ik ic lev sa : Nat} {kA : String → Nat → Nat} {S1 : X} (hX : gX p s m args c cc nL q.1 (kR kTab kA)) (hT : ∀ x ∈ c.exceptionTable.toList, False) (hlk : meth.locks = false) (hl0 : l.stackTraces = false) (hZ : cmpS Ω s s.heap) (hE : gExt P) (hA : gOK P (kR kTab kA))
    (hstr : vk_R q.1 q.2.1 q.2.2.1 sa s) (hk : Cond.classLink q.1 ik cls ∈ TBG) (hi : Cond.initialized cls ∈ TBG) (hw : ∀ w ∈ (vx_atS q.1 ic cls xNM).filter (fun w => !goodWord w), w ∈ xws) (ho : ∀ w ∈ Cond.classLink q.1 ik cls :: Cond.initialized cls :: vx_atS q.1 ic cls xNM, vx_ot w = true) (hg : ∀ w ∈ (vx_atS q.1 ic cls xNM).filter goodWord, w ∈ TBG) (hfit : Bundle.fit cls = true)
    (hP : P S1 s H) (hS : va_S (Fr Ω s.heap.size) s.heap H locs) (hls : ls.size = nL)
    (d0 : decode cc pc = .ok (.new ik, 3)) (d3 : decode cc (pc + 3) = .ok (.dup, 1)) (d4 : decode cc (pc + 4) = .ok (.ldc_w q.2.1, 3)) (d7 : decode cc (pc + 7) = .ok (.invokespecial ic, 3)) (d10 : decode cc (pc + 10) = .ok (.athrow, 1)) (hnm : ∀ n ∈ xNM, Bundle.fit n = true) (hlev : 3 ≤ lev) :
    W p l e (rmL lev 1 6) s m args below meth c H locs 0 0 (gTQ below Ω P cls S1 args s) (F0 m pc ls []) := by
  have hxw : ∀ w ∈ xws, va_Nw w s := hX.ks.2.1
  have hat : ∀ w ∈ vx_atS q.1 ic cls xNM, w.before args s = true := vx_hat (B := xws) (fun w h => hX.hts w (hg w h)) hw (fun w h => xw_use (List.mem_filter.mp h).2 (hxw w h))
  refine vx_throwSW (A := Fr Ω s.heap.size) (names := xNM) hX.hx hX.hb hl0 hX.hown hfit hnm (hX.hts _ hk) (hX.hts _ hi) hstr hat ho (zq_fr hZ.2.2.1) (zq_fr hZ.2.2.2) hS (hls.trans hX.hml.symm) d0 d3 d4 d7 d10 (fun x hx => (hT x hx).elim) (by show 2 + 3 < 2 * lev; omega) (by show 0 + (13 * (2 + 1) + 43) ≤ 60 * lev; omega) (Nat.le_refl _) (Nat.le_refl _) hlk ?_ hS.2.2 (Nat.le_refl _) (Nat.le_refl _)
  intro t hvm hsz hq
  exact ⟨rfl, hA.1 _ _ _ _ hvm (hE _ _ _ _ hsz hq hP), by
    refine ⟨Nat.le_trans hS.1 hsz, fun q h1 h2 => ?_⟩
    rw [hq q (Nat.lt_of_lt_of_le h1 hS.1)]
    exact hS.2.1 q h1 h2⟩
theorem gOutT {lev : Nat} {S1 : X} {Ex : String} {q9 : Nat} {ce : Cell} (hO : gOK P KS) (hX : gX p s m args c cc nL own KS) (hT : ∀ x ∈ c.exceptionTable.toList, False) (hlk : meth.locks = false) (hP : P S1 s H) (hS : va_S (Fr Ω s.heap.size) s.heap H locs) (hce : H[q9]? = some ce) (hcv : ce.vm = .none) (hcl : s.vm.findClass Ex = some ce.cls) (hc : cells ≤ 1) (hs : slots ≤ 6) :
    vx_W p l e (rmL lev 1 6) s m args below meth c H locs cells slots (gTQ below Ω P Ex S1 args s) (F0 m pc ls rest) q9 :=
  vx_out (fun x hx => (hT x hx).elim) hlk hce hcv hcl (fun t ht hvm => ⟨rfl, by rw [ht]; exact hO.1 _ _ _ _ hvm hP, hS.F ht⟩) hS.2.2 hc hs
theorem gCallVT {y : MethodName} {c' : ByteArray} {n' idx nA : Nat} {ret : Option FieldType} {lev : Nat} {C : String} {b : Nat} {As : List Value} {S S1 : X} {Ex : String} (hX : gX p s m args c cc nL own KS) (hO : gOK P KS) (hR : R = rmL lev 1 6) {lev' : Nat} (hM : gThr l y c' n' ret lev' Ω P KS (.ref b :: As) S Ex S1) (hG : GoodIn TBG (wsV own idx C y (wT y c' n' ret)))
    (hd : y.cls = C ∧ y.cls ≠ "java/lang/invoke/MethodHandle" ∧ y.cls ≠ "java/lang/invoke/VarHandle" ∧ (parseMethodDescriptor y.desc).map (fun d => d.parameters.length) = some nA) (hnA : As.length = nA) (hroom : 2 * lev' + 1 ≤ 2 * lev ∧ 8 + (n' + 11) + 60 * lev' ≤ 60 * lev)
    (hP : P S s H) (hS : va_S (Fr Ω s.heap.size) s.heap H locs) (hrec : gRec C b s H) (hls : ls.size = nL) (hcat : (rest.map fun v => v.category).sum ≤ 8) (hcells : cells = 0 ∧ slots = 0) (hdg : decode cc pc = .ok (.invokevirtual idx, 3)) {st : List Value} (hst : st = As.reverse ++ .ref b :: rest)
    (kk : ∀ (H1 : Heap) (locs1 : List Loc) (q9 : Nat) (ce : Cell), P S1 s H1 → va_S (Fr Ω s.heap.size) s.heap H1 locs1 → H1[q9]? = some ce → ce.vm = .none → s.vm.findClass Ex = some ce.cls → vx_W p l e R s m args below meth c H1 locs1 1 6 Q (F0 m pc ls rest) q9) : W p l e R s m args below meth c H locs cells slots Q (F0 m pc ls st) := by
  have hFc : ∀ q, Fr Ω H.size q → Fr Ω s.heap.size q := Fr_le hS.1
  subst hR
  obtain ⟨rfl, rfl⟩ := hcells
  have hr := vx_runV (R := rmL lev 1 6) (e := e) (below := below) (meth := meth) (locs := locs) (cells := 0) (slots := 0) (g := F0 m pc ls st) (As := As) (rest := rest) ⟨hX.hx, hX.hb, hX.hml, hX.hown, hX.hts⟩ (hM H.size) (cwV nA hX.hts hG rfl rfl rfl hd ⟨hroom.1, hroom.2⟩) ⟨gPre_blind hO, hrec, fun U hU hW => ⟨rfl, by rw [hU], by rw [hU]; exact hO.1 _ _ _ _ hW.alike hP, hO.2.2 _ _ hW hX.ks⟩⟩ rfl hnA hls hst (lv_room hcat) hdg ⟨by show 0 + 1 ≤ 1; omega, by show 0 + 6 ≤ 6; omega⟩
  intro T hT X9
  rcases hr T hT X9 with ⟨v, st₀, t, T', L, h0, X', hL, e1, e2, hq, st9⟩ | ⟨q, st₀, t, T', L, E', ce, h0, X', hL, e1, e2, ⟨hE, hB, hF⟩, hce, hcv, hcl, st9⟩
  · exact hq.elim
  · subst hE
    obtain ⟨k1, k2, k3⟩ := vx_keep h0 e1 hS (fun q _ h => hFc q h) hFc hL hF
    have hvm : t.vm.Alike s.vm := by rw [← e2]; exact X'.warmed.alike.symm
    obtain ⟨t2, a1, b1⟩ := kk T'.heap (locs ++ L) q ce (by rw [e1]; exact hO.1 _ _ _ _ hvm hB) k3 (by rw [e1]; exact hce) hcv hcl T' rfl X'
    exact ⟨t2, st9.trans a1, b1⟩
theorem gCallST {y : MethodName} {c' : ByteArray} {n' idx nA : Nat} {ret : Option FieldType} {lev : Nat} {As : List Value} {S S1 : X} {Ex : String} (hX : gX p s m args c cc nL own KS) (hO : gOK P KS) (hR : R = rmL lev 1 6) {lev' : Nat} (hM : gThr l y c' n' ret lev' Ω P KS As S Ex S1) (hG : GoodIn TBG (va_wsS own idx y (wT y c' n' ret)))
    {C : String} (hd : y.cls = C ∧ y.cls ≠ "java/lang/invoke/MethodHandle" ∧ y.cls ≠ "java/lang/invoke/VarHandle" ∧ (parseMethodDescriptor y.desc).map (fun d => d.parameters.length) = some nA) (hnA : As.length = nA) (hroom : 2 * lev' + 1 ≤ 2 * lev ∧ 8 + (n' + 11) + 60 * lev' ≤ 60 * lev)
    (hP : P S s H) (hS : va_S (Fr Ω s.heap.size) s.heap H locs) (hls : ls.size = nL) (hcat : (rest.map fun v => v.category).sum ≤ 8) (hcells : cells = 0 ∧ slots = 0) (hdg : decode cc pc = .ok (.invokestatic idx, 3)) {st : List Value} (hst : st = As.reverse ++ rest)
    (kk : ∀ (H1 : Heap) (locs1 : List Loc) (q9 : Nat) (ce : Cell), P S1 s H1 → va_S (Fr Ω s.heap.size) s.heap H1 locs1 → H1[q9]? = some ce → ce.vm = .none → s.vm.findClass Ex = some ce.cls → vx_W p l e R s m args below meth c H1 locs1 1 6 Q (F0 m pc ls rest) q9) : W p l e R s m args below meth c H locs cells slots Q (F0 m pc ls st) := by
  have hFc : ∀ q, Fr Ω H.size q → Fr Ω s.heap.size q := Fr_le hS.1
  subst hR
  obtain ⟨rfl, rfl⟩ := hcells
  have hr := vx_runS (R := rmL lev 1 6) (e := e) (below := below) (meth := meth) (locs := locs) (cells := 0) (slots := 0) (g := F0 m pc ls st) (As := As) (rest := rest) ⟨hX.hx, hX.hb, hX.hml, hX.hown, hX.hts⟩ (hM H.size) (va_cwS nA hX.hts hG rfl rfl rfl hd.2 ⟨hroom.1, hroom.2⟩) ⟨gPre_blind hO, fun U hU hW => ⟨rfl, by rw [hU], by rw [hU]; exact hO.1 _ _ _ _ hW.alike hP, hO.2.2 _ _ hW hX.ks⟩⟩ rfl hnA hls hst (lv_room hcat) hdg ⟨by show 0 + 1 ≤ 1; omega, by show 0 + 6 ≤ 6; omega⟩
  intro T hT X9
  rcases hr T hT X9 with ⟨v, st₀, t, T', L, h0, X', hL, e1, e2, hq, st9⟩ | ⟨q, st₀, t, T', L, E', ce, h0, X', hL, e1, e2, ⟨hE, hB, hF⟩, hce, hcv, hcl, st9⟩
  · exact hq.elim
  · subst hE
    obtain ⟨k1, k2, k3⟩ := vx_keep h0 e1 hS (fun q _ h => hFc q h) hFc hL hF
    have hvm : t.vm.Alike s.vm := by rw [← e2]; exact X'.warmed.alike.symm
    obtain ⟨t2, a1, b1⟩ := kk T'.heap (locs ++ L) q ce (by rw [e1]; exact hO.1 _ _ _ _ hvm hB) k3 (by rw [e1]; exact hce) hcv hcl T' rfl X'
    exact ⟨t2, st9.trans a1, b1⟩
end THR
theorem cExt {dC : Nat → ClassId} {dI : Nat → Nat → Nat} {cg : Nat → ClassId} {kA : String → Nat → Nat} {ca : Nat → Nat} : gExt (cP dC dI cg kA ca) := fun S U H H1 hz hq h => by
  obtain ⟨nA, h1, h2, h3, h4, h5⟩ := h
  refine ⟨nA, fun p hp => (h1 p hp).kept (hq _ (h1 p hp).lt), h2, h3, h4.kept (fun a ha _ => hq a ha), fun p => (h5 p).kept (fun a ha _ => hq a ha)⟩
