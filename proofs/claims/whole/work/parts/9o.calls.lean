/-! calls over the law's world; contracts of methods that catch -/
section LIFT
variable {X : Type} {l : Launch} {Ω : Nat → Prop} {P : X → State → Heap → Prop} {KS : State → Prop}
theorem gThr.lift {y : MethodName} {ret : Option FieldType} {lev n : Nat} {cc : ByteArray} {av : List Value} {S S1 : X} {Ex : String} {F : State → Heap → Prop} (hF : gFs Ω F) (h : gThr l y cc n ret lev Ω P KS av S Ex S1) : gThr l y cc n ret lev Ω (gF P F) KS av S Ex S1 := fun sz => fun p e ha h1 h2 s m args below hf hs hP hK => by
  obtain ⟨q0, q1, q2, q3⟩ := hP
  obtain ⟨n, o, a, b, c, d⟩ := h sz p e ha h1 h2 s m args below hf hs ⟨q0, q1, q2.1, q3⟩ hK
  refine ⟨n, o, a, b, c, ?_⟩
  rcases d with ⟨d, _⟩ | ⟨q, e1, E, ce, L, ⟨hE, hPt, hFt⟩, g1, g2, g3, hW, g4, g5⟩
  · exact d.elim
  · exact Or.inr ⟨q, e1, E, ce, L, ⟨hE, ⟨hPt, hF.at q1 hFt hW q2.2⟩, hFt⟩, g1, g2, g3, hW, g4, g5⟩
theorem gMetD.lift {y : MethodName} {lev n : Nat} {cc : ByteArray} {av : List Value} {S S1 : X} {r : UInt64} {F : State → Heap → Prop} (hF : gFs Ω F) (h : gMetD l y cc n lev Ω P KS av S r S1) : gMetD l y cc n lev Ω (gF P F) KS av S r S1 := fun sz => (h sz).fr (fun a s q => by
  obtain ⟨q0, q1, q2, q3⟩ := q
  exact ⟨q0, q1, q2.1, q3⟩) (fun a s o t q hW z => by
  obtain ⟨q0, q1, q2, q3⟩ := q
  obtain ⟨⟨r', u, z1, z2, z3⟩, z4⟩ := z
  exact ⟨⟨r', u, z1, z2, z3, hF.at q1 z4 hW q2.2⟩, z4⟩)
theorem gMetF.lift {y : MethodName} {lev n : Nat} {cc : ByteArray} {av : List Value} {S S1 : X} {r : UInt32} {F : State → Heap → Prop} (hF : gFs Ω F) (h : gMetF l y cc n lev Ω P KS av S r S1) : gMetF l y cc n lev Ω (gF P F) KS av S r S1 := fun sz => (h sz).fr (fun a s q => by
  obtain ⟨q0, q1, q2, q3⟩ := q
  exact ⟨q0, q1, q2.1, q3⟩) (fun a s o t q hW z => by
  obtain ⟨q0, q1, q2, q3⟩ := q
  obtain ⟨⟨r', u, z1, z2, z3⟩, z4⟩ := z
  exact ⟨⟨r', u, z1, z2, z3, hF.at q1 z4 hW q2.2⟩, z4⟩)
/-- a method with handlers that answers an int -/
def gMetX (l : Launch) (y : MethodName) (c : ByteArray) (n : Nat) (hh : List (Nat × Nat × Nat × Nat)) (lev mc ms : Nat) (Ω : Nat → Prop) (P : X → State → Heap → Prop) (KS : State → Prop) (av : List Value) (S : X) (r : Int32) (S1 : X) : Prop :=
  ∀ sz, Met l y (.codeWith y c n (some .int) hh :: TBG) (rmL lev mc ms) (va_Pc av (gPre P KS S sz)) (va_Qi (fun (r' : Int32) (u : X) => r' = r ∧ u = S1) (fun u t => P u t t.heap) (Fr Ω sz)) mc ms (Fr Ω sz)
variable {p : Program} {e : Env} {R : Room} {s : State} {m : MethodId} {args : Array Value} {below : List Frame} {meth : Method} {c : Code} {H : Heap} {locs : List Loc} {cells slots : Nat} {Q : State → Prop}
variable {cc : ByteArray} {pc nL : Nat} {ls : Array Slot} {rest : List Value} {own : String}
theorem gEntryX {y : MethodName} {lev mc ms : Nat} {hh : List (Nat × Nat × Nat × Nat)} {av : List Value} {S S1 : X} {r : Int32} (hpl : plainName y.cls = true) (hO : gOK P KS) (hav : (lg_sl av).length ≤ nL)
    (body : ∀ (p : Program) (e : Env) (s : State) (m : MethodId) (args : Array Value) (below : List Frame) (meth : Method) (c : Code) (Q : State → Prop) (ls : Array Slot), gX p s m args c cc nL y.cls KS → c.exceptionTable.toList = tableOf hh → P S s s.heap → va_S (Fr Ω s.heap.size) s.heap s.heap [] → gRetIA p l e (rmL lev mc ms) s m args below meth c cc mc ms Ω P Q r S1 → lv_has ls nL (lv_args 0 av) → W p l e (rmL lev mc ms) s m args below meth c s.heap [] 0 0 Q (F0 m 0 ls [])) :
    gMetX l y cc nL hh lev mc ms Ω P KS av S r S1 := by
  intro sz
  refine va_MetW (cc := cc) (maxL := nL) (ret := some .int) hpl rfl ?_
  intro p e s m args below meth c s₁ B hml hv
  obtain ⟨rfl, hsz, hP, hK⟩ := hv
  subst hsz
  have hlocks := B.notSynchronized
  have hts := atoms_spec (ws := Cond.codeWith y cc nL (some .int) hh :: TBG) B.pre
  have hown : s.vm.findClass y.cls = some m.cls := findClass_of_methodNamed B.named
  have ht := vx_table (x := y) B (hts _ List.mem_cons_self)
  have hl := lv_entry av (n := nL) hav
  rw [lg_entry_eq]
  refine body p e s m _ below meth c _ _ ⟨B.exec, B.bytes, hml, hown, fun w hw => hts w (List.mem_cons_of_mem _ hw), hK⟩ ht hP va_S.rf ?_ hl
  intro pc ls H locs cells slots hdg hP1 hS1 hc hs
  refine W.widen hc hs ?_
  refine W.zret (v := r) (ty := .int) B.exec B.bytes B.returns rfl (fun t ht hW => ⟨⟨r, S1, rfl, ⟨rfl, rfl⟩, by show P S1 t t.heap; rw [ht]; exact hO.1 _ _ _ _ hW.alike hP1⟩, hS1.F ht⟩) hS1.2.2 hdg
theorem gCallX {y : MethodName} {c' : ByteArray} {n' idx nA : Nat} {hh : List (Nat × Nat × Nat × Nat)} {lev' mc' ms' : Nat} {A0 : Nat → Prop} {As : List Value} {S S1 : X} {r : Int32} (hX : gX p s m args c cc nL own KS) (hO : gOK P KS) (hM : gMetX l y c' n' hh lev' mc' ms' Ω P KS As S r S1)
    (cw : vx_CSW R s args own idx y c' n' (some .int) hh (.codeWith y c' n' (some .int) hh :: TBG) (rmL lev' mc' ms') mc' ms' nA) (hnA : As.length = nA)
    (hP : P S s H) (hS : va_S A0 s.heap H locs) (hA : ∀ q, Fr Ω H.size q → A0 q) (hls : ls.size = nL) (hcat : (rest.map fun v => v.category).sum ≤ 8) (hcells : cells + mc' ≤ R.cells ∧ slots + ms' ≤ R.slots) (hdg : decode cc pc = .ok (.invokestatic idx, 3)) {st : List Value} (hst : st = As.reverse ++ rest)
    (kk : ∀ (H1 : Heap) (locs1 : List Loc), P S1 s H1 → va_S A0 s.heap H1 locs1 → W p l e R s m args below meth c H1 locs1 (cells + mc') (slots + ms') Q (F0 m (pc + 3) ls (.int r :: rest))) : W p l e R s m args below meth c H locs cells slots Q (F0 m pc ls st) := by
  refine va_calli (vx_runSW (As := As) (rest := rest) ⟨hX.hx, hX.hb, hX.hml, hX.hown, hX.hts⟩ (hM H.size) cw ⟨gPre_blind hO, fun U hU hW => ⟨rfl, by rw [hU], by rw [hU]; exact hO.1 _ _ _ _ hW.alike hP, hO.2.2 _ _ hW hX.ks⟩⟩ rfl hnA hls hst (lv_room hcat) hdg hcells) hS (fun q _ h => hA q h) hA (fun r' u t H1 locs1 ht hvm hw hB hz1 hk1 hS1 => ?_)
  obtain ⟨rfl, rfl⟩ := hw
  have hB : P _ t t.heap := hB
  rw [ht] at hB
  exact kk H1 locs1 (hO.1 _ _ _ _ hvm.symm hB) hS1
theorem gCallWT {y : MethodName} {c' : ByteArray} {n' idx nA : Nat} {ret : Option FieldType} {lev' : Nat} {C : String} {b : Nat} {A0 : Nat → Prop} {As : List Value} {S S1 : X} {Ex : String} (hX : gX p s m args c cc nL own KS) (hO : gOK P KS) (hM : gThr l y c' n' ret lev' Ω P KS (.ref b :: As) S Ex S1)
    (cw : CallW R s args own C idx y c' n' ret (wT y c' n' ret) (rmL lev' 1 6) 1 6 nA) (hnA : As.length = nA)
    (hP : P S s H) (hS : va_S A0 s.heap H locs) (hA : ∀ q, Fr Ω H.size q → A0 q) (hrec : gRec C b s H) (hls : ls.size = nL) (hcat : (rest.map fun v => v.category).sum ≤ 8) (hcells : cells + 1 ≤ R.cells ∧ slots + 6 ≤ R.slots) (hdg : decode cc pc = .ok (.invokevirtual idx, 3)) {st : List Value} (hst : st = As.reverse ++ .ref b :: rest)
    (kk : ∀ (H1 : Heap) (locs1 : List Loc) (q9 : Nat) (ce : Cell), P S1 s H1 → va_S A0 s.heap H1 locs1 → H1[q9]? = some ce → ce.vm = .none → s.vm.findClass Ex = some ce.cls → vx_W p l e R s m args below meth c H1 locs1 (cells + 1) (slots + 6) Q (F0 m pc ls rest) q9) : W p l e R s m args below meth c H locs cells slots Q (F0 m pc ls st) := by
  have hr := vx_runV (R := R) (e := e) (below := below) (meth := meth) (locs := locs) (cells := cells) (slots := slots) (g := F0 m pc ls st) (As := As) (rest := rest) ⟨hX.hx, hX.hb, hX.hml, hX.hown, hX.hts⟩ (hM H.size) cw ⟨gPre_blind hO, hrec, fun U hU hW => ⟨rfl, by rw [hU], by rw [hU]; exact hO.1 _ _ _ _ hW.alike hP, hO.2.2 _ _ hW hX.ks⟩⟩ rfl hnA hls hst (lv_room hcat) hdg hcells
  intro T hT X9
  rcases hr T hT X9 with ⟨v, st₀, t, T', L, h0, X', hL, e1, e2, hq, st9⟩ | ⟨q, st₀, t, T', L, E', ce, h0, X', hL, e1, e2, ⟨hE, hB, hF⟩, hce, hcv, hcl, st9⟩
  · exact hq.elim
  · subst hE
    obtain ⟨k1, k2, k3⟩ := vx_keep h0 e1 hS (fun q _ h => hA q h) hA hL hF
    have hvm : t.vm.Alike s.vm := by rw [← e2]; exact X'.warmed.alike.symm
    obtain ⟨t2, a1, b1⟩ := kk T'.heap (locs ++ L) q ce (by rw [e1]; exact hO.1 _ _ _ _ hvm hB) k3 (by rw [e1]; exact hce) hcv hcl T' rfl X'
    exact ⟨t2, st9.trans a1, b1⟩
theorem gCallWD {y : MethodName} {c' : ByteArray} {n' idx nA : Nat} {lev' : Nat} {C : String} {b : Nat} {A0 : Nat → Prop} {As : List Value} {S S1 : X} {r : UInt64} (hX : gX p s m args c cc nL own KS) (hO : gOK P KS) (hM : gMetD l y c' n' lev' Ω P KS (.ref b :: As) S r S1)
    (cw : CallW R s args own C idx y c' n' (some .double) (wT y c' n' (some .double)) (rmL lev' 0 0) 0 0 nA) (hnA : As.length = nA)
    (hP : P S s H) (hS : va_S A0 s.heap H locs) (hA : ∀ q, Fr Ω H.size q → A0 q) (hrec : gRec C b s H) (hls : ls.size = nL) (hcat : (rest.map fun v => v.category).sum ≤ 8) (hcells : cells + 0 ≤ R.cells ∧ slots + 0 ≤ R.slots) (hdg : decode cc pc = .ok (.invokevirtual idx, 3)) {st : List Value} (hst : st = As.reverse ++ .ref b :: rest)
    (kk : ∀ (H1 : Heap) (locs1 : List Loc), P S1 s H1 → va_S A0 s.heap H1 locs1 → W p l e R s m args below meth c H1 locs1 (cells + 0) (slots + 0) Q (F0 m (pc + 3) ls (.double r :: rest))) : W p l e R s m args below meth c H locs cells slots Q (F0 m pc ls st) := by
  refine va_calld (va_runV (As := As) (rest := rest) ⟨hX.hx, hX.hb, hX.hml, hX.hown, hX.hts⟩ (hM H.size) cw ⟨gPre_blind hO, hrec, fun U hU hW => ⟨rfl, by rw [hU], by rw [hU]; exact hO.1 _ _ _ _ hW.alike hP, hO.2.2 _ _ hW hX.ks⟩⟩ rfl hnA hls hst (lv_room hcat) hdg hcells) hS (fun q _ h => hA q h) hA (fun r' u t H1 locs1 ht hvm hw hB hz1 hk1 hS1 => ?_)
  obtain ⟨rfl, rfl⟩ := hw
  have hB : P _ t t.heap := hB
  rw [ht] at hB
  exact kk H1 locs1 (hO.1 _ _ _ _ hvm.symm hB) hS1
theorem gCallWF {y : MethodName} {c' : ByteArray} {n' idx nA : Nat} {lev' : Nat} {C : String} {b : Nat} {A0 : Nat → Prop} {As : List Value} {S S1 : X} {r : UInt32} (hX : gX p s m args c cc nL own KS) (hO : gOK P KS) (hM : gMetF l y c' n' lev' Ω P KS (.ref b :: As) S r S1)
    (cw : CallW R s args own C idx y c' n' (some .float) (wT y c' n' (some .float)) (rmL lev' 0 0) 0 0 nA) (hnA : As.length = nA)
    (hP : P S s H) (hS : va_S A0 s.heap H locs) (hA : ∀ q, Fr Ω H.size q → A0 q) (hrec : gRec C b s H) (hls : ls.size = nL) (hcat : (rest.map fun v => v.category).sum ≤ 8) (hcells : cells + 0 ≤ R.cells ∧ slots + 0 ≤ R.slots) (hdg : decode cc pc = .ok (.invokevirtual idx, 3)) {st : List Value} (hst : st = As.reverse ++ .ref b :: rest)
    (kk : ∀ (H1 : Heap) (locs1 : List Loc), P S1 s H1 → va_S A0 s.heap H1 locs1 → W p l e R s m args below meth c H1 locs1 (cells + 0) (slots + 0) Q (F0 m (pc + 3) ls (.float r :: rest))) : W p l e R s m args below meth c H locs cells slots Q (F0 m pc ls st) := by
  refine va_callf (va_runV (As := As) (rest := rest) ⟨hX.hx, hX.hb, hX.hml, hX.hown, hX.hts⟩ (hM H.size) cw ⟨gPre_blind hO, hrec, fun U hU hW => ⟨rfl, by rw [hU], by rw [hU]; exact hO.1 _ _ _ _ hW.alike hP, hO.2.2 _ _ hW hX.ks⟩⟩ rfl hnA hls hst (lv_room hcat) hdg hcells) hS (fun q _ h => hA q h) hA (fun r' u t H1 locs1 ht hvm hw hB hz1 hk1 hS1 => ?_)
  obtain ⟨rfl, rfl⟩ := hw
  have hB : P _ t t.heap := hB
  rw [ht] at hB
  exact kk H1 locs1 (hO.1 _ _ _ _ hvm.symm hB) hS1
end LIFT
theorem zin1 : ¬ ((0 : Int32) < 0 ∨ 1 ≤ (0 : Int32).toNatClampNeg) := by decide
theorem zlt1 : (0 : Int32).toNatClampNeg < 1 := by decide
section JROWS
variable {p : Program} {l : Launch} {e : Env} {R : Room} {s : State} {m : MethodId} {args : Array Value} {below : List Frame} {meth : Method} {c : Code} {H : Heap} {locs : List Loc} {cells slots : Nat} {Q : State → Prop}
variable {cc : ByteArray} {pc nL : Nat} {ls : Array Slot} {rest : List Value} {own : String}
variable {dC : Nat → ClassId} {dI : Nat → Nat → Nat} {cg : Nat → ClassId} {kA : String → Nat → Nat} {b1 b2 o1 o2 : Nat} {cL cD : ClassId} {S S1 : CS} {M M1 : MS} {x : Int64} {d : UInt64} {A0 : Nat → Prop}
theorem j_wr {H1 : Heap} {x' : Int64} {d' : UInt64} {o : Nat} (hap : APJ b1 b2 o1 o2) (h : jP dC dI cg kA b1 b2 o1 o2 cL cD (S, M, x, d) s H) (ho : o = o1 ∨ o = o2) (oq : ∀ q : Nat, q ≠ o → H1[q]? = H[q]?) (h1 : oP cL cD o1 o2 x' d' s H1) : jP dC dI cg kA b1 b2 o1 o2 cL cD (S, M, x', d') s H1 := by
  obtain ⟨p1, p2, p3⟩ := hap
  obtain ⟨hm, ⟨nA, ⟨a1, a2, a3, a4, a5⟩, a6⟩, hk, -⟩ := j_fm h
  have hkj : ∀ a : Nat, a < H.size → ¬ jΩ b1 b2 o1 o2 a → H1[a]? = H[a]? := fun a ha na => oq a (fun z => na (Or.inr (Or.inr (by rw [z]; exact ho))))
  have hk2 : kE kTab kA (jΩ b1 b2 o1 o2) s H1 := hk.kept hkj
  refine ⟨⟨nA, fun p hp => (a1 p hp).kept (oq _ (fun z => ?_)), a2, a3, hk2.narrow (fun q z => Or.inl z), fun p => ((a6 p).kept hkj).narrow (fun q z => Or.inl z)⟩, ⟨hm.1.kept (fun k q hq => oq q.1 (fun z => ?_)), hm.2.1, hm.2.2.1, hk2.narrow (fun q z => Or.inr (Or.inl z))⟩, hk2, h1⟩
  · have z : caOf b1 p = o := z
    have := cΩ_in (b := b1) ⟨p, hp, rfl⟩
    omega
  · have := mΩ_in (hm.2.2.1.2 k q hq)
    omega
theorem j_last {y : Int64} (X : gX p s m args c cc nL own (kR kTab kA)) (hap : APJ b1 b2 o1 o2) (hP : jP dC dI cg kA b1 b2 o1 o2 cL cD (S, M, x, d) s H) (hS : va_S A0 s.heap H locs) (hA : A0 o1) (hdg : decode cc pc = .ok (.lastore, 1))
    (kk : ∀ (H1 : Heap) (locs1 : List Loc), jP dC dI cg kA b1 b2 o1 o2 cL cD (S, M, y, d) s H1 → va_S A0 s.heap H1 locs1 → W p l e R s m args below meth c H1 locs1 cells slots Q (F0 m (pc + 1) ls rest)) : W p l e R s m args below meth c H locs cells slots Q (F0 m pc ls (.long y :: .int 0 :: .ref o1 :: rest)) := by
  have ho : oP cL cD o1 o2 x d s H := hP.2.2.2
  refine W.last X.hx X.hb ho.1 (ho.2.2.1 1 (fun _ => .long x)) (fun q => by cases q) (by show ¬ ((0 : Int32) < 0 ∨ (arrV _ _ _).slots.size ≤ _); rw [arrV_size]; exact zin1) rfl rfl hdg fun H1 e z oq => ?_
  have h3 := hap.2.2
  refine kk H1 _ (j_wr hap hP (Or.inl rfl) oq ⟨?_, (oq o2 (fun z => by have z : o2 = o1 := z; omega)).trans ho.2.1, ho.2.2⟩) (hS.put z oq hA)
  rw [e]
  rw [vp_cell_l, vp_cell_l, arrV_store]
  unfold arrV
  have e1 : (fun j : Fin 1 => updV (fun _ => Value.long x) (0 : Int32).toNatClampNeg (.long y) j.val) = fun _ : Fin 1 => Value.long y := funext fun j => by
    have h0 : j.val = (0 : Int32).toNatClampNeg := (show j.val = 0 by omega).trans (by decide)
    unfold updV
    rw [if_pos h0]
  rw [e1]
theorem j_dast {y : UInt64} (X : gX p s m args c cc nL own (kR kTab kA)) (hap : APJ b1 b2 o1 o2) (hP : jP dC dI cg kA b1 b2 o1 o2 cL cD (S, M, x, d) s H) (hS : va_S A0 s.heap H locs) (hA : A0 o2) (hdg : decode cc pc = .ok (.dastore, 1))
    (kk : ∀ (H1 : Heap) (locs1 : List Loc), jP dC dI cg kA b1 b2 o1 o2 cL cD (S, M, x, y) s H1 → va_S A0 s.heap H1 locs1 → W p l e R s m args below meth c H1 locs1 cells slots Q (F0 m (pc + 1) ls rest)) : W p l e R s m args below meth c H locs cells slots Q (F0 m pc ls (.double y :: .int 0 :: .ref o2 :: rest)) := by
  have ho : oP cL cD o1 o2 x d s H := hP.2.2.2
  refine W.dast X.hx X.hb ho.2.1 (ho.2.2.2 1 (fun _ => .double d)) (fun q => by cases q) (by show ¬ ((0 : Int32) < 0 ∨ (arrV _ _ _).slots.size ≤ _); rw [arrV_size]; exact zin1) rfl rfl hdg fun H1 e z oq => ?_
  have h3 := hap.2.2
  refine kk H1 _ (j_wr hap hP (Or.inr rfl) oq ⟨(oq o1 (fun z => by have z : o1 = o2 := z; omega)).trans ho.1, ?_, ho.2.2⟩) (hS.put z oq hA)
  rw [e]
  rw [vp_cell_d, vp_cell_d, arrV_store]
  unfold arrV
  have e1 : (fun j : Fin 1 => updV (fun _ => Value.double d) (0 : Int32).toNatClampNeg (.double y) j.val) = fun _ : Fin 1 => Value.double y := funext fun j => by
    have h0 : j.val = (0 : Int32).toNatClampNeg := (show j.val = 0 by omega).trans (by decide)
    unfold updV
    rw [if_pos h0]
  rw [e1]
theorem j_lald (X : gX p s m args c cc nL own (kR kTab kA)) (hP : jP dC dI cg kA b1 b2 o1 o2 cL cD (S, M, x, d) s H) (hdg : decode cc pc = .ok (.laload, 1))
    (kk : W p l e R s m args below meth c H locs cells slots Q (F0 m (pc + 1) ls (.long x :: rest))) : W p l e R s m args below meth c H locs cells slots Q (F0 m pc ls (.int 0 :: .ref o1 :: rest)) := by
  have ho : oP cL cD o1 o2 x d s H := hP.2.2.2
  exact W.lald (v := .long x) X.hx X.hb ho.1 (ho.2.2.1 1 (fun _ => .long x)) (fun q => by cases q) (by show ¬ ((0 : Int32) < 0 ∨ (arrV _ _ _).slots.size ≤ _); rw [arrV_size]; exact zin1) (by show (arrV _ _ _).slots[_]? = _; rw [arrV_read _ _ zlt1]) rfl rfl hdg kk
theorem j_dald (X : gX p s m args c cc nL own (kR kTab kA)) (hP : jP dC dI cg kA b1 b2 o1 o2 cL cD (S, M, x, d) s H) (hdg : decode cc pc = .ok (.daload, 1))
    (kk : W p l e R s m args below meth c H locs cells slots Q (F0 m (pc + 1) ls (.double d :: rest))) : W p l e R s m args below meth c H locs cells slots Q (F0 m pc ls (.int 0 :: .ref o2 :: rest)) := by
  have ho : oP cL cD o1 o2 x d s H := hP.2.2.2
  exact W.dald (v := .double d) X.hx X.hb ho.2.1 (ho.2.2.2 1 (fun _ => .double d)) (fun q => by cases q) (by show ¬ ((0 : Int32) < 0 ∨ (arrV _ _ _).slots.size ≤ _); rw [arrV_size]; exact zin1) (by show (arrV _ _ _).slots[_]? = _; rw [arrV_read _ _ zlt1]) rfl rfl hdg kk
end JROWS
