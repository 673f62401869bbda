/-! growing worlds: cells at known addresses, one behind the other; what a constructor makes -/
theorem strAt.narrow {a : Nat} {bs : List Int32} {A B : Nat → Prop} {U : State} {H : Heap} (h : strAt a bs A U H) (hAB : ∀ q, B q → A q) : strAt a bs B U H := by
  obtain ⟨ha, hn, v, ⟨c1, q1, q2, q3, q4⟩, ⟨x1, x2, x3, x4, x5, x6, x7, x8, x9, x10, x11⟩, ⟨y1, y2, y3, y4, y5, y6, y7, y8, y9, y10, y11⟩, ⟨z1, z2, z3, z4, z5, z6, z7, z8⟩⟩ := h
  exact ⟨ha, hn, v, ⟨c1, q1, q2, q3, fun z => q4 (hAB _ z)⟩, ⟨x1, x2, x3, x4, x5, x6, x7, x8, x9, x10, fun z => x11 (hAB _ z)⟩, ⟨y1, y2, y3, y4, y5, y6, y7, y8, y9, y10, fun z => y11 (hAB _ z)⟩, ⟨z1, z2, z3, z4, z5, z6, z7, fun z => z8 (hAB _ z)⟩⟩
theorem cmpS.narrow {A B : Nat → Prop} {U : State} {H : Heap} (h : cmpS A U H) (hAB : ∀ q, B q → A q) : cmpS B U H := by
  obtain ⟨⟨x1, x2, x3, x4, x5, x6, y1, y2, y3, y4, y5, y6, y7, y8⟩, h2, h3, h4⟩ := h
  exact ⟨⟨x1, x2, x3, x4, x5, x6, y1, y2, y3, y4, y5, y6, y7, fun z => y8 (hAB _ z)⟩, va_Zq.narrow h2 hAB, vx_Zq.narrow h3 hAB, vx_Zq.narrow h4 hAB⟩
theorem kE.narrow {kA : String → Nat → Nat} {A B : Nat → Prop} {U : State} {H : Heap} (h : kE kTab kA A U H) (hAB : ∀ q, B q → A q) : kE kTab kA B U H := ⟨fun q hq => (h.1 q hq).narrow hAB, h.2.narrow hAB⟩
/-- arrays of the class's objects can be made -/
def aOK (U : State) : Prop := va_AO "GranaryWatch$Granary" U ∧ va_AO "GranaryWatch$Cat" U ∧ va_AO "GranaryWatch$Sack" U ∧ va_AO "GranaryWatch$Shift" U
theorem aOK.moved {u U : State} (hvm : u.vm.Alike U.vm) (h : aOK u) : aOK U := ⟨va_AO.moved hvm h.1, va_AO.moved hvm h.2.1, va_AO.moved hvm h.2.2.1, va_AO.moved hvm h.2.2.2⟩
abbrev NW : Type := Nat × (Nat → va_E)
def nΩ (bs : Nat) : Nat → Prop := fun q => bs ≤ q
def nP (dC : Nat → ClassId) (dI : Nat → Nat → Nat) (cg : Nat → ClassId) (kA : String → Nat → Nat) (bs : Nat) : NW → State → Heap → Prop := fun w U H => H.size = bs + w.1 ∧ (∀ i, i < w.1 → va_at (dC, dI) vwCl (bs + i, w.2 i) H) ∧ va_K (dC, dI) vwCl (cTy cg) U ∧ kE kTab kA (nΩ bs) U H ∧ aOK U
section NEW
variable {p : Program} {l : Launch} {e : Env} {R : Room} {s : State} {m : MethodId} {args : Array Value} {below : List Frame} {meth : Method} {c : Code} {H : Heap} {locs : List Loc} {cells slots : Nat} {Q : State → Prop}
variable {cc : ByteArray} {pc nL : Nat} {ls : Array Slot} {rest : List Value} {dC : Nat → ClassId} {dI : Nat → Nat → Nat} {cg : Nat → ClassId} {kA : String → Nat → Nat} {bs : Nat} {own : String} {w : Nat → va_E} {n : Nat} {A0 : Nat → Prop}
theorem nOK : gOK (nP dC dI cg kA bs) (kR kTab kA) := ⟨fun S u U H hvm h => ⟨h.1, h.2.1, va_K.moved hvm h.2.2.1, h.2.2.2.1.moved hvm, h.2.2.2.2.moved hvm⟩, kR_ok⟩
theorem nP.to {w' : Nat → va_E} (h : nP dC dI cg kA bs (n, w) s H) (hw : ∀ q, q < n → w q = w' q) : nP dC dI cg kA bs (n, w') s H := ⟨h.1, fun i hi => by
  have h1 : va_at (dC, dI) vwCl (bs + i, w i) H := h.2.1 i hi
  rw [hw i hi] at h1
  exact h1, h.2.2⟩
theorem nP.up {i : Nat} {r : va_E} {H1 : Heap} (h : nP dC dI cg kA bs (n, w) s H) (h1 : va_at (dC, dI) vwCl (bs + i, r) H1) (z : H1.size = H.size) (oq : ∀ q : Nat, q ≠ bs + i → H1[q]? = H[q]?) : nP dC dI cg kA bs (n, va_up w i r) s H1 := by
  refine ⟨z.trans h.1, fun j hj => ?_, h.2.2.1, h.2.2.2.1.kept (fun a _ na => oq a (fun q => na (by show bs ≤ a; omega))), h.2.2.2.2⟩
  show va_at (dC, dI) vwCl (bs + j, va_up w i r j) H1
  by_cases hji : j = i
  · subst hji
    rw [vat]
    exact h1
  · rw [vne hji]
    exact (h.2.1 j hj).kept (oq _ (by show bs + j ≠ bs + i; omega))
theorem nP.add {r : va_E} {H1 : Heap} (h : nP dC dI cg kA bs (n, w) s H) (h1 : va_at (dC, dI) vwCl (bs + n, r) H1) (z : H1.size = bs + n + 1) (o1 : ∀ q : Nat, q < bs + n → H1[q]? = H[q]?) : nP dC dI cg kA bs (n + 1, va_up w n r) s H1 := by
  refine ⟨z, fun j hj => ?_, h.2.2.1, h.2.2.2.1.kept (fun a _ na => o1 a (by have : ¬ bs ≤ a := na; omega)), h.2.2.2.2⟩
  have hj : j < n + 1 := hj
  show va_at (dC, dI) vwCl (bs + j, va_up w n r j) H1
  by_cases hji : j = n
  · subst hji
    rw [vat]
    exact h1
  · rw [vne hji]
    exact (h.2.1 j (by show j < n; omega)).kept (o1 _ (by show bs + j < bs + n; omega))
theorem nS_add {H1 : Heap} {b : Nat} (hz : H.size = b) (hS : va_S A0 s.heap H locs) (z : H1.size = b + 1) (o1 : ∀ q : Nat, q < b → H1[q]? = H[q]?) : va_S A0 s.heap H1 locs := ⟨Nat.le_trans hS.1 (by omega), fun x h1 h2 => (o1 x (by have := hS.1; omega)).trans (hS.2.1 x h1 h2), hS.2.2⟩
theorem nw_new {N ci index : Nat} {C : String} {T : u_T} {tyT : Nat → FieldType} (fs : List Value) (X : gX p s m args c cc nL own (kR kTab kA)) (hP : nP dC dI cg kA bs (n, w) s H) (hS : va_S A0 s.heap H locs) (hin : ∀ w ∈ u_ws C T N, w ∈ TBG) (hty : ∀ k, k < N → parseFieldDescriptor (T k).2.2.1 = some (tyT k)) (hcl : Cond.classLink own index C ∈ TBG) (hinst : Cond.instantiable C N ∈ TBG) (hini : Cond.initialized C ∈ TBG) (hc : vwCl[ci]? = some (C, T, N)) (hfs : ∀ j, j < N → defaultValue (tyT j) = vp_V fs j) (hcells : cells + 1 ≤ R.cells ∧ slots + N ≤ R.slots) (hdg : decode cc pc = .ok (.new index, 3))
    (kk : ∀ (H1 : Heap), nP dC dI cg kA bs (n + 1, va_up w n (.inr (ci, fs))) s H1 → va_S A0 s.heap H1 locs → W p l e R s m args below meth c H1 locs (cells + 1) (slots + N) Q (F0 m (pc + 3) ls (.ref (bs + n) :: rest))) : W p l e R s m args below meth c H locs cells slots Q (F0 m pc ls rest) := by
  have hKn := hP.2.2.1.1 ci _ hc
  have hz : H.size = bs + n := hP.1
  refine W.newcK X.hx X.hb X.hown (X.hts _ hcl) (X.hts _ hinst) (X.hts _ hini) rfl hdg hcells.1 hcells.2 hKn.2.1 hz fun H1 kC hkC e1 z1 o1 => ?_
  exact kk H1 (hP.add ⟨_, hc, (u_born tyT X.hts hin hKn hkC e1 hty).to hfs⟩ z1 o1) (nS_add hz hS z1 o1)
theorem nw_newa {t0 N : Nat} {x : Int32} {ty : FieldType} (atype : ArrayType) (X : gX p s m args c cc nL own (kR kTab kA)) (hP : nP dC dI cg kA bs (n, w) s H) (hS : va_S A0 s.heap H locs) (hat : newarray.typeOf atype = ty) (harr : Cond.arrayClass ty ∈ TBG) (ht : (cTy cg)[t0]? = some (cg t0, ty)) (hra : ∀ cA, va_RA s cA ty = (s.vm.findClass ("[" ++ ty.toString) = some cA)) (hd : defaultValue ty = .int 0) (hn : ¬ x < 0) (hN : x.toNatClampNeg = N) (hbytes : N * componentBytes ty ≤ 536870912) (hcells : cells + 1 ≤ R.cells ∧ slots + N ≤ R.slots) (hdg : decode cc pc = .ok (.newarray atype, 2))
    (kk : ∀ (H1 : Heap), nP dC dI cg kA bs (n + 1, va_up w n (.inl (cg t0, N, .inl fun _ => 0))) s H1 → va_S A0 s.heap H1 locs → W p l e R s m args below meth c H1 locs (cells + 1) (slots + N) Q (F0 m (pc + 2) ls (.ref (bs + n) :: rest))) : W p l e R s m args below meth c H locs cells slots Q (F0 m pc ls (.int x :: rest)) := by
  subst hat
  have hz : H.size = bs + n := hP.1
  refine va_newaK (atype := atype) X.hx X.hb (X.hts _ harr) rfl hdg rfl hn hN hbytes hcells.1 hcells.2 hz fun H1 cA e1 z1 o1 hAr hNm => ?_
  have h0 := (hP.2.2.1.2 t0 _ ht).2
  rw [hra] at h0
  have hcA : cA = cg t0 := Option.some.inj (hNm.symm.trans h0)
  subst hcA
  rw [hd] at e1
  exact kk H1 (hP.add e1 z1 o1) (nS_add hz hS z1 o1)
theorem nw_newq {t0 N index : Nat} {x : Int32} {C : String} (X : gX p s m args c cc nL own (kR kTab kA)) (hP : nP dC dI cg kA bs (n, w) s H) (hS : va_S A0 s.heap H locs) (hcl : Cond.classLink own index C ∈ TBG) (hao : aOK s → va_AO C s) (ht : (cTy cg)[t0]? = some (cg t0, .object C)) (hn : ¬ x < 0) (hN : x.toNatClampNeg = N) (hbytes : N * 4 ≤ 536870912) (hcells : cells + 1 ≤ R.cells ∧ slots + N ≤ R.slots) (hdg : decode cc pc = .ok (.anewarray index, 3))
    (kk : ∀ (H1 : Heap), nP dC dI cg kA bs (n + 1, va_up w n (.inl (cg t0, N, .inr (.inr (.inr (.inr fun _ => none)))))) s H1 → va_S A0 s.heap H1 locs → W p l e R s m args below meth c H1 locs (cells + 1) (slots + N) Q (F0 m (pc + 3) ls (.ref (bs + n) :: rest))) : W p l e R s m args below meth c H locs cells slots Q (F0 m pc ls (.int x :: rest)) := by
  subst hN
  have hz : H.size = bs + n := hP.1
  refine W.anew X.hx X.hb X.hown (X.hts _ hcl) (va_AO.use (hao hP.2.2.2.2)) rfl hdg rfl hn hbytes hcells.1 hcells.2 fun cA kA comp f1 f2 f3 f4 => ?_
  obtain ⟨k2, comp2, g1, g2, g3, g4⟩ := (hP.2.2.1.2 t0 _ ht).2
  have hcA : cA = cg t0 := Option.some.inj (f1.symm.trans g4)
  subst hcA
  generalize hH1 : H.push ({ cls := cg t0, slots := Array.replicate x.toNatClampNeg .null, vm := .none } : Cell) = H1
  have z1 : H1.size = bs + n + 1 := by rw [← hH1, Array.size_push, hz]
  have e1 : H1[bs + n]? = some (arrV (cg t0) x.toNatClampNeg (fun _ => .null)) := by rw [← hz, ← hH1, Array.getElem?_push_size, ← arrV_new]
  have o1 : ∀ q : Nat, q < bs + n → H1[q]? = H[q]? := fun q hq => by rw [← hH1, Array.getElem?_push, if_neg (by omega)]
  rw [hz]
  exact kk H1 (hP.add (r := .inl (cg t0, x.toNatClampNeg, .inr (.inr (.inr (.inr fun _ => none))))) e1 z1 o1) (nS_add hz hS z1 o1)
theorem nw_put {N ci index i k : Nat} {C : String} {T : u_T} {tyT : Nat → FieldType} {fs : List Value} {v : Value} (X : gX p s m args c cc nL own (kR kTab kA)) (hP : nP dC dI cg kA bs (n, w) s H) (hS : va_S A0 s.heap H locs) (hA : A0 (bs + i)) (he : i < n ∧ w i = .inr (ci, fs)) (hc : vwCl[ci]? = some (C, T, N)) (hin : ∀ w ∈ u_ws C T N, w ∈ TBG) (hty : ∀ k, k < N → parseFieldDescriptor (T k).2.2.1 = some (tyT k)) (hnm : ∀ a, a < N → ∀ b, b < N → a ≠ b → (T a).2.1 ≠ (T b).2.1) (hk : k < N) (ho : (T k).1 = C) (hfin : (T k).2.2.2 = false) (hn : narrow (tyT k) v = v) (hfit : fits (tyT k) v = true) (hl : k < fs.length) (hlink : Cond.fieldLink own index C (T k).2.1 (T k).2.2.1 ∈ TBG) (hdg : decode cc pc = .ok (.putfield index, 3))
    (kk : ∀ (H1 : Heap) (locs1 : List Loc), nP dC dI cg kA bs (n, va_up w i (.inr (ci, fs.set k v))) s H1 → va_S A0 s.heap H1 locs1 → W p l e R s m args below meth c H1 locs1 cells slots Q (F0 m (pc + 3) ls rest)) : W p l e R s m args below meth c H locs cells slots Q (F0 m pc ls (v :: .ref (bs + i) :: rest)) := by
  have h0 : va_at (dC, dI) vwCl (bs + i, w i) H := hP.2.1 i he.1
  rw [he.2] at h0
  refine va_putO X.hx X.hb X.hts hin tyT hty hnm X.hown hP.2.2.1 h0 hc k hk (X.hts _ hlink) (fun x h => by rw [ho] at h; exact h) hfin (hty k hk) hn hfit hl hdg (fun H1 j h4 hz oq => ?_)
  exact kk H1 _ (hP.up h4 hz oq) (hS.put hz oq hA)
theorem nw_putF {N ci index i k : Nat} {C : String} {T : u_T} {tyT : Nat → FieldType} {fs : List Value} {v : Value} (X : gX p s m args c cc nL C (kR kTab kA)) (hmn : meth.name = "<init>") (hP : nP dC dI cg kA bs (n, w) s H) (hS : va_S A0 s.heap H locs) (hA : A0 (bs + i)) (he : i < n ∧ w i = .inr (ci, fs)) (hc : vwCl[ci]? = some (C, T, N)) (hin : ∀ w ∈ u_ws C T N, w ∈ TBG) (hty : ∀ k, k < N → parseFieldDescriptor (T k).2.2.1 = some (tyT k)) (hnm : ∀ a, a < N → ∀ b, b < N → a ≠ b → (T a).2.1 ≠ (T b).2.1) (hk : k < N) (ho : (T k).1 = C) (hfin : (T k).2.2.2 = true) (hn : narrow (tyT k) v = v) (hfit : fits (tyT k) v = true) (hl : k < fs.length) (hlink : Cond.fieldLink C index C (T k).2.1 (T k).2.2.1 ∈ TBG) (hdg : decode cc pc = .ok (.putfield index, 3))
    (kk : ∀ (H1 : Heap) (locs1 : List Loc), nP dC dI cg kA bs (n, va_up w i (.inr (ci, fs.set k v))) s H1 → va_S A0 s.heap H1 locs1 → W p l e R s m args below meth c H1 locs1 cells slots Q (F0 m (pc + 3) ls rest)) : W p l e R s m args below meth c H locs cells slots Q (F0 m pc ls (v :: .ref (bs + i) :: rest)) := by
  have h0 : va_at (dC, dI) vwCl (bs + i, w i) H := hP.2.1 i he.1
  rw [he.2] at h0
  refine va_putFO X.hx X.hb X.hts hin tyT hty hnm X.hown hP.2.2.1 h0 hc k hk (X.hts _ hlink) (fun x h => by rw [ho] at h; exact h) hfin hmn ho (hty k hk) hn hfit hl hdg (fun H1 j h4 hz oq => ?_)
  exact kk H1 _ (hP.up h4 hz oq) (hS.put hz oq hA)
theorem nw_get {N ci index i k : Nat} {C : String} {T : u_T} {fs : List Value} {v : Value} (X : gX p s m args c cc nL own (kR kTab kA)) (hP : nP dC dI cg kA bs (n, w) s H) (he : i < n ∧ w i = .inr (ci, fs)) (hv : fs[k]? = some v) (hc : vwCl[ci]? = some (C, T, N)) (hin : ∀ w ∈ u_ws C T N, w ∈ TBG) (hk : k < N) (ho : (T k).1 = C) (hlink : Cond.fieldLink own index C (T k).2.1 (T k).2.2.1 ∈ TBG) (hdg : decode cc pc = .ok (.getfield index, 3))
    (kk : W p l e R s m args below meth c H locs cells slots Q (F0 m (pc + 3) ls (v :: rest))) : W p l e R s m args below meth c H locs cells slots Q (F0 m pc ls (.ref (bs + i) :: rest)) := by
  have h0 : va_at (dC, dI) vwCl (bs + i, w i) H := hP.2.1 i he.1
  rw [he.2] at h0
  exact va_get X.hx X.hb X.hts hin X.hown hP.2.2.1 (cwo h0) 0 rfl hc k hk (X.hts _ hlink) (fun x h => by rw [ho] at h; exact h) hv hdg kk
theorem nw_alen {i t0 : Nat} {x : vp_A} {ty : FieldType} {v : Int32} (X : gX p s m args c cc nL own (kR kTab kA)) (hP : nP dC dI cg kA bs (n, w) s H) (he : i < n ∧ w i = .inl (cg t0, x)) (ht : (cTy cg)[t0]? = some (cg t0, ty)) (hv : Int32.ofNat x.1 = v) (hdg : decode cc pc = .ok (.arraylength, 1))
    (kk : W p l e R s m args below meth c H locs cells slots Q (F0 m (pc + 1) ls (.int v :: rest))) : W p l e R s m args below meth c H locs cells slots Q (F0 m pc ls (.ref (bs + i) :: rest)) := by
  have h0 : va_at (dC, dI) vwCl (bs + i, w i) H := hP.2.1 i he.1
  rw [he.2] at h0
  exact va_alen X.hx X.hb hP.2.2.1 (cwo h0) 0 t0 rfl ht hv hdg kk
theorem nw_aast {i j t0 ci N : Nat} {r : vw_C} {f : Nat → Option Nat} {vs : List Value} {x : Int32} (X : gX p s m args c cc nL own (kR kTab kA)) (hP : nP dC dI cg kA bs (n, w) s H) (hS : va_S A0 s.heap H locs) (hA : A0 (bs + i)) (he : i < n ∧ w i = .inl (cg t0, N, .inr (.inr (.inr (.inr f))))) (ht : (cTy cg)[t0]? = some (cg t0, .object r.1)) (hj : j < n ∧ w j = .inr (ci, vs)) (hc : vwCl[ci]? = some r) (hin : vp_in x N) (hdg : decode cc pc = .ok (.aastore, 1))
    (kk : ∀ (H1 : Heap) (locs1 : List Loc), nP dC dI cg kA bs (n, va_up w i (.inl (cg t0, N, .inr (.inr (.inr (.inr (va_up f x.toNatClampNeg (some (bs + j)))))))) ) s H1 → va_S A0 s.heap H1 locs1 → W p l e R s m args below meth c H1 locs1 cells slots Q (F0 m (pc + 1) ls rest)) : W p l e R s m args below meth c H locs cells slots Q (F0 m pc ls (.ref (bs + j) :: .int x :: .ref (bs + i) :: rest)) := by
  obtain ⟨hi, wi⟩ := he
  obtain ⟨hj, wj⟩ := hj
  have row : va_at (dC, dI) vwCl (bs + i, .inl (cg t0, N, .inr (.inr (.inr (.inr f))))) H := wi ▸ hP.2.1 i hi
  have obj : va_at (dC, dI) vwCl (bs + j, .inr (ci, vs)) H := wj ▸ hP.2.1 j hj
  obtain ⟨_, -, y, y1, y2, y3, -⟩ := obj
  have cls : ClassAt s r.1 (dC ci) := (hP.2.2.1.1 ci r hc).2
  obtain ⟨KA, d, a1, a2, a3, -⟩ := (hP.2.2.1.2 t0 _ ht).2
  cases a3.symm.trans cls.1
  obtain ⟨KC, c1, -⟩ := cls.2
  have store : ∀ v : Value, v = .ref (bs + j) → (arrV (cg t0) N fun q => va_rf (f q)).setSlot x.toNatClampNeg v = arrV (cg t0) N fun q => va_rf (va_up f x.toNatClampNeg (some (bs + j)) q) := fun v hv => by
    rw [arrV_store]
    refine congrArg (arrV (cg t0) N) (funext fun q => ?_)
    unfold updV va_up
    split
    · exact hv
    · rfl
  have inN : x.toNatClampNeg < (arrV (cg t0) N fun q => va_rf (f q)).slots.size := by
    rw [arrV_size]
    exact Nat.lt_of_not_le fun z => hin (Or.inr z)
  refine W.aast X.hx X.hb (show H[bs + i]? = some (arrV (cg t0) N fun q => va_rf (f q)) from row) nofun nofun a1 a2 rfl c1 ⟨fun z => hin (Or.inl z), inN⟩ y1 (fun q z => by rw [y3] at z; cases z) (by rw [y2]; exact c1) (by rw [y2]; exact va_assign cls) rfl rfl hdg fun H1 e z oq => kk H1 _ (hP.up ?_ z oq) (hS.put z oq hA)
  exact (e.trans (congrArg some (store _ rfl)) : H1[bs + i]? = _)
end NEW
