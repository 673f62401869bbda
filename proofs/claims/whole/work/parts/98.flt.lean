/-! answers that are double or float: contracts, and that a quotient of ints is a number -/
section FLTE
/-- a quotient of ints by an int other than 0 is a number (shown at the end, over the whole library) -/
def NNAN : Prop := (∀ {a b : Int32}, ¬ b = 0 → vf_n64 (FP.ddiv (FP.i2d a) (FP.i2d b))) ∧ ∀ {a b : Int32}, ¬ b = 0 → vf_n32 (FP.fdiv (FP.i2f a) (FP.i2f b))
variable {X : Type}
def gMetD (l : Launch) (y : MethodName) (c : ByteArray) (n : Nat) (lev : Nat) (Ω : Nat → Prop) (P : X → State → Heap → Prop) (KS : State → Prop) (av : List Value) (S : X) (r : UInt64) (S1 : X) : Prop :=
  ∀ sz, Met l y (wT y c n (some .double)) (rmL lev 0 0) (va_Pc av (gPre P KS S sz)) (va_Qd (fun (r' : UInt64) (u : X) => r' = r ∧ u = S1) (fun u t => P u t t.heap) (Fr Ω sz)) 0 0 (Fr Ω sz)
def gMetF (l : Launch) (y : MethodName) (c : ByteArray) (n : Nat) (lev : Nat) (Ω : Nat → Prop) (P : X → State → Heap → Prop) (KS : State → Prop) (av : List Value) (S : X) (r : UInt32) (S1 : X) : Prop :=
  ∀ sz, Met l y (wT y c n (some .float)) (rmL lev 0 0) (va_Pc av (gPre P KS S sz)) (va_Qf (fun (r' : UInt32) (u : X) => r' = r ∧ u = S1) (fun u t => P u t t.heap) (Fr Ω sz)) 0 0 (Fr Ω sz)
variable {p : Program} {l : Launch} {e : Env} {R : Room} {s : State} {m : MethodId} {args : Array Value} {below : List Frame} {meth : Method} {c : Code} {H : Heap} {locs : List Loc} {cells slots : Nat} {Q : State → Prop}
variable {cc : ByteArray} {pc nL : Nat} {ls : Array Slot} {rest : List Value} {own : String} {Ω : Nat → Prop} {P : X → State → Heap → Prop} {KS : State → Prop}
def gRetD (p : Program) (l : Launch) (e : Env) (R : Room) (s : State) (m : MethodId) (args : Array Value) (below : List Frame) (meth : Method) (c : Code) (cc : ByteArray) (Ω : Nat → Prop) (P : X → State → Heap → Prop) (Q : State → Prop) (r : UInt64) (S1 : X) : Prop :=
  ∀ (pc : Nat) (ls : Array Slot) (H : Heap) (locs : List Loc), decode cc pc = .ok (.dreturn, 1) → P S1 s H → va_S (Fr Ω s.heap.size) s.heap H locs → W p l e R s m args below meth c H locs 0 0 Q (F0 m pc ls [.double r])
def gRetF (p : Program) (l : Launch) (e : Env) (R : Room) (s : State) (m : MethodId) (args : Array Value) (below : List Frame) (meth : Method) (c : Code) (cc : ByteArray) (Ω : Nat → Prop) (P : X → State → Heap → Prop) (Q : State → Prop) (r : UInt32) (S1 : X) : Prop :=
  ∀ (pc : Nat) (ls : Array Slot) (H : Heap) (locs : List Loc), decode cc pc = .ok (.freturn, 1) → P S1 s H → va_S (Fr Ω s.heap.size) s.heap H locs → W p l e R s m args below meth c H locs 0 0 Q (F0 m pc ls [.float r])
theorem gEntryD {y : MethodName} {lev : Nat} {av : List Value} {S S1 : X} {r : UInt64} (hpl : plainName y.cls = true) (hO : gOK P KS) (hav : (lg_sl av).length ≤ nL)
    (body : ∀ (p : Program) (e : Env) (s : State) (m : MethodId) (args : Array Value) (below : List Frame) (meth : Method) (c : Code) (Q : State → Prop) (ls : Array Slot), gX p s m args c cc nL y.cls KS → P S s s.heap → va_S (Fr Ω s.heap.size) s.heap s.heap [] → gRetD p l e (rmL lev 0 0) s m args below meth c cc Ω P Q r S1 → lv_has ls nL (lv_args 0 av) → W p l e (rmL lev 0 0) s m args below meth c s.heap [] 0 0 Q (F0 m 0 ls [])) :
    gMetD l y cc nL lev Ω P KS av S r S1 := by
  intro sz
  refine Met.ofW (cc := cc) (maxL := nL) (ret := some .double) hpl rfl ?_
  intro p e s m args below meth c s₁ B hml hv
  obtain ⟨rfl, hsz, hP, hK⟩ := hv
  subst hsz
  have hlocks := B.notSynchronized
  have hts := atoms_spec (ws := wT y cc nL (some .double)) B.pre
  have hown : s.vm.findClass y.cls = some m.cls := findClass_of_methodNamed B.named
  have hl := lv_entry av (n := nL) hav
  rw [lg_entry_eq]
  refine body p e s m _ below meth c _ _ ⟨B.exec, B.bytes, hml, hown, fun w hw => hts w (List.mem_cons_of_mem _ hw), hK⟩ hP va_S.rf ?_ hl
  intro pc ls H locs hdg hP1 hS1
  refine W.dret (v := r) B.exec B.bytes B.returns (fun t ht hW => ⟨⟨r, S1, rfl, ⟨rfl, rfl⟩, by show P S1 t t.heap; rw [ht]; exact hO.1 _ _ _ _ hW.alike hP1⟩, hS1.F ht⟩) hS1.2.2 hdg
theorem gEntryF {y : MethodName} {lev : Nat} {av : List Value} {S S1 : X} {r : UInt32} (hpl : plainName y.cls = true) (hO : gOK P KS) (hav : (lg_sl av).length ≤ nL)
    (body : ∀ (p : Program) (e : Env) (s : State) (m : MethodId) (args : Array Value) (below : List Frame) (meth : Method) (c : Code) (Q : State → Prop) (ls : Array Slot), gX p s m args c cc nL y.cls KS → P S s s.heap → va_S (Fr Ω s.heap.size) s.heap s.heap [] → gRetF p l e (rmL lev 0 0) s m args below meth c cc Ω P Q r S1 → lv_has ls nL (lv_args 0 av) → W p l e (rmL lev 0 0) s m args below meth c s.heap [] 0 0 Q (F0 m 0 ls [])) :
    gMetF l y cc nL lev Ω P KS av S r S1 := by
  intro sz
  refine Met.ofW (cc := cc) (maxL := nL) (ret := some .float) hpl rfl ?_
  intro p e s m args below meth c s₁ B hml hv
  obtain ⟨rfl, hsz, hP, hK⟩ := hv
  subst hsz
  have hlocks := B.notSynchronized
  have hts := atoms_spec (ws := wT y cc nL (some .float)) B.pre
  have hown : s.vm.findClass y.cls = some m.cls := findClass_of_methodNamed B.named
  have hl := lv_entry av (n := nL) hav
  rw [lg_entry_eq]
  refine body p e s m _ below meth c _ _ ⟨B.exec, B.bytes, hml, hown, fun w hw => hts w (List.mem_cons_of_mem _ hw), hK⟩ hP va_S.rf ?_ hl
  intro pc ls H locs hdg hP1 hS1
  refine W.fret (v := r) B.exec B.bytes B.returns (fun t ht hW => ⟨⟨r, S1, rfl, ⟨rfl, rfl⟩, by show P S1 t t.heap; rw [ht]; exact hO.1 _ _ _ _ hW.alike hP1⟩, hS1.F ht⟩) hS1.2.2 hdg
end FLTE
section FLTM
variable {l : Launch} {p : Program} {e : Env} {s : State} {m : MethodId} {args : Array Value} {below : List Frame} {meth : Method} {c : Code} {A : Nat → Prop} {Q : State → Prop}
variable {dC : Nat → ClassId} {dI : Nat → Nat → Nat} {cI : ClassId} {kA : String → Nat → Nat} {ad : Nat → Nat}
def fX11_averageTiredness_14 (M : MS) (s0 : Int32) : Option (UInt64 × MS) := if gIn 0 257 then if ¬ (M.2 0 (0 : Int32).toNatClampNeg) = 0 then some ((FP.ddiv (FP.i2d s0) (FP.i2d (M.2 0 (0 : Int32).toNatClampNeg))), M) else none else none
def fX11_averageTiredness_5 (M : MS) : Option (UInt64 × MS) := (fX11_sumOf M 65 0 9).bind fun q => fX11_averageTiredness_14 M q
def fX11_averageTiredness_0 (M : MS) : Option (UInt64 × MS) := fX11_averageTiredness_5 (va_up M.1 7 0, M.2)
def fX11_averageTiredness (M : MS) : Option (UInt64 × MS) := fX11_averageTiredness_0  M
def fX11_shareOf_23 (M : MS) : Option (UInt32 × MS) := some (FP.fconst0, M)
def fX11_shareOf_32 (M : MS) (s0 : Int32) : Option (UInt32 × MS) := if gIn 8 257 then if ¬ (M.2 0 (8 : Int32).toNatClampNeg) = 0 then some ((FP.fdiv (FP.i2f s0) (FP.i2f (M.2 0 (8 : Int32).toNatClampNeg))), M) else none else none
def fX11_shareOf_25 (M : MS) (x1 : Int32) : Option (UInt32 × MS) := (fX11_ofCat M x1 10).bind fun q => fX11_shareOf_32 M q
def fX11_shareOf_13 (M : MS) (x1 : Int32) : Option (UInt32 × MS) := if gIn 8 257 then if (M.2 0 (8 : Int32).toNatClampNeg) = 0 then fX11_shareOf_23 M else fX11_shareOf_25 M x1 else none
def fX11_shareOf_10 (M : MS) (x1 : Int32) (s0 : Int32) : Option (UInt32 × MS) := if s0 = 0 then fX11_shareOf_13 M x1 else fX11_shareOf_23 M
def fX11_shareOf_5 (M : MS) (x1 : Int32) : Option (UInt32 × MS) := (fX11_noCat M x1).bind fun q => fX11_shareOf_10 q.2 x1 q.1
def fX11_shareOf_0 (M : MS) (a1 : Int32) : Option (UInt32 × MS) := fX11_shareOf_5 (va_up M.1 7 0, M.2) a1
def fX11_shareOf (M : MS) (a1 : Int32) : Option (UInt32 × MS) := fX11_shareOf_0  M a1
set_option maxRecDepth 10000 in
theorem kX11_averageTiredness_14 {r : UInt64} {S1 : MS} {M : MS} {s0 : Int32} {H : Heap} {locs : List Loc} {ls : Array Slot} (hnn : NNAN) (X : gX p s m args c cX11_averageTiredness 1 RX11 (kR kTab kA)) (hret : gRetD p l e (rmL 2 0 0) s m args below meth c cX11_averageTiredness (mΩ ad) (mP dC dI cI kA ad) Q r S1) (hf : fX11_averageTiredness_14 M s0 = some (r, S1)) (hP : (mP dC dI cI kA ad) M s H) (hS : va_S (Fr (mΩ ad) s.heap.size) s.heap H locs) (hl : lv_has ls 1 [(0, .ref (ad 25))]) : W p l e (rmL 2 0 0) s m args below meth c H locs 0 0 Q (F0 m 14 ls [.int s0]) := by
  have hx := X.hx
  have hb := X.hb
  have hown := X.hown
  have hts := X.hts
  rw [fX11_averageTiredness_14] at hf
  refine lv_i2d hx hb dX11_averageTiredness_14 ?_
  refine lv_aload_n hx hb dX11_averageTiredness_15 rfl (lv_at hl 0 rfl) ?_
  refine mr_get (k := 0) X hP (by decide) rfl rfl tw1665 dX11_averageTiredness_16 ?_
  refine lv_iconst (v := 0) hx hb dX11_averageTiredness_19 (by decide) ?_
  obtain ⟨g1, hf⟩ := gd hf
  refine mr_ald (a := 0) X hP rfl g1 dX11_averageTiredness_20 ?_
  refine lv_i2d hx hb dX11_averageTiredness_21 ?_
  obtain ⟨g2, hf⟩ := gd hf
  refine lv_ddiv hx hb dX11_averageTiredness_22 (hnn.1 g2) ?_
  cases hf
  exact hret _ _ _ _ dX11_averageTiredness_23 hP hS
set_option maxRecDepth 10000 in
theorem kX11_averageTiredness_5 {r : UInt64} {S1 : MS} {M : MS} {H : Heap} {locs : List Loc} {ls : Array Slot} (hnn : NNAN) (X : gX p s m args c cX11_averageTiredness 1 RX11 (kR kTab kA)) (hret : gRetD p l e (rmL 2 0 0) s m args below meth c cX11_averageTiredness (mΩ ad) (mP dC dI cI kA ad) Q r S1) (hf : fX11_averageTiredness_5 M = some (r, S1)) (hP : (mP dC dI cI kA ad) M s H) (hS : va_S (Fr (mΩ ad) s.heap.size) s.heap H locs) (hl : lv_has ls 1 [(0, .ref (ad 25))]) : W p l e (rmL 2 0 0) s m args below meth c H locs 0 0 Q (F0 m 5 ls []) := by
  have hx := X.hx
  have hb := X.hb
  have hown := X.hown
  have hts := X.hts
  rw [fX11_averageTiredness_5] at hf
  refine lv_aload_n hx hb dX11_averageTiredness_5 rfl (lv_at hl 0 rfl) ?_
  refine lv_bipush (v := 65) hx hb dX11_averageTiredness_6 (by decide) ?_
  refine lv_iconst (v := 0) hx hb dX11_averageTiredness_8 (by decide) ?_
  refine lv_bipush (v := 9) hx hb dX11_averageTiredness_9 (by decide) ?_
  obtain ⟨q, hc, hf⟩ := bd hf
  refine gCallVR X rfl (vX11_sumOf hc) gRX11_X11_sumOf hdX11_sumOf rfl ⟨by decide, by decide⟩ (gB_blind mOK) (gB_at mOK X hP) (mrec hP) hl.1 (Nat.le_of_ble_eq_true rfl) ⟨Nat.le_refl _, Nat.le_refl _⟩ dX11_averageTiredness_11 (As := [.int 65, .int 0, .int 9]) (rest := []) rfl ?_
  exact kX11_averageTiredness_14 hnn X hret hf hP hS (lv_sub hl [0] rfl)
set_option maxRecDepth 10000 in
theorem kX11_averageTiredness_0 {r : UInt64} {S1 : MS} {M : MS} {H : Heap} {locs : List Loc} {ls : Array Slot} (hnn : NNAN) (X : gX p s m args c cX11_averageTiredness 1 RX11 (kR kTab kA)) (hret : gRetD p l e (rmL 2 0 0) s m args below meth c cX11_averageTiredness (mΩ ad) (mP dC dI cI kA ad) Q r S1) (hf : fX11_averageTiredness_0 M = some (r, S1)) (hP : (mP dC dI cI kA ad) M s H) (hS : va_S (Fr (mΩ ad) s.heap.size) s.heap H locs) (hl : lv_has ls 1 [(0, .ref (ad 25))]) : W p l e (rmL 2 0 0) s m args below meth c H locs 0 0 Q (F0 m 0 ls []) := by
  have hx := X.hx
  have hb := X.hb
  have hown := X.hown
  have hts := X.hts
  rw [fX11_averageTiredness_0] at hf
  refine lv_aload_n hx hb dX11_averageTiredness_0 rfl (lv_at hl 0 rfl) ?_
  refine lv_iconst (v := 0) hx hb dX11_averageTiredness_1 (by decide) ?_
  refine mr_put (k := 7) X hP hS (by decide) rfl rfl rfl rfl tw1672 dX11_averageTiredness_2 (fun H locs hP hS => ?_)
  exact kX11_averageTiredness_5 hnn X hret hf hP hS (lv_sub hl [0] rfl)
theorem vX11_averageTiredness {l : Launch} {dC : Nat → ClassId} {dI : Nat → Nat → Nat} {cI : ClassId} {kA : String → Nat → Nat} {ad : Nat → Nat} {M S1 : MS} {r : UInt64} (hnn : NNAN) (hf : fX11_averageTiredness M  = some (r, S1)) : gMetD l yX11_averageTiredness cX11_averageTiredness 1 2 (mΩ ad) (mP dC dI cI kA ad) (kR kTab kA) [.ref (ad 25)] M r S1 := gEntryD (by decide) mOK (Nat.le_of_ble_eq_true rfl) (fun p e s m args below meth c Q ls X hP hS hret hl => 
  kX11_averageTiredness_0 hnn X hret hf hP hS (lv_sub hl [0] rfl))
set_option maxRecDepth 10000 in
theorem kX11_shareOf_23 {r : UInt32} {S1 : MS} {M : MS} {H : Heap} {locs : List Loc} {ls : Array Slot} (hnn : NNAN) (X : gX p s m args c cX11_shareOf 2 RX11 (kR kTab kA)) (hret : gRetF p l e (rmL 3 0 0) s m args below meth c cX11_shareOf (mΩ ad) (mP dC dI cI kA ad) Q r S1) (hf : fX11_shareOf_23 M = some (r, S1)) (hP : (mP dC dI cI kA ad) M s H) (hS : va_S (Fr (mΩ ad) s.heap.size) s.heap H locs) (hl : lv_has ls 2 [(0, .ref (ad 25))]) : W p l e (rmL 3 0 0) s m args below meth c H locs 0 0 Q (F0 m 23 ls []) := by
  have hx := X.hx
  have hb := X.hb
  have hown := X.hown
  have hts := X.hts
  rw [fX11_shareOf_23] at hf
  refine lv_fconst0 hx hb dX11_shareOf_23 ?_
  cases hf
  exact hret _ _ _ _ dX11_shareOf_24 hP hS
set_option maxRecDepth 10000 in
theorem kX11_shareOf_32 {r : UInt32} {S1 : MS} {M : MS} {s0 : Int32} {H : Heap} {locs : List Loc} {ls : Array Slot} (hnn : NNAN) (X : gX p s m args c cX11_shareOf 2 RX11 (kR kTab kA)) (hret : gRetF p l e (rmL 3 0 0) s m args below meth c cX11_shareOf (mΩ ad) (mP dC dI cI kA ad) Q r S1) (hf : fX11_shareOf_32 M s0 = some (r, S1)) (hP : (mP dC dI cI kA ad) M s H) (hS : va_S (Fr (mΩ ad) s.heap.size) s.heap H locs) (hl : lv_has ls 2 [(0, .ref (ad 25))]) : W p l e (rmL 3 0 0) s m args below meth c H locs 0 0 Q (F0 m 32 ls [.int s0]) := by
  have hx := X.hx
  have hb := X.hb
  have hown := X.hown
  have hts := X.hts
  rw [fX11_shareOf_32] at hf
  refine lv_i2f hx hb dX11_shareOf_32 ?_
  refine lv_aload_n hx hb dX11_shareOf_33 rfl (lv_at hl 0 rfl) ?_
  refine mr_get (k := 0) X hP (by decide) rfl rfl tw1665 dX11_shareOf_34 ?_
  refine lv_bipush (v := 8) hx hb dX11_shareOf_37 (by decide) ?_
  obtain ⟨g1, hf⟩ := gd hf
  refine mr_ald (a := 0) X hP rfl g1 dX11_shareOf_39 ?_
  refine lv_i2f hx hb dX11_shareOf_40 ?_
  obtain ⟨g2, hf⟩ := gd hf
  refine lv_fdiv hx hb dX11_shareOf_41 (hnn.2 g2) ?_
  cases hf
  exact hret _ _ _ _ dX11_shareOf_42 hP hS
set_option maxRecDepth 10000 in
theorem kX11_shareOf_25 {r : UInt32} {S1 : MS} {M : MS} {x1 : Int32} {H : Heap} {locs : List Loc} {ls : Array Slot} (hnn : NNAN) (X : gX p s m args c cX11_shareOf 2 RX11 (kR kTab kA)) (hret : gRetF p l e (rmL 3 0 0) s m args below meth c cX11_shareOf (mΩ ad) (mP dC dI cI kA ad) Q r S1) (hf : fX11_shareOf_25 M x1 = some (r, S1)) (hP : (mP dC dI cI kA ad) M s H) (hS : va_S (Fr (mΩ ad) s.heap.size) s.heap H locs) (hl : lv_has ls 2 [(0, .ref (ad 25)), (1, .int x1)]) : W p l e (rmL 3 0 0) s m args below meth c H locs 0 0 Q (F0 m 25 ls []) := by
  have hx := X.hx
  have hb := X.hb
  have hown := X.hown
  have hts := X.hts
  rw [fX11_shareOf_25] at hf
  refine lv_aload_n hx hb dX11_shareOf_25 rfl (lv_at hl 0 rfl) ?_
  refine lv_iload_n hx hb dX11_shareOf_26 rfl (lv_at hl 1 rfl) ?_
  refine lv_bipush (v := 10) hx hb dX11_shareOf_27 (by decide) ?_
  obtain ⟨q, hc, hf⟩ := bd hf
  refine gCallVR X rfl (vX11_ofCat hc) gRX11_X11_ofCat hdX11_ofCat rfl ⟨by decide, by decide⟩ (gB_blind mOK) (gB_at mOK X hP) (mrec hP) hl.1 (Nat.le_of_ble_eq_true rfl) ⟨Nat.le_refl _, Nat.le_refl _⟩ dX11_shareOf_29 (As := [.int x1, .int 10]) (rest := []) rfl ?_
  exact kX11_shareOf_32 hnn X hret hf hP hS (lv_sub hl [0] rfl)
set_option maxRecDepth 10000 in
theorem kX11_shareOf_13 {r : UInt32} {S1 : MS} {M : MS} {x1 : Int32} {H : Heap} {locs : List Loc} {ls : Array Slot} (hnn : NNAN) (X : gX p s m args c cX11_shareOf 2 RX11 (kR kTab kA)) (hret : gRetF p l e (rmL 3 0 0) s m args below meth c cX11_shareOf (mΩ ad) (mP dC dI cI kA ad) Q r S1) (hf : fX11_shareOf_13 M x1 = some (r, S1)) (hP : (mP dC dI cI kA ad) M s H) (hS : va_S (Fr (mΩ ad) s.heap.size) s.heap H locs) (hl : lv_has ls 2 [(0, .ref (ad 25)), (1, .int x1)]) : W p l e (rmL 3 0 0) s m args below meth c H locs 0 0 Q (F0 m 13 ls []) := by
  have hx := X.hx
  have hb := X.hb
  have hown := X.hown
  have hts := X.hts
  rw [fX11_shareOf_13] at hf
  refine lv_aload_n hx hb dX11_shareOf_13 rfl (lv_at hl 0 rfl) ?_
  refine mr_get (k := 0) X hP (by decide) rfl rfl tw1665 dX11_shareOf_14 ?_
  refine lv_bipush (v := 8) hx hb dX11_shareOf_17 (by decide) ?_
  obtain ⟨g1, hf⟩ := gd hf
  refine mr_ald (a := 0) X hP rfl g1 dX11_shareOf_19 ?_
  refine lv_if_ne (tgt := 25) hx hb dX11_shareOf_20 (by decide) (fun c1 => ?_) (fun c1 => ?_)
  · exact kX11_shareOf_25 hnn X hret (ifn c1 hf) hP hS (lv_sub hl [0, 1] rfl)
  · exact kX11_shareOf_23 hnn X hret (ifp c1 hf) hP hS (lv_sub hl [0] rfl)
set_option maxRecDepth 10000 in
theorem kX11_shareOf_10 {r : UInt32} {S1 : MS} {M : MS} {x1 : Int32} {s0 : Int32} {H : Heap} {locs : List Loc} {ls : Array Slot} (hnn : NNAN) (X : gX p s m args c cX11_shareOf 2 RX11 (kR kTab kA)) (hret : gRetF p l e (rmL 3 0 0) s m args below meth c cX11_shareOf (mΩ ad) (mP dC dI cI kA ad) Q r S1) (hf : fX11_shareOf_10 M x1 s0 = some (r, S1)) (hP : (mP dC dI cI kA ad) M s H) (hS : va_S (Fr (mΩ ad) s.heap.size) s.heap H locs) (hl : lv_has ls 2 [(0, .ref (ad 25)), (1, .int x1)]) : W p l e (rmL 3 0 0) s m args below meth c H locs 0 0 Q (F0 m 10 ls [.int s0]) := by
  have hx := X.hx
  have hb := X.hb
  have hown := X.hown
  have hts := X.hts
  rw [fX11_shareOf_10] at hf
  refine lv_if_ne (tgt := 23) hx hb dX11_shareOf_10 (by decide) (fun c1 => ?_) (fun c1 => ?_)
  · exact kX11_shareOf_23 hnn X hret (ifn c1 hf) hP hS (lv_sub hl [0] rfl)
  · exact kX11_shareOf_13 hnn X hret (ifp c1 hf) hP hS (lv_sub hl [0, 1] rfl)
set_option maxRecDepth 10000 in
theorem kX11_shareOf_5 {r : UInt32} {S1 : MS} {M : MS} {x1 : Int32} {H : Heap} {locs : List Loc} {ls : Array Slot} (hnn : NNAN) (X : gX p s m args c cX11_shareOf 2 RX11 (kR kTab kA)) (hret : gRetF p l e (rmL 3 0 0) s m args below meth c cX11_shareOf (mΩ ad) (mP dC dI cI kA ad) Q r S1) (hf : fX11_shareOf_5 M x1 = some (r, S1)) (hP : (mP dC dI cI kA ad) M s H) (hS : va_S (Fr (mΩ ad) s.heap.size) s.heap H locs) (hl : lv_has ls 2 [(0, .ref (ad 25)), (1, .int x1)]) : W p l e (rmL 3 0 0) s m args below meth c H locs 0 0 Q (F0 m 5 ls []) := by
  have hx := X.hx
  have hb := X.hb
  have hown := X.hown
  have hts := X.hts
  rw [fX11_shareOf_5] at hf
  refine lv_aload_n hx hb dX11_shareOf_5 rfl (lv_at hl 0 rfl) ?_
  refine lv_iload_n hx hb dX11_shareOf_6 rfl (lv_at hl 1 rfl) ?_
  obtain ⟨q, hc, hf⟩ := bd hf
  refine gCallVI X mOK rfl (vX11_noCat hc) gRX11_X11_noCat hdX11_noCat rfl ⟨by decide, by decide⟩ hP hS (mrec hP) hl.1 (Nat.le_of_ble_eq_true rfl) ⟨Nat.le_refl _, Nat.le_refl _⟩ dX11_shareOf_7 (As := [.int x1]) (rest := []) rfl (fun H locs hP hS => ?_)
  exact kX11_shareOf_10 hnn X hret hf hP hS (lv_sub hl [0, 1] rfl)
set_option maxRecDepth 10000 in
theorem kX11_shareOf_0 {r : UInt32} {S1 : MS} {M : MS} {a1 : Int32} {H : Heap} {locs : List Loc} {ls : Array Slot} (hnn : NNAN) (X : gX p s m args c cX11_shareOf 2 RX11 (kR kTab kA)) (hret : gRetF p l e (rmL 3 0 0) s m args below meth c cX11_shareOf (mΩ ad) (mP dC dI cI kA ad) Q r S1) (hf : fX11_shareOf_0 M a1 = some (r, S1)) (hP : (mP dC dI cI kA ad) M s H) (hS : va_S (Fr (mΩ ad) s.heap.size) s.heap H locs) (hl : lv_has ls 2 [(0, .ref (ad 25)), (1, .int a1)]) : W p l e (rmL 3 0 0) s m args below meth c H locs 0 0 Q (F0 m 0 ls []) := by
  have hx := X.hx
  have hb := X.hb
  have hown := X.hown
  have hts := X.hts
  rw [fX11_shareOf_0] at hf
  refine lv_aload_n hx hb dX11_shareOf_0 rfl (lv_at hl 0 rfl) ?_
  refine lv_iconst (v := 0) hx hb dX11_shareOf_1 (by decide) ?_
  refine mr_put (k := 7) X hP hS (by decide) rfl rfl rfl rfl tw1672 dX11_shareOf_2 (fun H locs hP hS => ?_)
  exact kX11_shareOf_5 hnn X hret hf hP hS (lv_sub hl [0, 1] rfl)
theorem vX11_shareOf {l : Launch} {dC : Nat → ClassId} {dI : Nat → Nat → Nat} {cI : ClassId} {kA : String → Nat → Nat} {ad : Nat → Nat} {M S1 : MS} {r : UInt32} {a1 : Int32} (hnn : NNAN) (hf : fX11_shareOf M a1 = some (r, S1)) : gMetF l yX11_shareOf cX11_shareOf 2 3 (mΩ ad) (mP dC dI cI kA ad) (kR kTab kA) [.ref (ad 25), .int a1] M r S1 := gEntryF (by decide) mOK (Nat.le_of_ble_eq_true rfl) (fun p e s m args below meth c Q ls X hP hS hret hl => 
  kX11_shareOf_0 hnn X hret hf hP hS (lv_sub hl [0, 1] rfl))
end FLTM
section FLTC
variable {l : Launch} {p : Program} {e : Env} {s : State} {m : MethodId} {args : Array Value} {below : List Frame} {meth : Method} {c : Code} {A : Nat → Prop} {Q : State → Prop}
variable {dC : Nat → ClassId} {dI : Nat → Nat → Nat} {cg : Nat → ClassId} {kA : String → Nat → Nat} {ca : Nat → Nat}
def fX10_averageTiredness_48 (M : CS) (x1 : Int32) : Option (UInt64 × CS) := if ¬ (M.1 13 5) = 0 then some ((FP.ddiv (FP.i2d x1) (FP.i2d (M.1 13 5))), M) else none
def fX10_averageTiredness_27 (K16 : CS → Int32 → Int32 → Option (UInt64 × CS)) (M : CS) (x1 : Int32) (x2 : Int32) : Option (UInt64 × CS) := if gIn x2 8 then K16 M (x1 + (M.1 ((13 + 1) + 8 + x2.toNatClampNeg) 3)) (x2 + 1) else none
def fX10_averageTiredness_16 : Nat → CS → Int32 → Int32 → Option (UInt64 × CS)
  | 0 => fun _ _ _ => none
  | k + 1 => fun M x1 x2 => if (M.1 13 5) ≤ x2 then fX10_averageTiredness_48 M x1 else fX10_averageTiredness_27 (fX10_averageTiredness_16 k) M x1 x2
def fX10_averageTiredness_12 (M : CS) : Option (UInt64 × CS) := fX10_averageTiredness_16 FU M 0 0
def fX10_averageTiredness_10 (M : CS) : Option (UInt64 × CS) := some (FP.dconst0, M)
def fX10_averageTiredness_0 (M : CS) : Option (UInt64 × CS) := if (M.1 13 5) = 0 then fX10_averageTiredness_10 M else fX10_averageTiredness_12 M
def fX10_averageTiredness (M : CS) : Option (UInt64 × CS) := fX10_averageTiredness_0  M
def fX10_shareOf_24 (M : CS) (x2 : Int32) : Option (UInt32 × CS) := if ¬ (M.1 (13 + 8) 0) = 0 then some ((FP.fdiv (FP.i2f x2) (FP.i2f (M.1 (13 + 8) 0))), M) else none
def fX10_shareOf_22 (M : CS) : Option (UInt32 × CS) := some (FP.fconst0, M)
def fX10_shareOf_5 (M : CS) (z0 : Nat) : Option (UInt32 × CS) := if (M.1 (13 + 8) 0) = 0 then fX10_shareOf_22 M else fX10_shareOf_24 M (M.1 z0 4)
def fX10_shareOf_0 (M : CS) (a1 : Int32) : Option (UInt32 × CS) := (fX10_catAt M a1).bind fun q => fX10_shareOf_5 M q
def fX10_shareOf (M : CS) (a1 : Int32) : Option (UInt32 × CS) := fX10_shareOf_0  M a1
set_option maxRecDepth 10000 in
theorem kX10_averageTiredness_48 {r : UInt64} {S1 : CS} {M : CS} {x1 : Int32} {H : Heap} {locs : List Loc} {ls : Array Slot} (hnn : NNAN) (X : gX p s m args c cX10_averageTiredness 3 RX10 (kR kTab kA)) (hret : gRetD p l e (rmL 1 0 0) s m args below meth c cX10_averageTiredness (cΩ ca) (cP dC dI cg kA ca) Q r S1) (hf : fX10_averageTiredness_48 M x1 = some (r, S1)) (hP : (cP dC dI cg kA ca) M s H) (hS : va_S (Fr (cΩ ca) s.heap.size) s.heap H locs) (hl : lv_has ls 3 [(0, .ref (ca 0)), (1, .int x1)]) : W p l e (rmL 1 0 0) s m args below meth c H locs 0 0 Q (F0 m 48 ls []) := by
  have hx := X.hx
  have hb := X.hb
  have hown := X.hown
  have hts := X.hts
  rw [fX10_averageTiredness_48] at hf
  refine lv_iload_n hx hb dX10_averageTiredness_48 rfl (lv_at hl 1 rfl) ?_
  refine lv_i2d hx hb dX10_averageTiredness_49 ?_
  refine lv_aload_n hx hb dX10_averageTiredness_50 rfl (lv_at hl 0 rfl) ?_
  refine cr_get (k := 2) X hP (rfl : kc 0 = 0) rfl cv0_2 rfl cinX10 (by decide) rfl tw957 dX10_averageTiredness_51 ?_
  refine cr_get (k := 5) X hP (rfl : kc 13 = 11) rfl cv11_5 rfl cinX2 (by decide) rfl tw328 dX10_averageTiredness_54 ?_
  refine lv_i2d hx hb dX10_averageTiredness_57 ?_
  obtain ⟨g1, hf⟩ := gd hf
  refine lv_ddiv hx hb dX10_averageTiredness_58 (hnn.1 g1) ?_
  cases hf
  exact hret _ _ _ _ dX10_averageTiredness_59 hP hS
set_option maxRecDepth 10000 in
theorem kX10_averageTiredness_27 {r : UInt64} {S1 : CS} {K16 : CS → Int32 → Int32 → Option (UInt64 × CS)} {M : CS} {x1 : Int32} {x2 : Int32} {H : Heap} {locs : List Loc} {ls : Array Slot} (hnn : NNAN) (X : gX p s m args c cX10_averageTiredness 3 RX10 (kR kTab kA)) (hret : gRetD p l e (rmL 1 0 0) s m args below meth c cX10_averageTiredness (cΩ ca) (cP dC dI cg kA ca) Q r S1) (hK16 : ∀ (M : CS) (x1 : Int32) (x2 : Int32) (H : Heap) (locs : List Loc) (ls : Array Slot), K16 M x1 x2 = some (r, S1) → (cP dC dI cg kA ca) M s H → va_S (Fr (cΩ ca) s.heap.size) s.heap H locs → lv_has ls 3 [(0, .ref (ca 0)), (1, .int x1), (2, .int x2)] → W p l e (rmL 1 0 0) s m args below meth c H locs 0 0 Q (F0 m 16 ls [])) (hf : fX10_averageTiredness_27 K16 M x1 x2 = some (r, S1)) (hP : (cP dC dI cg kA ca) M s H) (hS : va_S (Fr (cΩ ca) s.heap.size) s.heap H locs) (hl : lv_has ls 3 [(0, .ref (ca 0)), (1, .int x1), (2, .int x2)]) : W p l e (rmL 1 0 0) s m args below meth c H locs 0 0 Q (F0 m 27 ls []) := by
  have hx := X.hx
  have hb := X.hb
  have hown := X.hown
  have hts := X.hts
  rw [fX10_averageTiredness_27] at hf
  refine lv_iload_n hx hb dX10_averageTiredness_27 rfl (lv_at hl 1 rfl) ?_
  refine lv_aload_n hx hb dX10_averageTiredness_28 rfl (lv_at hl 0 rfl) ?_
  refine cr_get (k := 2) X hP (rfl : kc 0 = 0) rfl cv0_2 rfl cinX10 (by decide) rfl tw957 dX10_averageTiredness_29 ?_
  refine cr_get (k := 0) X hP (rfl : kc 13 = 11) rfl cv11_0 rfl cinX2 (by decide) rfl tw315 dX10_averageTiredness_32 ?_
  refine lv_iload_n hx hb dX10_averageTiredness_35 rfl (lv_at hl 2 rfl) ?_
  obtain ⟨g1, hf⟩ := gd hf
  refine cr_aald (f := fun i => (13 + 1) + 8 + i) X hP (kc_cats (rfl : kc 13 = 11)) rfl (fun _ => rfl) rfl g1 dX10_averageTiredness_36 ?_
  refine cr_get (k := 3) X hP (kc_cat (kc_cats (rfl : kc 13 = 11)) g1) rfl cv18_3 rfl cinX0 (by decide) rfl tw233 dX10_averageTiredness_37 ?_
  refine lv_iadd hx hb dX10_averageTiredness_40 ?_
  refine lv_istore_n (lv' := [(1, .int (x1 + (M.1 ((13 + 1) + 8 + x2.toNatClampNeg) 3))), (0, .ref (ca 0)), (2, .int x2)]) hx hb dX10_averageTiredness_41 rfl hl (by decide) rfl (fun ls hl => ?_)
  refine lv_iinc (v := (x2 + 1)) (lv' := [(2, .int (x2 + 1)), (1, .int (x1 + (M.1 ((13 + 1) + 8 + x2.toNatClampNeg) 3))), (0, .ref (ca 0))]) hx hb dX10_averageTiredness_42 hl (k := 2) rfl (by rfl) (by decide) rfl (fun ls hl => ?_)
  refine lv_goto (tgt := 16) hx hb dX10_averageTiredness_45 (by decide) ?_
  exact hK16 _ _ _ _ _ _ hf hP hS (lv_sub hl [2, 1, 0] rfl)
set_option maxRecDepth 10000 in
theorem kX10_averageTiredness_16 {r : UInt64} {S1 : CS} (hnn : NNAN) (X : gX p s m args c cX10_averageTiredness 3 RX10 (kR kTab kA)) (hret : gRetD p l e (rmL 1 0 0) s m args below meth c cX10_averageTiredness (cΩ ca) (cP dC dI cg kA ca) Q r S1) : ∀ (n : Nat) (M : CS) (x1 : Int32) (x2 : Int32) (H : Heap) (locs : List Loc) (ls : Array Slot), fX10_averageTiredness_16 n M x1 x2 = some (r, S1) → (cP dC dI cg kA ca) M s H → va_S (Fr (cΩ ca) s.heap.size) s.heap H locs → lv_has ls 3 [(0, .ref (ca 0)), (1, .int x1), (2, .int x2)] → W p l e (rmL 1 0 0) s m args below meth c H locs 0 0 Q (F0 m 16 ls []) := by
  intro n
  induction n with
  | zero => intro M x1 x2 H locs ls hf; cases hf
  | succ k ih =>
    intro M x1 x2 H locs ls hf hP hS hl
    have hx := X.hx
    have hb := X.hb
    have hown := X.hown
    have hts := X.hts
    rw [fX10_averageTiredness_16] at hf
    try dsimp only at hf
    refine lv_iload_n hx hb dX10_averageTiredness_16 rfl (lv_at hl 2 rfl) ?_
    refine lv_aload_n hx hb dX10_averageTiredness_17 rfl (lv_at hl 0 rfl) ?_
    refine cr_get (k := 2) X hP (rfl : kc 0 = 0) rfl cv0_2 rfl cinX10 (by decide) rfl tw957 dX10_averageTiredness_18 ?_
    refine cr_get (k := 5) X hP (rfl : kc 13 = 11) rfl cv11_5 rfl cinX2 (by decide) rfl tw328 dX10_averageTiredness_21 ?_
    refine lv_icmp_ge (tgt := 48) hx hb dX10_averageTiredness_24 (by decide) (fun c1 => ?_) (fun c1 => ?_)
    · exact kX10_averageTiredness_48 hnn X hret (ifp c1 hf) hP hS (lv_sub hl [0, 1] rfl)
    · exact kX10_averageTiredness_27 hnn X hret ih (ifn c1 hf) hP hS (lv_sub hl [0, 1, 2] rfl)
set_option maxRecDepth 10000 in
theorem kX10_averageTiredness_12 {r : UInt64} {S1 : CS} {M : CS} {H : Heap} {locs : List Loc} {ls : Array Slot} (hnn : NNAN) (X : gX p s m args c cX10_averageTiredness 3 RX10 (kR kTab kA)) (hret : gRetD p l e (rmL 1 0 0) s m args below meth c cX10_averageTiredness (cΩ ca) (cP dC dI cg kA ca) Q r S1) (hf : fX10_averageTiredness_12 M = some (r, S1)) (hP : (cP dC dI cg kA ca) M s H) (hS : va_S (Fr (cΩ ca) s.heap.size) s.heap H locs) (hl : lv_has ls 3 [(0, .ref (ca 0))]) : W p l e (rmL 1 0 0) s m args below meth c H locs 0 0 Q (F0 m 12 ls []) := by
  have hx := X.hx
  have hb := X.hb
  have hown := X.hown
  have hts := X.hts
  rw [fX10_averageTiredness_12] at hf
  refine lv_iconst (v := 0) hx hb dX10_averageTiredness_12 (by decide) ?_
  refine lv_istore_n (lv' := [(1, .int 0), (0, .ref (ca 0))]) hx hb dX10_averageTiredness_13 rfl hl (by decide) rfl (fun ls hl => ?_)
  refine lv_iconst (v := 0) hx hb dX10_averageTiredness_14 (by decide) ?_
  refine lv_istore_n (lv' := [(2, .int 0), (1, .int 0), (0, .ref (ca 0))]) hx hb dX10_averageTiredness_15 rfl hl (by decide) rfl (fun ls hl => ?_)
  exact kX10_averageTiredness_16 hnn X hret FU _ _ _ _ _ _ hf hP hS (lv_sub hl [2, 1, 0] rfl)
set_option maxRecDepth 10000 in
theorem kX10_averageTiredness_10 {r : UInt64} {S1 : CS} {M : CS} {H : Heap} {locs : List Loc} {ls : Array Slot} (hnn : NNAN) (X : gX p s m args c cX10_averageTiredness 3 RX10 (kR kTab kA)) (hret : gRetD p l e (rmL 1 0 0) s m args below meth c cX10_averageTiredness (cΩ ca) (cP dC dI cg kA ca) Q r S1) (hf : fX10_averageTiredness_10 M = some (r, S1)) (hP : (cP dC dI cg kA ca) M s H) (hS : va_S (Fr (cΩ ca) s.heap.size) s.heap H locs) (hl : lv_has ls 3 [(0, .ref (ca 0))]) : W p l e (rmL 1 0 0) s m args below meth c H locs 0 0 Q (F0 m 10 ls []) := by
  have hx := X.hx
  have hb := X.hb
  have hown := X.hown
  have hts := X.hts
  rw [fX10_averageTiredness_10] at hf
  refine lv_dconst0 hx hb dX10_averageTiredness_10 ?_
  cases hf
  exact hret _ _ _ _ dX10_averageTiredness_11 hP hS
set_option maxRecDepth 10000 in
theorem kX10_averageTiredness_0 {r : UInt64} {S1 : CS} {M : CS} {H : Heap} {locs : List Loc} {ls : Array Slot} (hnn : NNAN) (X : gX p s m args c cX10_averageTiredness 3 RX10 (kR kTab kA)) (hret : gRetD p l e (rmL 1 0 0) s m args below meth c cX10_averageTiredness (cΩ ca) (cP dC dI cg kA ca) Q r S1) (hf : fX10_averageTiredness_0 M = some (r, S1)) (hP : (cP dC dI cg kA ca) M s H) (hS : va_S (Fr (cΩ ca) s.heap.size) s.heap H locs) (hl : lv_has ls 3 [(0, .ref (ca 0))]) : W p l e (rmL 1 0 0) s m args below meth c H locs 0 0 Q (F0 m 0 ls []) := by
  have hx := X.hx
  have hb := X.hb
  have hown := X.hown
  have hts := X.hts
  rw [fX10_averageTiredness_0] at hf
  refine lv_aload_n hx hb dX10_averageTiredness_0 rfl (lv_at hl 0 rfl) ?_
  refine cr_get (k := 2) X hP (rfl : kc 0 = 0) rfl cv0_2 rfl cinX10 (by decide) rfl tw957 dX10_averageTiredness_1 ?_
  refine cr_get (k := 5) X hP (rfl : kc 13 = 11) rfl cv11_5 rfl cinX2 (by decide) rfl tw328 dX10_averageTiredness_4 ?_
  refine lv_if_ne (tgt := 12) hx hb dX10_averageTiredness_7 (by decide) (fun c1 => ?_) (fun c1 => ?_)
  · exact kX10_averageTiredness_12 hnn X hret (ifn c1 hf) hP hS (lv_sub hl [0] rfl)
  · exact kX10_averageTiredness_10 hnn X hret (ifp c1 hf) hP hS (lv_sub hl [0] rfl)
theorem vX10_averageTiredness {l : Launch} {dC : Nat → ClassId} {dI : Nat → Nat → Nat} {cg : Nat → ClassId} {kA : String → Nat → Nat} {ca : Nat → Nat} {M S1 : CS} {r : UInt64} (hnn : NNAN) (hf : fX10_averageTiredness M  = some (r, S1)) : gMetD l yX10_averageTiredness cX10_averageTiredness 3 1 (cΩ ca) (cP dC dI cg kA ca) (kR kTab kA) [.ref (ca 0)] M r S1 := gEntryD (by decide) cOK (Nat.le_of_ble_eq_true rfl) (fun p e s m args below meth c Q ls X hP hS hret hl => 
  kX10_averageTiredness_0 hnn X hret hf hP hS (lv_sub hl [0] rfl))
set_option maxRecDepth 10000 in
theorem kX10_shareOf_24 {r : UInt32} {S1 : CS} {M : CS} {x2 : Int32} {H : Heap} {locs : List Loc} {ls : Array Slot} (hnn : NNAN) (X : gX p s m args c cX10_shareOf 3 RX10 (kR kTab kA)) (hret : gRetF p l e (rmL 2 0 0) s m args below meth c cX10_shareOf (cΩ ca) (cP dC dI cg kA ca) Q r S1) (hf : fX10_shareOf_24 M x2 = some (r, S1)) (hP : (cP dC dI cg kA ca) M s H) (hS : va_S (Fr (cΩ ca) s.heap.size) s.heap H locs) (hl : lv_has ls 3 [(0, .ref (ca 0)), (2, .int x2)]) : W p l e (rmL 2 0 0) s m args below meth c H locs 0 0 Q (F0 m 24 ls []) := by
  have hx := X.hx
  have hb := X.hb
  have hown := X.hown
  have hts := X.hts
  rw [fX10_shareOf_24] at hf
  refine lv_iload_n hx hb dX10_shareOf_24 rfl (lv_at hl 1 rfl) ?_
  refine lv_i2f hx hb dX10_shareOf_25 ?_
  refine lv_aload_n hx hb dX10_shareOf_26 rfl (lv_at hl 0 rfl) ?_
  refine cr_get (k := 2) X hP (rfl : kc 0 = 0) rfl cv0_2 rfl cinX10 (by decide) rfl tw957 dX10_shareOf_27 ?_
  refine cr_get (k := 4) X hP (rfl : kc 13 = 11) rfl cv11_4 rfl cinX2 (by decide) rfl tw325 dX10_shareOf_30 ?_
  refine cr_get (k := 0) X hP (kc_totals (rfl : kc 13 = 11)) rfl cv17_0 rfl cinX9 (by decide) rfl tw178 dX10_shareOf_33 ?_
  refine lv_i2f hx hb dX10_shareOf_36 ?_
  obtain ⟨g1, hf⟩ := gd hf
  refine lv_fdiv hx hb dX10_shareOf_37 (hnn.2 g1) ?_
  cases hf
  exact hret _ _ _ _ dX10_shareOf_38 hP hS
set_option maxRecDepth 10000 in
theorem kX10_shareOf_22 {r : UInt32} {S1 : CS} {M : CS} {H : Heap} {locs : List Loc} {ls : Array Slot} (hnn : NNAN) (X : gX p s m args c cX10_shareOf 3 RX10 (kR kTab kA)) (hret : gRetF p l e (rmL 2 0 0) s m args below meth c cX10_shareOf (cΩ ca) (cP dC dI cg kA ca) Q r S1) (hf : fX10_shareOf_22 M = some (r, S1)) (hP : (cP dC dI cg kA ca) M s H) (hS : va_S (Fr (cΩ ca) s.heap.size) s.heap H locs) (hl : lv_has ls 3 [(0, .ref (ca 0))]) : W p l e (rmL 2 0 0) s m args below meth c H locs 0 0 Q (F0 m 22 ls []) := by
  have hx := X.hx
  have hb := X.hb
  have hown := X.hown
  have hts := X.hts
  rw [fX10_shareOf_22] at hf
  refine lv_fconst0 hx hb dX10_shareOf_22 ?_
  cases hf
  exact hret _ _ _ _ dX10_shareOf_23 hP hS
set_option maxRecDepth 10000 in
theorem kX10_shareOf_5 {r : UInt32} {S1 : CS} {M : CS} {z0 : Nat} {H : Heap} {locs : List Loc} {ls : Array Slot} (hnn : NNAN) (X : gX p s m args c cX10_shareOf 3 RX10 (kR kTab kA)) (hret : gRetF p l e (rmL 2 0 0) s m args below meth c cX10_shareOf (cΩ ca) (cP dC dI cg kA ca) Q r S1) (hkz0 : kc z0 = 18) (hf : fX10_shareOf_5 M z0 = some (r, S1)) (hP : (cP dC dI cg kA ca) M s H) (hS : va_S (Fr (cΩ ca) s.heap.size) s.heap H locs) (hl : lv_has ls 3 [(0, .ref (ca 0))]) : W p l e (rmL 2 0 0) s m args below meth c H locs 0 0 Q (F0 m 5 ls [.ref (ca z0)]) := by
  have hx := X.hx
  have hb := X.hb
  have hown := X.hown
  have hts := X.hts
  rw [fX10_shareOf_5] at hf
  refine cr_get (k := 4) X hP hkz0 rfl cv18_4 rfl cinX0 (by decide) rfl tw237 dX10_shareOf_5 ?_
  refine lv_istore_n (lv' := [(2, .int (M.1 z0 4)), (0, .ref (ca 0))]) hx hb dX10_shareOf_8 rfl hl (by decide) rfl (fun ls hl => ?_)
  refine lv_aload_n hx hb dX10_shareOf_9 rfl (lv_at hl 1 rfl) ?_
  refine cr_get (k := 2) X hP (rfl : kc 0 = 0) rfl cv0_2 rfl cinX10 (by decide) rfl tw957 dX10_shareOf_10 ?_
  refine cr_get (k := 4) X hP (rfl : kc 13 = 11) rfl cv11_4 rfl cinX2 (by decide) rfl tw325 dX10_shareOf_13 ?_
  refine cr_get (k := 0) X hP (kc_totals (rfl : kc 13 = 11)) rfl cv17_0 rfl cinX9 (by decide) rfl tw178 dX10_shareOf_16 ?_
  refine lv_if_ne (tgt := 24) hx hb dX10_shareOf_19 (by decide) (fun c1 => ?_) (fun c1 => ?_)
  · exact kX10_shareOf_24 hnn X hret (ifn c1 hf) hP hS (lv_sub hl [1, 0] rfl)
  · exact kX10_shareOf_22 hnn X hret (ifp c1 hf) hP hS (lv_sub hl [1] rfl)
set_option maxRecDepth 10000 in
theorem kX10_shareOf_0 {r : UInt32} {S1 : CS} {M : CS} {a1 : Int32} {H : Heap} {locs : List Loc} {ls : Array Slot} (hnn : NNAN) (X : gX p s m args c cX10_shareOf 3 RX10 (kR kTab kA)) (hret : gRetF p l e (rmL 2 0 0) s m args below meth c cX10_shareOf (cΩ ca) (cP dC dI cg kA ca) Q r S1) (hf : fX10_shareOf_0 M a1 = some (r, S1)) (hP : (cP dC dI cg kA ca) M s H) (hS : va_S (Fr (cΩ ca) s.heap.size) s.heap H locs) (hl : lv_has ls 3 [(0, .ref (ca 0)), (1, .int a1)]) : W p l e (rmL 2 0 0) s m args below meth c H locs 0 0 Q (F0 m 0 ls []) := by
  have hx := X.hx
  have hb := X.hb
  have hown := X.hown
  have hts := X.hts
  rw [fX10_shareOf_0] at hf
  refine lv_aload_n hx hb dX10_shareOf_0 rfl (lv_at hl 0 rfl) ?_
  refine lv_iload_n hx hb dX10_shareOf_1 rfl (lv_at hl 1 rfl) ?_
  obtain ⟨q, hc, hf⟩ := bd hf
  refine gCallVP X rfl (vX10_catAt hc) gRX10_X10_catAt hdX10_catAt rfl ⟨by decide, by decide⟩ (gB_blind cOK) (gB_at cOK X hP) (cr_rec hP (rfl : kc 0 = 0) rfl cw0 rfl) hl.1 (Nat.le_of_ble_eq_true rfl) ⟨Nat.zero_le _, Nat.zero_le _⟩ dX10_shareOf_2 (As := [.int a1]) (rest := []) rfl ?_
  exact kX10_shareOf_5 hnn X hret (kkX10_catAt hc) hf hP hS (lv_sub hl [0] rfl)
theorem vX10_shareOf {l : Launch} {dC : Nat → ClassId} {dI : Nat → Nat → Nat} {cg : Nat → ClassId} {kA : String → Nat → Nat} {ca : Nat → Nat} {M S1 : CS} {r : UInt32} {a1 : Int32} (hnn : NNAN) (hf : fX10_shareOf M a1 = some (r, S1)) : gMetF l yX10_shareOf cX10_shareOf 3 2 (cΩ ca) (cP dC dI cg kA ca) (kR kTab kA) [.ref (ca 0), .int a1] M r S1 := gEntryF (by decide) cOK (Nat.le_of_ble_eq_true rfl) (fun p e s m args below meth c Q ls X hP hS hret hl => 
  kX10_shareOf_0 hnn X hret hf hP hS (lv_sub hl [0, 1] rfl))
end FLTC
