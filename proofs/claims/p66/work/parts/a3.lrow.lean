theorem tw28 : (Jvm.Cond.initialized "java/lang/Integer") ∈ TBG := tb_t 28 (by decide +kernel) (by decide +kernel)
theorem tw1047 : (Jvm.Cond.selects "java/util/ArrayList" ({ cls := "java/util/List", name := "iterator", desc := "()Ljava/util/Iterator;" } : Jvm.MethodName) ({ cls := "java/util/ArrayList", name := "iterator", desc := "()Ljava/util/Iterator;" } : Jvm.MethodName)) ∈ TBG := tb_t 1047 (by decide +kernel) (by decide +kernel)
theorem tw1049 : (Jvm.Cond.instanceMethod ({ cls := "java/util/ArrayList", name := "iterator", desc := "()Ljava/util/Iterator;" } : Jvm.MethodName)) ∈ TBG := tb_t 1049 (by decide +kernel) (by decide +kernel)
theorem tw1051 : (Jvm.Cond.code ({ cls := "java/util/ArrayList", name := "iterator", desc := "()Ljava/util/Iterator;" } : Jvm.MethodName) prog_43_method_55_code (1 : Nat) (Option.some (Jvm.ClassFile.FieldType.object "java/util/Iterator"))) ∈ TBG := tb_t 1051 (by decide +kernel) (by decide +kernel)
theorem tw1076 : (Jvm.Cond.selects "java/util/ArrayList$Itr" ({ cls := "java/util/Iterator", name := "hasNext", desc := "()Z" } : Jvm.MethodName) ({ cls := "java/util/ArrayList$Itr", name := "hasNext", desc := "()Z" } : Jvm.MethodName)) ∈ TBG := tb_t 1076 (by decide +kernel) (by decide +kernel)
theorem tw1078 : (Jvm.Cond.instanceMethod ({ cls := "java/util/ArrayList$Itr", name := "hasNext", desc := "()Z" } : Jvm.MethodName)) ∈ TBG := tb_t 1078 (by decide +kernel) (by decide +kernel)
theorem tw1080 : (Jvm.Cond.code ({ cls := "java/util/ArrayList$Itr", name := "hasNext", desc := "()Z" } : Jvm.MethodName) prog_44_method_2_code (1 : Nat) (Option.some Jvm.ClassFile.FieldType.boolean)) ∈ TBG := tb_t 1080 (by decide +kernel) (by decide +kernel)
theorem tw1085 : (Jvm.Cond.selects "java/util/ArrayList$Itr" ({ cls := "java/util/Iterator", name := "next", desc := "()Ljava/lang/Object;" } : Jvm.MethodName) ({ cls := "java/util/ArrayList$Itr", name := "next", desc := "()Ljava/lang/Object;" } : Jvm.MethodName)) ∈ TBG := tb_t 1085 (by decide +kernel) (by decide +kernel)
theorem tw1087 : (Jvm.Cond.instanceMethod ({ cls := "java/util/ArrayList$Itr", name := "next", desc := "()Ljava/lang/Object;" } : Jvm.MethodName)) ∈ TBG := tb_t 1087 (by decide +kernel) (by decide +kernel)
theorem tw1089 : (Jvm.Cond.code ({ cls := "java/util/ArrayList$Itr", name := "next", desc := "()Ljava/lang/Object;" } : Jvm.MethodName) prog_44_method_3_code (3 : Nat) (Option.some (Jvm.ClassFile.FieldType.object "java/lang/Object"))) ∈ TBG := tb_t 1089 (by decide +kernel) (by decide +kernel)
theorem tw1218 : (Jvm.Cond.selects "java/util/ArrayList" ({ cls := "java/util/List", name := "size", desc := "()I" } : Jvm.MethodName) ({ cls := "java/util/ArrayList", name := "size", desc := "()I" } : Jvm.MethodName)) ∈ TBG := tb_t 1218 (by decide +kernel) (by decide +kernel)
theorem tw1220 : (Jvm.Cond.instanceMethod ({ cls := "java/util/ArrayList", name := "size", desc := "()I" } : Jvm.MethodName)) ∈ TBG := tb_t 1220 (by decide +kernel) (by decide +kernel)
theorem tw1222 : (Jvm.Cond.code ({ cls := "java/util/ArrayList", name := "size", desc := "()I" } : Jvm.MethodName) prog_43_method_8_code (1 : Nat) (Option.some Jvm.ClassFile.FieldType.int)) ∈ TBG := tb_t 1222 (by decide +kernel) (by decide +kernel)
theorem tw1227 : (Jvm.Cond.selects "java/util/ArrayList" ({ cls := "java/util/List", name := "get", desc := "(I)Ljava/lang/Object;" } : Jvm.MethodName) ({ cls := "java/util/ArrayList", name := "get", desc := "(I)Ljava/lang/Object;" } : Jvm.MethodName)) ∈ TBG := tb_t 1227 (by decide +kernel) (by decide +kernel)
theorem tw1229 : (Jvm.Cond.instanceMethod ({ cls := "java/util/ArrayList", name := "get", desc := "(I)Ljava/lang/Object;" } : Jvm.MethodName)) ∈ TBG := tb_t 1229 (by decide +kernel) (by decide +kernel)
theorem tw1231 : (Jvm.Cond.code ({ cls := "java/util/ArrayList", name := "get", desc := "(I)Ljava/lang/Object;" } : Jvm.MethodName) prog_43_method_20_code (2 : Nat) (Option.some (Jvm.ClassFile.FieldType.object "java/lang/Object"))) ∈ TBG := tb_t 1231 (by decide +kernel) (by decide +kernel)
theorem tw1416 : (Jvm.Cond.instanceMethod ({ cls := "java/lang/Integer", name := "intValue", desc := "()I" } : Jvm.MethodName)) ∈ TBG := tb_t 1416 (by decide +kernel) (by decide +kernel)
theorem tw1417 : (Jvm.Cond.selects "java/lang/Integer" ({ cls := "java/lang/Integer", name := "intValue", desc := "()I" } : Jvm.MethodName) ({ cls := "java/lang/Integer", name := "intValue", desc := "()I" } : Jvm.MethodName)) ∈ TBG := tb_t 1417 (by decide +kernel) (by decide +kernel)
theorem tw1418 : (Jvm.Cond.code ({ cls := "java/lang/Integer", name := "intValue", desc := "()I" } : Jvm.MethodName) prog_27_method_27_code (1 : Nat) (Option.some Jvm.ClassFile.FieldType.int)) ∈ TBG := tb_t 1418 (by decide +kernel) (by decide +kernel)
theorem tw1440 : (Jvm.Cond.fieldLink "java/lang/Integer" (205 : Nat) "java/lang/Integer" "value" "I") ∈ TBG := tb_t 1440 (by decide +kernel) (by decide +kernel)
/-! the law's instructions over its own world -/
def T0 : State → Heap → Prop := fun _ _ => True
def itF (dC : Nat → ClassId) (dI : Nat → Nat → Nat) (a b n i : Nat) : State → Heap → Prop := fun _ H => itAt dC dI a b n i H
/-- an iterator of the walk: apart from the world's cells, made since the start -/
def itOK (la : Nat → Nat) (C : LC) (bs z a : Nat) : Prop := (∀ p, lEx C p → la p ≠ a) ∧ z ≤ a ∧ bs ≤ a
theorem hn_0 {P : Prop} [Decidable P] (h : (if P then (0 : Int32) else 1) = 0) : P := by
  by_cases c : P
  · exact c
  · rw [if_neg c] at h; exact absurd h (by decide)
theorem hn_1 {P : Prop} [Decidable P] (h : ¬ (if P then (0 : Int32) else 1) = 0) : ¬ P := fun c => h (if_pos c)
theorem lNum_le {C : LC} {b : Nat} (hC : lC C) : lNum C b ≤ 8 := by
  obtain ⟨h1, h2, h3, -⟩ := hC
  unfold lNum
  repeat' split
  all_goals omega
theorem lFa_1 {la iA : Nat → Nat} {C : LC} {i : Nat} (h : i < lNum C 1) : lFa la iA C 1 i = some (la (9 + i)) := if_pos h
theorem lFa_2 {la iA : Nat → Nat} {C : LC} {i : Nat} (h : i < lNum C 2) : lFa la iA C 2 i = some (la (9 + C.2.1 i)) := if_pos h
theorem lFa_3 {la iA : Nat → Nat} {C : LC} {i : Nat} (h : i < lNum C 3) : lFa la iA C 3 i = some (la (13 + i)) := if_pos h
theorem lFa_4 {la iA : Nat → Nat} {C : LC} {i : Nat} (h : i < lNum C 4) : lFa la iA C 4 i = some (iA (C.2.2 i)) := if_pos h
section LROW2
variable {p : Program} {l : Launch} {e : Env} {R : Room} {s : State} {m : MethodId} {args : Array Value} {below : List Frame} {meth : Method} {c : Code} {H : Heap} {locs : List Loc} {cells slots : Nat} {Q : State → Prop}
variable {cc : ByteArray} {pc nL : Nat} {ls : Array Slot} {rest : List Value} {dC : Nat → ClassId} {dI : Nat → Nat → Nat} {cg : Nat → ClassId} {kA : String → Nat → Nat} {la iA : Nat → Nat} {C : LC} {bs : Nat} {own : String} {F : State → Heap → Prop} {M M1 : XL} {a b i idx cnt lev mc ms : Nat}
theorem T0_fs {Ω : Nat → Prop} : gFs Ω T0 := ⟨fun _ _ _ _ h => h, fun _ _ _ _ _ h => h⟩
theorem itF_fs {n z : Nat} (ha : itOK la C bs z a) : gFs (lΩ la C) (itF dC dI a b n i) := ⟨fun _ _ _ _ h => h, fun U H H1 hz hk h => by
  obtain ⟨r, h⟩ := h
  exact ⟨r, h.kept (hk a h.lt (fun w => by
    obtain ⟨p, hp, e⟩ := w
    exact ha.1 p hp e.symm))⟩⟩
theorem lP_ls (hP : lP dC dI cg kA la iA C bs M s H) (hb : 1 ≤ b ∧ b ≤ 4) : lsAt dC dI cg (la b) (la (b + 4)) (lNum C b) (lFa la iA C b) s H := by
  have h1 := hP.1 b (lEx_l (by omega))
  have h2 := hP.1 (b + 4) (lEx_l (by omega))
  rw [lR_l hb] at h1
  rw [lR_a hb] at h2
  exact ⟨h1, h2, hP.2.1⟩
theorem lP_fs0 : gFs (fun _ => False) (fun U H => lP dC dI cg kA la iA C bs M U H) := ⟨fun u U H hvm h => lOK0.1 _ _ _ _ hvm h, fun U H H1 hz hk h => by
  obtain ⟨a1, a2, a3, a4, a5, a6⟩ := h
  exact ⟨fun p hp => (a1 p hp).kept (hk _ (a1 p hp).lt (fun z => z)), a2, a3, a4.kept (fun a ha _ => hk a ha (fun z => z)), a5, fun n hn => ⟨(a6 n hn).1, (a6 n hn).2.kept (hk _ (a6 n hn).2.lt (fun z => z))⟩⟩⟩
theorem lP_fsa {z : Nat} (ha : itOK la C bs z a) : gFs (fun q => q = a) (fun U H => lP dC dI cg kA la iA C bs M U H) := ⟨fun u U H hvm h => lOK0.1 _ _ _ _ hvm h, fun U H H1 hz hk h => by
  obtain ⟨a1, a2, a3, a4, a5, a6⟩ := h
  exact ⟨fun p hp => (a1 p hp).kept (hk _ (a1 p hp).lt (ha.1 p hp)), a2, a3, a4.kept (fun q hq nq => hk q hq (fun z => nq (by rw [z]; exact ha.2.2))), a5, fun n hn => ⟨(a6 n hn).1, (a6 n hn).2.kept (hk _ (a6 n hn).2.lt (fun z => by have := (a6 n hn).1; have := ha.2.2; omega))⟩⟩⟩
theorem lr_size (X : gX p s m args c cc nL own (kR kTab kA)) (hR : R = rmL lev mc ms) (hP : gF (lP dC dI cg kA la iA C bs) F M s H) (hb : 1 ≤ b ∧ b ≤ 4) (hlink : Cond.methodLink own idx ⟨"java/util/List", "size", "()I"⟩ ∈ TBG) (hlev : 2 ≤ lev) (hls : ls.size = nL) (hcat : (rest.map fun v => v.category).sum ≤ 8) (hcells : cells ≤ mc ∧ slots ≤ ms) (hdg : decode cc pc = .ok (.invokeinterface idx cnt, 5))
    (kk : W p l e R s m args below meth c H locs cells slots Q (F0 m (pc + 5) ls (.int (nI (lNum C b)) :: rest))) : W p l e R s m args below meth c H locs cells slots Q (F0 m pc ls (.ref (la b) :: rest)) :=
  gCallFR X hR (vJL_size (b := la b) (ea := la (b + 4)) (n := lNum C b) (f := lFa la iA C b)) (gT_F hlink tw1218 tw1220 tw25 tw1222) (hP.1.2.1.1 4 _ rfl).2 (X.ks.2.2.2 _ (List.mem_of_getElem? (i := 3) rfl)) ⟨by decide, by decide, by decide +kernel⟩ rfl ⟨by omega, by omega⟩ lsB_blind (lsB_at X (lP_ls hP.1 hb)) (lP_ls hP.1 hb).rec hls hcat hcells hdg (As := []) rfl kk
theorem lr_lget {x : Int32} {q : Nat} (X : gX p s m args c cc nL own (kR kTab kA)) (hR : R = rmL lev mc ms) (hC : lC C) (hP : gF (lP dC dI cg kA la iA C bs) F M s H) (hb : 1 ≤ b ∧ b ≤ 4) (hin : gIn x (lNum C b)) (hf : lFa la iA C b x.toNatClampNeg = some q) (hlink : Cond.methodLink own idx ⟨"java/util/List", "get", "(I)Ljava/lang/Object;"⟩ ∈ TBG) (hlev : 4 ≤ lev) (hls : ls.size = nL) (hcat : (rest.map fun v => v.category).sum ≤ 8) (hcells : cells ≤ mc ∧ slots ≤ ms) (hdg : decode cc pc = .ok (.invokeinterface idx cnt, 5))
    (kk : W p l e R s m args below meth c H locs cells slots Q (F0 m (pc + 5) ls (.ref q :: rest))) : W p l e R s m args below meth c H locs cells slots Q (F0 m pc ls (.int x :: .ref (la b) :: rest)) :=
  gCallFP (nA := 1) X hR (vJL_get (b := la b) (ea := la (b + 4)) (n := lNum C b) (f := lFa la iA C b) (Nat.le_trans (lNum_le hC) (by omega)) hin hf) (gT_F hlink tw1227 tw1229 tw25 tw1231) (hP.1.2.1.1 4 _ rfl).2 (X.ks.2.2.2 _ (List.mem_of_getElem? (i := 4) rfl)) ⟨by decide, by decide, by decide +kernel⟩ rfl ⟨by omega, by omega⟩ lsB_blind (lsB_at X (lP_ls hP.1 hb)) (lP_ls hP.1 hb).rec hls hcat hcells hdg (As := [.int x]) rfl kk
theorem gMetN.lift {Y : Type} {l : Launch} {P : Y → State → Heap → Prop} {KS : State → Prop} {Ω : Nat → Prop} {y : MethodName} {ret : Option FieldType} {lev n mc ms : Nat} {cc : ByteArray} {av : List Value} {S S1 : Y} {B : Nat → State → Heap → Prop} {F : State → Heap → Prop} (hF : gFs Ω F) (h : gMetN l y cc n ret lev mc ms Ω P KS av S S1 B) : gMetN l y cc n ret lev mc ms Ω (gF P F) KS av S S1 B := fun sz => (h sz).fr (fun a s q => by
  obtain ⟨q0, q1, q2, q3⟩ := q
  exact ⟨q0, q1, q2.1, q3⟩) (fun a s o t q hW z => by
  obtain ⟨q0, q1, q2, q3⟩ := q
  obtain ⟨⟨u, k, z1, z2, z3, z5⟩, z4⟩ := z
  exact ⟨⟨u, k, z1, z2, ⟨z3, hF.at q1 z4 hW q2.2⟩, z5⟩, z4⟩)
theorem lr_iter {A0 : Nat → Prop} (X : gX p s m args c cc nL own (kR kTab kA)) (hP : gF (lP dC dI cg kA la iA C bs) T0 M s H) (hS : va_S A0 s.heap H locs) (hA : ∀ q, s.heap.size ≤ q → A0 q) (hb : 1 ≤ b ∧ b ≤ 4) (hlink : Cond.methodLink own idx ⟨"java/util/List", "iterator", "()Ljava/util/Iterator;"⟩ ∈ TBG) (hroom : 3 + 1 ≤ R.frames ∧ 8 + (1 + 11) + 38 * 3 ≤ R.locals) (hls : ls.size = nL) (hcat : (rest.map fun v => v.category).sum ≤ 8) (hcells : cells + 1 ≤ R.cells ∧ slots + 4 ≤ R.slots) (hdg : decode cc pc = .ok (.invokeinterface idx cnt, 5))
    (kk : ∀ (H1 : Heap) (locs1 : List Loc) (a : Nat), itOK la C bs s.heap.size a → gF (lP dC dI cg kA la iA C bs) (itF dC dI a (la b) (lNum C b) 0) M s H1 → va_S A0 s.heap H1 locs1 → W p l e R s m args below meth c H1 locs1 (cells + 1) (slots + 4) Q (F0 m (pc + 5) ls (.ref a :: rest))) : W p l e R s m args below meth c H locs cells slots Q (F0 m pc ls (.ref (la b) :: rest)) := by
  have hls0 := lP_ls hP.1 hb
  refine gCallFN X (gF_ok lsW_ok (lP_fs0 (M := M))) (fun _ _ _ _ _ h => h) ((vJL_iterator (dC := dC) (dI := dI) (cg := cg) (kA := kA) (b := la b) (ea := la (b + 4)) (n := lNum C b) (f := lFa la iA C b)).lift (lP_fs0 (dC := dC) (dI := dI) (cg := cg) (kA := kA) (la := la) (iA := iA) (C := C) (bs := bs) (M := M))) (gT_F hlink tw1047 tw1049 tw25 tw1051) (hP.1.2.1.1 4 _ rfl).2 (X.ks.2.2.2 _ (List.mem_of_getElem? (i := 0) rfl)) ⟨by decide, by decide, by decide +kernel⟩ rfl hroom ⟨hls0, hP.1⟩ hS (fun q z => hA q (z.elim (fun z => z.elim) (fun z => Nat.le_trans hS.1 z))) hls0.rec hls hcat hcells hdg (As := []) rfl (fun H1 locs1 a hP1 hB hz hS1 hz1 hk1 => ?_)
  have hz0 : la 0 < H.size := (hP.1.1 0 (lEx_l (by omega))).lt
  have hb0 := hP.1.2.2.2.2.1 0 (lEx_l (by omega))
  exact kk H1 locs1 a ⟨fun p hp => by have := (hP.1.1 p hp).lt; intro z; have : la p = a := z; omega, Nat.le_trans hS.1 hz, by omega⟩ ⟨hP1.2, hB⟩ hS1
theorem lr_hasNext (X : gX p s m args c cc nL own (kR kTab kA)) (hR : R = rmL lev mc ms) (hC : lC C) (hP : gF (lP dC dI cg kA la iA C bs) (itF dC dI a (la b) (lNum C b) i) M s H) (hb : 1 ≤ b ∧ b ≤ 4) (hi : i ≤ lNum C b) (hlink : Cond.methodLink own idx ⟨"java/util/Iterator", "hasNext", "()Z"⟩ ∈ TBG) (hlev : 2 ≤ lev) (hls : ls.size = nL) (hcat : (rest.map fun v => v.category).sum ≤ 8) (hcells : cells ≤ mc ∧ slots ≤ ms) (hdg : decode cc pc = .ok (.invokeinterface idx cnt, 5))
    (kk : W p l e R s m args below meth c H locs cells slots Q (F0 m (pc + 5) ls (.int (if i = lNum C b then 0 else 1) :: rest))) : W p l e R s m args below meth c H locs cells slots Q (F0 m pc ls (.ref a :: rest)) :=
  gCallFR X hR (vJI_hasNext (a := a) (b := la b) (ea := la (b + 4)) (n := lNum C b) (f := lFa la iA C b) hi (Nat.lt_of_le_of_lt (lNum_le hC) (by decide))) (gT_F hlink tw1076 tw1078 tw32 tw1080) (hP.1.2.1.1 3 _ rfl).2 (X.ks.2.2.2 _ (List.mem_of_getElem? (i := 1) rfl)) ⟨by decide, by decide, by decide +kernel⟩ rfl ⟨by omega, by omega⟩ itB_blind (itB_at X hP.2 (lP_ls hP.1 hb)) (it_rec hP.1.2.1 hP.2) hls hcat hcells hdg (As := []) rfl kk
theorem lr_next {A0 : Nat → Prop} {q : Nat} (X : gX p s m args c cc nL own (kR kTab kA)) (hC : lC C) (ha : itOK la C bs s.heap.size a) (hP : gF (lP dC dI cg kA la iA C bs) (itF dC dI a (la b) (lNum C b) i) M s H) (hS : va_S A0 s.heap H locs) (hA : ∀ q, s.heap.size ≤ q → A0 q) (hb : 1 ≤ b ∧ b ≤ 4) (hi : i < lNum C b) (hf : lFa la iA C b i = some q) (hlink : Cond.methodLink own idx ⟨"java/util/Iterator", "next", "()Ljava/lang/Object;"⟩ ∈ TBG) (hroom : 2 + 1 ≤ R.frames ∧ 8 + (3 + 11) + 38 * 2 ≤ R.locals) (hls : ls.size = nL) (hcat : (rest.map fun v => v.category).sum ≤ 8) (hcells : cells ≤ R.cells ∧ slots ≤ R.slots) (hdg : decode cc pc = .ok (.invokeinterface idx cnt, 5))
    (kk : ∀ (H1 : Heap) (locs1 : List Loc), gF (lP dC dI cg kA la iA C bs) (itF dC dI a (la b) (lNum C b) (i + 1)) M s H1 → va_S A0 s.heap H1 locs1 → W p l e R s m args below meth c H1 locs1 cells slots Q (F0 m (pc + 5) ls (.ref q :: rest))) : W p l e R s m args below meth c H locs cells slots Q (F0 m pc ls (.ref a :: rest)) := by
  have hls0 := lP_ls hP.1 hb
  refine gCallFO (cells := cells) (slots := slots) (mc' := 0) (ms' := 0) X (gF_ok nxW_ok (lP_fsa (M := M) ha)) (fun _ _ _ _ _ h => h) ((vJI_next (dC := dC) (dI := dI) (cg := cg) (kA := kA) (a := a) (b := la b) (ea := la (b + 4)) (n := lNum C b) (f := lFa la iA C b) (ha.1 b (lEx_l (by omega))) (ha.1 (b + 4) (lEx_l (by omega))) hi (Nat.le_trans (lNum_le hC) (by omega)) hf).lift (lP_fsa (dC := dC) (dI := dI) (cg := cg) (kA := kA) (la := la) (iA := iA) (C := C) (bs := bs) (M := M) ha)) (gT_F hlink tw1085 tw1087 tw32 tw1089) (hP.1.2.1.1 3 _ rfl).2 (X.ks.2.2.2 _ (List.mem_of_getElem? (i := 2) rfl)) ⟨by decide, by decide, by decide +kernel⟩ rfl hroom ⟨⟨hP.2, hls0⟩, hP.1⟩ hS (fun q z => hA q (z.elim (fun z => by rw [z]; exact ha.2.1) (fun z => Nat.le_trans hS.1 z))) (it_rec hP.1.2.1 hP.2) hls hcat hcells hdg (As := []) rfl (fun H1 locs1 q1 hP1 hB hS1 hz1 hk1 => ?_)
  obtain rfl : q1 = q := hB
  exact kk H1 locs1 ⟨hP1.2, hP1.1.1⟩ hS1
theorem lr_cast {q ci N : Nat} {Cn : String} {T : u_T} {fs : List Value} (X : gX p s m args c cc nL own (kR kTab kA)) (hP : gF (lP dC dI cg kA la iA C bs) F M s H) (hq : lEx C q) (hr : lRow cg la iA C q M = .inr (ci, fs)) (hc : vwCl[ci]? = some (Cn, T, N)) (hlink : Cond.classLink own idx Cn ∈ TBG) (hdg : decode cc pc = .ok (.checkcast idx, 3))
    (kk : W p l e R s m args below meth c H locs cells slots Q (F0 m (pc + 3) ls (.ref (la q) :: rest))) : W p l e R s m args below meth c H locs cells slots Q (F0 m pc ls (.ref (la q) :: rest)) :=
  va_castS X.hx X.hb X.hown (X.hts _ hlink) (hP.1.2.1.1 ci _ hc).2 (lr_rec hP hq hr hc) hdg kk
theorem lr_castI {n : Nat} (X : gX p s m args c cc nL own (kR kTab kA)) (hP : gF (lP dC dI cg kA la iA C bs) F M s H) (hn : n ≤ 4) (hlink : Cond.classLink own idx RJ6 ∈ TBG) (hdg : decode cc pc = .ok (.checkcast idx, 3))
    (kk : W p l e R s m args below meth c H locs cells slots Q (F0 m (pc + 3) ls (.ref (iA n) :: rest))) : W p l e R s m args below meth c H locs cells slots Q (F0 m pc ls (.ref (iA n) :: rest)) :=
  va_castS X.hx X.hb X.hown (X.hts _ hlink) (hP.1.2.1.1 2 _ rfl).2 (ixA.rec hP.1.2.1 (hP.1.2.2.2.2.2 n hn).2) hdg kk
/-- Integer.intValue -/
def bxB (dC : Nat → ClassId) (dI : Nat → Nat → Nat) (cg : Nat → ClassId) (kA : String → Nat → Nat) (a n : Nat) : State → Prop := fun U => (ixA dC dI a n U.heap ∧ va_K (dC, dI) vwCl (cTy cg) U) ∧ kR kTab kA U
theorem bxB_blind {av : List Value} {n : Nat} : FrameBlind (va_Pc av (bxB dC dI cg kA a n)) := fun a U g mk q => ⟨q.1, ⟨q.2.1.1, va_K.moved (Vm.Alike.refl U.vm) q.2.1.2⟩, kR_ok.1 U _ rfl q.2.2⟩
theorem vJ6_intValue {n : Nat} : gMetR l yJ6_intValue_8abf5 cJ6_intValue_8abf5 1 (some .int) 1 (bxB dC dI cg kA a n) [.ref a] (nI n) := gEntryR (KS := kR kTab kA) (ty := .int) (by decide) rfl rfl (Nat.le_of_ble_eq_true rfl) (fun _ h => h.2) (fun p e s m args below meth c Q ls X hB hret hl => by
  have hx := X.hx
  have hb := X.hb
  refine lv_aload_n hx hb dJ6_intValue_8abf5_0 rfl (lv_at hl 0 rfl) ?_
  obtain ⟨⟨⟨cell, q1, q2, q3, q4, q5⟩, hK⟩, hks⟩ := hB
  obtain ⟨hS, hfc, kC, hkC, hkind⟩ := hK.1 2 _ (rfl : vwCl[2]? = some (RJ6, TJ6, 1))
  obtain ⟨cf, kf, fi, f, hi, hsl⟩ := hS 0 (by decide)
  refine W.getf X.hx X.hb X.hown (X.hts _ tw1440) hi (u_facts hfc hkC (u_lays X.hts cinJ6 (show 0 < 1 from Nat.lt_succ_self 0)) hi).1 q1 q4 (v := .int (nI n)) ?_ rfl rfl dJ6_intValue_8abf5_1 ?_
  · rw [hsl]
    exact q5
  exact hret _ _ dJ6_intValue_8abf5_4)
theorem lr_intValue {n : Nat} (X : gX p s m args c cc nL own (kR kTab kA)) (hR : R = rmL lev mc ms) (hP : gF (lP dC dI cg kA la iA C bs) F M s H) (hn : n ≤ 4) (hlink : Cond.methodLink own idx yJ6_intValue_8abf5 ∈ TBG) (hlev : 2 ≤ lev) (hls : ls.size = nL) (hcat : (rest.map fun v => v.category).sum ≤ 8) (hcells : cells ≤ mc ∧ slots ≤ ms) (hdg : decode cc pc = .ok (.invokevirtual idx, 3))
    (kk : W p l e R s m args below meth c H locs cells slots Q (F0 m (pc + 3) ls (.int (nI n) :: rest))) : W p l e R s m args below meth c H locs cells slots Q (F0 m pc ls (.ref (iA n) :: rest)) := by
  have h := (hP.1.2.2.2.2.2 n hn).2
  exact gCallVR X hR (vJ6_intValue (a := iA n) (n := n)) (gT_V hlink tw1416 tw1417 tw28 tw1418) ⟨rfl, by decide, by decide, by decide +kernel⟩ rfl ⟨by omega, by omega⟩ bxB_blind (fun U hU hW => ⟨⟨by rw [hU]; exact h, va_K.moved hW.alike hP.1.2.1⟩, kR_ok.2 _ _ hW X.ks⟩) (ixA.rec hP.1.2.1 h) hls hcat hcells hdg (As := []) rfl kk
end LROW2
/-! places that may be null -/
section LNUL
variable {p : Program} {l : Launch} {e : Env} {R : Room} {s : State} {m : MethodId} {args : Array Value} {below : List Frame} {meth : Method} {c : Code} {H : Heap} {locs : List Loc} {cells slots : Nat} {Q : State → Prop}
variable {cc : ByteArray} {pc : Nat} {ls : Array Slot} {rest : List Value} {la : Nat → Nat}
theorem lz_aload_n (hexec : p.tables.exec = Jvm.exec) (hb : c.code = cc) {k : Fin 4} {i z : Nat} (hdg : decode cc pc = .ok (.aload_n k, 1)) (hi : (k : Nat) = i) (hl : ls[i]? = some (.val (va_rf (zA la z))))
    (kk : W p l e R s m args below meth c H locs cells slots Q (F0 m (pc + 1) ls (va_rf (zA la z) :: rest))) : W p l e R s m args below meth c H locs cells slots Q (F0 m pc ls rest) := by
  cases z with
  | zero => exact lv_aload_nN hexec hb hdg hi hl kk
  | succ z => exact lv_aload_n hexec hb hdg hi hl kk
end LNUL
/-! writes told by rows -/
section LWR
variable {cg : Nat → ClassId} {la iA : Nat → Nat} {C : LC} {w : Wd} {h : Nat → Int32} {c k : Nat} {v : Int32}
theorem l0_sw (hc : c < 4) : lRow cg la iA C 0 (upd w 5 (nI c), h) = .inr (17, (lF0 la (w, h)).set 4 (.ref (la (9 + c)))) := by
  have e : swA la (nI c) = some (la (9 + c)) := by
    unfold swA
    rw [if_neg (nI_nem (by omega)), nI_clamp (by omega)]
  show (Sum.inr (17, [Value.ref (la 1), .ref (la 2), .ref (la 3), .ref (la 4), va_rf (swA la (nI c)), .int (w 3), .int (w 4), .int (w 6), .int (w 7), .int (w 8), .int (w 9), .int (w 10), .int (w 11), .int (w 12), .int (w 13)]) : va_E) = _
  rw [e]
  rfl
theorem l0_sn : lRow cg la iA C 0 (upd w 5 (-1), h) = .inr (17, (lF0 la (w, h)).set 4 .null) := rfl
theorem lc_2 (hc : c < 4) : lRow cg la iA C (9 + c) (upd w (65 + 12 * c + 9) v, h) = .inr (16, (lFc c (w, h)).set 2 (.int v)) := by
  rw [lR_c hc]
  simp only [lFc]
  rw [pk_us, pk_un (show 65 + 12 * c + 7 ≠ 65 + 12 * c + 9 by omega), pk_un (show 65 + 12 * c + 10 ≠ 65 + 12 * c + 9 by omega), pk_un (show 65 + 12 * c + 11 ≠ 65 + 12 * c + 9 by omega)]
  rfl
theorem lc_3 (hc : c < 4) : lRow cg la iA C (9 + c) (upd w (65 + 12 * c + 10) v, h) = .inr (16, (lFc c (w, h)).set 3 (.int v)) := by
  rw [lR_c hc]
  simp only [lFc]
  rw [pk_us, pk_un (show 65 + 12 * c + 7 ≠ 65 + 12 * c + 10 by omega), pk_un (show 65 + 12 * c + 9 ≠ 65 + 12 * c + 10 by omega), pk_un (show 65 + 12 * c + 11 ≠ 65 + 12 * c + 10 by omega)]
  rfl
theorem lc_4 (hc : c < 4) : lRow cg la iA C (9 + c) (upd w (65 + 12 * c + 11) v, h) = .inr (16, (lFc c (w, h)).set 4 (.int v)) := by
  rw [lR_c hc]
  simp only [lFc]
  rw [pk_us, pk_un (show 65 + 12 * c + 7 ≠ 65 + 12 * c + 11 by omega), pk_un (show 65 + 12 * c + 9 ≠ 65 + 12 * c + 11 by omega), pk_un (show 65 + 12 * c + 10 ≠ 65 + 12 * c + 11 by omega)]
  rfl
theorem lc_6 (hc : c < 4) : lRow cg la iA C (9 + c) (w, upd h c v) = .inr (16, (lFc c (w, h)).set 6 (.int v)) := by
  rw [lR_c hc]
  simp only [lFc]
  rw [pk_us, pk_un (show 4 + c ≠ c by omega)]
  rfl
theorem ls_1 : lRow cg la iA C (13 + k) (upd w (161 + 12 * k + 7) v, h) = .inr (18, (lFs k (w, h)).set 1 (.int v)) := by
  rw [lR_s]
  simp only [lFs]
  rw [pk_us, pk_un (show 161 + 12 * k + 8 ≠ 161 + 12 * k + 7 by omega), pk_un (show 161 + 12 * k + 10 ≠ 161 + 12 * k + 7 by omega), pk_un (show 161 + 12 * k + 9 ≠ 161 + 12 * k + 7 by omega)]
  rfl
theorem ls_2 : lRow cg la iA C (13 + k) (upd w (161 + 12 * k + 8) v, h) = .inr (18, (lFs k (w, h)).set 2 (.int v)) := by
  rw [lR_s]
  simp only [lFs]
  rw [pk_us, pk_un (show 161 + 12 * k + 7 ≠ 161 + 12 * k + 8 by omega), pk_un (show 161 + 12 * k + 10 ≠ 161 + 12 * k + 8 by omega), pk_un (show 161 + 12 * k + 9 ≠ 161 + 12 * k + 8 by omega)]
  rfl
theorem ls_3 : lRow cg la iA C (13 + k) (upd w (161 + 12 * k + 10) v, h) = .inr (18, (lFs k (w, h)).set 3 (.int v)) := by
  rw [lR_s]
  simp only [lFs]
  rw [pk_us, pk_un (show 161 + 12 * k + 7 ≠ 161 + 12 * k + 10 by omega), pk_un (show 161 + 12 * k + 8 ≠ 161 + 12 * k + 10 by omega), pk_un (show 161 + 12 * k + 9 ≠ 161 + 12 * k + 10 by omega)]
  rfl
theorem ls_4 : lRow cg la iA C (13 + k) (upd w (161 + 12 * k + 9) v, h) = .inr (18, (lFs k (w, h)).set 4 (.int v)) := by
  rw [lR_s]
  simp only [lFs]
  rw [pk_us, pk_un (show 161 + 12 * k + 7 ≠ 161 + 12 * k + 9 by omega), pk_un (show 161 + 12 * k + 8 ≠ 161 + 12 * k + 9 by omega), pk_un (show 161 + 12 * k + 10 ≠ 161 + 12 * k + 9 by omega)]
  rfl
end LWR
