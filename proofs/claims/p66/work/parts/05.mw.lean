/-! small words of the walks; then the reference's world: one object and ten int arrays -/
abbrev gIn (i : Int32) (n : Nat) : Prop := ¬ (i < 0 ∨ n ≤ i.toNatClampNeg)
/-- the fuel of every loop: more than any loop of the system turns -/
def FU : Nat := 3000
theorem gd {c : Prop} [Decidable c] {α : Type} {a : Option α} {r : α} (h : (if c then a else none) = some r) : c ∧ a = some r := by
  by_cases hc : c
  · exact ⟨hc, by rw [if_pos hc] at h; exact h⟩
  · rw [if_neg hc] at h; cases h
theorem ifp {c : Prop} [Decidable c] {α : Type} {a b r : α} (hc : c) (h : (if c then a else b) = r) : a = r := by rw [if_pos hc] at h; exact h
theorem ifn {c : Prop} [Decidable c] {α : Type} {a b r : α} (hc : ¬ c) (h : (if c then a else b) = r) : b = r := by rw [if_neg hc] at h; exact h
theorem bd {α β : Type} {o : Option α} {f : α → Option β} {r : β} (h : o.bind f = some r) : ∃ q, o = some q ∧ f q = some r := by
  cases o with
  | none => cases h
  | some q => exact ⟨q, rfl, h⟩
/-- a boolean's answer: 0 or 1 -/
def bz {α : Type} (o : Option (Int32 × α)) : Option (Int32 × α) := o.bind fun q => if q.1 = 0 ∨ q.1 = 1 then some q else none
theorem bz_f {α : Type} {o : Option (Int32 × α)} {r : Int32 × α} (h : bz o = some r) : o = some r := by
  obtain ⟨q, h1, h2⟩ := bd h
  split at h2
  · cases h2; exact h1
  · cases h2
theorem bz_n {α : Type} {o : Option (Int32 × α)} {r : Int32} {S : α} (h : bz o = some (r, S)) : narrow .boolean (.int r) = .int r := by
  obtain ⟨q, h1, h2⟩ := bd h
  split at h2
  · rename_i h3
    cases h2
    rcases h3 with h3 | h3 <;> (show narrow .boolean (.int _) = .int _; simp only at h3; subst h3; decide +kernel)
  · cases h2
def bq (o : Option Int32) : Option Int32 := o.bind fun q => if q = 0 ∨ q = 1 then some q else none
theorem bq_f {o : Option Int32} {r : Int32} (h : bq o = some r) : o = some r := by
  obtain ⟨q, h1, h2⟩ := bd h
  split at h2
  · cases h2; exact h1
  · cases h2
theorem bq_n {o : Option Int32} {r : Int32} (h : bq o = some r) : narrow .boolean (.int r) = .int r := by
  obtain ⟨q, h1, h2⟩ := bd h
  split at h2
  · rename_i h3
    cases h2
    rcases h3 with h3 | h3 <;> (subst h3; decide +kernel)
  · cases h2
theorem sw_out {x : Int32} (lo hi : Int) (h1 : -2147483648 ≤ lo) (h2 : hi < 2147483648) (h : ∀ k : Int, lo ≤ k → k ≤ hi → x = Int32.ofInt k → False) : x.toInt < lo ∨ hi < x.toInt := by
  rcases Int.lt_or_le x.toInt lo with a | a
  · exact Or.inl a
  · rcases Int.lt_or_le hi x.toInt with b | b
    · exact Or.inr b
    · exact (h x.toInt a b (Int32.ofInt_toInt x).symm).elim
abbrev MS : Type := (Nat → Int32) × (Nat → Nat → Int32)
def mAr : Nat → Option (Nat × Nat)
  | 0 => some (1, 257)
  | 1 => some (2, 257)
  | 2 => some (3, 257)
  | 3 => some (4, 257)
  | 4 => some (5, 2056)
  | 8 => some (6, 600)
  | 19 => some (7, 4)
  | 20 => some (8, 31)
  | 21 => some (9, 62)
  | 23 => some (10, 200)
  | _ => none
def mL (a : Nat) : Nat := ((mAr a).getD (0, 0)).2
def mPos (a : Nat) : Nat := ((mAr a).getD (0, 0)).1
abbrev mIs (a : Nat) : Prop := (mAr a).isSome = true
theorem mIs_at {a : Nat} (h : mIs a) : mAr a = some (mPos a, mL a) := by
  unfold mIs at h
  unfold mPos mL
  cases hq : mAr a with
  | none => rw [hq] at h; cases h
  | some q => rfl
theorem mAr_cases {a pos len : Nat} (h : mAr a = some (pos, len)) : (a = 0 ∧ pos = 1 ∧ len = 257) ∨ (a = 1 ∧ pos = 2 ∧ len = 257) ∨ (a = 2 ∧ pos = 3 ∧ len = 257) ∨ (a = 3 ∧ pos = 4 ∧ len = 257) ∨ (a = 4 ∧ pos = 5 ∧ len = 2056) ∨ (a = 8 ∧ pos = 6 ∧ len = 600) ∨ (a = 19 ∧ pos = 7 ∧ len = 4) ∨ (a = 20 ∧ pos = 8 ∧ len = 31) ∨ (a = 21 ∧ pos = 9 ∧ len = 62) ∨ (a = 23 ∧ pos = 10 ∧ len = 200) := by
  unfold mAr at h
  split at h <;> first | (cases h; simp; done) | cases h
def mI : Nat → Bool
  | 5 => true
  | 6 => true
  | 7 => true
  | 9 => true
  | 10 => true
  | 11 => true
  | 12 => true
  | 13 => true
  | 14 => true
  | 15 => true
  | 16 => true
  | 17 => true
  | 18 => true
  | 22 => true
  | 24 => true
  | _ => false
theorem mI_cases {k : Nat} (h : mI k = true) : k = 5 ∨ k = 6 ∨ k = 7 ∨ k = 9 ∨ k = 10 ∨ k = 11 ∨ k = 12 ∨ k = 13 ∨ k = 14 ∨ k = 15 ∨ k = 16 ∨ k = 17 ∨ k = 18 ∨ k = 22 ∨ k = 24 := by
  unfold mI at h
  split at h <;> first | (simp; done) | cases h
theorem mI_lt {k : Nat} (h : mI k = true) : k < 25 := by
  rcases mI_cases h with rfl | rfl | rfl | rfl | rfl | rfl | rfl | rfl | rfl | rfl | rfl | rfl | rfl | rfl | rfl <;> decide
def gFix {X : Type} (w : X → va_W) : Prop := ∀ S S', (w S).map Prod.fst = (w S').map Prod.fst
theorem gFix_at {X : Type} {w : X → va_W} (h : gFix w) (S S' : X) {k : Nat} {q : Nat × va_E} (hk : (w S)[k]? = some q) : ∃ e, (w S')[k]? = some (q.1, e) := by
  have h1 : ((w S).map Prod.fst)[k]? = some q.1 := by rw [List.getElem?_map, hk]; rfl
  rw [h S S', List.getElem?_map] at h1
  cases h2 : (w S')[k]? with
  | none => rw [h2] at h1; cases h1
  | some z =>
    rw [h2] at h1
    refine ⟨z.2, ?_⟩
    have h3 : z.1 = q.1 := Option.some.inj h1
    rw [← h3]
theorem gFix_D {X : Type} {w : X → va_W} (h : gFix w) {A : Nat → Prop} {S : X} (hD : va_D A (w S)) (S' : X) : va_D A (w S') := by
  refine ⟨fun i j p q hi hj hpq => ?_, fun k q hk => ?_⟩
  · obtain ⟨e1, h1⟩ := gFix_at h S' S hi
    obtain ⟨e2, h2⟩ := gFix_at h S' S hj
    exact hD.1 i j _ _ h1 h2 hpq
  · obtain ⟨e1, h1⟩ := gFix_at h S' S hk
    exact hD.2 k (q.1, e1) h1
/-! writes that tell what they leave -/
section WO
variable {p : Program} {l : Launch} {e : Env} {R : Room} {s : State} {m : MethodId} {args : Array Value} {below : List Frame} {meth : Method} {c : Code} {H : Heap} {locs : List Loc} {cells slots : Nat} {Q : State → Prop}
variable {cc : ByteArray} {pc : Nat} {ls : Array Slot} {rest : List Value} {D : va_G} {cl : List vw_C} {a : Nat} {tys : List (ClassId × FieldType)}
/-- an object said alone: its field k, and what a write there leaves -/
theorem ob_at {C : String} {T : u_T} {N ci : Nat} {Ts : List Cond} (hts : ∀ w ∈ Ts, w.before args s = true) (hin : ∀ w ∈ u_ws C T N, w ∈ Ts) (ty0 : Nat → FieldType) (hty : ∀ k, k < N → parseFieldDescriptor (T k).2.2.1 = some (ty0 k)) (hnm : ∀ a, a < N → ∀ b, b < N → a ≠ b → (T a).2.1 ≠ (T b).2.1) (hK : va_K D cl tys s) {fs : List Value} (he : va_at D cl (a, .inr (ci, fs)) H) (hc : cl[ci]? = some (C, T, N)) {k : Nat} (hk : k < N) (hl : k < fs.length) :
    ∃ (cf : Nat) (kf kC : Class) (fi : Nat) (f : Field) (x : Cell), (s.fieldFound? (T k).1 (T k).2.1 (T k).2.2.1 = some (cf, kf, fi, f) ∧ s.vm.findClass C = some x.cls ∧ s.vm.classes[x.cls]? = some kC ∧ kC.kind = .ordinary) ∧ (H[a]? = some x ∧ x.vm = .none ∧ f.slot < x.slots.size) ∧
      ∀ (v : Value) (H1 : Heap), H1[a]? = some (x.setSlot f.slot v) → va_at D cl (a, .inr (ci, fs.set k v)) H1 := by
  obtain ⟨r, hr, x, x1, x2, x3, x4⟩ := he
  cases hr.symm.trans hc
  obtain ⟨places, found, kC, c1, c2⟩ := hK.1 ci _ hc
  obtain ⟨cf, kf, fi, f, f1, f2⟩ := places k hk
  refine ⟨cf, kf, kC, fi, f, x, ⟨f1, x2 ▸ found, x2 ▸ c1, c2⟩, ⟨x1, x3, f2 ▸ k2_hasslot (x4 k hk)⟩, fun v H1 w => ⟨_, hc, t_OB.to ⟨_, w, x2, x3, ?_⟩ fun j _ => vp_updV_set hl v j⟩⟩
  rw [f2]
  exact t_set x4 (va_apart (own := C) hts hin ty0 hty hnm hK hc) hk v
theorem va_putO (hexec : p.tables.exec = Jvm.exec) (hb : c.code = cc) {own ref C : String} {T : u_T} {N ci index : Nat} {Ts : List Cond} (hts : ∀ w ∈ Ts, w.before args s = true) (hin : ∀ w ∈ u_ws C T N, w ∈ Ts) (ty0 : Nat → FieldType) (hty : ∀ k, k < N → parseFieldDescriptor (T k).2.2.1 = some (ty0 k)) (hnm : ∀ a, a < N → ∀ b, b < N → a ≠ b → (T a).2.1 ≠ (T b).2.1) (hown : s.vm.findClass own = some m.cls) (hK : va_K D cl tys s) {fs : List Value} (he : va_at D cl (a, .inr (ci, fs)) H) (hc : cl[ci]? = some (C, T, N)) (k : Nat) (hk : k < N) (hlink : (Cond.fieldLink own index ref (T k).2.1 (T k).2.2.1).before args s = true) (hsame : ∀ x, s.fieldFound? (T k).1 (T k).2.1 (T k).2.2.1 = some x → s.fieldFound? ref (T k).2.1 (T k).2.2.1 = some x) (hfin : (T k).2.2.2 = false) {ty : FieldType} {v : Value} (hd : parseFieldDescriptor (T k).2.2.1 = some ty) (hn : narrow ty v = v) (hfit : fits ty v = true) (hl : k < fs.length)
    (hdg : decode cc pc = .ok (.putfield index, 3)) (kk : ∀ (H1 : Heap) (j : Nat), va_at D cl (a, .inr (ci, fs.set k v)) H1 → H1.size = H.size → (∀ q : Nat, q ≠ a → H1[q]? = H[q]?) → W p l e R s m args below meth c H1 (locs ++ [⟨a, j⟩]) cells slots Q (F0 m (pc + 3) ls rest)) : W p l e R s m args below meth c H locs cells slots Q (F0 m pc ls (v :: .ref a :: rest)) := by
  obtain ⟨cf, kf, kC, fi, f, x, ⟨i1, i2, i3, i4⟩, ⟨h1, h2, h3⟩, fin⟩ := ob_at hts hin ty0 hty hnm hK he hc hk hl
  have lay : (Cond.lays C (T k).1 (T k).2.1 (T k).2.2.1).before args s = true := by
    have w := hts _ (hin _ (u_in_lay hk))
    rwa [u_lay, hfin, if_neg Bool.false_ne_true] at w
  exact W.putK hexec hb ⟨hown, hlink, ⟨_, _, _, hsame _ i1⟩, (u_facts i2 i3 (Or.inl lay) i1).1⟩ (u_store i2 i3 i4 lay i1 hd hn hfit) h1 h2 h3 rfl rfl hdg fun H' a1 a2 a3 => kk H' _ (fin v H' a1) a2 a3
theorem va_iastO (hexec : p.tables.exec = Jvm.exec) (hb : c.code = cc) (hK : va_K D cl tys s) {cA : ClassId} {n : Nat} {f : Nat → Int32} (he : va_at D cl (a, .inl (cA, n, .inl f)) H) (t0 : Nat) (ht : tys[t0]? = some (cA, .int)) {i : Int32} {x : Int32} (hin : vp_in i n) (hdg : decode cc pc = .ok (.iastore, 1))
    (kk : ∀ (H1 : Heap) (j : Nat), va_at D cl (a, .inl (cA, n, .inl (upd f i.toNatClampNeg x))) H1 → H1.size = H.size → (∀ q : Nat, q ≠ a → H1[q]? = H[q]?) → W p l e R s m args below meth c H1 (locs ++ [⟨a, j⟩]) cells slots Q (F0 m (pc + 1) ls rest)) : W p l e R s m args below meth c H locs cells slots Q (F0 m pc ls (.int x :: .int i :: .ref a :: rest)) := by
  have he : H[a]? = some (vp_cell cA (n, .inl f)) := he
  refine W.iast hexec hb he ((hK.2 t0 _ ht).1 n (fun j => .int (f j))) (fun q => by cases q) (by show ¬ (i < 0 ∨ (arrV _ _ _).slots.size ≤ _); rw [arrV_size]; exact hin) rfl rfl hdg fun H1 e z oq => ?_
  refine kk H1 _ ?_ z oq
  show H1[a]? = some (vp_cell _ _)
  rw [e, vp_cell_i, vp_cell_i, arrV_store]
  exact congrArg some (congrArg (arrV cA n) (funext fun j => by unfold updV upd; split <;> rfl))
end WO
/-- the texts that the classes' constant pools name: class, place, text, bytes -/
abbrev kTabT : Type := List (String × Nat × String × List Int32)
/-- the static facts: which cell each text is -/
def xKind : Cond → Bool
  | .castable _ _ => true
  | .declares _ => true
  | .methodLinkNest _ _ _ _ => true
  | .fieldLinkNest _ _ _ _ _ _ => true
  | _ => false
/-- words of the tables that are kept by warming but not by every change: carried along -/
def xws : List Cond := lw_tbl.filter xKind
theorem xw_same {w : Cond} (hk : xKind w = true) {u U : State} (h : u.vm = U.vm) (hZ : va_Nw w u) : va_Nw w U := by
  cases w <;> first | (exact va_Nw.same rfl h hZ) | (simp [xKind] at hk)
theorem xw_warm {w : Cond} (hk : xKind w = true) {u U : State} (hW : u.WarmedH U.vm) (hZ : va_Nw w u) : va_Nw w U := by
  cases w <;> first | (exact va_Nw.warmC hW hZ) | (exact va_Nw.warmF hW hZ) | (exact va_Nw.warmM hW hZ) | (exact va_tabs rfl (rfl : (u.setVm U.vm).vm = U.vm) (by rw [Cond.declares_setVm hW.alike]; exact hZ)) | (simp [xKind] at hk)
theorem xw_use {w : Cond} (hk : xKind w = true) {u : State} (hZ : va_Nw w u) {A : Array Value} : w.before A u = true := by
  cases w <;> first | (exact va_Nw.use rfl hZ) | (simp [xKind] at hk)
/-- StringBuilder's own private method is selected -/
def sbW : Cond := .selects "java/lang/StringBuilder" yJ5_ensureCapacityInternal_d00df yJ5_ensureCapacityInternal_d00df
/-- the calls through an interface that the law makes: the receiver's class, the member named, the member run -/
def fwT : List (String × MethodName × MethodName) := [("java/util/ArrayList", ⟨"java/util/List", "iterator", "()Ljava/util/Iterator;"⟩, yJx4a65c_iterator_32c93), ("java/util/ArrayList$Itr", ⟨"java/util/Iterator", "hasNext", "()Z"⟩, yJx35411_hasNext_aae02), ("java/util/ArrayList$Itr", ⟨"java/util/Iterator", "next", "()Ljava/lang/Object;"⟩, yJx35411_next_0502b), ("java/util/ArrayList", ⟨"java/util/List", "size", "()I"⟩, yJx4a65c_size_8abf5), ("java/util/ArrayList", ⟨"java/util/List", "get", "(I)Ljava/lang/Object;"⟩, yJx4a65c_get_915e3), ("java/util/ArrayList", ⟨"java/util/List", "add", "(Ljava/lang/Object;)Z"⟩, yJx4a65c_add_9ea2d)]
theorem fwT_ok : ∀ q ∈ fwT, q.2.1.cls ≠ "java/lang/invoke/MethodHandle" ∧ q.2.1.cls ≠ "java/lang/invoke/VarHandle" := by decide +kernel
theorem fw_same {C : String} {x y : MethodName} {u U : State} (h : u.vm = U.vm) (z : va_Fw C x y u) : va_Fw C x y U := ⟨va_tabs rfl h z.1, va_tabs rfl h z.2.1, va_tabs rfl h z.2.2.1, va_tabs rfl h z.2.2.2.1, va_tabs rfl h z.2.2.2.2⟩
def sbWs : List Cond := [sbW, .selects "java/lang/StringBuilder" yJ5_newCapacity_0f7a4 yJ5_newCapacity_0f7a4, .selects "java/lang/StringBuilder" yJ5_putStringAt_47b60 yJ5_putStringAt_47b60, .selects "java/lang/StringBuilder" yJ5_inflateIfNeededFor_a7421 yJ5_inflateIfNeededFor_a7421]
theorem sbW_in : sbW ∈ sbWs := List.mem_cons_self
theorem sb_same {w : Cond} (hw : w ∈ sbWs) {u U : State} (h : u.vm = U.vm) (q : va_Nw w u) : va_Nw w U := by
  simp only [sbWs, List.mem_cons, List.not_mem_nil, or_false] at hw
  rcases hw with rfl | rfl | rfl | rfl <;> exact va_tabs rfl h q
theorem sb_warm {w : Cond} (hw : w ∈ sbWs) {u U : State} (h : u.WarmedH U.vm) (q : va_Nw w u) : va_Nw w U := by
  simp only [sbWs, List.mem_cons, List.not_mem_nil, or_false] at hw
  rcases hw with rfl | rfl | rfl | rfl <;> exact word_at h (Or.inl rfl) q
def xOK (U : State) : Prop := (∀ w ∈ xws, va_Nw w U) ∧ (∀ w ∈ sbWs, va_Nw w U) ∧ ∀ q ∈ fwT, va_Fw q.1 q.2.1 q.2.2 U
theorem xOK_same {u U : State} (h : U.vm = u.vm) (q : xOK u) : xOK U := ⟨fun w hw => xw_same (List.mem_filter.mp hw).2 h.symm (q.1 w hw), fun w hw => sb_same hw h.symm (q.2.1 w hw), fun z hz => fw_same h.symm (q.2.2 z hz)⟩
theorem xOK_warm {u U : State} (h : u.WarmedH U.vm) (q : xOK u) : xOK U := ⟨fun w hw => xw_warm (List.mem_filter.mp hw).2 h (q.1 w hw), fun w hw => sb_warm hw h (q.2.1 w hw), fun z hz => va_Fw.moved (fwT_ok z hz) h.alike (q.2.2 z hz)⟩
def kR (kTab : kTabT) (kA : String → Nat → Nat) (U : State) : Prop := (∀ q ∈ kTab, vk_R q.1 q.2.1 q.2.2.1 (kA q.1 q.2.1) U) ∧ xOK U
/-- and that it holds the bytes -/
def kE (kTab : kTabT) (kA : String → Nat → Nat) (Ω : Nat → Prop) (U : State) (H : Heap) : Prop := (∀ q ∈ kTab, strAt (kA q.1 q.2.1) q.2.2.2 Ω U H) ∧ cmpS Ω U H
theorem kE.moved {kTab : kTabT} {kA : String → Nat → Nat} {Ω : Nat → Prop} {u U : State} {H : Heap} (hvm : u.vm.Alike U.vm) (h : kE kTab kA Ω u H) : kE kTab kA Ω U H := ⟨fun q hq => (h.1 q hq).moved hvm, h.2.moved hvm⟩
theorem kE.kept {kTab : kTabT} {kA : String → Nat → Nat} {Ω : Nat → Prop} {s : State} {H H1 : Heap} (h : kE kTab kA Ω s H) (hq : ∀ a : Nat, a < H.size → ¬ Ω a → H1[a]? = H[a]?) : kE kTab kA Ω s H1 := ⟨fun q hm => (h.1 q hm).kept hq, h.2.kept hq⟩
theorem kR_ok {kTab : kTabT} {kA : String → Nat → Nat} : (∀ u U : State, U.vm = u.vm → kR kTab kA u → kR kTab kA U) ∧ ∀ u U : State, u.WarmedH U.vm → kR kTab kA u → kR kTab kA U := ⟨fun u U h k => ⟨fun q hq => vk_R.same h (k.1 q hq), xOK_same h k.2⟩, fun u U h k => ⟨fun q hq => vk_R.warm h (k.1 q hq), xOK_warm h k.2⟩⟩

variable {p : Program} {l : Launch} {e : Env} {R : Room} {s : State} {m : MethodId} {args : Array Value} {below : List Frame} {meth : Method} {c : Code} {H : Heap} {locs : List Loc} {cells slots : Nat} {Q : State → Prop}
def kTab : kTabT := [("GranaryWatch", 59, "cat tom 5 left;cat puss 3 right;cat moss 7 right;sack rye 60 4 open;sack oats 30 9 shut;sack peas 8 2 open;shift tom 4;shift puss 3;shift moss 5;", [99, 97, 116, 32, 116, 111, 109, 32, 53, 32, 108, 101, 102, 116, 59, 99, 97, 116, 32, 112, 117, 115, 115, 32, 51, 32, 114, 105, 103, 104, 116, 59, 99, 97, 116, 32, 109, 111, 115, 115, 32, 55, 32, 114, 105, 103, 104, 116, 59, 115, 97, 99, 107, 32, 114, 121, 101, 32, 54, 48, 32, 52, 32, 111, 112, 101, 110, 59, 115, 97, 99, 107, 32, 111, 97, 116, 115, 32, 51, 48, 32, 57, 32, 115, 104, 117, 116, 59, 115, 97, 99, 107, 32, 112, 101, 97, 115, 32, 56, 32, 50, 32, 111, 112, 101, 110, 59, 115, 104, 105, 102, 116, 32, 116, 111, 109, 32, 52, 59, 115, 104, 105, 102, 116, 32, 112, 117, 115, 115, 32, 51, 59, 115, 104, 105, 102, 116, 32, 109, 111, 115, 115, 32, 53, 59]), ("GranaryWatch", 307, "there is no such cat", [116, 104, 101, 114, 101, 32, 105, 115, 32, 110, 111, 32, 115, 117, 99, 104, 32, 99, 97, 116]), ("GranaryWatch", 310, "there is no such sack", [116, 104, 101, 114, 101, 32, 105, 115, 32, 110, 111, 32, 115, 117, 99, 104, 32, 115, 97, 99, 107]), ("GranaryWatch", 320, "the number is out of range", [116, 104, 101, 32, 110, 117, 109, 98, 101, 114, 32, 105, 115, 32, 111, 117, 116, 32, 111, 102, 32, 114, 97, 110, 103, 101]), ("GranaryWatch", 340, "the granary does not allow this change now", [116, 104, 101, 32, 103, 114, 97, 110, 97, 114, 121, 32, 100, 111, 101, 115, 32, 110, 111, 116, 32, 97, 108, 108, 111, 119, 32, 116, 104, 105, 115, 32, 99, 104, 97, 110, 103, 101, 32, 110, 111, 119]), ("GranaryWatch$Cat", 9, "", []), ("GranaryWatch$Sack", 7, "", []), ("GranaryWatch$Setup", 54, "cat", [99, 97, 116]), ("GranaryWatch$Setup", 63, "sack", [115, 97, 99, 107]), ("GranaryWatch$Setup", 68, "shift", [115, 104, 105, 102, 116]), ("GranaryWatch$Setup", 73, "milk", [109, 105, 108, 107]), ("GranaryWatch$Setup", 78, "hour", [104, 111, 117, 114]), ("GranaryWatch$Setup", 115, "left", [108, 101, 102, 116]), ("GranaryWatch$Setup", 117, "right", [114, 105, 103, 104, 116]), ("GranaryWatch$Setup", 148, "open", [111, 112, 101, 110]), ("GranaryWatch$Setup", 150, "shut", [115, 104, 117, 116]), ("GranaryWatchLaw", 227, "cat ", [99, 97, 116, 32]), ("GranaryWatchLaw", 239, " left;", [32, 108, 101, 102, 116, 59]), ("GranaryWatchLaw", 241, " right;", [32, 114, 105, 103, 104, 116, 59]), ("GranaryWatchLaw", 244, "sack ", [115, 97, 99, 107, 32]), ("GranaryWatchLaw", 246, " open;", [32, 111, 112, 101, 110, 59]), ("GranaryWatchLaw", 248, " shut;", [32, 115, 104, 117, 116, 59]), ("GranaryWatchLaw", 262, "shift ", [115, 104, 105, 102, 116, 32]), ("GranaryWatchLaw", 271, "milk ", [109, 105, 108, 107, 32]), ("GranaryWatchLaw", 273, ";hour ", [59, 104, 111, 117, 114, 32])]
