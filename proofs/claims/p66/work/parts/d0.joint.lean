
/-! the class's world beside the law's -/
theorem od_lt {p : Nat} (h : p < 433) : od p < 433 := by
  unfold od
  repeat' split
  all_goals omega
theorem cΩ_in {b q : Nat} (h : cΩ (caOf b) q) : b ≤ q ∧ q < b + 433 := by
  obtain ⟨p, hp, e⟩ := h
  have := od_lt hp
  have e : q = b + od p := e
  omega
theorem K_arr {U : State} {cA : ClassId} {ty : FieldType} (h : ArrOfT U cA ty) : ∃ k comp, U.vm.classes[cA]? = some k ∧ k.kind = .array comp ty := by
  obtain ⟨-, k, hk, comp, hkind⟩ := h 0 (fun _ => .null)
  exact ⟨k, comp, hk, hkind⟩
theorem not_two {U : State} {c : ClassId} {k k' : Class} (h : U.vm.classes[c]? = some k) (h' : U.vm.classes[c]? = some k') (hk : k.kind ≠ k'.kind) : False := hk (by cases Option.some.inj (h.symm.trans h'); rfl)
theorem gFs.and {Ω : Nat → Prop} {F G : State → Heap → Prop} (h : gFs Ω F) (g : gFs Ω G) : gFs Ω (fun U H => F U H ∧ G U H) := ⟨fun u U H hvm q => ⟨h.1 _ _ _ hvm q.1, g.1 _ _ _ hvm q.2⟩, fun U H H1 hz hk q => ⟨h.2 _ _ _ hz hk q.1, g.2 _ _ _ hz hk q.2⟩⟩
theorem gFs.mono {Ω Ω' : Nat → Prop} {F : State → Heap → Prop} (h : gFs Ω F) (ho : ∀ q, Ω' q → Ω q) : gFs Ω' F := ⟨h.1, fun U H H1 hz hk q => h.2 _ _ _ hz (fun a ha na => hk a ha (fun z => na (ho a z))) q⟩
def zΩ (b1 : Nat) (la : Nat → Nat) (C : LC) (z : Nat) : Nat → Prop := fun q => cΩ (caOf b1) q ∨ lΩ la C q ∨ z ≤ q
def lS (b1 : Nat) (la : Nat → Nat) (C : LC) : Prop := ∀ p, lEx C p → b1 + 433 ≤ la p
/-- the class's world; its texts are none of the law's cells, nor made since z -/
def cZ (dC : Nat → ClassId) (dI : Nat → Nat → Nat) (cg : Nat → ClassId) (kA : String → Nat → Nat) (b1 : Nat) (la : Nat → Nat) (C : LC) (z : Nat) (S : CS) : State → Heap → Prop := fun U H => (∃ nA, cN dC dI cg kA (caOf b1) nA S U H ∧ ∀ p, strAt (nA p) (S.2 p) (zΩ b1 la C z) U H) ∧ kE kTab kA (zΩ b1 la C z) U H
def qP (dC : Nat → ClassId) (dI : Nat → Nat → Nat) (cg : Nat → ClassId) (kA : String → Nat → Nat) (la iA : Nat → Nat) (C : LC) (b1 : Nat) : CS × XL → State → Heap → Prop := fun J U H => cP dC dI cg kA (caOf b1) J.1 U H ∧ lP dC dI cg kA la iA C b1 J.2 U H
section JOINT
variable {dC : Nat → ClassId} {dI : Nat → Nat → Nat} {cg : Nat → ClassId} {kA : String → Nat → Nat} {la iA : Nat → Nat} {C : LC} {b1 z : Nat} {S : CS} {X : XL} {U : State} {H : Heap}
theorem cZ_cP (h : cZ dC dI cg kA b1 la C z S U H) : cP dC dI cg kA (caOf b1) S U H := by
  obtain ⟨⟨nA, h, -⟩, -⟩ := h
  exact ⟨nA, h⟩
theorem cZ_mv {u : State} (hvm : u.vm.Alike U.vm) (h : cZ dC dI cg kA b1 la C z S u H) : cZ dC dI cg kA b1 la C z S U H := by
  obtain ⟨⟨nA, ⟨a1, a2, a3, a4, a5⟩, a6⟩, h2⟩ := h
  exact ⟨⟨nA, ⟨a1, va_K.moved hvm a2, a3, a4.moved hvm, fun p => (a5 p).moved hvm⟩, fun p => (a6 p).moved hvm⟩, h2.moved hvm⟩
theorem cZ_kept {H1 : Heap} {Ω : Nat → Prop} (ho : ∀ q, Ω q → zΩ b1 la C z q ∧ ¬ cΩ (caOf b1) q) (hk : ∀ a : Nat, a < H.size → ¬ Ω a → H1[a]? = H[a]?) (h : cZ dC dI cg kA b1 la C z S U H) : cZ dC dI cg kA b1 la C z S U H1 := by
  obtain ⟨⟨nA, ⟨a1, a2, a3, a4, a5⟩, a6⟩, h2⟩ := h
  have hkz : ∀ a : Nat, a < H.size → ¬ zΩ b1 la C z a → H1[a]? = H[a]? := fun a ha na => hk a ha (fun w => na (ho a w).1)
  have hk2 : kE kTab kA (zΩ b1 la C z) U H1 := h2.kept hkz
  have hs : ∀ p, strAt (nA p) (S.2 p) (zΩ b1 la C z) U H1 := fun p => (a6 p).kept hkz
  exact ⟨⟨nA, ⟨fun p hp => (a1 p hp).kept (hk _ ((a1 p hp).lt) (fun w => (ho _ w).2 ⟨p, hp, rfl⟩)), a2, a3, hk2.narrow (fun q w => Or.inl w), fun p => (hs p).narrow (fun q w => Or.inl w)⟩, hs⟩, hk2⟩
theorem lΩ_c (hs : lS b1 la C) {q : Nat} (h : lΩ la C q) : ¬ cΩ (caOf b1) q := fun w => by
  obtain ⟨p, hp, e⟩ := h
  have := hs p hp
  have := cΩ_in w
  omega
theorem cZ_fs (hs : lS b1 la C) : gFs (lΩ la C) (cZ dC dI cg kA b1 la C z S) := ⟨fun u U H hvm h => cZ_mv hvm h, fun U H H1 hz hk h => cZ_kept (fun q w => ⟨Or.inr (Or.inl w), lΩ_c hs w⟩) hk h⟩
theorem cZ_fa {a : Nat} (ha : b1 + 433 ≤ a) (hz : z ≤ a) : gFs (fun q => q = a) (cZ dC dI cg kA b1 la C z S) := ⟨fun u U H hvm h => cZ_mv hvm h, fun U H H1 hz' hk h => cZ_kept (fun q w => ⟨Or.inr (Or.inr (by rw [w]; exact hz)), fun v => by have := cΩ_in v; omega⟩) hk h⟩
theorem lP_fsC (hs : lS b1 la C) : gFs (cΩ (caOf b1)) (lP dC dI cg kA la iA C b1 X) := ⟨fun u U H hvm h => lOK0.1 _ _ _ _ hvm h, fun U H H1 hz hk h => by
  obtain ⟨a1, a2, a3, a4, a5, a6⟩ := h
  exact ⟨fun p hp => (a1 p hp).kept (hk _ (a1 p hp).lt (fun w => by have := cΩ_in w; have := hs p hp; omega)), a2, a3, a4.kept (fun q hq nq => hk q hq (fun w => nq (cΩ_in w).1)), a5, fun n hn => ⟨(a6 n hn).1, (a6 n hn).2.kept (hk _ (a6 n hn).2.lt (fun w => by have := (a6 n hn).1; have := cΩ_in w; omega))⟩⟩⟩
theorem K_ne {tys : List (ClassId × FieldType)} {i j : Nat} {Ci Cj : vw_C} (hK : va_K (dC, dI) vwCl tys U) (hi : vwCl[i]? = some Ci) (hj : vwCl[j]? = some Cj) (hne : Ci.1 ≠ Cj.1) : dC i ≠ dC j := fun e => by
  have f1 : U.vm.findClass Ci.1 = some (dC i) := (hK.1 i _ hi).2.1
  have f2 : U.vm.findClass Cj.1 = some (dC j) := (hK.1 j _ hj).2.1
  obtain ⟨k1, e1, e2⟩ := Vm.findClass_spec f1
  obtain ⟨k2, e3, e4⟩ := Vm.findClass_spec f2
  rw [e, e3] at e1
  cases Option.some.inj e1
  exact hne (e2.symm.trans e4)
/-- what a cell of the law's is -/
theorem l_cell (hl : lP dC dI cg kA la iA C b1 X U H) {q : Nat} (h : lΩ la C q) : ∃ cell, H[q]? = some cell ∧ ((∃ i, (i = 17 ∨ i = 4 ∨ i = 16 ∨ i = 18) ∧ cell.cls = dC i) ∨ cell.cls = cg 6) := by
  obtain ⟨p, hp, e⟩ := h
  subst e
  have hat := hl.1 p hp
  unfold lRow at hat
  repeat' split at hat
  · obtain ⟨r, h1, cell, q1, q2, q3, q4⟩ := hat
    exact ⟨cell, q1, Or.inl ⟨17, by omega, q2⟩⟩
  · obtain ⟨r, h1, cell, q1, q2, q3, q4⟩ := hat
    exact ⟨cell, q1, Or.inl ⟨4, by omega, q2⟩⟩
  · exact ⟨_, hat, Or.inr rfl⟩
  · obtain ⟨r, h1, cell, q1, q2, q3, q4⟩ := hat
    exact ⟨cell, q1, Or.inl ⟨16, by omega, q2⟩⟩
  · obtain ⟨r, h1, cell, q1, q2, q3, q4⟩ := hat
    exact ⟨cell, q1, Or.inl ⟨18, by omega, q2⟩⟩
theorem str_z {a : Nat} {bs : List Int32} (hl : lP dC dI cg kA la iA C b1 X U H) (hz : H.size ≤ z) (h : strAt a bs (cΩ (caOf b1)) U H) : strAt a bs (zΩ b1 la C z) U H := by
  have hK := hl.2.1
  obtain ⟨ha, hn, v, ⟨c1, q1, q2, q3, q4⟩, ⟨x1, x2, x3, x4, x5, x6, x7, x8, x9, x10, x11⟩, ⟨y1, y2, y3, y4, y5, y6, y7, y8, y9, y10, y11⟩, ⟨z1, z2, z3, z4, z5, z6, z7, z8⟩⟩ := h
  obtain ⟨fS, kS, hkS, hS⟩ := (hK.1 0 _ rfl).2
  have fS : U.vm.findClass "java/lang/String" = some (dC 0) := fS
  have hcS : c1.cls = dC 0 := Option.some.inj (q3.symm.trans fS)
  obtain ⟨kO, cO, hkO, hO⟩ := K_arr (hK.2 6 _ rfl).1
  have z3c := z3
  obtain ⟨-, kB, hkB, cmB, hB⟩ := z3c
  have ns : ∀ i, (i = 17 ∨ i = 4 ∨ i = 16 ∨ i = 18) → dC 0 ≠ dC i ∧ ∃ k n, U.vm.classes[dC i]? = some k ∧ k.kind = n ∧ ∀ cp ty, n ≠ .array cp ty := fun i hi => by
    rcases hi with rfl | rfl | rfl | rfl
    · obtain ⟨-, k, hk, hS⟩ := (hK.1 17 _ rfl).2
      exact ⟨K_ne (i := 0) (j := 17) hK rfl rfl (by decide), k, _, hk, rfl, fun cp ty w => by rw [hS] at w; cases w⟩
    · obtain ⟨-, k, hk, hS⟩ := (hK.1 4 _ rfl).2
      exact ⟨K_ne (i := 0) (j := 4) hK rfl rfl (by decide), k, _, hk, rfl, fun cp ty w => by rw [hS] at w; cases w⟩
    · obtain ⟨-, k, hk, hS⟩ := (hK.1 16 _ rfl).2
      exact ⟨K_ne (i := 0) (j := 16) hK rfl rfl (by decide), k, _, hk, rfl, fun cp ty w => by rw [hS] at w; cases w⟩
    · obtain ⟨-, k, hk, hS⟩ := (hK.1 18 _ rfl).2
      exact ⟨K_ne (i := 0) (j := 18) hK rfl rfl (by decide), k, _, hk, rfl, fun cp ty w => by rw [hS] at w; cases w⟩
  have na : ¬ zΩ b1 la C z a := fun w => by
    rcases w with w | w | w
    · exact q4 w
    · obtain ⟨cell, r1, r2⟩ := l_cell hl w
      cases Option.some.inj (q1.symm.trans r1)
      rcases r2 with ⟨i, hi, r2⟩ | r2
      · exact (ns i hi).1 (hcS.symm.trans r2)
      · rw [← r2, hcS] at hkO
        exact not_two hkS hkO (by rw [hS, hO]; intro w; cases w)
    · have := (Array.getElem?_eq_some_iff.mp q1).1
      omega
  have nv : ¬ zΩ b1 la C z v := fun w => by
    rcases w with w | w | w
    · exact z8 w
    · obtain ⟨cell, r1, r2⟩ := l_cell hl w
      cases Option.some.inj (z2.symm.trans r1)
      rcases r2 with ⟨i, hi, r2⟩ | r2
      · obtain ⟨k, n, hk, e1, e2⟩ := (ns i hi).2
        rw [r2] at hkB
        cases Option.some.inj (hk.symm.trans hkB)
        exact e2 _ _ (e1.symm.trans hB)
      · rw [r2] at hkB
        exact not_two hkO hkB (by rw [hO, hB]; intro w; cases w)
    · have := (Array.getElem?_eq_some_iff.mp z2).1
      omega
  exact ⟨ha, hn, v, ⟨c1, q1, q2, q3, na⟩, ⟨x1, x2, x3, x4, x5, x6, x7, x8, x9, x10, na⟩, ⟨y1, y2, y3, y4, y5, y6, y7, y8, y9, y10, na⟩, ⟨z1, z2, z3, z4, z5, z6, z7, nv⟩⟩
theorem z_of (hs : lS b1 la C) (h : cP dC dI cg kA (caOf b1) S U H) (hl : lP dC dI cg kA la iA C b1 X U H) : cZ dC dI cg kA b1 la C H.size S U H := by
  obtain ⟨nA, hN⟩ := h
  have h0 := (hl.1 0 (lEx_l (by omega))).lt
  have h1 := hs 0 (lEx_l (by omega))
  refine ⟨⟨nA, hN, fun p => str_z hl (Nat.le_refl _) (hN.2.2.2.2 p)⟩, hl.2.2.2.1.narrow (fun q w => ?_)⟩
  show b1 ≤ q
  rcases w with w | ⟨p, hp, e⟩ | w
  · exact (cΩ_in w).1
  · have := hs p hp; omega
  · omega
theorem lRow_cong {w v : Wd} {h : Nat → Int32} {p : Nat} (o : ∀ q, q < 14 ∨ 65 ≤ q → v q = w q) : lRow cg la iA C p (v, h) = lRow cg la iA C p (w, h) := by
  unfold lRow
  repeat' split
  · simp only [lF0]; rw [o 5 (by omega), o 3 (by omega), o 4 (by omega), o 6 (by omega), o 7 (by omega), o 8 (by omega), o 9 (by omega), o 10 (by omega), o 11 (by omega), o 12 (by omega), o 13 (by omega)]
  · rfl
  · rfl
  · simp only [lFc]; rw [o (65 + 12 * (p - 9) + 7) (by omega), o (65 + 12 * (p - 9) + 9) (by omega), o (65 + 12 * (p - 9) + 10) (by omega), o (65 + 12 * (p - 9) + 11) (by omega)]
  · simp only [lFs]; rw [o (161 + 12 * (p - 13) + 7) (by omega), o (161 + 12 * (p - 13) + 8) (by omega), o (161 + 12 * (p - 13) + 10) (by omega), o (161 + 12 * (p - 13) + 9) (by omega)]
theorem lP_cong {w v : Wd} {h : Nat → Int32} (o : ∀ q, q < 14 ∨ 65 ≤ q → v q = w q) (hl : lP dC dI cg kA la iA C b1 (w, h) U H) : lP dC dI cg kA la iA C b1 (v, h) U H := ⟨fun p hp => by rw [lRow_cong o]; exact hl.1 p hp, hl.2⟩
end JOINT
/-! iterators over the law's lists, beside any world that keeps off them -/
section ITERF
variable {p : Program} {l : Launch} {e : Env} {R : Room} {s : State} {m : MethodId} {args : Array Value} {below : List Frame} {meth : Method} {c : Code} {H : Heap} {locs : List Loc} {cells slots : Nat} {Q : State → Prop}
variable {cc : ByteArray} {pc nL idx cnt a b i lev mc ms : Nat} {ls : Array Slot} {rest : List Value} {dC : Nat → ClassId} {dI : Nat → Nat → Nat} {cg : Nat → ClassId} {kA : String → Nat → Nat} {la iA : Nat → Nat} {C : LC} {bs : Nat} {own : String} {F : State → Heap → Prop} {M : XL}
def itG (dC : Nat → ClassId) (dI : Nat → Nat → Nat) (a b n i : Nat) (F : State → Heap → Prop) : State → Heap → Prop := fun U H => itF dC dI a b n i U H ∧ F U H
theorem lr_iterF {A0 : Nat → Prop} (X : gX p s m args c cc nL own (kR kTab kA)) (hF : gFs (fun _ => False) F) (hP : gF (lP dC dI cg kA la iA C bs) F M s H) (hS : va_S A0 s.heap H locs) (hA : ∀ q, s.heap.size ≤ q → A0 q) (hb : 1 ≤ b ∧ b ≤ 4) (hlink : Cond.methodLink own idx ⟨"java/util/List", "iterator", "()Ljava/util/Iterator;"⟩ ∈ TBG) (hroom : 3 + 1 ≤ R.frames ∧ 8 + (1 + 11) + 38 * 3 ≤ R.locals) (hls : ls.size = nL) (hcat : (rest.map fun v => v.category).sum ≤ 8) (hcells : cells + 1 ≤ R.cells ∧ slots + 4 ≤ R.slots) (hdg : decode cc pc = .ok (.invokeinterface idx cnt, 5))
    (kk : ∀ (H1 : Heap) (locs1 : List Loc) (a : Nat), itOK la C bs s.heap.size a → gF (lP dC dI cg kA la iA C bs) (itG dC dI a (la b) (lNum C b) 0 F) M s H1 → va_S A0 s.heap H1 locs1 → W p l e R s m args below meth c H1 locs1 (cells + 1) (slots + 4) Q (F0 m (pc + 5) ls (.ref a :: rest))) : W p l e R s m args below meth c H locs cells slots Q (F0 m pc ls (.ref (la b) :: rest)) := by
  have hls0 := lP_ls hP.1 hb
  have hFF := (lP_fs0 (dC := dC) (dI := dI) (cg := cg) (kA := kA) (la := la) (iA := iA) (C := C) (bs := bs) (M := M)).and hF
  refine gCallFN X (gF_ok lsW_ok hFF) (fun _ _ _ _ _ h => h) ((vJL_iterator (dC := dC) (dI := dI) (cg := cg) (kA := kA) (b := la b) (ea := la (b + 4)) (n := lNum C b) (f := lFa la iA C b)).lift hFF) (gT_F hlink tw1047 tw1049 tw25 tw1051) (hP.1.2.1.1 4 _ rfl).2 (X.ks.2.2.2 _ (List.mem_of_getElem? (i := 0) rfl)) ⟨by decide, by decide, by decide +kernel⟩ rfl hroom ⟨hls0, hP⟩ hS (fun q z => hA q (z.elim (fun z => z.elim) (fun z => Nat.le_trans hS.1 z))) hls0.rec hls hcat hcells hdg (As := []) rfl (fun H1 locs1 a hP1 hB hz hS1 hz1 hk1 => ?_)
  have hz0 : la 0 < H.size := (hP.1.1 0 (lEx_l (by omega))).lt
  have hb0 := hP.1.2.2.2.2.1 0 (lEx_l (by omega))
  exact kk H1 locs1 a ⟨fun p hp => by have := (hP.1.1 p hp).lt; intro z; have : la p = a := z; omega, Nat.le_trans hS.1 hz, by omega⟩ ⟨hP1.2.1, hB, hP1.2.2⟩ hS1
theorem lr_hasNextF (X : gX p s m args c cc nL own (kR kTab kA)) (hR : R = rmL lev mc ms) (hC : lC C) (hP : gF (lP dC dI cg kA la iA C bs) (itG dC dI a (la b) (lNum C b) i F) M s H) (hb : 1 ≤ b ∧ b ≤ 4) (hi : i ≤ lNum C b) (hlink : Cond.methodLink own idx ⟨"java/util/Iterator", "hasNext", "()Z"⟩ ∈ TBG) (hlev : 2 ≤ lev) (hls : ls.size = nL) (hcat : (rest.map fun v => v.category).sum ≤ 8) (hcells : cells ≤ mc ∧ slots ≤ ms) (hdg : decode cc pc = .ok (.invokeinterface idx cnt, 5))
    (kk : W p l e R s m args below meth c H locs cells slots Q (F0 m (pc + 5) ls (.int (if i = lNum C b then 0 else 1) :: rest))) : W p l e R s m args below meth c H locs cells slots Q (F0 m pc ls (.ref a :: rest)) :=
  lr_hasNext X hR hC ⟨hP.1, hP.2.1⟩ hb hi hlink hlev hls hcat hcells hdg kk
theorem lr_nextF {A0 : Nat → Prop} {q : Nat} (X : gX p s m args c cc nL own (kR kTab kA)) (hF : gFs (fun q => q = a) F) (hC : lC C) (ha : itOK la C bs s.heap.size a) (hP : gF (lP dC dI cg kA la iA C bs) (itG dC dI a (la b) (lNum C b) i F) M s H) (hS : va_S A0 s.heap H locs) (hA : ∀ q, s.heap.size ≤ q → A0 q) (hb : 1 ≤ b ∧ b ≤ 4) (hi : i < lNum C b) (hf : lFa la iA C b i = some q) (hlink : Cond.methodLink own idx ⟨"java/util/Iterator", "next", "()Ljava/lang/Object;"⟩ ∈ TBG) (hroom : 2 + 1 ≤ R.frames ∧ 8 + (3 + 11) + 38 * 2 ≤ R.locals) (hls : ls.size = nL) (hcat : (rest.map fun v => v.category).sum ≤ 8) (hcells : cells ≤ R.cells ∧ slots ≤ R.slots) (hdg : decode cc pc = .ok (.invokeinterface idx cnt, 5))
    (kk : ∀ (H1 : Heap) (locs1 : List Loc), gF (lP dC dI cg kA la iA C bs) (itG dC dI a (la b) (lNum C b) (i + 1) F) M s H1 → va_S A0 s.heap H1 locs1 → W p l e R s m args below meth c H1 locs1 cells slots Q (F0 m (pc + 5) ls (.ref q :: rest))) : W p l e R s m args below meth c H locs cells slots Q (F0 m pc ls (.ref a :: rest)) := by
  have hls0 := lP_ls hP.1 hb
  have hFF := (lP_fsa (dC := dC) (dI := dI) (cg := cg) (kA := kA) (la := la) (iA := iA) (C := C) (bs := bs) (M := M) ha).and hF
  refine gCallFO (cells := cells) (slots := slots) (mc' := 0) (ms' := 0) X (gF_ok nxW_ok hFF) (fun _ _ _ _ _ h => h) ((vJI_next (dC := dC) (dI := dI) (cg := cg) (kA := kA) (a := a) (b := la b) (ea := la (b + 4)) (n := lNum C b) (f := lFa la iA C b) (ha.1 b (lEx_l (by omega))) (ha.1 (b + 4) (lEx_l (by omega))) hi (Nat.le_trans (lNum_le hC) (by omega)) hf).lift hFF) (gT_F hlink tw1085 tw1087 tw32 tw1089) (hP.1.2.1.1 3 _ rfl).2 (X.ks.2.2.2 _ (List.mem_of_getElem? (i := 2) rfl)) ⟨by decide, by decide, by decide +kernel⟩ rfl hroom ⟨⟨hP.2.1, hls0⟩, hP.1, hP.2.2⟩ hS (fun q z => hA q (z.elim (fun z => by rw [z]; exact ha.2.1) (fun z => Nat.le_trans hS.1 z))) (it_rec hP.1.2.1 hP.2.1) hls hcat hcells hdg (As := []) rfl (fun H1 locs1 q1 hP1 hB hS1 hz1 hk1 => ?_)
  obtain rfl : q1 = q := hB
  exact kk H1 locs1 ⟨hP1.2.1, hP1.1.1, hP1.2.2⟩ hS1
end ITERF
