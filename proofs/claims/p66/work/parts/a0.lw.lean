/-! the law's own world: its granary, its lists, its cats and sacks at addresses la; a plain granary w and flags h tell their cells (h: hunting 0..3, left 4..7) -/
abbrev XL : Type := Wd × (Nat → Int32)
/-- how many cats, sacks, shifts; of each shift its cat and its hours -/
abbrev LC : Type := (Nat × Nat × Nat) × (Nat → Nat) × (Nat → Nat)
def lC (C : LC) : Prop := (1 ≤ C.1.1 ∧ C.1.1 ≤ 4) ∧ (1 ≤ C.1.2.1 ∧ C.1.2.1 ≤ 4) ∧ (1 ≤ C.1.2.2 ∧ C.1.2.2 ≤ 8) ∧ ∀ j, j < C.1.2.2 → C.2.1 j < C.1.1 ∧ C.2.2 j ≤ 4
def swA (la : Nat → Nat) (v : Int32) : Option Nat := if v = -1 then none else some (la (9 + v.toNatClampNeg))
def zA (la : Nat → Nat) : Nat → Option Nat
  | 0 => none
  | k + 1 => some (la (13 + k))
def lNum (C : LC) (b : Nat) : Nat := if b = 1 then C.1.1 else if b = 3 then C.1.2.1 else C.1.2.2
def lEl (la iA : Nat → Nat) (C : LC) (b i : Nat) : Nat := if b = 1 then la (9 + i) else if b = 2 then la (9 + C.2.1 i) else if b = 3 then la (13 + i) else iA (C.2.2 i)
def lF0 (la : Nat → Nat) (X : XL) : List Value := [.ref (la 1), .ref (la 2), .ref (la 3), .ref (la 4), va_rf (swA la (X.1 5)), .int (X.1 3), .int (X.1 4), .int (X.1 6), .int (X.1 7), .int (X.1 8), .int (X.1 9), .int (X.1 10), .int (X.1 11), .int (X.1 12), .int (X.1 13)]
def lFl (la : Nat → Nat) (C : LC) (b : Nat) : List Value := [.int (nI (lNum C b)), .ref (la (b + 4)), .int (nI (lNum C b))]
def lFa (la iA : Nat → Nat) (C : LC) (b : Nat) : Nat → Option Nat := fun i => if i < lNum C b then some (lEl la iA C b i) else none
def lFc (c : Nat) (X : XL) : List Value := [.int (nI c), .int (X.1 (65 + 12 * c + 7)), .int (X.1 (65 + 12 * c + 9)), .int (X.1 (65 + 12 * c + 10)), .int (X.1 (65 + 12 * c + 11)), .int (X.2 (4 + c)), .int (X.2 c)]
def lFs (k : Nat) (X : XL) : List Value := [.int (nI k), .int (X.1 (161 + 12 * k + 7)), .int (X.1 (161 + 12 * k + 8)), .int (X.1 (161 + 12 * k + 10)), .int (X.1 (161 + 12 * k + 9))]
def lRow (cg : Nat → ClassId) (la iA : Nat → Nat) (C : LC) (p : Nat) (X : XL) : va_E :=
  if p = 0 then .inr (17, lF0 la X) else if p < 5 then .inr (4, lFl la C p) else if p < 9 then .inl (cg 6, 10, .inr (.inr (.inr (.inr (lFa la iA C (p - 4)))))) else if p < 13 then .inr (16, lFc (p - 9) X) else .inr (18, lFs (p - 13) X)
def lEx (C : LC) (p : Nat) : Prop := p < 9 ∨ (9 ≤ p ∧ p < 9 + C.1.1 ∧ p < 13) ∨ (13 ≤ p ∧ p < 13 + C.1.2.1)
def lΩ (la : Nat → Nat) (C : LC) : Nat → Prop := fun q => ∃ p, lEx C p ∧ q = la p
/-- an Integer that holds n -/
def ixA (dC : Nat → ClassId) (dI : Nat → Nat → Nat) (a n : Nat) (H : Heap) : Prop := ∃ cell : Cell, H[a]? = some cell ∧ cell.cls = dC 2 ∧ cell.vm.isStatics = false ∧ cell.vm ≠ .unknown ∧ cell.slots[dI 2 0]? = some (.int (nI n))
theorem ixA.kept {dC : Nat → ClassId} {dI : Nat → Nat → Nat} {a n : Nat} {H H1 : Heap} (h : ixA dC dI a n H) (e : H1[a]? = H[a]?) : ixA dC dI a n H1 := by
  obtain ⟨cell, h1, h2⟩ := h
  exact ⟨cell, e.trans h1, h2⟩
theorem ixA.lt {dC : Nat → ClassId} {dI : Nat → Nat → Nat} {a n : Nat} {H : Heap} (h : ixA dC dI a n H) : a < H.size := by
  obtain ⟨cell, h1, h2⟩ := h
  exact (Array.getElem?_eq_some_iff.mp h1).1
theorem ixA.rec {dC : Nat → ClassId} {dI : Nat → Nat → Nat} {tys : List (ClassId × FieldType)} {a n : Nat} {s : State} {H : Heap} (hK : va_K (dC, dI) vwCl tys s) (h : ixA dC dI a n H) : gRec "java/lang/Integer" a s H := by
  obtain ⟨cell, h1, h2, h3, h4, h5⟩ := h
  exact ⟨cell, h1, h3, by rw [h2]; exact (hK.1 2 _ rfl).2.1⟩
/-- the cached Integers 0 to 4 -/
def iP (dC : Nat → ClassId) (dI : Nat → Nat → Nat) (iA : Nat → Nat) (bs : Nat) (H : Heap) : Prop := ∀ n, n ≤ 4 → iA n < bs ∧ ixA dC dI (iA n) n H
def lP (dC : Nat → ClassId) (dI : Nat → Nat → Nat) (cg : Nat → ClassId) (kA : String → Nat → Nat) (la iA : Nat → Nat) (C : LC) (bs : Nat) : XL → State → Heap → Prop := fun X U H =>
  (∀ p, lEx C p → va_at (dC, dI) vwCl (la p, lRow cg la iA C p X) H) ∧ va_K (dC, dI) vwCl (cTy cg) U ∧ (∀ p q, lEx C p → lEx C q → la p = la q → p = q) ∧ kE kTab kA (nΩ bs) U H ∧ (∀ p, lEx C p → bs ≤ la p) ∧ iP dC dI iA bs H
theorem lR_0 {cg : Nat → ClassId} {la iA : Nat → Nat} {C : LC} {X : XL} : lRow cg la iA C 0 X = .inr (17, lF0 la X) := rfl
theorem lR_l {cg : Nat → ClassId} {la iA : Nat → Nat} {C : LC} {X : XL} {b : Nat} (h : 1 ≤ b ∧ b ≤ 4) : lRow cg la iA C b X = .inr (4, lFl la C b) := by
  unfold lRow
  rw [if_neg (by omega), if_pos (by omega)]
theorem lR_a {cg : Nat → ClassId} {la iA : Nat → Nat} {C : LC} {X : XL} {b : Nat} (h : 1 ≤ b ∧ b ≤ 4) : lRow cg la iA C (b + 4) X = .inl (cg 6, 10, .inr (.inr (.inr (.inr (lFa la iA C b))))) := by
  unfold lRow
  rw [if_neg (by omega), if_neg (by omega), if_pos (by omega), Nat.add_sub_cancel]
theorem lR_c {cg : Nat → ClassId} {la iA : Nat → Nat} {C : LC} {X : XL} {c : Nat} (h : c < 4) : lRow cg la iA C (9 + c) X = .inr (16, lFc c X) := by
  unfold lRow
  rw [if_neg (by omega), if_neg (by omega), if_neg (by omega), if_pos (by omega), Nat.add_sub_cancel_left]
theorem lR_s {cg : Nat → ClassId} {la iA : Nat → Nat} {C : LC} {X : XL} {k : Nat} : lRow cg la iA C (13 + k) X = .inr (18, lFs k X) := by
  unfold lRow
  rw [if_neg (by omega), if_neg (by omega), if_neg (by omega), if_neg (by omega), Nat.add_sub_cancel_left]
theorem lEx_l {C : LC} {b : Nat} (h : b ≤ 8) : lEx C b := Or.inl (by omega)
theorem lEx_c {C : LC} {c : Nat} (hC : lC C) (h : c < C.1.1) : lEx C (9 + c) := Or.inr (Or.inl ⟨by omega, by omega, by have := hC.1.2; omega⟩)
theorem lEx_s {C : LC} {k : Nat} (h : k < C.1.2.1) : lEx C (13 + k) := Or.inr (Or.inr ⟨by omega, by omega⟩)
theorem lC_c {C : LC} {c : Nat} (hC : lC C) (h : c < C.1.1) : c < 4 := Nat.lt_of_lt_of_le h hC.1.2
theorem lC_s {C : LC} {k : Nat} (hC : lC C) (h : k < C.1.2.1) : k < 4 := Nat.lt_of_lt_of_le h hC.2.1.2
theorem lu0 {w : Wd} {q : Nat} {v : Int32} {h : Nat → Int32} (hq : q < 16) {cg : Nat → ClassId} {la iA : Nat → Nat} {C : LC} {p : Nat} (hp : p ≠ 0) : lRow cg la iA C p (upd w q v, h) = lRow cg la iA C p (w, h) := by
  unfold lRow
  rw [if_neg hp, if_neg hp]
  repeat' split
  all_goals first | rfl | (simp only [lFc, lFs]; rw [pk_un (by omega), pk_un (by omega), pk_un (by omega), pk_un (by omega)])
theorem luc {w : Wd} {c f : Nat} {v : Int32} {h : Nat → Int32} (hc : c < 4) (hf : f < 12) {cg : Nat → ClassId} {la iA : Nat → Nat} {C : LC} {p : Nat} (hp : p ≠ 9 + c) : lRow cg la iA C p (upd w (65 + 12 * c + f) v, h) = lRow cg la iA C p (w, h) := by
  unfold lRow
  repeat' split
  · simp only [lF0]; rw [pk_un (by omega), pk_un (by omega), pk_un (by omega), pk_un (by omega), pk_un (by omega), pk_un (by omega), pk_un (by omega), pk_un (by omega), pk_un (by omega), pk_un (by omega), pk_un (by omega)]
  · rfl
  · rfl
  · simp only [lFc]; rw [pk_un (by omega), pk_un (by omega), pk_un (by omega), pk_un (by omega)]
  · simp only [lFs]; rw [pk_un (by omega), pk_un (by omega), pk_un (by omega), pk_un (by omega)]
theorem lus {w : Wd} {k f : Nat} {v : Int32} {h : Nat → Int32} (hf : f < 12) {cg : Nat → ClassId} {la iA : Nat → Nat} {C : LC} {p : Nat} (hp : p ≠ 13 + k) : lRow cg la iA C p (upd w (161 + 12 * k + f) v, h) = lRow cg la iA C p (w, h) := by
  unfold lRow
  repeat' split
  · simp only [lF0]; rw [pk_un (by omega), pk_un (by omega), pk_un (by omega), pk_un (by omega), pk_un (by omega), pk_un (by omega), pk_un (by omega), pk_un (by omega), pk_un (by omega), pk_un (by omega), pk_un (by omega)]
  · rfl
  · rfl
  · simp only [lFc]; rw [pk_un (by omega), pk_un (by omega), pk_un (by omega), pk_un (by omega)]
  · simp only [lFs]; rw [pk_un (by omega), pk_un (by omega), pk_un (by omega), pk_un (by omega)]
theorem luh {w : Wd} {c : Nat} {v : Int32} {h : Nat → Int32} (hc : c < 4) {cg : Nat → ClassId} {la iA : Nat → Nat} {C : LC} {p : Nat} (hp : p ≠ 9 + c) : lRow cg la iA C p (w, upd h c v) = lRow cg la iA C p (w, h) := by
  unfold lRow
  repeat' split
  · rfl
  · rfl
  · rfl
  · simp only [lFc]; rw [pk_un (by omega), pk_un (by omega)]
  · rfl
section LROWS
variable {p : Program} {l : Launch} {e : Env} {R : Room} {s : State} {m : MethodId} {args : Array Value} {below : List Frame} {meth : Method} {c : Code} {H : Heap} {locs : List Loc} {cells slots : Nat} {Q : State → Prop}
variable {cc : ByteArray} {pc nL : Nat} {ls : Array Slot} {rest : List Value} {dC : Nat → ClassId} {dI : Nat → Nat → Nat} {cg : Nat → ClassId} {kA : String → Nat → Nat} {la iA : Nat → Nat} {C : LC} {bs : Nat} {own : String} {F : State → Heap → Prop} {M M1 : XL}
theorem lOK0 : gOK (lP dC dI cg kA la iA C bs) (kR kTab kA) := ⟨fun S u U H hvm h => ⟨h.1, va_K.moved hvm h.2.1, h.2.2.1, h.2.2.2.1.moved hvm, h.2.2.2.2⟩, kR_ok⟩
theorem lOK (hF : gFs (lΩ la C) F) : gOK (gF (lP dC dI cg kA la iA C bs) F) (kR kTab kA) := gF_ok lOK0 hF
theorem iP.kept {H1 : Heap} (h : iP dC dI iA bs H) (oq : ∀ q : Nat, q < bs → H1[q]? = H[q]?) : iP dC dI iA bs H1 := fun n hn => ⟨(h n hn).1, (h n hn).2.kept (oq _ (h n hn).1)⟩
/-- a cell of the world written -/
theorem lP_up {q : Nat} {H1 : Heap} (hF : gFs (lΩ la C) F) (h : gF (lP dC dI cg kA la iA C bs) F M s H) (hq : lEx C q) (h1 : va_at (dC, dI) vwCl (la q, lRow cg la iA C q M1) H1) (hr : ∀ p, p ≠ q → lRow cg la iA C p M1 = lRow cg la iA C p M) (hz : H1.size = H.size) (oq : ∀ x : Nat, x ≠ la q → H1[x]? = H[x]?) : gF (lP dC dI cg kA la iA C bs) F M1 s H1 := by
  obtain ⟨⟨a1, a2, a3, a4, a5, a6⟩, f⟩ := h
  have hb := a5 q hq
  refine ⟨⟨fun p hp => ?_, a2, a3, a4.kept (fun a _ z => oq a (fun w => z (by show bs ≤ a; omega))), a5, a6.kept (fun x hx => oq x (by omega))⟩, hF.2 s H H1 (by omega) (fun a _ z => oq a (fun w => z ⟨q, hq, w⟩)) f⟩
  by_cases hpq : p = q
  · subst hpq
    exact h1
  · rw [hr p hpq]
    exact (a1 p hp).kept (oq _ (fun w => hpq (a3 p q hp hq w)))
/-- a write into an object of a nest mate -/
theorem va_putNO {D : va_G} {cl : List vw_C} {a : Nat} {tys : List (ClassId × FieldType)} (hexec : p.tables.exec = Jvm.exec) (hb : c.code = cc) {own ref C host : String} {T : u_T} {N ci index : Nat} {Ts : List Cond} (hts : ∀ w ∈ Ts, w.before args s = true) (hin : ∀ w ∈ u_ws C T N, w ∈ Ts) (ty0 : Nat → FieldType) (hty : ∀ k, k < N → parseFieldDescriptor (T k).2.2.1 = some (ty0 k)) (hnm : ∀ a, a < N → ∀ b, b < N → a ≠ b → (T a).2.1 ≠ (T b).2.1) (hown : s.vm.findClass own = some m.cls) (hK : va_K D cl tys s) {fs : List Value} (he : va_at D cl (a, .inr (ci, fs)) H) (hc : cl[ci]? = some (C, T, N)) (k : Nat) (hk : k < N) (hlink : (Cond.fieldLinkNest own index ref (T k).2.1 (T k).2.2.1 host).before args s = true) (hsame : ∀ x, s.fieldFound? (T k).1 (T k).2.1 (T k).2.2.1 = some x → s.fieldFound? ref (T k).2.1 (T k).2.2.1 = some x) (hfin : (T k).2.2.2 = false) {ty : FieldType} {v : Value} (hd : parseFieldDescriptor (T k).2.2.1 = some ty) (hn : narrow ty v = v) (hfit : fits ty v = true) (hl : k < fs.length)
    (hdg : decode cc pc = .ok (.putfield index, 3)) (kk : ∀ (H1 : Heap) (j : Nat), va_at D cl (a, .inr (ci, fs.set k v)) H1 → H1.size = H.size → (∀ q : Nat, q ≠ a → H1[q]? = H[q]?) → W p l e R s m args below meth c H1 (locs ++ [⟨a, j⟩]) cells slots Q (F0 m (pc + 3) ls rest)) : W p l e R s m args below meth c H locs cells slots Q (F0 m pc ls (v :: .ref a :: rest)) := by
  obtain ⟨cf, kf, kC, fi, f, x, ⟨i1, i2, i3, i4⟩, ⟨h1, h2, h3⟩, fin⟩ := ob_at hts hin ty0 hty hnm hK he hc hk hl
  have lay : (Cond.lays C (T k).1 (T k).2.1 (T k).2.2.1).before args s = true := by
    have w := hts _ (hin _ (u_in_lay hk))
    rwa [u_lay, hfin, if_neg Bool.false_ne_true] at w
  exact va_WputK hexec hb (f := f) hown hlink (hsame _ i1) (u_facts i2 i3 (Or.inl lay) i1).1 (u_store i2 i3 i4 lay i1 hd hn hfit) h1 h2 h3 rfl rfl hdg fun H' a1 a2 a3 => kk H' _ (fin v H' a1) a2 a3
/-- getfield, putfield at a place of the world; of the own class and of a nest mate -/
theorem lr_get {q N ci k index : Nat} {Cn : String} {T : u_T} {fs : List Value} {v : Value} (X : gX p s m args c cc nL own (kR kTab kA)) (hP : gF (lP dC dI cg kA la iA C bs) F M s H) (hq : lEx C q) (hr : lRow cg la iA C q M = .inr (ci, fs)) (hc : vwCl[ci]? = some (Cn, T, N)) (hin : ∀ w ∈ u_ws Cn T N, w ∈ TBG) (hk : k < N) (hv : fs[k]? = some v) (ho : (T k).1 = Cn) (hlink : Cond.fieldLink own index Cn (T k).2.1 (T k).2.2.1 ∈ TBG) (hdg : decode cc pc = .ok (.getfield index, 3))
    (kk : W p l e R s m args below meth c H locs cells slots Q (F0 m (pc + 3) ls (v :: rest))) : W p l e R s m args below meth c H locs cells slots Q (F0 m pc ls (.ref (la q) :: rest)) := by
  have h0 := hP.1.1 q hq
  rw [hr] at h0
  exact va_get X.hx X.hb X.hts hin X.hown hP.1.2.1 (cwo h0) 0 rfl hc k hk (X.hts _ hlink) (fun x h => by rw [ho] at h; exact h) hv hdg kk
theorem lr_getN {q N ci k index : Nat} {Cn host : String} {T : u_T} {fs : List Value} {v : Value} (X : gX p s m args c cc nL own (kR kTab kA)) (hP : gF (lP dC dI cg kA la iA C bs) F M s H) (hq : lEx C q) (hr : lRow cg la iA C q M = .inr (ci, fs)) (hc : vwCl[ci]? = some (Cn, T, N)) (hin : ∀ w ∈ u_ws Cn T N, w ∈ TBG) (hk : k < N) (hv : fs[k]? = some v) (ho : (T k).1 = Cn) (hlink : Cond.fieldLinkNest own index Cn (T k).2.1 (T k).2.2.1 host ∈ xws) (hdg : decode cc pc = .ok (.getfield index, 3))
    (kk : W p l e R s m args below meth c H locs cells slots Q (F0 m (pc + 3) ls (v :: rest))) : W p l e R s m args below meth c H locs cells slots Q (F0 m pc ls (.ref (la q) :: rest)) := by
  have h0 := hP.1.1 q hq
  rw [hr] at h0
  exact va_getN X.hx X.hb X.hts hin X.hown hP.1.2.1 (cwo h0) 0 rfl hc k hk (xw_use rfl (X.ks.2.1 _ hlink)) (fun x h => by rw [ho] at h; exact h) hv hdg kk
theorem lr_put {q N ci k index : Nat} {Cn : String} {T : u_T} {tyT : Nat → FieldType} {fs : List Value} {v : Value} (M1 : XL) (X : gX p s m args c cc nL own (kR kTab kA)) (hF : gFs (lΩ la C) F) (hP : gF (lP dC dI cg kA la iA C bs) F M s H) (hS : va_S (Fr (lΩ la C) s.heap.size) s.heap H locs) (hq : lEx C q) (hr : lRow cg la iA C q M = .inr (ci, fs)) (hr1 : lRow cg la iA C q M1 = .inr (ci, fs.set k v)) (hro : ∀ p, p ≠ q → lRow cg la iA C p M1 = lRow cg la iA C p M) (hc : vwCl[ci]? = some (Cn, T, N)) (hin : ∀ w ∈ u_ws Cn T N, w ∈ TBG) (hty : ∀ k, k < N → parseFieldDescriptor (T k).2.2.1 = some (tyT k)) (hnm : ∀ a, a < N → ∀ b, b < N → a ≠ b → (T a).2.1 ≠ (T b).2.1) (hk : k < N) (ho : (T k).1 = Cn) (hfin : (T k).2.2.2 = false) (hn : narrow (tyT k) v = v) (hfit : fits (tyT k) v = true) (hl : k < fs.length) (hlink : Cond.fieldLink own index Cn (T k).2.1 (T k).2.2.1 ∈ TBG) (hdg : decode cc pc = .ok (.putfield index, 3))
    (kk : ∀ (H1 : Heap) (locs1 : List Loc), gF (lP dC dI cg kA la iA C bs) F M1 s H1 → va_S (Fr (lΩ la C) s.heap.size) s.heap H1 locs1 → W p l e R s m args below meth c H1 locs1 cells slots Q (F0 m (pc + 3) ls rest)) : W p l e R s m args below meth c H locs cells slots Q (F0 m pc ls (v :: .ref (la q) :: rest)) := by
  have h0 := hP.1.1 q hq
  rw [hr] at h0
  refine va_putO X.hx X.hb X.hts hin tyT hty hnm X.hown hP.1.2.1 h0 hc k hk (X.hts _ hlink) (fun x h => by rw [ho] at h; exact h) hfin (hty k hk) hn hfit hl hdg (fun H1 j h4 hz oq => ?_)
  rw [← hr1] at h4
  exact kk H1 _ (lP_up hF hP hq h4 hro hz oq) (hS.put hz oq (Or.inl ⟨q, hq, rfl⟩))
theorem lr_putN {q N ci k index : Nat} {Cn host : String} {T : u_T} {tyT : Nat → FieldType} {fs : List Value} {v : Value} (M1 : XL) (X : gX p s m args c cc nL own (kR kTab kA)) (hF : gFs (lΩ la C) F) (hP : gF (lP dC dI cg kA la iA C bs) F M s H) (hS : va_S (Fr (lΩ la C) s.heap.size) s.heap H locs) (hq : lEx C q) (hr : lRow cg la iA C q M = .inr (ci, fs)) (hr1 : lRow cg la iA C q M1 = .inr (ci, fs.set k v)) (hro : ∀ p, p ≠ q → lRow cg la iA C p M1 = lRow cg la iA C p M) (hc : vwCl[ci]? = some (Cn, T, N)) (hin : ∀ w ∈ u_ws Cn T N, w ∈ TBG) (hty : ∀ k, k < N → parseFieldDescriptor (T k).2.2.1 = some (tyT k)) (hnm : ∀ a, a < N → ∀ b, b < N → a ≠ b → (T a).2.1 ≠ (T b).2.1) (hk : k < N) (ho : (T k).1 = Cn) (hfin : (T k).2.2.2 = false) (hn : narrow (tyT k) v = v) (hfit : fits (tyT k) v = true) (hl : k < fs.length) (hlink : Cond.fieldLinkNest own index Cn (T k).2.1 (T k).2.2.1 host ∈ xws) (hdg : decode cc pc = .ok (.putfield index, 3))
    (kk : ∀ (H1 : Heap) (locs1 : List Loc), gF (lP dC dI cg kA la iA C bs) F M1 s H1 → va_S (Fr (lΩ la C) s.heap.size) s.heap H1 locs1 → W p l e R s m args below meth c H1 locs1 cells slots Q (F0 m (pc + 3) ls rest)) : W p l e R s m args below meth c H locs cells slots Q (F0 m pc ls (v :: .ref (la q) :: rest)) := by
  have h0 := hP.1.1 q hq
  rw [hr] at h0
  refine va_putNO X.hx X.hb X.hts hin tyT hty hnm X.hown hP.1.2.1 h0 hc k hk (xw_use rfl (X.ks.2.1 _ hlink)) (fun x h => by rw [ho] at h; exact h) hfin (hty k hk) hn hfit hl hdg (fun H1 j h4 hz oq => ?_)
  rw [← hr1] at h4
  exact kk H1 _ (lP_up hF hP hq h4 hro hz oq) (hS.put hz oq (Or.inl ⟨q, hq, rfl⟩))
theorem lr_rec {q N ci : Nat} {Cn : String} {T : u_T} {fs : List Value} (hP : gF (lP dC dI cg kA la iA C bs) F M s H) (hq : lEx C q) (hr : lRow cg la iA C q M = .inr (ci, fs)) (hc : vwCl[ci]? = some (Cn, T, N)) : gRec Cn (la q) s H := by
  have h0 := hP.1.1 q hq
  rw [hr] at h0
  exact va_recv hP.1.2.1 (cwo h0) (q0 := 0) hc rfl
theorem sw_ref {v : Int32} (h : ¬ v = -1) : va_rf (swA la v) = .ref (la (9 + v.toNatClampNeg)) := by unfold swA; rw [if_neg h]; rfl
theorem sw_null {v : Int32} (h : v = -1) : va_rf (swA la v) = .null := by unfold swA; rw [if_pos h]; rfl
theorem z_ref {z : Nat} (h : ¬ z = 0) : va_rf (zA la z) = .ref (la (13 + (z - 1))) := by
  cases z with
  | zero => exact absurd rfl h
  | succ k => rfl
theorem z_null {z : Nat} (h : z = 0) : va_rf (zA la z) = .null := by subst h; rfl
theorem sw_acmp {c : Nat} (hi : ∀ p q, lEx C p → lEx C q → la p = la q → p = q) {v : Int32} (hc : lEx C (9 + c)) (hv : ¬ v = -1) (hv2 : lEx C (9 + v.toNatClampNeg)) : some (la (9 + c)) = swA la v ↔ c = v.toNatClampNeg := by
  unfold swA
  rw [if_neg hv]
  exact ⟨fun h => by have := hi _ _ hc hv2 (Option.some.inj h); omega, fun h => by rw [h]⟩
end LROWS
theorem xt {w : Cond} (i : Nat) (h : tables_1[i]? = some w) (g : xKind w = true) : w ∈ xws := List.mem_filter.mpr ⟨List.mem_append_right _ (List.mem_of_getElem? h), g⟩
theorem nI_tc {x : Int32} (h : ¬ x < 0) : x = nI x.toNatClampNeg := by
  obtain ⟨j, hj, e⟩ := nI_of h
  rw [e, nI_clamp hj]
