/-! the class's world, kept while what lies behind it changes (as in whole's 9w) -/
theorem str_lt {a : Nat} {bs : List Int32} {Ω : Nat → Prop} {U : State} {H : Heap} {k : Nat} (hk : H.size ≤ k) (h : strAt a bs Ω U H) : strAt a bs (fun q => Ω q ∨ k ≤ q) U H := by
  obtain ⟨ha, hn, v, ⟨c1, q1, q2, q3, q4⟩, ⟨x1, x2, x3, x4, x5, x6, x7, x8, x9, x10, x11⟩, ⟨y1, y2, y3, y4, y5, y6, y7, y8, y9, y10, y11⟩, ⟨z1, z2, z3, z4, z5, z6, z7, z8⟩⟩ := h
  have la : a < H.size := (Array.getElem?_eq_some_iff.mp q1).1
  have lv : v < H.size := (Array.getElem?_eq_some_iff.mp z2).1
  have na : ¬ (a = a ∧ (Ω a ∨ k ≤ a)) := fun z => z.2.elim q4 (fun z => by omega)
  have nv : ¬ (v = v ∧ (Ω v ∨ k ≤ v)) := fun z => z.2.elim z8 (fun z => Nat.lt_irrefl v (Nat.lt_of_lt_of_le lv (Nat.le_trans hk z)))
  exact ⟨ha, hn, v, ⟨c1, q1, q2, q3, fun z => na ⟨rfl, z⟩⟩, ⟨x1, x2, x3, x4, x5, x6, x7, x8, x9, x10, fun z => na ⟨rfl, z⟩⟩, ⟨y1, y2, y3, y4, y5, y6, y7, y8, y9, y10, fun z => na ⟨rfl, z⟩⟩, ⟨z1, z2, z3, z4, z5, z6, z7, fun z => nv ⟨rfl, z⟩⟩⟩
/-- the class's world, said so that what lies from place k on may change -/
def cB (dC : Nat → ClassId) (dI : Nat → Nat → Nat) (cg : Nat → ClassId) (kA : String → Nat → Nat) (b1 k : Nat) (S : CS) : State → Heap → Prop := fun U H => k ≤ H.size ∧ b1 + 433 ≤ k ∧ (∃ nA, cN dC dI cg kA (caOf b1) nA S U H ∧ ∀ p, strAt (nA p) (S.2 p) (fun q => cΩ (caOf b1) q ∨ k ≤ q) U H) ∧ kE kTab kA (fun q => b1 ≤ q) U H
section BEGIN
variable {p : Program} {l : Launch} {e : Env} {R : Room} {s : State} {m : MethodId} {args : Array Value} {below : List Frame} {meth : Method} {c : Code} {H : Heap} {locs : List Loc} {cells slots : Nat} {Q : State → Prop}
variable {cc : ByteArray} {pc nL : Nat} {ls : Array Slot} {rest : List Value} {dC : Nat → ClassId} {dI : Nat → Nat → Nat} {cg : Nat → ClassId} {kA : String → Nat → Nat} {bs b1 k : Nat} {own : String} {w : Nat → va_E} {n : Nat} {A0 : Nat → Prop} {S : CS} {M : MS}
theorem cB_fs : gFs (nΩ k) (cB dC dI cg kA b1 k S) := ⟨fun u U H hvm h => by
  obtain ⟨h0, hk, ⟨nA, ⟨a1, a2, a3, a4, a5⟩, a6⟩, h2⟩ := h
  exact ⟨h0, hk, ⟨nA, ⟨a1, va_K.moved hvm a2, a3, a4.moved hvm, fun p => (a5 p).moved hvm⟩, fun p => (a6 p).moved hvm⟩, h2.moved hvm⟩, fun U H H1 hz hq h => by
  obtain ⟨h0, hk, ⟨nA, ⟨a1, a2, a3, a4, a5⟩, a6⟩, h2⟩ := h
  have hs : ∀ p, strAt (nA p) (S.2 p) (fun q => cΩ (caOf b1) q ∨ k ≤ q) U H1 := fun p => (a6 p).kept (fun a ha na => hq a ha (fun z => na (Or.inr z)))
  have h3 : kE kTab kA (fun q => b1 ≤ q) U H1 := h2.kept (fun a ha na => hq a ha (fun z => na (by have z : k ≤ a := z; show b1 ≤ a; omega)))
  refine ⟨Nat.le_trans h0 hz, hk, ⟨nA, ⟨fun p hp => (a1 p hp).kept (hq _ ((a1 p hp).lt) (fun z => ?_)), a2, a3, h3.narrow (fun q z => (cΩ_in z).1), fun p => (hs p).narrow (fun q z => Or.inl z)⟩, hs⟩, h3⟩
  have z : k ≤ caOf b1 p := z
  have := cΩ_in (b := b1) ⟨p, hp, rfl⟩
  omega⟩
theorem cB_of (hz : H.size = k) (hP : cP dC dI cg kA (caOf b1) S s H) (hE : kE kTab kA (fun q => b1 ≤ q) s H) : cB dC dI cg kA b1 k S s H := by
  obtain ⟨nA, hN⟩ := hP
  have h := (hN.1 432 (by omega)).lt
  have h : caOf b1 432 < H.size := h
  have h : b1 + 432 < H.size := h
  exact ⟨by omega, by omega, ⟨nA, hN, fun p => str_lt (by omega) (hN.2.2.2.2 p)⟩, hE⟩
theorem cB_to (h : cB dC dI cg kA b1 k S s H) : cP dC dI cg kA (caOf b1) S s H := by
  obtain ⟨-, -, ⟨nA, hN, -⟩, -⟩ := h
  exact ⟨nA, hN⟩
theorem nw_newF {N ci index : Nat} {C : String} {T : u_T} {tyT : Nat → FieldType} (fs : List Value) (X : gX p s m args c cc nL own (kR kTab kA)) (hP : nP dC dI cg kA bs (n, w) s H) (hS : va_S A0 s.heap H locs) (hin : ∀ w ∈ u_ws C T N, w ∈ TBG) (hty : ∀ k, k < N → parseFieldDescriptor (T k).2.2.1 = some (tyT k)) (hcl : Cond.classLink own index C ∈ TBG) (hinst : Cond.instantiable C N ∈ TBG) (hini : Cond.initialized C ∈ TBG) (hc : vwCl[ci]? = some (C, T, N)) (hfs : ∀ j, j < N → defaultValue (tyT j) = vp_V fs j) (hcells : cells + 1 ≤ R.cells ∧ slots + N ≤ R.slots) (hdg : decode cc pc = .ok (.new index, 3))
    (kk : ∀ (H1 : Heap), nP dC dI cg kA bs (n + 1, va_up w n (.inr (ci, fs))) s H1 → va_S A0 s.heap H1 locs → (H.size ≤ H1.size ∧ ∀ q : Nat, q < H.size → H1[q]? = H[q]?) → W p l e R s m args below meth c H1 locs (cells + 1) (slots + N) Q (F0 m (pc + 3) ls (.ref (bs + n) :: rest))) : W p l e R s m args below meth c H locs cells slots Q (F0 m pc ls rest) := by
  have hKn := hP.2.2.1.1 ci _ hc
  have hz : H.size = bs + n := hP.1
  refine W.newcK X.hx X.hb X.hown (X.hts _ hcl) (X.hts _ hinst) (X.hts _ hini) rfl hdg hcells.1 hcells.2 hKn.2.1 hz fun H1 kC hkC e1 z1 o1 => ?_
  exact kk H1 (hP.add ⟨_, hc, (u_born tyT X.hts hin hKn hkC e1 hty).to hfs⟩ z1 o1) (nS_add hz hS z1 o1) ⟨by omega, fun q hq => o1 q (by omega)⟩
end BEGIN
