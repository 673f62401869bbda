
/-! more rows over growing worlds: fields that a superclass declares, byte arrays, copies, fields of nest mates -/
section NROW
variable {p : Program} {l : Launch} {e : Env} {R : Room} {s : State} {m : MethodId} {args : Array Value} {below : List Frame} {meth : Method} {c : Code} {H : Heap} {locs : List Loc} {cells slots : Nat} {Q : State → Prop}
variable {cc : ByteArray} {pc nL : Nat} {ls : Array Slot} {rest : List Value} {dC : Nat → ClassId} {dI : Nat → Nat → Nat} {cg : Nat → ClassId} {kA : String → Nat → Nat} {bs n : Nat} {own : String} {w : Nat → va_E} {A0 : Nat → Prop}
theorem nP.row {i : Nat} {r : va_E} (hP : nP dC dI cg kA bs (n, w) s H) (he : i < n ∧ w i = r) : va_at (dC, dI) vwCl (bs + i, r) H := by
  have h0 : va_at (dC, dI) vwCl (bs + i, w i) H := hP.2.1 i he.1
  rw [he.2] at h0
  exact h0
theorem nw_getI {N ci index i k : Nat} {C : String} {T : u_T} {fs : List Value} {v : Value} (X : gX p s m args c cc nL own (kR kTab kA)) (hP : nP dC dI cg kA bs (n, w) s H) (he : i < n ∧ w i = .inr (ci, fs)) (hv : fs[k]? = some v) (hc : vwCl[ci]? = some (C, T, N)) (hin : ∀ w ∈ u_ws C T N, w ∈ TBG) (hk : k < N) (hlink : Cond.fieldLink own index (T k).1 (T k).2.1 (T k).2.2.1 ∈ TBG) (hdg : decode cc pc = .ok (.getfield index, 3))
    (kk : W p l e R s m args below meth c H locs cells slots Q (F0 m (pc + 3) ls (v :: rest))) : W p l e R s m args below meth c H locs cells slots Q (F0 m pc ls (.ref (bs + i) :: rest)) :=
  va_get X.hx X.hb X.hts hin X.hown hP.2.2.1 (cwo (hP.row he)) 0 rfl hc k hk (X.hts _ hlink) (fun x h => h) hv hdg kk
theorem nw_putJ {N ci index i k : Nat} {C : String} {T : u_T} {tyT : Nat → FieldType} {fs : List Value} {v : Value} (X : gX p s m args c cc nL own (kR kTab kA)) (hP : nP dC dI cg kA bs (n, w) s H) (hS : va_S A0 s.heap H locs) (hA : A0 (bs + i)) (he : i < n ∧ w i = .inr (ci, fs)) (hc : vwCl[ci]? = some (C, T, N)) (hin : ∀ w ∈ u_ws C T N, w ∈ TBG) (hty : ∀ k, k < N → parseFieldDescriptor (T k).2.2.1 = some (tyT k)) (hnm : ∀ a, a < N → ∀ b, b < N → a ≠ b → (T a).2.1 ≠ (T b).2.1) (hk : k < N) (hfin : (T k).2.2.2 = false) (hn : narrow (tyT k) v = v) (hfit : fits (tyT k) v = true) (hl : k < fs.length) (hlink : Cond.fieldLink own index (T k).1 (T k).2.1 (T k).2.2.1 ∈ TBG) (hdg : decode cc pc = .ok (.putfield index, 3))
    (kk : ∀ (H1 : Heap) (locs1 : List Loc), nP dC dI cg kA bs (n, va_up w i (.inr (ci, fs.set k v))) s H1 → va_S A0 s.heap H1 locs1 → W p l e R s m args below meth c H1 locs1 cells slots Q (F0 m (pc + 3) ls rest)) : W p l e R s m args below meth c H locs cells slots Q (F0 m pc ls (v :: .ref (bs + i) :: rest)) := by
  refine va_putO X.hx X.hb X.hts hin tyT hty hnm X.hown hP.2.2.1 (hP.row he) hc k hk (X.hts _ hlink) (fun x h => h) hfin (hty k hk) hn hfit hl hdg (fun H1 j h4 hz oq => ?_)
  exact kk H1 _ (hP.up h4 hz oq) (hS.put hz oq hA)
theorem nw_getN {N ci index i k : Nat} {C host : String} {T : u_T} {fs : List Value} {v : Value} (X : gX p s m args c cc nL own (kR kTab kA)) (hP : nP dC dI cg kA bs (n, w) s H) (he : i < n ∧ w i = .inr (ci, fs)) (hv : fs[k]? = some v) (hc : vwCl[ci]? = some (C, T, N)) (hin : ∀ w ∈ u_ws C T N, w ∈ TBG) (hk : k < N) (ho : (T k).1 = C) (hlink : Cond.fieldLinkNest own index C (T k).2.1 (T k).2.2.1 host ∈ xws) (hdg : decode cc pc = .ok (.getfield index, 3))
    (kk : W p l e R s m args below meth c H locs cells slots Q (F0 m (pc + 3) ls (v :: rest))) : W p l e R s m args below meth c H locs cells slots Q (F0 m pc ls (.ref (bs + i) :: rest)) :=
  va_getN X.hx X.hb X.hts hin X.hown hP.2.2.1 (cwo (hP.row he)) 0 rfl hc k hk (xw_use rfl (X.ks.2.1 _ hlink)) (fun x h => by rw [ho] at h; exact h) hv hdg kk
theorem nw_putN {N ci index i k : Nat} {C host : String} {T : u_T} {tyT : Nat → FieldType} {fs : List Value} {v : Value} (X : gX p s m args c cc nL own (kR kTab kA)) (hP : nP dC dI cg kA bs (n, w) s H) (hS : va_S A0 s.heap H locs) (hA : A0 (bs + i)) (he : i < n ∧ w i = .inr (ci, fs)) (hc : vwCl[ci]? = some (C, T, N)) (hin : ∀ w ∈ u_ws C T N, w ∈ TBG) (hty : ∀ k, k < N → parseFieldDescriptor (T k).2.2.1 = some (tyT k)) (hnm : ∀ a, a < N → ∀ b, b < N → a ≠ b → (T a).2.1 ≠ (T b).2.1) (hk : k < N) (ho : (T k).1 = C) (hfin : (T k).2.2.2 = false) (hn : narrow (tyT k) v = v) (hfit : fits (tyT k) v = true) (hl : k < fs.length) (hlink : Cond.fieldLinkNest own index C (T k).2.1 (T k).2.2.1 host ∈ xws) (hdg : decode cc pc = .ok (.putfield index, 3))
    (kk : ∀ (H1 : Heap) (locs1 : List Loc), nP dC dI cg kA bs (n, va_up w i (.inr (ci, fs.set k v))) s H1 → va_S A0 s.heap H1 locs1 → W p l e R s m args below meth c H1 locs1 cells slots Q (F0 m (pc + 3) ls rest)) : W p l e R s m args below meth c H locs cells slots Q (F0 m pc ls (v :: .ref (bs + i) :: rest)) := by
  refine va_putNO X.hx X.hb X.hts hin tyT hty hnm X.hown hP.2.2.1 (hP.row he) hc k hk (xw_use rfl (X.ks.2.1 _ hlink)) (fun x h => by rw [ho] at h; exact h) hfin (hty k hk) hn hfit hl hdg (fun H1 j h4 hz oq => ?_)
  exact kk H1 _ (hP.up h4 hz oq) (hS.put hz oq hA)
theorem nw_bast {i N : Nat} {f : Nat → Int32} {j x : Int32} (X : gX p s m args c cc nL own (kR kTab kA)) (hP : nP dC dI cg kA bs (n, w) s H) (hS : va_S A0 s.heap H locs) (hA : A0 (bs + i)) (he : i < n ∧ w i = .inl (cg 1, N, .inl f)) (hi : gIn j N) (hdg : decode cc pc = .ok (.bastore, 1))
    (kk : ∀ (H1 : Heap) (locs1 : List Loc), nP dC dI cg kA bs (n, va_up w i (.inl (cg 1, N, .inl (upd f j.toNatClampNeg (vp_nar .byte x))))) s H1 → va_S A0 s.heap H1 locs1 → W p l e R s m args below meth c H1 locs1 cells slots Q (F0 m (pc + 1) ls rest)) : W p l e R s m args below meth c H locs cells slots Q (F0 m pc ls (.int x :: .int j :: .ref (bs + i) :: rest)) := by
  refine cr_bastO X.hx X.hb hP.2.2.1 (hP.row he) 1 rfl hi hdg (fun H1 j h4 hz oq => ?_)
  exact kk H1 _ (hP.up h4 hz oq) (hS.put hz oq hA)
theorem nw_cpy {k0 k1 N0 N1 index : Nat} {f g : Nat → Int32} {k : Int32} (X : gX p s m args c cc nL own (kR kTab kA)) (hls : ls.size = nL) (hP : nP dC dI cg kA bs (n, w) s H) (hS : va_S A0 s.heap H locs) (hA : A0 (bs + k1)) (h0 : k0 < n ∧ w k0 = .inl (cg 1, N0, .inl f)) (h1 : k1 < n ∧ w k1 = .inl (cg 1, N1, .inl g)) (hlink : Cond.methodLink own index arraycopyName ∈ TBG) (hnat : Cond.native arraycopyName ∈ TBG) (hstat : Cond.static arraycopyName ∈ TBG) (hini : Cond.initialized "java/lang/System" ∈ TBG) (h4 : k.toNatClampNeg ≤ N0) (h5 : k.toNatClampNeg ≤ N1) (h3 : ¬ k < 0) (hfit : ∀ i : Nat, i < k.toNatClampNeg → fits .byte (.int (f i)) = true)
    (hframes : 1 ≤ R.frames) (hlocals : (rest.map fun v => v.category).sum + (nativeFrameWords "java/lang/System" "arraycopy" 5 + 11) ≤ R.locals) (hdg : decode cc pc = .ok (.invokestatic index, 3))
    (kk : ∀ (H1 : Heap) (locs1 : List Loc), nP dC dI cg kA bs (n, va_up w k1 (.inl (cg 1, N1, .inl (va_cpy f g 0 0 k.toNatClampNeg)))) s H1 → va_S A0 s.heap H1 locs1 → W p l e R s m args below meth c H1 locs1 cells slots Q (F0 m (pc + 3) ls rest)) : W p l e R s m args below meth c H locs cells slots Q (F0 m pc ls (.int k :: .int 0 :: .ref (bs + k1) :: .int 0 :: .ref (bs + k0) :: rest)) := by
  have e0 : H[bs + k0]? = some (vp_cell (cg 1) (N0, .inl f)) := hP.row h0
  have e1 : H[bs + k1]? = some (vp_cell (cg 1) (N1, .inl g)) := hP.row h1
  have t0 : ArrOfT s (cg 1) .byte := (hP.2.2.1.2 1 (cg 1, .byte) rfl).1
  refine cr_copyB X hls hlink hnat hstat hini t0 t0 e0 e1 h4 h5 h3 hfit hframes hlocals hdg (fun H1 L g1 g2 g3 g4 => ?_)
  refine kk H1 _ (hP.up (i := k1) (r := .inl (cg 1, N1, .inl (va_cpy f g 0 0 k.toNatClampNeg))) g1 g2 g3) ⟨by rw [g2]; exact hS.1, fun q q1 q2 => ?_, fun z hz => ?_⟩
  · rw [g3 q (fun w => q2 (by rw [w]; exact hA))]
    exact hS.2.1 q q1 q2
  · rcases List.mem_append.mp hz with h | h
    · exact hS.2.2 z h
    · rw [g4 z h]
      exact hA
/-- letters of a text copied into a byte array of the world, from place J on -/
theorem nw_cpyS {v k1 N0 N1 J K index : Nat} {f g : Nat → Int32} {Ω : Nat → Prop} (X : gX p s m args c cc nL own (kR kTab kA)) (hls : ls.size = nL) (hP : nP dC dI cg kA bs (n, w) s H) (hS : va_S A0 s.heap H locs) (hA : A0 (bs + k1)) (hT : va_T .byte v N0 (fun j => .int (f j)) Ω s H) (h1 : k1 < n ∧ w k1 = .inl (cg 1, N1, .inl g)) (hlink : Cond.methodLink own index arraycopyName ∈ TBG) (hnat : Cond.native arraycopyName ∈ TBG) (hstat : Cond.static arraycopyName ∈ TBG) (hini : Cond.initialized "java/lang/System" ∈ TBG) (hK : K ≤ N0) (hJ : J + K ≤ N1) (hN : N1 ≤ 1000) (hfit : ∀ i : Nat, i < K → fits .byte (.int (f i)) = true)
    (hframes : 1 ≤ R.frames) (hlocals : (rest.map fun v => v.category).sum + (nativeFrameWords "java/lang/System" "arraycopy" 5 + 11) ≤ R.locals) (hdg : decode cc pc = .ok (.invokestatic index, 3))
    (kk : ∀ (H1 : Heap) (locs1 : List Loc), nP dC dI cg kA bs (n, va_up w k1 (.inl (cg 1, N1, .inl (va_cpy f g 0 J K)))) s H1 → va_S A0 s.heap H1 locs1 → W p l e R s m args below meth c H1 locs1 cells slots Q (F0 m (pc + 3) ls rest)) : W p l e R s m args below meth c H locs cells slots Q (F0 m pc ls (.int (nI K) :: .int (nI J) :: .ref (bs + k1) :: .int 0 :: .ref v :: rest)) := by
  have nK : (nI K).toNatClampNeg = K := nI_c (by omega)
  have nJ : (nI J).toNatClampNeg = J := nI_c (by omega)
  have tK : (nI K).toInt = K := Int32.toInt_ofNat_of_lt (by omega)
  have tJ : (nI J).toInt = J := Int32.toInt_ofNat_of_lt (by omega)
  have dst : H[bs + k1]? = some (vp_cell (cg 1) (N1, .inl g)) := hP.row h1
  have tB : ArrOfT s (cg 1) .byte := (hP.2.2.1.2 1 (cg 1, .byte) rfl).1
  rcases hT with ⟨src, at_v, ⟨plain, kS, eS, cS, isS⟩, seen, long, -, told, -⟩
  rcases tB N1 (fun j => .int (g j)) with ⟨-, kD, eD, cD, isD⟩
  have made : copied src (vp_cell (cg 1) (N1, .inl g)) 0 (nI J) (nI K) = vp_cell (cg 1) (N1, .inl (va_cpy f g 0 J K)) := by
    have e := va_copiedX (n1 := N1) (sp := 0) (dp := J) (n := K) (fun z => Value.int z) src (cg 1) f g told (by omega)
    show (arrV (cg 1) N1 fun j => .int (g j)).storeRun (nI J).toNatClampNeg (src.stretch (0 : Int32).toNatClampNeg (nI K).toNatClampNeg) = _
    rw [nK, nJ, tn0]
    exact e
  intro U hU Y
  subst hU
  obtain ⟨vm, X2, go⟩ := Y.arraycopy X.hx X.hown (X.hts _ hlink) (X.hts _ hnat) (X.hts _ hstat) (X.hts _ hini) (srcPos := 0) (destPos := nI J) (n := nI K) at_v dst plain nofun seen nofun eS eD isS isD (by simp [refKind]) (by decide) (show ¬ nI J < (0 : Int32) from nI_nlt (b := 0) (Nat.zero_le _) (by omega)) (show ¬ nI K < (0 : Int32) from nI_nlt (b := 0) (Nat.zero_le _) (by omega)) (by rw [tK, Int32.toInt_zero]; omega)
    (by rw [tJ, tK]; show ¬ _ > ((arrV (cg 1) N1 fun j => .int (g j)).slots.size : Int); rw [arrV_size]; omega)
    (fun _ _ i hi => by
      have hi : i < K := by rwa [nK] at hi
      rw [show src.slots.getD ((0 : Int32).toNatClampNeg + i) .null = .int (f i) by rw [tn0, Nat.zero_add, Array.getD_eq_getD_getElem?, told i (by omega)]; rfl]
      exact ⟨hfit i hi, trivial⟩)
    (g := F0 m pc ls (.int (nI K) :: .int (nI J) :: .ref (bs + k1) :: .int 0 :: .ref v :: rest)) rfl (hls.trans X.hml.symm) (rest := rest) rfl (X.hb ▸ hdg) hframes (by show 2 * 0 + _ + _ ≤ _; rw [Nat.mul_zero, Nat.zero_add]; exact hlocals)
  rw [made] at X2 go
  have off : ∀ q : Nat, q ≠ bs + k1 → (U.heap.setIfInBounds (bs + k1) (vp_cell (cg 1) (N1, .inl (va_cpy f g 0 J K))))[q]? = U.heap[q]? := fun q hq => Array.getElem?_setIfInBounds_ne (Ne.symm hq)
  have on : va_at (dC, dI) vwCl (bs + k1, .inl (cg 1, N1, .inl (va_cpy f g 0 J K))) (U.heap.setIfInBounds (bs + k1) (vp_cell (cg 1) (N1, .inl (va_cpy f g 0 J K)))) := Array.getElem?_setIfInBounds_self_of_lt (Array.getElem?_eq_some_iff.mp dst).1
  obtain ⟨V, p1, p2⟩ := kk _ _ (hP.up on Array.size_setIfInBounds off) ⟨by rw [Array.size_setIfInBounds]; exact hS.1, fun q q1 q2 => (off q (fun z => q2 (z ▸ hA))).trans (hS.2.1 q q1 q2), fun z hz => (List.mem_append.mp hz).elim (hS.2.2 z) (fun y => by
      obtain ⟨_, -, y2⟩ := List.mem_map.mp y
      exact y2 ▸ hA)⟩ _ rfl X2
  exact ⟨V, go _ p1, p2⟩
end NROW
/-- a StringBuilder's row, a byte array's -/
def sbV (a : Nat) (mb cn : Int32) : va_E := .inr (1, [.ref a, .int 0, .int mb, .int cn])
def byV (cg : Nat → ClassId) (N : Nat) (f : Nat → Int32) : va_E := .inl (cg 1, N, .inl f)
