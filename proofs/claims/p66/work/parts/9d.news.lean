/-! copies of byte arrays; a final field of a new object; a new text -/
section NEWT
variable {p : Program} {l : Launch} {e : Env} {R : Room} {s : State} {m : MethodId} {args : Array Value} {below : List Frame} {meth : Method} {c : Code} {H : Heap} {locs : List Loc} {cells slots : Nat} {Q : State → Prop}
variable {cc : ByteArray} {pc : Nat} {ls : Array Slot} {rest : List Value} {D : va_G} {cl : List vw_C} {a : Nat} {tys : List (ClassId × FieldType)}
theorem va_putFO (hexec : p.tables.exec = Jvm.exec) (hb : c.code = cc) {own ref C : String} {T : u_T} {N ci index : Nat} {Ts : List Cond} (hts : ∀ w ∈ Ts, w.before args s = true) (hin : ∀ w ∈ u_ws C T N, w ∈ Ts) (ty0 : Nat → FieldType) (hty : ∀ k, k < N → parseFieldDescriptor (T k).2.2.1 = some (ty0 k)) (hnm : ∀ a, a < N → ∀ b, b < N → a ≠ b → (T a).2.1 ≠ (T b).2.1) (hown : s.vm.findClass own = some m.cls) (hK : va_K D cl tys s) {fs : List Value} (he : va_at D cl (a, .inr (ci, fs)) H) (hc : cl[ci]? = some (C, T, N)) (k : Nat) (hk : k < N) (hlink : (Cond.fieldLink own index ref (T k).2.1 (T k).2.2.1).before args s = true) (hsame : ∀ x, s.fieldFound? (T k).1 (T k).2.1 (T k).2.2.1 = some x → s.fieldFound? ref (T k).2.1 (T k).2.2.1 = some x) (hfin : (T k).2.2.2 = true) (hin2 : meth.name = "<init>") (hdecl : (T k).1 = own) {ty : FieldType} {v : Value} (hd : parseFieldDescriptor (T k).2.2.1 = some ty) (hn : narrow ty v = v) (hfit : fits ty v = true) (hl : k < fs.length)
    (hdg : decode cc pc = .ok (.putfield index, 3)) (kk : ∀ (H1 : Heap) (j : Nat), va_at D cl (a, .inr (ci, fs.set k v)) H1 → H1.size = H.size → (∀ q : Nat, q ≠ a → H1[q]? = H[q]?) → W p l e R s m args below meth c H1 (locs ++ [⟨a, j⟩]) cells slots Q (F0 m (pc + 3) ls rest)) : W p l e R s m args below meth c H locs cells slots Q (F0 m pc ls (v :: .ref a :: rest)) := by
  obtain ⟨cf, kf, kC, fi, f, x, ⟨i1, i2, i3, i4⟩, ⟨h1, h2, h3⟩, fin⟩ := ob_at hts hin ty0 hty hnm hK he hc hk hl
  have lay : (Cond.laysFinal C (T k).1 (T k).2.1 (T k).2.2.1).before args s = true := by
    have w := hts _ (hin _ (u_in_lay hk))
    rwa [u_lay, if_pos hfin] at w
  have mine : m.cls = cf := by
    obtain ⟨_, _, _, _, _, _, -, -, w, -, -, -, decl, -⟩ := Cond.laysFinal_spec lay
    rw [i1] at w
    cases w
    rw [hdecl] at decl
    exact Option.some.inj (hown.symm.trans decl)
  exact W.putFinK hexec hb hown hlink (hsame _ i1) (u_facts i2 i3 (Or.inr lay) i1).1 mine hin2 (u_fits i2 i3 i4 (Or.inr lay) i1 hd hn hfit) h1 h2 h3 rfl rfl hdg fun H' a1 a2 a3 => kk H' _ (fin v H' a1) a2 a3
end NEWT
section NEWS
variable {p : Program} {l : Launch} {e : Env} {R : Room} {s : State} {m : MethodId} {args : Array Value} {below : List Frame} {meth : Method} {c : Code} {H : Heap} {locs : List Loc} {cells slots : Nat} {Q : State → Prop}
variable {cc : ByteArray} {pc nL : Nat} {ls : Array Slot} {rest : List Value} {dC : Nat → ClassId} {dI : Nat → Nat → Nat} {cg : Nat → ClassId} {kA : String → Nat → Nat} {ca nA : Nat → Nat} {S : CS} {own : String}
theorem cr_copyB {a0 a n0 n1 : Nat} {c0 c1 : ClassId} {f g : Nat → Int32} {index : Nat} (X : gX p s m args c cc nL own (kR kTab kA)) (hls : ls.size = nL) (hlink : Cond.methodLink own index arraycopyName ∈ TBG) (hnat : Cond.native arraycopyName ∈ TBG) (hstat : Cond.static arraycopyName ∈ TBG) (hini : Cond.initialized "java/lang/System" ∈ TBG)
    (t0 : ArrOfT s c0 .byte) (t1 : ArrOfT s c1 .byte) (ha0 : H[a0]? = some (vp_cell c0 (n0, .inl f))) (ha1 : H[a]? = some (vp_cell c1 (n1, .inl g))) {k : Int32} (h4 : k.toNatClampNeg ≤ n0) (h5 : k.toNatClampNeg ≤ n1) (h3 : ¬ k < 0) (hfit : ∀ i : Nat, i < k.toNatClampNeg → fits .byte (.int (f i)) = true)
    (hframes : 1 ≤ R.frames) (hlocals : (rest.map fun v => v.category).sum + (nativeFrameWords "java/lang/System" "arraycopy" 5 + 11) ≤ R.locals) (hdg : decode cc pc = .ok (.invokestatic index, 3))
    (kk : ∀ (H1 : Heap) (L : List Loc), H1[a]? = some (vp_cell c1 (n1, .inl (va_cpy f g 0 0 k.toNatClampNeg))) → H1.size = H.size → (∀ q : Nat, q ≠ a → H1[q]? = H[q]?) → (∀ z ∈ L, z.base = a) → W p l e R s m args below meth c H1 (locs ++ L) cells slots Q (F0 m (pc + 3) ls rest)) : W p l e R s m args below meth c H locs cells slots Q (F0 m pc ls (.int k :: .int 0 :: .ref a :: .int 0 :: .ref a0 :: rest)) := cr_cpyT rfl X hls hlink hnat hstat hini t0 t1 ha0 ha1 h4 h5 h3 hfit hframes hlocals hdg kk
/-- a field of an object of the world, said alone -/
theorem at_OF {a k : Nat} {fs : List Value} {v : Value} {A : Nat → Prop} {ci N : Nat} {C : String} {T : u_T} {tys : List (ClassId × FieldType)} (hts : ∀ w ∈ TBG, w.before args s = true) (hin : ∀ w ∈ u_ws C T N, w ∈ TBG) (hK : va_K (dC, dI) vwCl tys s) (h : va_at (dC, dI) vwCl (a, .inr (ci, fs)) H) (hc : vwCl[ci]? = some (C, T, N)) (hk : k < N) (hv : fs[k]? = some v) (hA : ¬ A a) : va_OF (T k).1 (T k).2.1 (T k).2.2.1 v a A s H := by
  obtain ⟨r, h1, cell, q1, q2, q3, q4⟩ := h
  have hr : r = (C, T, N) := Option.some.inj (h1.symm.trans hc)
  subst hr
  obtain ⟨hS, hfc, kC, hkC, hkind⟩ := hK.1 ci _ hc
  obtain ⟨cf, kf, fi, f, hi, hsl⟩ := hS k hk
  refine ⟨cf, kf, fi, f, cell, hi, (u_facts hfc hkC (u_lays hts hin hk) hi).1, q1, (by rw [q3]; intro z; cases z), ?_, hA⟩
  rw [hsl, q4 k hk]
  show some (vp_V fs k) = some v
  unfold vp_V
  rw [List.getD_eq_getElem?_getD, hv]
  rfl
theorem at_O {a : Nat} {fs : List Value} {A : Nat → Prop} {ci N : Nat} {C : String} {T : u_T} {tys : List (ClassId × FieldType)} (hK : va_K (dC, dI) vwCl tys s) (h : va_at (dC, dI) vwCl (a, .inr (ci, fs)) H) (hc : vwCl[ci]? = some (C, T, N)) (hA : ¬ A a) : va_O C a A s H := by
  obtain ⟨r, h1, cell, q1, q2, q3, q4⟩ := h
  have hr : r = (C, T, N) := Option.some.inj (h1.symm.trans hc)
  subst hr
  exact ⟨cell, q1, by rw [q3]; rfl, by rw [q2]; exact (hK.1 ci _ hc).2.1, hA⟩
end NEWS
