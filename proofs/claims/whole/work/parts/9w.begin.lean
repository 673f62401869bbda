theorem tw34 : (Jvm.Cond.classLink "GranaryWatchLaw" (8 : Nat) "GranaryWatch") ∈ TBG := tb_t 34 (by decide +kernel) (by decide +kernel)
theorem tw35 : (Jvm.Cond.instantiable "GranaryWatch" (12 : Nat)) ∈ TBG := tb_t 35 (by decide +kernel) (by decide +kernel)
theorem tw36 : (Jvm.Cond.methodLink "GranaryWatchLaw" (115 : Nat) ({ cls := "GranaryWatch", name := "<init>", desc := "()V" } : Jvm.MethodName)) ∈ TBG := tb_t 36 (by decide +kernel) (by decide +kernel)
theorem tw37 : (Jvm.Cond.instanceMethod ({ cls := "GranaryWatch", name := "<init>", desc := "()V" } : Jvm.MethodName)) ∈ TBG := tb_t 37 (by decide +kernel) (by decide +kernel)
theorem tw38 : (Jvm.Cond.code ({ cls := "GranaryWatch", name := "<init>", desc := "()V" } : Jvm.MethodName) prog_1_method_1_code (2 : Nat) (Option.none : Option Jvm.ClassFile.FieldType)) ∈ TBG := tb_t 38 (by decide +kernel) (by decide +kernel)
theorem tw1607 : (Jvm.Cond.classLink "GranaryWatchLaw" (116 : Nat) "GranaryWatchModel") ∈ TBG := tb_t 1607 (by decide +kernel) (by decide +kernel)
theorem tw1608 : (Jvm.Cond.instantiable "GranaryWatchModel" (25 : Nat)) ∈ TBG := tb_t 1608 (by decide +kernel) (by decide +kernel)
theorem tw1609 : (Jvm.Cond.methodLink "GranaryWatchLaw" (118 : Nat) ({ cls := "GranaryWatchModel", name := "<init>", desc := "()V" } : Jvm.MethodName)) ∈ TBG := tb_t 1609 (by decide +kernel) (by decide +kernel)
theorem tw1610 : (Jvm.Cond.instanceMethod ({ cls := "GranaryWatchModel", name := "<init>", desc := "()V" } : Jvm.MethodName)) ∈ TBG := tb_t 1610 (by decide +kernel) (by decide +kernel)
theorem tw1611 : (Jvm.Cond.code ({ cls := "GranaryWatchModel", name := "<init>", desc := "()V" } : Jvm.MethodName) prog_13_method_1_code (1 : Nat) (Option.none : Option Jvm.ClassFile.FieldType)) ∈ TBG := tb_t 1611 (by decide +kernel) (by decide +kernel)
theorem tw2307 : (Jvm.Cond.arrayClass Jvm.ClassFile.FieldType.long) ∈ TBG := tb_t 2307 (by decide +kernel) (by decide +kernel)
theorem tw2308 : (Jvm.Cond.arrayClass Jvm.ClassFile.FieldType.double) ∈ TBG := tb_t 2308 (by decide +kernel) (by decide +kernel)
/-! the law from its entry -/
theorem str_lt {a : Nat} {bs : List Int32} {Ω : Nat → Prop} {U : State} {H : Heap} {k : Nat} (hk : H.size ≤ k) (h : strAt a bs Ω U H) : strAt a bs (fun q => Ω q ∨ k ≤ q) U H := by
  obtain ⟨ha, hn, v, ⟨c1, q1, q2, q3, q4⟩, ⟨x1, x2, x3, x4, x5, x6, x7, x8, x9, x10, x11⟩, ⟨y1, y2, y3, y4, y5, y6, y7, y8, y9, y10, y11⟩, ⟨z1, z2, z3, z4, z5, z6, z7, z8⟩⟩ := h
  have la : a < H.size := (Array.getElem?_eq_some_iff.mp q1).1
  have lv : v < H.size := (Array.getElem?_eq_some_iff.mp z2).1
  have na : ¬ (a = a ∧ (Ω a ∨ k ≤ a)) := fun z => z.2.elim q4 (fun z => by omega)
  have nv : ¬ (v = v ∧ (Ω v ∨ k ≤ v)) := fun z => z.2.elim z8 (fun z => Nat.lt_irrefl v (Nat.lt_of_lt_of_le lv (Nat.le_trans hk z)))
  exact ⟨ha, hn, v, ⟨c1, q1, q2, q3, fun z => na ⟨rfl, z⟩⟩, ⟨x1, x2, x3, x4, x5, x6, x7, x8, x9, x10, fun z => na ⟨rfl, z⟩⟩, ⟨y1, y2, y3, y4, y5, y6, y7, y8, y9, y10, fun z => na ⟨rfl, z⟩⟩, ⟨z1, z2, z3, z4, z5, z6, z7, fun z => nv ⟨rfl, z⟩⟩⟩
/-- the class's world, said so that what lies from place k on may change -/
def cB (dC : Nat → ClassId) (dI : Nat → Nat → Nat) (cg : Nat → ClassId) (kA : String → Nat → Nat) (b1 k : Nat) (S : CS) : State → Heap → Prop := fun U H => k ≤ H.size ∧ b1 + 433 ≤ k ∧ (∃ nA, cN dC dI cg kA (caOf b1) nA S U H ∧ ∀ p, strAt (nA p) (S.2 p) (fun q => cΩ (caOf b1) q ∨ k ≤ q) U H) ∧ kE kTab kA (fun q => b1 ≤ q) U H
section BEGIN
variable {p : Program} {l : Launch} {e : Env} {R : Room} {s : State} {m : MethodId} {args : Array Value} {below : List Frame} {meth : Method} {c : Code} {H : Heap} {locs : List Loc} {cells slots : Nat} {Q : State → Prop}
variable {cc : ByteArray} {pc nL : Nat} {ls : Array Slot} {rest : List Value} {dC : Nat → ClassId} {dI : Nat → Nat → Nat} {cg : Nat → ClassId} {kA : String → Nat → Nat} {bs b1 k : Nat} {own : String} {w : Nat → va_E} {n : Nat} {A0 : Nat → Prop} {S : CS} {M : MS}
theorem cB_fs : gFs (nΩ k) (cB dC dI cg kA b1 k S) := ⟨fun u U H hvm h => by
  obtain ⟨h0, hk, ⟨nA, ⟨a1, a2, a3, a4, a5⟩, a6⟩, h2⟩ := h
  exact ⟨h0, hk, ⟨nA, ⟨a1, va_K.moved hvm a2, a3, a4.moved hvm, fun p => (a5 p).moved hvm⟩, fun p => (a6 p).moved hvm⟩, h2.moved hvm⟩, fun U H H1 hz hq h => by
  obtain ⟨h0, hk, ⟨nA, ⟨a1, a2, a3, a4, a5⟩, a6⟩, h2⟩ := h
  have hs : ∀ p, strAt (nA p) (S.2 p) (fun q => cΩ (caOf b1) q ∨ k ≤ q) U H1 := fun p => (a6 p).kept (fun a ha na => hq a ha (fun z => na (Or.inr z)))
  have h3 : kE kTab kA (fun q => b1 ≤ q) U H1 := h2.kept (fun a ha na => hq a ha (fun z => na (by have z : k ≤ a := z; show b1 ≤ a; omega)))
  refine ⟨Nat.le_trans h0 hz, hk, ⟨nA, ⟨fun p hp => (a1 p hp).kept (hq _ ((a1 p hp).lt) (fun z => ?_)), a2, a3, h3.narrow (fun q z => (cΩ_in z).1), fun p => (hs p).narrow (fun q z => Or.inl z)⟩, hs⟩, h3⟩
  have z : k ≤ caOf b1 p := z
  have := cΩ_in (b := b1) ⟨p, hp, rfl⟩
  omega⟩
theorem cB_of (hz : H.size = k) (hP : cP dC dI cg kA (caOf b1) S s H) (hE : kE kTab kA (fun q => b1 ≤ q) s H) : cB dC dI cg kA b1 k S s H := by
  obtain ⟨nA, hN⟩ := hP
  have h := (hN.1 432 (by omega)).lt
  have h : caOf b1 432 < H.size := h
  have h : b1 + 432 < H.size := h
  exact ⟨by omega, by omega, ⟨nA, hN, fun p => str_lt (by omega) (hN.2.2.2.2 p)⟩, hE⟩
theorem cB_to (h : cB dC dI cg kA b1 k S s H) : cP dC dI cg kA (caOf b1) S s H := by
  obtain ⟨-, -, ⟨nA, hN, -⟩, -⟩ := h
  exact ⟨nA, hN⟩
theorem nw_newF {N ci index : Nat} {C : String} {T : u_T} {tyT : Nat → FieldType} (fs : List Value) (X : gX p s m args c cc nL own (kR kTab kA)) (hP : nP dC dI cg kA bs (n, w) s H) (hS : va_S A0 s.heap H locs) (hin : ∀ w ∈ u_ws C T N, w ∈ TBG) (hty : ∀ k, k < N → parseFieldDescriptor (T k).2.2.1 = some (tyT k)) (hcl : Cond.classLink own index C ∈ TBG) (hinst : Cond.instantiable C N ∈ TBG) (hini : Cond.initialized C ∈ TBG) (hc : vwCl[ci]? = some (C, T, N)) (hfs : ∀ j, j < N → defaultValue (tyT j) = vp_V fs j) (hcells : cells + 1 ≤ R.cells ∧ slots + N ≤ R.slots) (hdg : decode cc pc = .ok (.new index, 3))
    (kk : ∀ (H1 : Heap), nP dC dI cg kA bs (n + 1, va_up w n (.inr (ci, fs))) s H1 → va_S A0 s.heap H1 locs → (H.size ≤ H1.size ∧ ∀ q : Nat, q < H.size → H1[q]? = H[q]?) → W p l e R s m args below meth c H1 locs (cells + 1) (slots + N) Q (F0 m (pc + 3) ls (.ref (bs + n) :: rest))) : W p l e R s m args below meth c H locs cells slots Q (F0 m pc ls rest) := by
  have hKn := hP.2.2.1.1 ci _ hc
  have hz : H.size = bs + n := hP.1
  refine W.newcK X.hx X.hb X.hown (X.hts _ hcl) (X.hts _ hinst) (X.hts _ hini) rfl hdg hcells.1 hcells.2 hKn.2.1 hz fun H1 kC hkC e1 z1 o1 => ?_
  exact kk H1 (hP.add ⟨_, hc, (u_born tyT X.hts hin hKn hkC e1 hty).to hfs⟩ z1 o1) (nS_add hz hS z1 o1) ⟨by omega, fun q hq => o1 q (by omega)⟩
theorem mExt {ad : Nat → Nat} {cI : ClassId} {H1 : Heap} (hq : ∀ q : Nat, q < H.size → H1[q]? = H[q]?) (h : mP dC dI cI kA ad M s H) : mP dC dI cI kA ad M s H1 := ⟨h.1.kept (fun k q hk => hq q.1 ((h.1 k q hk).lt)), h.2.1, h.2.2.1, h.2.2.2.kept (fun a ha _ => hq a ha)⟩
end BEGIN
theorem l_tr {l : Launch} (h : l.flags = flags0) : l.stackTraces = false := by
  unfold Launch.stackTraces
  rw [h]
  decide
set_option maxHeartbeats 4000000 in
theorem whole_start0 (hnn : NNAN) (hn2 : NN2) {p : Program} {e : Env} {s : State} {m : MethodId} {below : List Frame} {meth : Method} {c : Code} (l : Launch) (hflags : l.flags = flags0) {b L : Nat} {xs : Nat → Int32} (hL : L ≤ 3072) (C0 : lw_At p s m meth c b L xs) : W p l e room_1 s m #[Value.ref b] below meth c s.heap [] 0 0 (lw_Z below #[Value.ref b] s) (entryFrame m ([Value.ref b] : List Value).toArray 10) := by
  obtain ⟨hx, hb, hr, hml, hown, hts, hXs, hbl, hlocks, hgv⟩ := id C0
  have hl0 := l_tr hflags
  have hF : ∀ w ∈ FLT, w.before #[Value.ref b] s = true := flat_of_before _ hgv
  obtain ⟨dC, dI, cg, hK⟩ := s_K hts
  obtain ⟨kA, ekA⟩ : ∃ kA, kA = kAt #[Value.ref b] s := ⟨_, rfl⟩
  have hE0 : kE kTab kA (fun q => s.heap.size ≤ q) s s.heap := by
    rw [ekA]
    exact s_kE hF hts (fun a h z => absurd h (Nat.not_lt.mpr z))
  have hKR : kR kTab kA s := by
    rw [ekA]
    exact s_kR hF hts
  have X : gX p s m #[.ref b] c cL_law 10 "GranaryWatchLaw" (kR kTab kA) := ⟨hx, hb, hml, hown, fun w hw => hts w (List.mem_filter.mp hw).1, hKR⟩
  obtain ⟨S1, M1, i1, i2, rr, -⟩ := s_ini (S := S0) rfl rfl rfl rfl rfl
  have hS : va_S (fun q : Nat => s.heap.size ≤ q) s.heap s.heap [] := va_S.rf
  have hl := lv_entry ([.ref b]) (n := 10) (Nat.le_of_ble_eq_true rfl)
  rw [lg_entry_eq]
  generalize (lg_sl ([.ref b]) ++ List.replicate (10 - (lg_sl ([.ref b])).length) Slot.unset).toArray = ls at hl ⊢
  have hl : lv_has ls 10 [(0, .ref b)] := hl
  obtain ⟨b1, eb1⟩ : ∃ b1, b1 = s.heap.size := ⟨_, rfl⟩
  have hP : nP dC dI cg kA b1 (0, fun _ => .inr (0, [])) s s.heap := ⟨by rw [eb1]; rfl, fun i hi => absurd hi (Nat.not_lt_zero i), hK, by rw [eb1]; exact hE0, s_aOK hts⟩
  refine nw_new (ci := 14) (tyT := tyX10) [.null, .null, .null, .null, .null, .null, .null, .null, .null, .int 0, .int 0, .int 0] X hP hS cinX10 tyX10_ok tw34 tw35 tw1 rfl (fun j hj => by rcases (show j = 0 ∨ j = 1 ∨ j = 2 ∨ j = 3 ∨ j = 4 ∨ j = 5 ∨ j = 6 ∨ j = 7 ∨ j = 8 ∨ j = 9 ∨ j = 10 ∨ j = 11 by omega) with rfl | rfl | rfl | rfl | rfl | rfl | rfl | rfl | rfl | rfl | rfl | rfl <;> rfl) ⟨Nat.le_of_ble_eq_true rfl, Nat.le_of_ble_eq_true rfl⟩ dL_law_0 (fun H hP hS => ?_)
  refine lv_dup hx hb dL_law_3 rfl ?_
  have hA1 : ∀ {H : Heap}, s.heap.size ≤ H.size → ∀ q, Fr (nΩ b1) H.size q → s.heap.size ≤ q := fun hz q z => z.elim (fun z => by rw [← eb1]; exact z) (fun z => Nat.le_trans hz z)
  refine gCallCI X tOK (vX10_init (dC := dC) (dI := dI) (cg := cg) (kA := kA) (bs := b1) i1 vat) (cwI 0 X.hts (wT_good tw38) rfl rfl rfl (X.hts _ tw1) (X.hts _ tw36) (X.hts _ tw37) rfl ⟨by decide, by decide, by decide +kernel⟩ ⟨Nat.le_of_ble_eq_true rfl, Nat.le_of_ble_eq_true rfl⟩) rfl hP hS (hA1 hS.1) hl.1 (Nat.le_of_ble_eq_true rfl) ⟨Nat.le_of_ble_eq_true rfl, Nat.le_of_ble_eq_true rfl⟩ dL_law_4 (As := []) (rest := [.ref (b1 + 0)]) rfl (fun H locs hP hS => ?_)
  have hP : cP dC dI cg kA (caOf b1) S1 s H := hP
  refine lv_astore_n (lv' := [(1, .ref (caOf b1 0)), (0, .ref b)]) hx hb dL_law_7 rfl hl (by decide) rfl (fun ls hl => ?_)
  obtain ⟨b2, eb2⟩ : ∃ b2, b2 = H.size := ⟨_, rfl⟩
  have hE1 : kE kTab kA (fun q => b1 ≤ q) s H := by
    rw [eb1]
    exact hE0.kept (fun a ha na => hS.2.1 a ha na)
  have hz1 : s.heap.size ≤ H.size := hS.1
  have hC : cB dC dI cg kA b1 b2 S1 s H := cB_of eb2.symm hP hE1
  have h12 : b1 + 433 ≤ b2 := hC.2.1
  have hN : nP dC dI cg kA b2 (0, fun _ => .inr (0, [])) s H := ⟨by rw [eb2]; rfl, fun i hi => absurd hi (Nat.not_lt_zero i), hK, hE1.narrow (fun q z => by have z : b2 ≤ q := z; show b1 ≤ q; omega), s_aOK hts⟩
  refine nw_newF (ci := 15) (tyT := tyX11) [.null, .null, .null, .null, .null, .int 0, .int 0, .int 0, .null, .int 0, .int 0, .int 0, .int 0, .int 0, .int 0, .int 0, .int 0, .int 0, .int 0, .null, .null, .null, .int 0, .null, .int 0] X hN hS inG11 tyX11_ok tw1607 tw1608 tw31 rfl (fun j hj => by rcases (show j = 0 ∨ j = 1 ∨ j = 2 ∨ j = 3 ∨ j = 4 ∨ j = 5 ∨ j = 6 ∨ j = 7 ∨ j = 8 ∨ j = 9 ∨ j = 10 ∨ j = 11 ∨ j = 12 ∨ j = 13 ∨ j = 14 ∨ j = 15 ∨ j = 16 ∨ j = 17 ∨ j = 18 ∨ j = 19 ∨ j = 20 ∨ j = 21 ∨ j = 22 ∨ j = 23 ∨ j = 24 by omega) with rfl | rfl | rfl | rfl | rfl | rfl | rfl | rfl | rfl | rfl | rfl | rfl | rfl | rfl | rfl | rfl | rfl | rfl | rfl | rfl | rfl | rfl | rfl | rfl | rfl <;> rfl) ⟨Nat.le_of_ble_eq_true rfl, Nat.le_of_ble_eq_true rfl⟩ dL_law_8 (fun H1 hN hS ho => ?_)
  have hC : cB dC dI cg kA b1 b2 S1 s H1 := cB_fs.2 s H H1 ho.1 (fun a ha _ => ho.2 a ha) hC
  refine lv_dup hx hb dL_law_11 rfl ?_
  have hA2 : ∀ {H : Heap}, s.heap.size ≤ H.size → ∀ q, Fr (nΩ b2) H.size q → s.heap.size ≤ q := fun hz q z => z.elim (fun z => by have z : b2 ≤ q := z; omega) (fun z => Nat.le_trans hz z)
  refine gCallCI X (gF_ok rOK cB_fs) ((vX11_init (dC := dC) (dI := dI) (cg := cg) (kA := kA) (bs := b2) i2 vat).lift (cB_fs (b1 := b1) (S := S1))) (cwI 0 X.hts (wT_good tw1611) rfl rfl rfl (X.hts _ tw31) (X.hts _ tw1609) (X.hts _ tw1610) rfl ⟨by decide, by decide, by decide +kernel⟩ ⟨Nat.le_of_ble_eq_true rfl, Nat.le_of_ble_eq_true rfl⟩) rfl ⟨hN, hC⟩ hS (hA2 hS.1) hl.1 (Nat.le_of_ble_eq_true rfl) ⟨Nat.le_of_ble_eq_true rfl, Nat.le_of_ble_eq_true rfl⟩ dL_law_12 (As := []) (rest := [.ref (b2 + 0)]) rfl (fun H2 locs hP hS => ?_)
  have hM : mP dC dI (cg 0) kA (adOf b2) M1 s H2 := hP.1
  have hC : cB dC dI cg kA b1 b2 S1 s H2 := hP.2
  refine lv_astore_n (lv' := [(2, .ref (adOf b2 25)), (1, .ref (caOf b1 0)), (0, .ref b)]) hx hb dL_law_15 rfl hl (by decide) rfl (fun ls hl => ?_)
  obtain ⟨o1, eo1⟩ : ∃ o1, o1 = H2.size := ⟨_, rfl⟩
  have h2o : b2 + 11 ≤ o1 := by
    have h := (hM.1 10 (adOf b2 23, .inl (cg 0, 200, .inl (M1.2 23))) rfl).lt
    have h : b2 + 10 < H2.size := h
    omega
  refine lv_iconst (v := 1) hx hb dL_law_16 (by decide) ?_
  refine va_newaK (atype := .long) (N := 1) hx hb (X.hts _ tw2307) rfl dL_law_17 rfl (by decide) (by decide) (Nat.le_of_ble_eq_true rfl) (Nat.le_of_ble_eq_true rfl) (Nat.le_of_ble_eq_true rfl) eo1.symm (fun H3 cL e3 z3 q3 hArL _ => ?_)
  have hS3 : va_S (fun q : Nat => s.heap.size ≤ q) s.heap H3 locs := nS_add eo1.symm hS z3 q3
  refine lv_astore_n (lv' := [(3, .ref o1), (2, .ref (adOf b2 25)), (1, .ref (caOf b1 0)), (0, .ref b)]) hx hb dL_law_19 rfl hl (by decide) rfl (fun ls hl => ?_)
  refine lv_iconst (v := 1) hx hb dL_law_20 (by decide) ?_
  refine va_newaK (atype := .double) (N := 1) hx hb (X.hts _ tw2308) rfl dL_law_21 rfl (by decide) (by decide) (Nat.le_of_ble_eq_true rfl) (Nat.le_of_ble_eq_true rfl) (Nat.le_of_ble_eq_true rfl) z3 (fun H4 cD e4 z4 q4 hArD _ => ?_)
  have hS4 : va_S (fun q : Nat => s.heap.size ≤ q) s.heap H4 locs := nS_add z3 hS3 z4 q4
  refine lv_astore (lv' := [(4, .ref (o1 + 1)), (3, .ref o1), (2, .ref (adOf b2 25)), (1, .ref (caOf b1 0)), (0, .ref b)]) hx hb dL_law_23 hl (by decide) rfl (fun ls hl => ?_)
  refine lv_iconst (v := 0) hx hb dL_law_25 (by decide) ?_
  refine lv_istore (lv' := [(5, .int 0), (4, .ref (o1 + 1)), (3, .ref o1), (2, .ref (adOf b2 25)), (1, .ref (caOf b1 0)), (0, .ref b)]) hx hb dL_law_26 hl (by decide) rfl (fun ls hl => ?_)
  have hap : APJ b1 b2 o1 (o1 + 1) := ⟨h12, h2o, Nat.lt_succ_self _⟩
  have q24 : ∀ q : Nat, q < H2.size → H4[q]? = H2[q]? := fun q hq => (q4 q (by omega)).trans (q3 q (by omega))
  have hC4 : cB dC dI cg kA b1 b2 S1 s H4 := cB_fs.2 s H2 H4 (by omega) (fun a ha _ => q24 a ha) hC
  have hM4 := mExt q24 hM
  have hJ : jP dC dI cg kA b1 b2 o1 (o1 + 1) cL cD (S1, M1, 0, 0) s H4 := ⟨cB_to hC4, hM4, hC4.2.2.2.narrow (fun q z => by
    rcases z with z | z | z | z
    · exact (cΩ_in z).1
    · have := (mΩ_in z).1
      show b1 ≤ q
      omega
    · show b1 ≤ q
      omega
    · show b1 ≤ q
      omega), (q4 o1 (by omega)).trans e3, e4, hArL, hArD⟩
  exact law_loop hL X hr hlocks hXs hbl (by omega) hap hl0 hnn hn2 (L + 1) 0 S1 M1 0 0 ls H4 locs _ _ (by omega) (by omega) rr hJ hS4 (lv_sub hl [0, 5, 4, 3, 2, 1] rfl) (Nat.le_of_ble_eq_true rfl) (Nat.le_of_ble_eq_true rfl)
