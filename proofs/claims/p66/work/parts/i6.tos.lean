theorem tw545 : (Jvm.Cond.methodLink "java/util/Arrays" (310 : Nat) ({ cls := "[B", name := "clone", desc := "()Ljava/lang/Object;" } : Jvm.MethodName)) ∈ TBG := tb_t 545 (by decide +kernel) (by decide +kernel)
theorem tw546 : (Jvm.Cond.sameMethod "[B" "java/lang/Object" "clone" "()Ljava/lang/Object;") ∈ TBG := tb_t 546 (by decide +kernel) (by decide +kernel)
theorem tw547 : (Jvm.Cond.native ({ cls := "java/lang/Object", name := "clone", desc := "()Ljava/lang/Object;" } : Jvm.MethodName)) ∈ TBG := tb_t 547 (by decide +kernel) (by decide +kernel)
theorem tw548 : (Jvm.Cond.instanceMethod ({ cls := "java/lang/Object", name := "clone", desc := "()Ljava/lang/Object;" } : Jvm.MethodName)) ∈ TBG := tb_t 548 (by decide +kernel) (by decide +kernel)
theorem tw549 : (Jvm.Cond.selects "[B" ({ cls := "[B", name := "clone", desc := "()Ljava/lang/Object;" } : Jvm.MethodName) ({ cls := "java/lang/Object", name := "clone", desc := "()Ljava/lang/Object;" } : Jvm.MethodName)) ∈ TBG := tb_t 549 (by decide +kernel) (by decide +kernel)
theorem tw551 : (Jvm.Cond.classLink "java/util/Arrays" (311 : Nat) "[B") ∈ TBG := tb_t 551 (by decide +kernel) (by decide +kernel)
theorem xw550 : (Jvm.Cond.castable "[B" "java/lang/Cloneable") ∈ xws := xt 550 (by decide +kernel) rfl
/-! a text out of the StringBuilder, over growing worlds -/
section NTOS
variable {p : Program} {l : Launch} {e : Env} {R : Room} {s : State} {m : MethodId} {args : Array Value} {below : List Frame} {meth : Method} {c : Code} {H : Heap} {locs : List Loc} {cells slots : Nat} {Q : State → Prop}
variable {cc : ByteArray} {pc nL : Nat} {ls : Array Slot} {rest : List Value} {own : String} {A0 : Nat → Prop}
variable {dC : Nat → ClassId} {dI : Nat → Nat → Nat} {cg : Nat → ClassId} {kA : String → Nat → Nat} {bs n p0 k0 a N M : Nat} {w : Nat → va_E} {mb cn : Int32} {f : Nat → Int32} {t : List Int32}
/-- a byte array of the world, cloned: one cell more, with the same letters -/
theorem nw_clone {k index : Nat} (X : gX p s m args c cc nL own (kR kTab kA)) (hls : ls.size = nL) (hP : nP dC dI cg kA bs (n, w) s H) (hS : va_S A0 s.heap H locs) (hk : k < n ∧ w k = byV cg N f) (ha : asc f) (hlink : Cond.methodLink own index ⟨"[B", "clone", "()Ljava/lang/Object;"⟩ ∈ TBG) (hsame : Cond.sameMethod "[B" "java/lang/Object" "clone" "()Ljava/lang/Object;" ∈ TBG) (hnat : Cond.native ⟨"java/lang/Object", "clone", "()Ljava/lang/Object;"⟩ ∈ TBG) (hinst : Cond.instanceMethod ⟨"java/lang/Object", "clone", "()Ljava/lang/Object;"⟩ ∈ TBG) (hsel : Cond.selects "[B" ⟨"[B", "clone", "()Ljava/lang/Object;"⟩ ⟨"java/lang/Object", "clone", "()Ljava/lang/Object;"⟩ ∈ TBG) (hcl : Cond.castable "[B" "java/lang/Cloneable" ∈ xws)
    (hframes : 1 ≤ R.frames) (hlocals : (rest.map fun v => v.category).sum + 14 ≤ R.locals) (hcells : cells + 1 ≤ R.cells ∧ slots + N ≤ R.slots) (hdg : decode cc pc = .ok (.invokevirtual index, 3))
    (kk : ∀ (H1 : Heap), nP dC dI cg kA bs (n + 1, va_up w n (byV cg N f)) s H1 → va_S A0 s.heap H1 locs → W p l e R s m args below meth c H1 locs (cells + 1) (slots + N) Q (F0 m (pc + 3) ls (.ref (bs + n) :: rest))) : W p l e R s m args below meth c H locs cells slots Q (F0 m pc ls (.ref (bs + k) :: rest)) := by
  have old : H[bs + k]? = some (vp_cell (cg 1) (N, .inl f)) := hP.row hk
  have at_end : H.size = bs + n := hP.1
  have tB : ArrOfT s (cg 1) .byte := (hP.2.2.1.2 1 (cg 1, .byte) rfl).1
  have named : s.vm.findClass "[B" = some (cg 1) := va_nm_byte (hP.2.2.1.2 1 _ rfl).2
  have many : (vp_cell (cg 1) (N, .inl f)).slots.size = N := arrV_size _ _ _
  rcases Cond.castable_spec (xw_use (A := args) rfl (X.ks.2.1 _ hcl)) with ⟨c0, t0, f1, f2, f3⟩
  cases named.symm.trans f1
  intro U hU Y
  subst hU
  rcases State.isArrayOf_alike Y.warmed.alike (tB N fun j => .int (f j)) with ⟨-, k1, e1, cm1, is1⟩
  rcases tB N (fun j => .int (f j)) with ⟨-, k2, e2, cm2, is2⟩
  obtain ⟨vm, X2, go⟩ := Y.cloneArray X.hx X.hown (X.hts _ hlink) (X.hts _ hsame) (X.hts _ hnat) (X.hts _ hinst) (X.hts _ hsel) old nofun nofun named f2 f3
    (fun i v hv => by
      have fit : fits .byte v = true := va_fit (cA := cg 1) (n := N) (F := fun j => .int (f j)) (fun j _ => asc_fit ha j) i v hv
      have e1 : U.vm.classes[(vp_cell (cg 1) (N, .inl f)).cls]? = some k1 := e1
      simpa [State.fitsSlot, State.slotType?, e1, is1] using fit)
    (g := F0 m pc ls (.ref (bs + k) :: rest)) rfl (hls.trans X.hml.symm) rfl (X.hb ▸ hdg) hframes (by show 2 * 0 + _ + 14 ≤ _; omega) hcells.1 (by rw [many]; exact hcells.2) (hloader := Vm.clonesLoader_of_array e2 is2)
  rw [many] at X2
  have new : (U.heap.push (vp_cell (cg 1) (N, .inl f)))[bs + n]? = some (vp_cell (cg 1) (N, .inl f)) := by rw [← at_end]; exact Array.getElem?_push_size
  have low : ∀ q : Nat, q < bs + n → (U.heap.push (vp_cell (cg 1) (N, .inl f)))[q]? = U.heap[q]? := fun q hq => by rw [Array.getElem?_push, if_neg (by omega)]
  have len : (U.heap.push (vp_cell (cg 1) (N, .inl f))).size = bs + n + 1 := by rw [Array.size_push, at_end]
  obtain ⟨V, p1, p2⟩ := kk _ (hP.add (r := byV cg N f) new len low) (nS_add at_end hS len low) _ rfl X2
  exact ⟨V, go _ (by rw [at_end]; exact p1), p2⟩
theorem vN7_checkLength {a b : Int32} (h : a ≤ b) : gMetVA l yJ7_checkLength_df160 cJ7_checkLength_df160 2 1 0 0 (fun _ => False) (nP dC dI cg kA bs) (kR kTab kA) [.int a, .int b] (n, w) (n, w) := gEntryVA (by decide) nOK (Nat.le_of_ble_eq_true rfl) (fun p e s m args below meth c Q ls X hP hS hret hl => by
  have hx := X.hx
  have hb := X.hb
  refine lv_iload_n hx hb dJ7_checkLength_df160_0 rfl (lv_at hl 1 rfl) ?_
  refine lv_iload_n hx hb dJ7_checkLength_df160_1 rfl (lv_at hl 0 rfl) ?_
  refine lv_icmp_ge (tgt := 37) hx hb dJ7_checkLength_df160_2 (by decide) (fun _ => ?_) (fun c => absurd h c)
  exact hret _ _ _ _ _ _ dJ7_checkLength_df160_37 hP hS (Nat.le_refl _) (Nat.le_refl _))
theorem vN7_copyRB (hk : k0 < n ∧ w k0 = byV cg N f) (ha : asc f) (hM : M ≤ N) (hN : N ≤ 500) : gMetO l yJ7_copyOfRangeByte_39247 cJ7_copyOfRangeByte_39247 5 (some (.array .byte)) 3 1 500 (nΩ bs) (nP dC dI cg kA bs) (kR kTab kA) [.ref (bs + k0), .int 0, .int (nI M)] (n, w) (n + 1, va_up w n (byV cg M (va_cpy f (fun _ => 0) 0 0 M))) (fun a _ _ => a = bs + n) := gEntryO (rt := .array .byte) (by decide) rfl (Or.inr ⟨_, rfl⟩) nOK (fun _ _ _ _ _ h => h) (Nat.le_of_ble_eq_true rfl) (fun p e s m args below meth c Q ls X hP hS hret hl => by
  have hx := X.hx
  have hb := X.hb
  have hP : nP dC dI cg kA bs (n, w) s s.heap := hP
  refine lv_iload_n hx hb dJ7_copyOfRangeByte_39247_0 rfl (lv_at hl 1 rfl) ?_
  refine lv_iload_n hx hb dJ7_copyOfRangeByte_39247_1 rfl (lv_at hl 2 rfl) ?_
  refine gCallTV X nOK (vN7_checkLength (dC := dC) (dI := dI) (cg := cg) (kA := kA) (bs := bs) (n := n) (w := w) (show (0 : Int32) ≤ nI M from nI_le (a := 0) (Nat.zero_le _) (by omega))) ⟨callB_of 2 X.hts (wT_good tw646) rfl rfl rfl (X.hts _ tw20) (X.hts _ tw644) ⟨by decide, by decide, by decide +kernel⟩ ⟨Nat.le_of_ble_eq_true rfl, Nat.le_of_ble_eq_true rfl⟩, X.hts _ tw645⟩ rfl hP hS (noFn hS) hl.1 (Nat.le_of_ble_eq_true rfl) ⟨(Nat.le_of_ble_eq_true rfl), (Nat.le_of_ble_eq_true rfl)⟩ dJ7_copyOfRangeByte_39247_2 (As := [.int 0, .int (nI M)]) (rest := []) rfl (fun H locs hP hS => ?_)
  refine lv_iload_n hx hb dJ7_copyOfRangeByte_39247_5 rfl (lv_at hl 2 rfl) ?_
  refine lv_iload_n hx hb dJ7_copyOfRangeByte_39247_6 rfl (lv_at hl 1 rfl) ?_
  refine lv_isub hx hb dJ7_copyOfRangeByte_39247_7 ?_
  rw [show ((nI M) - 0 : Int32) = nI M from pk_sub (b := 0) (Nat.zero_le _)]
  refine lv_istore_n (lv' := [(3, .int (nI M)), (0, .ref (bs + k0)), (1, .int 0), (2, .int (nI M))]) hx hb dJ7_copyOfRangeByte_39247_8 rfl hl (by decide) rfl (fun ls hl => ?_)
  refine lv_iload_n hx hb dJ7_copyOfRangeByte_39247_9 rfl (lv_at hl 0 rfl) ?_
  refine nw_newa (t0 := 1) (N := M) .byte X hP hS rfl tw85 rfl (fun _ => rfl) rfl (show ¬ nI M < (0 : Int32) from nI_nlt (b := 0) (Nat.zero_le _) (by omega)) (nI_c (by omega)) (by show M * 1 ≤ _; omega) ⟨(Nat.le_of_ble_eq_true rfl), by show 0 + 0 + M ≤ 500; omega⟩ dJ7_copyOfRangeByte_39247_10 (fun H hP hS => ?_)
  have hk1 : k0 < n + 1 ∧ va_up w n (.inl (cg 1, M, .inl fun _ => 0)) k0 = byV cg N f := ⟨by have := hk.1; omega, by rw [vne (by have := hk.1; omega)]; exact hk.2⟩
  refine lv_astore (lv' := [(4, .ref (bs + n)), (3, .int (nI M)), (0, .ref (bs + k0)), (1, .int 0), (2, .int (nI M))]) hx hb dJ7_copyOfRangeByte_39247_12 hl (by decide) rfl (fun ls hl => ?_)
  refine lv_aload_n hx hb dJ7_copyOfRangeByte_39247_14 rfl (lv_at hl 2 rfl) ?_
  refine lv_iload_n hx hb dJ7_copyOfRangeByte_39247_15 rfl (lv_at hl 3 rfl) ?_
  refine lv_aload hx hb dJ7_copyOfRangeByte_39247_16 (lv_at hl 0 rfl) ?_
  refine lv_iconst (v := 0) hx hb dJ7_copyOfRangeByte_39247_18 (by decide) ?_
  refine lv_aload_n hx hb dJ7_copyOfRangeByte_39247_19 rfl (lv_at hl 2 rfl) ?_
  refine nw_alen (v := nI N) X hP hk1 rfl rfl dJ7_copyOfRangeByte_39247_20 ?_
  refine lv_iload_n hx hb dJ7_copyOfRangeByte_39247_21 rfl (lv_at hl 3 rfl) ?_
  refine lv_isub hx hb dJ7_copyOfRangeByte_39247_22 ?_
  rw [show ((nI N) - 0 : Int32) = nI N from pk_sub (b := 0) (Nat.zero_le _)]
  refine lv_iload_n hx hb dJ7_copyOfRangeByte_39247_23 rfl (lv_at hl 1 rfl) ?_
  refine gMin X rfl tw552 tw553 tw19 tw554 (Nat.le_of_ble_eq_true rfl) hl.1 (Nat.le_of_ble_eq_true rfl) ⟨(Nat.le_of_ble_eq_true rfl), by show 0 + 0 + M ≤ 500; omega⟩ dJ7_copyOfRangeByte_39247_24 ?_
  rw [show (if nI M < nI N then nI M else nI N) = nI M from (Nat.lt_or_ge M N).elim (fun h => if_pos (nI_lt h (by omega))) (fun h => (if_neg (nI_nlt h (by omega))).trans (by rw [show N = M by omega]))]
  refine nw_cpy X hl.1 hP hS (Or.inl (Nat.le_add_right _ _)) hk1 ⟨Nat.lt_succ_self n, vat⟩ tw555 tw557 tw556 tw21 (by rw [nI_c (by omega)]; omega) (by rw [nI_c (by omega)]; exact Nat.le_refl _) (show ¬ nI M < (0 : Int32) from nI_nlt (b := 0) (Nat.zero_le _) (by omega)) (fun i _ => asc_fit ha i) (Nat.le_of_ble_eq_true rfl) (Nat.le_of_ble_eq_true rfl) dJ7_copyOfRangeByte_39247_27 (fun H locs hP hS => ?_)
  rw [nI_c (by omega), up_up] at hP
  refine lv_aload hx hb dJ7_copyOfRangeByte_39247_30 (lv_at hl 0 rfl) ?_
  exact hret _ _ _ _ _ _ _ dJ7_copyOfRangeByte_39247_32 hP rfl hS (Nat.le_of_ble_eq_true rfl) (by show 0 + 0 + M ≤ 500; omega))
theorem vN7_copyR1 (hk : k0 < n ∧ w k0 = byV cg N f) (ha : asc f) (hMN : M = N) (hN : N ≤ 500) : gMetO l yJ7_copyOfRange_39247 cJ7_copyOfRange_39247 3 (some (.array .byte)) 4 1 500 (nΩ bs) (nP dC dI cg kA bs) (kR kTab kA) [.ref (bs + k0), .int 0, .int (nI M)] (n, w) (n + 1, va_up w n (byV cg M f)) (fun a _ _ => a = bs + n) := gEntryO (rt := .array .byte) (by decide) rfl (Or.inr ⟨_, rfl⟩) nOK (fun _ _ _ _ _ h => h) (Nat.le_of_ble_eq_true rfl) (fun p e s m args below meth c Q ls X hP hS hret hl => by
  subst hMN
  have hx := X.hx
  have hb := X.hb
  have hP : nP dC dI cg kA bs (n, w) s s.heap := hP
  refine lv_iload_n hx hb dJ7_copyOfRange_39247_0 rfl (lv_at hl 1 rfl) ?_
  refine lv_if_ne (tgt := 10) hx hb dJ7_copyOfRange_39247_1 (by decide) (fun c1 => absurd (rfl) c1) (fun _ => ?_)
  refine lv_iload_n hx hb dJ7_copyOfRange_39247_4 rfl (lv_at hl 2 rfl) ?_
  refine lv_aload_n hx hb dJ7_copyOfRange_39247_5 rfl (lv_at hl 0 rfl) ?_
  refine nw_alen (v := nI M) X hP hk rfl rfl dJ7_copyOfRange_39247_6 ?_
  refine lv_icmp_eq (tgt := 17) hx hb dJ7_copyOfRange_39247_7 (by decide) (fun _ => ?_) (fun c1 => absurd (rfl) c1)
  refine lv_aload_n hx hb dJ7_copyOfRange_39247_17 rfl (lv_at hl 0 rfl) ?_
  refine nw_clone X hl.1 hP hS hk ha tw545 tw546 tw547 tw548 tw549 xw550 (Nat.le_of_ble_eq_true rfl) (Nat.le_of_ble_eq_true rfl) ⟨Nat.le_of_ble_eq_true rfl, by show 0 + M ≤ 500; omega⟩ dJ7_copyOfRange_39247_18 (fun H hP hS => ?_)
  have hrow : va_at (dC, dI) vwCl (bs + n, byV cg M f) H := hP.row ⟨Nat.lt_succ_self n, vat⟩
  refine va_castA (nm := "[B") X.hx X.hb X.hown (X.hts _ tw551) (cwo hrow) 0 rfl (va_nm_byte (hP.2.2.1.2 1 _ rfl).2) dJ7_copyOfRange_39247_21 ?_
  exact hret _ _ _ _ _ _ _ dJ7_copyOfRange_39247_24 hP rfl hS (Nat.le_of_ble_eq_true rfl) (by show 0 + M ≤ 500; omega))
theorem vN7_copyR2 (hk : k0 < n ∧ w k0 = byV cg N f) (ha : asc f) (hMN : ¬ M = N) (hM : M ≤ N) (hN : N ≤ 500) : gMetO l yJ7_copyOfRange_39247 cJ7_copyOfRange_39247 3 (some (.array .byte)) 4 1 500 (nΩ bs) (nP dC dI cg kA bs) (kR kTab kA) [.ref (bs + k0), .int 0, .int (nI M)] (n, w) (n + 1, va_up w n (byV cg M (va_cpy f (fun _ => 0) 0 0 M))) (fun a _ _ => a = bs + n) := gEntryO (rt := .array .byte) (by decide) rfl (Or.inr ⟨_, rfl⟩) nOK (fun _ _ _ _ _ h => h) (Nat.le_of_ble_eq_true rfl) (fun p e s m args below meth c Q ls X hP hS hret hl => by
  have hx := X.hx
  have hb := X.hb
  have hP : nP dC dI cg kA bs (n, w) s s.heap := hP
  refine lv_iload_n hx hb dJ7_copyOfRange_39247_0 rfl (lv_at hl 1 rfl) ?_
  refine lv_if_ne (tgt := 10) hx hb dJ7_copyOfRange_39247_1 (by decide) (fun c1 => absurd (rfl) c1) (fun _ => ?_)
  refine lv_iload_n hx hb dJ7_copyOfRange_39247_4 rfl (lv_at hl 2 rfl) ?_
  refine lv_aload_n hx hb dJ7_copyOfRange_39247_5 rfl (lv_at hl 0 rfl) ?_
  refine nw_alen (v := nI N) X hP hk rfl rfl dJ7_copyOfRange_39247_6 ?_
  refine lv_icmp_eq (tgt := 17) hx hb dJ7_copyOfRange_39247_7 (by decide) (fun c1 => absurd c1 (fun z => hMN ((nI_eq (by omega) (by omega)).mp z))) (fun _ => ?_)
  refine lv_aload_n hx hb dJ7_copyOfRange_39247_10 rfl (lv_at hl 0 rfl) ?_
  refine lv_iload_n hx hb dJ7_copyOfRange_39247_11 rfl (lv_at hl 1 rfl) ?_
  refine lv_iload_n hx hb dJ7_copyOfRange_39247_12 rfl (lv_at hl 2 rfl) ?_
  refine gCallTO X nOK (fun _ _ _ _ _ h => h) (vN7_copyRB (dC := dC) (dI := dI) (cg := cg) (kA := kA) (bs := bs) hk ha hM hN) ⟨callB_of 3 X.hts (wT_good tw643) rfl rfl rfl (X.hts _ tw20) (X.hts _ tw641) ⟨by decide, by decide, by decide +kernel⟩ ⟨Nat.le_of_ble_eq_true rfl, Nat.le_of_ble_eq_true rfl⟩, X.hts _ tw642⟩ rfl hP hS (Fr_le hS.1) hl.1 (Nat.le_of_ble_eq_true rfl) ⟨(Nat.le_of_ble_eq_true rfl), (Nat.le_of_ble_eq_true rfl)⟩ dJ7_copyOfRange_39247_13 (As := [.ref (bs + k0), .int 0, .int (nI M)]) (rest := []) rfl (fun H locs a hP hB hS => ?_)
  exact hret _ _ _ _ _ _ _ dJ7_copyOfRange_39247_16 hP hB hS (Nat.le_of_ble_eq_true rfl) (Nat.le_of_ble_eq_true rfl))
theorem vN5_getValue (he : p0 < n ∧ w p0 = sbV (bs + k0) mb cn) : gMetO l yJ5_getValue_6d5f1 cJ5_getValue_6d5f1 1 (some (.array .byte)) 1 0 0 (fun _ => False) (nP dC dI cg kA bs) (kR kTab kA) [.ref (bs + p0)] (n, w) (n, w) (fun a _ _ => a = bs + k0) := gEntryO (rt := .array .byte) (by decide) rfl (Or.inr ⟨_, rfl⟩) nOK (fun _ _ _ _ _ h => h) (Nat.le_of_ble_eq_true rfl) (fun p e s m args below meth c Q ls X hP hS hret hl => by
  have hx := X.hx
  have hb := X.hb
  have hP : nP dC dI cg kA bs (n, w) s s.heap := hP
  refine lv_aload_n hx hb dJ5_getValue_6d5f1_0 rfl (lv_at hl 0 rfl) ?_
  refine nw_getI (k := 0) X hP he rfl (rfl : vwCl[1]? = some (RJ4, TJ4, 4)) cinJ4 (by decide) tw71 dJ5_getValue_6d5f1_1 ?_
  exact hret _ _ _ _ _ _ _ dJ5_getValue_6d5f1_4 hP rfl hS (Nat.zero_le _) (Nat.zero_le _))
theorem vN5_length (he : p0 < n ∧ w p0 = sbV (bs + k0) mb cn) : gMetI l yJ5_length_8abf5 cJ5_length_8abf5 1 (some .int) 1 (fun _ => False) (nP dC dI cg kA bs) (kR kTab kA) [.ref (bs + p0)] (n, w) cn (n, w) := gEntryI (ty := .int) (by decide) rfl rfl nOK (Nat.le_of_ble_eq_true rfl) (fun p e s m args below meth c Q ls X hP hS hret hl => by
  have hx := X.hx
  have hb := X.hb
  have hP : nP dC dI cg kA bs (n, w) s s.heap := hP
  refine lv_aload_n hx hb dJ5_length_8abf5_0 rfl (lv_at hl 0 rfl) ?_
  refine nw_getI (k := 3) X hP he rfl (rfl : vwCl[1]? = some (RJ4, TJ4, 4)) cinJ4 (by decide) tw75 dJ5_length_8abf5_1 ?_
  exact hret _ _ _ _ dJ5_length_8abf5_4 hP hS)
theorem vN4_length (he : p0 < n ∧ w p0 = sbV (bs + k0) mb cn) : gMetI l yJ4_length_8abf5 cJ4_length_8abf5 1 (some .int) 2 (fun _ => False) (nP dC dI cg kA bs) (kR kTab kA) [.ref (bs + p0)] (n, w) cn (n, w) := gEntryI (ty := .int) (by decide) rfl rfl nOK (Nat.le_of_ble_eq_true rfl) (fun p e s m args below meth c Q ls X hP hS hret hl => by
  have hx := X.hx
  have hb := X.hb
  have hP : nP dC dI cg kA bs (n, w) s s.heap := hP
  refine lv_aload_n hx hb dJ4_length_8abf5_0 rfl (lv_at hl 0 rfl) ?_
  refine gCallPI (sb_cl hP) X nOK (gMetIA.of (vN5_length (dC := dC) (dI := dI) (cg := cg) (kA := kA) (bs := bs) he)) (va_cwSU 0 X.hts (gT_SU tw635 tw631 tw84 tw630 tw3 tw636) rfl rfl rfl ⟨by decide, by decide +kernel⟩ ⟨by decide, by decide⟩) rfl hP hS (noFn hS) (sb_rec hP he) hl.1 (Nat.le_of_ble_eq_true rfl) ⟨Nat.le_refl _, Nat.le_refl _⟩ dJ4_length_8abf5_1 (As := []) (rest := []) rfl (fun H locs hP hS => ?_)
  exact hret _ _ _ _ dJ4_length_8abf5_4 hP hS)
theorem vN0_init {g : Nat → Int32} (he : p0 < n ∧ w p0 = sbV (bs + k0) mb (nI M)) (hs : a < n ∧ w a = .inr (0, [.null, .int 0, .int 0, .int 0])) (hk : k0 < n ∧ w k0 = byV cg N f) (hC : ∀ w, (k0 < n ∧ w k0 = byV cg N f) → gMetO l yJ7_copyOfRange_39247 cJ7_copyOfRange_39247 3 (some (.array .byte)) 4 1 500 (nΩ bs) (nP dC dI cg kA bs) (kR kTab kA) [.ref (bs + k0), .int 0, .int (nI M)] (n, w) (n + 1, va_up w n (byV cg M g)) (fun a _ _ => a = bs + n)) : gMetVA l yJ0_init_db425 cJ0_init_db425 5 5 1 500 (nΩ bs) (nP dC dI cg kA bs) (kR kTab kA) [.ref (bs + a), .ref (bs + p0), .null] (n, w) (n + 1, va_up (va_up w n (byV cg M g)) a (.inr (0, [.ref (bs + n), .int 0, .int 0, .int 0]))) := gEntryVN (by decide) nOK (Nat.le_of_ble_eq_true rfl) (fun p e s m args below meth c Q ls X hin hP hS hret hl => by
  have hx := X.hx
  have hb := X.hb
  have hP : nP dC dI cg kA bs (n, w) s s.heap := hP
  have hna : a ≠ n := Nat.ne_of_lt hs.1
  refine lv_aload_n hx hb dJ0_init_db425_0 rfl (lv_at hl 0 rfl) ?_
  refine W.objInit hx hb X.hown (X.hts _ tw623) (X.hts _ tw45) (X.hts _ tw46) rfl (by rw [X.hml]; exact hl.1) rfl dJ0_init_db425_1 (Nat.le_of_ble_eq_true rfl) (Nat.le_of_ble_eq_true rfl) ?_
  refine W.eq (g2 := F0 m 4 ls []) rfl ?_
  refine lv_aload_n hx hb dJ0_init_db425_4 rfl (lv_at hl 1 rfl) ?_
  refine gCallWO X nOK (fun _ _ _ _ _ h => h) (vN5_getValue (dC := dC) (dI := dI) (cg := cg) (kA := kA) (bs := bs) he) (cwC 0 X (wT_good tw628) tw624 tw3 tw625 (X.hts _ tw627) ⟨by decide, by decide, by decide +kernel⟩ ⟨Nat.le_of_ble_eq_true rfl, Nat.le_of_ble_eq_true rfl⟩) rfl hP hS (noFn hS) (sb_rec hP he) hl.1 (Nat.le_of_ble_eq_true rfl) ⟨(Nat.le_of_ble_eq_true rfl), (Nat.le_of_ble_eq_true rfl)⟩ dJ0_init_db425_5 (As := []) (rest := []) rfl (fun H locs v hP hv hS => ?_)
  have hv : v = bs + k0 := hv
  subst hv
  refine lv_astore_n (lv' := [(3, .ref (bs + k0)), (0, .ref (bs + a)), (1, .ref (bs + p0)), (2, .null)]) hx hb dJ0_init_db425_8 rfl hl (by decide) rfl (fun ls hl => ?_)
  refine lv_aload_n hx hb dJ0_init_db425_9 rfl (lv_at hl 2 rfl) ?_
  refine gCallUI X nOK (gMetIA.of (vN4_length (dC := dC) (dI := dI) (cg := cg) (kA := kA) (bs := bs) he)) (va_cwO 0 X.hts (gT_O (owner := "java/lang/AbstractStringBuilder") tw629 tw631 tw630 tw632 tw633 tw4 tw634) rfl rfl rfl tw636 ⟨by decide, by decide, by decide +kernel⟩ ⟨Nat.le_of_ble_eq_true rfl, Nat.le_of_ble_eq_true rfl⟩) rfl hP hS (noFn hS) (sb_rec hP he) hl.1 (Nat.le_of_ble_eq_true rfl) ⟨(Nat.le_of_ble_eq_true rfl), (Nat.le_of_ble_eq_true rfl)⟩ dJ0_init_db425_10 (As := []) (rest := []) rfl (fun H locs hP hS => ?_)
  refine lv_istore (lv' := [(4, .int (nI M)), (3, .ref (bs + k0)), (0, .ref (bs + a)), (1, .ref (bs + p0)), (2, .null)]) hx hb dJ0_init_db425_13 hl (by decide) rfl (fun ls hl => ?_)
  refine lv_aload_n hx hb dJ0_init_db425_15 rfl (lv_at hl 3 rfl) ?_
  refine gCallWI X nOK (gMetIA.of (vN5_isLatin1 (dC := dC) (dI := dI) (cg := cg) (kA := kA) (bs := bs) he)) (gIsl X tw637 ⟨by decide, by decide⟩) rfl hP hS (noFn hS) (sb_rec hP he) hl.1 (Nat.le_of_ble_eq_true rfl) ⟨(Nat.le_of_ble_eq_true rfl), (Nat.le_of_ble_eq_true rfl)⟩ dJ0_init_db425_16 (As := []) (rest := []) rfl (fun H locs hP hS => ?_)
  refine lv_if_eq (tgt := 41) hx hb dJ0_init_db425_19 (by decide) (fun c1 => absurd c1 (by decide)) (fun _ => ?_)
  refine lv_aload_n hx hb dJ0_init_db425_22 rfl (lv_at hl 2 rfl) ?_
  refine lv_iconst (v := 0) hx hb dJ0_init_db425_23 (by decide) ?_
  refine nw_putF (k := 1) X hin hP hS (Or.inl (Nat.le_add_right _ _)) hs (rfl : vwCl[0]? = some (RJ0, TJ0, 4)) cinJ0 tyJ0_ok nmJ0 (by decide) rfl rfl (by decide +kernel) (by decide +kernel) (Nat.le_of_ble_eq_true rfl) tw658 dJ0_init_db425_24 (fun H locs hP hS => ?_)
  have hP : nP dC dI cg kA bs (n, va_up w a (.inr (0, [.null, .int 0, .int 0, .int 0]))) s H := hP
  have hP : nP dC dI cg kA bs (n, w) s H := hP.to (fun q _ => by
    by_cases h : q = a
    · subst h; rw [vat]; exact hs.2.symm
    · rw [vne h])
  refine lv_aload_n hx hb dJ0_init_db425_27 rfl (lv_at hl 2 rfl) ?_
  refine lv_aload_n hx hb dJ0_init_db425_28 rfl (lv_at hl 1 rfl) ?_
  refine lv_iconst (v := 0) hx hb dJ0_init_db425_29 (by decide) ?_
  refine lv_iload hx hb dJ0_init_db425_30 (lv_at hl 0 rfl) ?_
  refine gCallTO X nOK (fun _ _ _ _ _ h => h) (hC w hk) ⟨callB_of 3 X.hts (wT_good tw640) rfl rfl rfl (X.hts _ tw20) (X.hts _ tw638) ⟨by decide, by decide, by decide +kernel⟩ ⟨Nat.le_of_ble_eq_true rfl, Nat.le_of_ble_eq_true rfl⟩, X.hts _ tw639⟩ rfl hP hS (Fr_le hS.1) hl.1 (Nat.le_of_ble_eq_true rfl) ⟨(Nat.le_of_ble_eq_true rfl), (Nat.le_of_ble_eq_true rfl)⟩ dJ0_init_db425_32 (As := [.ref (bs + k0), .int 0, .int (nI M)]) (rest := [.ref (bs + a)]) rfl (fun H locs v hP hv hS => ?_)
  have hv : v = bs + n := hv
  subst hv
  refine nw_putF (k := 0) X hin hP hS (Or.inl (Nat.le_add_right _ _)) (fs := [.null, .int 0, .int 0, .int 0]) ⟨Nat.lt_succ_of_lt hs.1, (vne hna).trans hs.2⟩ (rfl : vwCl[0]? = some (RJ0, TJ0, 4)) cinJ0 tyJ0_ok nmJ0 (by decide) rfl rfl rfl rfl (Nat.le_of_ble_eq_true rfl) tw657 dJ0_init_db425_35 (fun H locs hP hS => ?_)
  refine lv_goto (tgt := 97) hx hb dJ0_init_db425_38 (by decide) ?_
  exact hret _ _ _ _ _ _ dJ0_init_db425_97 hP hS (Nat.le_of_ble_eq_true rfl) (Nat.le_of_ble_eq_true rfl))
theorem vN0_initSB {X1 : NW} (hM : gMetVA l yJ0_init_db425 cJ0_init_db425 5 5 1 500 (nΩ bs) (nP dC dI cg kA bs) (kR kTab kA) [.ref (bs + a), .ref (bs + p0), .null] (n, w) X1) : gMetVA l yJ0_init_81219 cJ0_init_81219 2 6 1 500 (nΩ bs) (nP dC dI cg kA bs) (kR kTab kA) [.ref (bs + a), .ref (bs + p0)] (n, w) X1 := gEntryVA (by decide) nOK (Nat.le_of_ble_eq_true rfl) (fun p e s m args below meth c Q ls X hP hS hret hl => by
  have hx := X.hx
  have hb := X.hb
  have hP : nP dC dI cg kA bs (n, w) s s.heap := hP
  refine lv_aload_n hx hb dJ0_init_81219_0 rfl (lv_at hl 0 rfl) ?_
  refine lv_aload_n hx hb dJ0_init_81219_1 rfl (lv_at hl 1 rfl) ?_
  refine lv_null hx hb dJ0_init_81219_2 ?_
  refine gCallCI X nOK hM (cwI 2 X.hts (wT_good tw622) rfl rfl rfl (X.hts _ tw5) (X.hts _ tw620) (X.hts _ tw621) rfl ⟨by decide, by decide, by decide +kernel⟩ ⟨Nat.le_of_ble_eq_true rfl, Nat.le_of_ble_eq_true rfl⟩) rfl hP hS (Fr_le hS.1) hl.1 (Nat.le_of_ble_eq_true rfl) ⟨(Nat.le_of_ble_eq_true rfl), (Nat.le_of_ble_eq_true rfl)⟩ dJ0_init_81219_3 (As := [.ref (bs + p0), .null]) (rest := []) rfl (fun H locs hP hS => ?_)
  exact hret _ _ _ _ _ _ dJ0_init_81219_6 hP hS (Nat.le_of_ble_eq_true rfl) (Nat.le_of_ble_eq_true rfl))
theorem vN4_toString (h : SBI cg bs p0 t (n, w)) : ∃ (g : Nat → Int32) (X1 : NW), X1.1 = n + 2 ∧ (∀ q, q < n → X1.2 q = w q) ∧ X1.2 n = .inr (0, [.ref (bs + (n + 1)), .int 0, .int 0, .int 0]) ∧ X1.2 (n + 1) = byV cg t.length g ∧ (∀ j, j < t.length → g j = t.getD j 0) ∧ gMetO l yJ4_toString_0e30d cJ4_toString_0e30d 1 (some (.object "java/lang/String")) 7 2 504 (nΩ bs) (nP dC dI cg kA bs) (kR kTab kA) [.ref (bs + p0)] (n, w) X1 (fun a _ _ => a = bs + n) := by
  obtain ⟨k0, N, f, mb, he, hk, ha, hN, hf⟩ := h
  have he : p0 < n ∧ w p0 = sbV (bs + k0) mb (nI t.length) := he
  have hk : k0 < n ∧ w k0 = byV cg N f := hk
  have he1 : p0 < n + 1 ∧ va_up w n (.inr (0, [.null, .int 0, .int 0, .int 0])) p0 = sbV (bs + k0) mb (nI t.length) := ⟨by omega, (vne (by omega)).trans he.2⟩
  have hk1 : k0 < n + 1 ∧ va_up w n (.inr (0, [.null, .int 0, .int 0, .int 0])) k0 = byV cg N f := ⟨by omega, (vne (by omega)).trans hk.2⟩
  obtain ⟨g, hg, hM⟩ : ∃ g : Nat → Int32, (∀ j, j < t.length → g j = f j) ∧ ∀ w, (k0 < n + 1 ∧ w k0 = byV cg N f) → gMetO l yJ7_copyOfRange_39247 cJ7_copyOfRange_39247 3 (some (.array .byte)) 4 1 500 (nΩ bs) (nP dC dI cg kA bs) (kR kTab kA) [.ref (bs + k0), .int 0, .int (nI t.length)] (n + 1, w) (n + 1 + 1, va_up w (n + 1) (byV cg t.length g)) (fun a _ _ => a = bs + (n + 1)) := by
    by_cases hMN : t.length = N
    · exact ⟨f, fun _ _ => rfl, fun w hk => vN7_copyR1 hk ha hMN hN.2.2⟩
    · exact ⟨va_cpy f (fun _ => 0) 0 0 t.length, fun j hj => by rw [pk_cpy_in (Nat.zero_le _) (by omega), Nat.zero_add, Nat.sub_zero], fun w hk => vN7_copyR2 hk ha hMN hN.1 hN.2.2⟩
  refine ⟨g, (n + 2, va_up (va_up (va_up w n (.inr (0, [.null, .int 0, .int 0, .int 0]))) (n + 1) (byV cg t.length g)) n (.inr (0, [.ref (bs + (n + 1)), .int 0, .int 0, .int 0]))), rfl, fun q hq => ?_, vat, ?_, fun j hj => (hg j hj).trans (hf j hj), gEntryO (rt := .object "java/lang/String") (by decide) rfl (Or.inl ⟨_, rfl⟩) nOK (fun _ _ _ _ _ h => h) (Nat.le_of_ble_eq_true rfl) (fun p e s m args below meth c Q ls X hP hS hret hl => ?_)⟩
  · show va_up (va_up (va_up w n _) (n + 1) _) n _ q = w q
    rw [vne (by omega), vne (by omega), vne (by omega)]
  · show va_up (va_up (va_up w n _) (n + 1) _) n _ (n + 1) = _
    rw [vne (by omega), vat]
  have hx := X.hx
  have hb := X.hb
  have hP : nP dC dI cg kA bs (n, w) s s.heap := hP
  refine nw_new (ci := 0) (tyT := tyJ0) [.null, .int 0, .int 0, .int 0] X hP hS cinJ0 tyJ0_ok tw615 tw616 tw5 rfl (fun j hj => by rcases (show j = 0 ∨ j = 1 ∨ j = 2 ∨ j = 3 by omega) with rfl | rfl | rfl | rfl <;> rfl) ⟨(Nat.le_of_ble_eq_true rfl), (Nat.le_of_ble_eq_true rfl)⟩ dJ4_toString_0e30d_0 (fun H hP hS => ?_)
  refine lv_dup hx hb dJ4_toString_0e30d_3 rfl ?_
  refine lv_aload_n hx hb dJ4_toString_0e30d_4 rfl (lv_at hl 0 rfl) ?_
  refine gCallCI X nOK (vN0_initSB (vN0_init (a := n) he1 ⟨Nat.lt_succ_self n, vat⟩ hk1 hM)) (cwI 1 X.hts (wT_good tw619) rfl rfl rfl (X.hts _ tw5) (X.hts _ tw617) (X.hts _ tw618) rfl ⟨by decide, by decide, by decide +kernel⟩ ⟨Nat.le_of_ble_eq_true rfl, Nat.le_of_ble_eq_true rfl⟩) rfl hP hS (Fr_le hS.1) hl.1 (Nat.le_of_ble_eq_true rfl) ⟨(Nat.le_of_ble_eq_true rfl), (Nat.le_of_ble_eq_true rfl)⟩ dJ4_toString_0e30d_5 (As := [.ref (bs + p0)]) (rest := [.ref (bs + n)]) rfl (fun H locs hP hS => ?_)
  exact hret _ _ _ _ _ _ _ dJ4_toString_0e30d_8 hP rfl hS (Nat.le_of_ble_eq_true rfl) (Nat.le_of_ble_eq_true rfl)
end NTOS
