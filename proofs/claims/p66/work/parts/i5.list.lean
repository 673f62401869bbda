theorem tw872 : (Jvm.Cond.fieldLink "java/util/ArrayList" (63 : Nat) "java/util/ArrayList" "modCount" "I") ∈ TBG := tb_t 872 (by decide +kernel) (by decide +kernel)
theorem tw1427 : (Jvm.Cond.fieldLink "java/lang/Integer" (191 : Nat) "java/lang/Integer$IntegerCache" "high" "I") ∈ TBG := tb_t 1427 (by decide +kernel) (by decide +kernel)
theorem tw1429 : (Jvm.Cond.fieldLink "java/lang/Integer" (195 : Nat) "java/lang/Integer$IntegerCache" "cache" "[Ljava/lang/Integer;") ∈ TBG := tb_t 1429 (by decide +kernel) (by decide +kernel)
theorem tw1522 : (Jvm.Cond.methodLink "java/util/ArrayList" (131 : Nat) ({ cls := "java/util/ArrayList", name := "add", desc := "(Ljava/lang/Object;[Ljava/lang/Object;I)V" } : Jvm.MethodName)) ∈ TBG := tb_t 1522 (by decide +kernel) (by decide +kernel)
theorem tw1524 : (Jvm.Cond.instanceMethod ({ cls := "java/util/ArrayList", name := "add", desc := "(Ljava/lang/Object;[Ljava/lang/Object;I)V" } : Jvm.MethodName)) ∈ TBG := tb_t 1524 (by decide +kernel) (by decide +kernel)
theorem tw1525 : (Jvm.Cond.code ({ cls := "java/util/ArrayList", name := "add", desc := "(Ljava/lang/Object;[Ljava/lang/Object;I)V" } : Jvm.MethodName) prog_43_method_24_code (4 : Nat) (Option.none : Option Jvm.ClassFile.FieldType)) ∈ TBG := tb_t 1525 (by decide +kernel) (by decide +kernel)
theorem tp14 : Cond.selects "java/util/ArrayList" ⟨"java/util/ArrayList", "add", "(Ljava/lang/Object;[Ljava/lang/Object;I)V"⟩ ⟨"java/util/ArrayList", "add", "(Ljava/lang/Object;[Ljava/lang/Object;I)V"⟩ ∈ TBG := tb_s (q := (⟨"java/util/ArrayList", "add", "(Ljava/lang/Object;[Ljava/lang/Object;I)V"⟩, 3)) 14 (by decide +kernel) (by decide +kernel)
/-! ArrayList.add(Object) over growing worlds -/
section NLST
variable {l : Launch} {dC : Nat → ClassId} {dI : Nat → Nat → Nat} {cg : Nat → ClassId} {kA : String → Nat → Nat} {bs i n eA v a k : Nat} {w : Nat → va_E} {mo sz : Int32} {F : State → Heap → Prop} {el : Nat → Nat}
theorem gs_add3 : GoodIn TBG (wsV RJx4a65c 131 RJx4a65c yJx4a65c_add_72be8 (wT yJx4a65c_add_72be8 cJx4a65c_add_72be8 4 none)) := gT_V tw1522 tw1524 tp14 tw25 tw1525
theorem hd_add3 : yJx4a65c_add_72be8.cls = RJx4a65c ∧ yJx4a65c_add_72be8.cls ≠ "java/lang/invoke/MethodHandle" ∧ yJx4a65c_add_72be8.cls ≠ "java/lang/invoke/VarHandle" ∧ (parseMethodDescriptor yJx4a65c_add_72be8.desc).map (fun d => d.parameters.length) = some 3 := ⟨rfl, by decide +kernel, by decide +kernel, by decide +kernel⟩
theorem vJL_addO {ea lev' mc' ms' : Nat} {X1 : NW} (hF : gFs (nΩ bs) F) (he : i < n ∧ w i = .inr (4, [.int mo, .ref ea, .int sz])) (hlev : lev' ≤ 4 ∧ mc' ≤ 1 ∧ ms' ≤ 10) (hM : gMetVA l yJx4a65c_add_72be8 cJx4a65c_add_72be8 4 lev' mc' ms' (nΩ bs) (gF (nP dC dI cg kA bs) F) (kR kTab kA) [.ref (bs + i), .ref v, .ref ea, .int sz] (n, va_up w i (.inr (4, [.int (mo + 1), .ref ea, .int sz]))) X1) : gMetIA l yJx4a65c_add_9ea2d cJx4a65c_add_9ea2d 2 (some .boolean) 5 1 10 (nΩ bs) (gF (nP dC dI cg kA bs) F) (kR kTab kA) [.ref (bs + i), .ref v] (n, w) 1 X1 := gEntryIA (ty := .boolean) (by decide) rfl (by decide +kernel) (gF_ok nOK hF) (Nat.le_of_ble_eq_true rfl) (fun p e s m args below meth c Q ls X hP hS hret hl => by
  have hx := X.hx
  have hb := X.hb
  have hP : gF (nP dC dI cg kA bs) F (n, w) s s.heap := hP
  have hlink := X.hts _ tw872
  have hsame : ∀ x, s.fieldFound? (TJx4a65c 0).1 (TJx4a65c 0).2.1 (TJx4a65c 0).2.2.1 = some x → s.fieldFound? RJx4a65c (TJx4a65c 0).2.1 (TJx4a65c 0).2.2.1 = some x := fun x h => u_same (X.hts _ tw871) x h
  have hi0 := hP.1.row he
  refine lv_aload_n hx hb dJx4a65c_add_9ea2d_0 rfl (lv_at hl 0 rfl) ?_
  refine lv_dup hx hb dJx4a65c_add_9ea2d_1 rfl ?_
  refine va_get (ref := RJx4a65c) X.hx X.hb X.hts cinJx4a65c X.hown hP.1.2.2.1 (cwo hi0) 0 rfl (rfl : vwCl[4]? = some (RJx4a65c, TJx4a65c, 3)) 0 (by decide) hlink hsame rfl dJx4a65c_add_9ea2d_2 ?_
  refine lv_iconst (v := 1) hx hb dJx4a65c_add_9ea2d_5 (by decide) ?_
  refine lv_iadd hx hb dJx4a65c_add_9ea2d_6 ?_
  refine va_putO (ref := RJx4a65c) X.hx X.hb X.hts cinJx4a65c tyJx4a65c tyJx4a65c_ok nmJx4a65c X.hown hP.1.2.2.1 hi0 (rfl : vwCl[4]? = some (RJx4a65c, TJx4a65c, 3)) 0 (by decide) hlink hsame rfl (tyJx4a65c_ok 0 (by decide)) rfl rfl (Nat.le_of_ble_eq_true rfl) dJx4a65c_add_9ea2d_7 (fun H1 j h4 hz oq => ?_)
  have hS1 := hS.put (k := j) hz oq (Or.inl (Nat.le_add_right _ _))
  have hP1 : gF (nP dC dI cg kA bs) F (n, va_up w i (.inr (4, [.int (mo + 1), .ref ea, .int sz]))) s H1 := ⟨hP.1.up (i := i) h4 hz oq, hF.2 s s.heap H1 (by omega) (fun q hq nq => oq q (fun z => nq (by show bs ≤ q; omega))) hP.2⟩
  have he1 : i < n ∧ va_up w i (.inr (4, [.int (mo + 1), .ref ea, .int sz])) i = .inr (4, [.int (mo + 1), .ref ea, .int sz]) := ⟨he.1, vat⟩
  refine lv_aload_n hx hb dJx4a65c_add_9ea2d_10 rfl (lv_at hl 0 rfl) ?_
  refine lv_aload_n hx hb dJx4a65c_add_9ea2d_11 rfl (lv_at hl 1 rfl) ?_
  refine lv_aload_n hx hb dJx4a65c_add_9ea2d_12 rfl (lv_at hl 0 rfl) ?_
  refine nw_get (k := 1) X hP1.1 he1 rfl (rfl : vwCl[4]? = some (RJx4a65c, TJx4a65c, 3)) cinJx4a65c (by decide) rfl tw865 dJx4a65c_add_9ea2d_13 ?_
  refine lv_aload_n hx hb dJx4a65c_add_9ea2d_16 rfl (lv_at hl 0 rfl) ?_
  refine nw_get (k := 2) X hP1.1 he1 rfl (rfl : vwCl[4]? = some (RJx4a65c, TJx4a65c, 3)) cinJx4a65c (by decide) rfl tw868 dJx4a65c_add_9ea2d_17 ?_
  refine gCallWV X (gF_ok nOK hF) hM (cw_V 3 X gs_add3 hd_add3 ⟨by omega, by omega⟩) rfl hP1 hS1 (Fr_le hS1.1) (va_recv hP1.1.2.2.1 (cwo (hP1.1.row he1)) (q0 := 0) (rfl : vwCl[4]? = some (RJx4a65c, TJx4a65c, 3)) rfl) hl.1 (Nat.le_of_ble_eq_true rfl) ⟨by show 0 + mc' ≤ 1; omega, by show 0 + ms' ≤ 10; omega⟩ dJx4a65c_add_9ea2d_20 (As := [.ref v, .ref ea, .int sz]) (rest := []) rfl (fun H locs hP hS => ?_)
  refine lv_iconst (v := 1) hx hb dJx4a65c_add_9ea2d_23 (by decide) ?_
  exact hret _ _ _ _ _ _ dJx4a65c_add_9ea2d_24 hP hS (by omega) (by omega))
/-- the first k elements -/
def elF (k : Nat) (el : Nat → Nat) : Nat → Option Nat := fun j => if j < k then some (el j) else none
/-- a list at place i holds k elements, in an array at place a -/
def LL (cg : Nat → ClassId) (bs eA i a k : Nat) (el : Nat → Nat) (X : NW) : Prop := i < X.1 ∧ ((k = 0 ∧ X.2 i = .inr (4, [.int 0, .ref eA, .int 0])) ∨ (0 < k ∧ a < X.1 ∧ a ≠ i ∧ X.2 i = .inr (4, [.int (nI k), .ref (bs + a), .int (nI k)]) ∧ X.2 a = .inl (cg 6, 10, .inr (.inr (.inr (.inr (elF k el)))))))
theorem elF_0 : elF 1 (va_up el 0 v) = va_up (fun _ => none) 0 (some v) := funext fun j => by
  unfold elF
  by_cases h : j = 0
  · subst h; rw [if_pos (by omega), vat, vat]
  · rw [if_neg (by omega), vne h]
theorem elF_s : elF (k + 1) (va_up el k v) = va_up (elF k el) k (some v) := funext fun j => by
  unfold elF
  by_cases h : j = k
  · subst h; rw [if_pos (by omega), vat, vat]
  · by_cases h2 : j < k
    · rw [if_pos (by omega), vne h, vne h, if_pos h2]
    · rw [if_neg (by omega), vne h, if_neg h2]
theorem vL_add {ci : Nat} {r : vw_C} (hF : gFs (nΩ bs) F) (hj0 : ∀ U H, F U H → jE dC dI cg eA bs U H) (hk : k < 10) (hL : LL cg bs eA i a k el (n, w)) (hc : vwCl[ci]? = some r) (hca : Cond.castable r.1 "java/lang/Object" ∈ xws) (hel : ∀ (X : NW) U H, n ≤ X.1 → (∀ q, q < n → q ≠ i → (0 < k → q ≠ a) → X.2 q = w q) → gF (nP dC dI cg kA bs) F X U H → eP dC v ci H) : ∃ a' X1, LL cg bs eA i a' (k + 1) (va_up el k v) X1 ∧ (n ≤ X1.1 ∧ (∀ q, q < n → q ≠ i → (0 < k → q ≠ a) → X1.2 q = w q)) ∧ (a' = a ∧ 0 < k ∨ a' = n ∧ k = 0) ∧ gMetIA l yJx4a65c_add_9ea2d cJx4a65c_add_9ea2d 2 (some .boolean) 5 1 10 (nΩ bs) (gF (nP dC dI cg kA bs) F) (kR kTab kA) [.ref (bs + i), .ref v] (n, w) 1 X1 := by
  obtain ⟨hi, h | h⟩ := hL
  · obtain ⟨hk0, he⟩ := h
    subst hk0
    have hi : i < n := hi
    have he1 : va_up w i (.inr (4, [.int (0 + 1), .ref eA, .int 0])) i = .inr (4, [.int (0 + 1), .ref eA, .int 0]) := vat
    refine ⟨n, _, ⟨?_, Or.inr ⟨by omega, ?_, by omega, ?_, ?_⟩⟩, ⟨?_, fun q hq h1 h2 => ?_⟩, Or.inr ⟨rfl, rfl⟩, vJL_addO hF ⟨hi, he⟩ ⟨Nat.le_refl _, Nat.le_refl _, Nat.le_refl _⟩ (vJL_add1 hF hj0 hi he1 hc hca (fun U H h => hel _ U H ?_ (fun q hq h1 h2 => ?_) h))⟩
    · show i < n + 1; omega
    · show n < n + 1; omega
    · exact vat.trans (by rw [show nI (0 + 1) = (1 : Int32) by decide, show (0 : Int32) + 1 = 1 by decide])
    · show va_up (va_up _ n _) i _ n = _
      rw [vne (by omega), vat, elF_0]
    · show n ≤ n + 1; omega
    · show va_up (va_up _ n _) i _ q = w q
      unfold grW
      rw [vne h1, vne (by omega), vne h1, vne (by omega), vne h1]
    · show n ≤ n + 1; omega
    · show grW cg bs n i _ _ q = w q
      unfold grW
      rw [vne h1, vne (by omega), vne h1]
  · obtain ⟨hk0, ha, hai, he, hea⟩ := h
    have hi : i < n := hi
    have ha : a < n := ha
    have hea : w a = _ := hea
    have e1 : nI k + 1 = nI (k + 1) := nI_add k 1
    have he1 : va_up w i (.inr (4, [.int (nI k + 1), .ref (bs + a), .int (nI k)])) i = .inr (4, [.int (nI k + 1), .ref (bs + a), .int (nI k)]) := vat
    have hea1 : va_up w i (.inr (4, [.int (nI k + 1), .ref (bs + a), .int (nI k)])) a = .inl (cg 6, 10, .inr (.inr (.inr (.inr (elF k el))))) := (vne hai).trans hea
    refine ⟨a, _, ⟨hi, Or.inr ⟨by omega, ha, hai, ?_, ?_⟩⟩, ⟨Nat.le_refl _, fun q hq h1 h2 => ?_⟩, Or.inl ⟨rfl, hk0⟩, vJL_addO hF ⟨hi, he⟩ ⟨by omega, by omega, by omega⟩ (vJL_add3 hF hi ha (Ne.symm hai) he1 hea1 hk (by omega) hc hca (fun U H h => hel _ U H (Nat.le_refl _) (fun q hq h1 h2 => vne h1) h))⟩
    · show va_up (va_up _ a _) i _ i = _
      rw [vat, e1]
    · show va_up (va_up _ a _) i _ a = _
      rw [vne hai, vat, elF_s]
    · show va_up (va_up _ a _) i _ q = w q
      rw [vne h1, vne (h2 hk0), vne h1]
end NLST
/-! Integer.valueOf of a small number -/
section NVAL
variable {l : Launch} {dC : Nat → ClassId} {dI : Nat → Nat → Nat} {cg : Nat → ClassId} {kA : String → Nat → Nat} {bs b1 cA v : Nat} {iA : Nat → Nat} {F : State → Heap → Prop} {S : NW}
/-- the cache of small numbers -/
def icP (dC : Nat → ClassId) (dI : Nat → Nat → Nat) (iA : Nat → Nat) (cA b1 bs : Nat) : State → Heap → Prop := fun U H => va_Z "java/lang/Integer$IntegerCache" "high" "I" (.int 127) (nΩ bs) U H ∧ va_Z "java/lang/Integer$IntegerCache" "cache" "[Ljava/lang/Integer;" (.ref cA) (nΩ bs) U H ∧ (∃ cf : Nat → Value, va_T (.object "java/lang/Integer") cA 256 cf (nΩ bs) U H ∧ ∀ n, n ≤ 4 → cf (n + 128) = .ref (iA n)) ∧ iP dC dI iA b1 H ∧ b1 ≤ bs
theorem icP_fs : gFs (nΩ bs) (icP dC dI iA cA b1 bs) := ⟨fun u U H hvm h => ⟨va_Z.moved hvm h.1, va_Z.moved hvm h.2.1, h.2.2.1.elim (fun cf q => ⟨cf, q.1.moved hvm, q.2⟩), h.2.2.2⟩, fun U H H1 hz hk h => ⟨va_Z.kept h.1 hk, va_Z.kept h.2.1 hk, h.2.2.1.elim (fun cf q => ⟨cf, q.1.kept hk, q.2⟩), fun n hn => ⟨(h.2.2.2.1 n hn).1, (h.2.2.2.1 n hn).2.kept (hk _ (h.2.2.2.1 n hn).2.lt (fun z => by have := (h.2.2.2.1 n hn).1; have := h.2.2.2.2; have z : bs ≤ iA n := z; omega))⟩, h.2.2.2.2⟩⟩
theorem vJ6_valueOf (hF : gFs (nΩ bs) F) (hd : ∀ U H, F U H → icP dC dI iA cA b1 bs U H) (hv : v ≤ 4) : gMetO l yJ6_valueOf_2dffe cJ6_valueOf_2dffe 1 (some (.object "java/lang/Integer")) 0 0 0 (fun _ => False) (gF (nP dC dI cg kA bs) F) (kR kTab kA) [.int (nI v)] S S (fun a _ _ => a = iA v) := gEntryO (rt := .object "java/lang/Integer") (by decide) rfl (Or.inl ⟨_, rfl⟩) (gF_ok nOK hF.no) (fun _ _ _ _ _ h => h) (Nat.le_of_ble_eq_true rfl) (fun p e s m args below meth c Q ls X hP hS hret hl => by
  have hx := X.hx
  have hb := X.hb
  have hd0 := hd _ _ hP.2
  obtain ⟨cf, hcf, hce⟩ := hd0.2.2.1
  refine lv_iload_n hx hb dJ6_valueOf_2dffe_0 rfl (lv_at hl 0 rfl) ?_
  refine lv_bipush (v := -128) hx hb dJ6_valueOf_2dffe_1 (by decide) ?_
  refine lv_icmp_lt (tgt := 23) hx hb dJ6_valueOf_2dffe_3 (by decide) (fun c1 => absurd c1 ?_) (fun _ => ?_)
  · rcases (show v = 0 ∨ v = 1 ∨ v = 2 ∨ v = 3 ∨ v = 4 by omega) with rfl | rfl | rfl | rfl | rfl <;> decide
  refine lv_iload_n hx hb dJ6_valueOf_2dffe_6 rfl (lv_at hl 0 rfl) ?_
  refine va_gets hx hb hd0.1 va_S.rf X.hown (X.hts _ tw1427) (fun _ h => h) dJ6_valueOf_2dffe_7 ?_
  refine lv_icmp_gt (tgt := 23) hx hb dJ6_valueOf_2dffe_10 (by decide) (fun c1 => absurd c1 ?_) (fun _ => ?_)
  · rcases (show v = 0 ∨ v = 1 ∨ v = 2 ∨ v = 3 ∨ v = 4 by omega) with rfl | rfl | rfl | rfl | rfl <;> decide
  refine va_gets hx hb hd0.2.1 va_S.rf X.hown (X.hts _ tw1429) (fun _ h => h) dJ6_valueOf_2dffe_13 ?_
  refine lv_iload_n hx hb dJ6_valueOf_2dffe_16 rfl (lv_at hl 0 rfl) ?_
  refine lv_sipush (v := 128) hx hb dJ6_valueOf_2dffe_17 (by decide) ?_
  refine lv_iadd hx hb dJ6_valueOf_2dffe_20 ?_
  rw [show nI v + 128 = nI (v + 128) from nI_add v 128]
  refine vb_tq (v := .ref (iA v)) hx hb hcf va_S.rf (show vp_in (nI (v + 128)) 256 from nI_in (by omega) (by omega)) (by rw [nI_c (by omega)]; exact hce v hv) dJ6_valueOf_2dffe_21 ?_
  exact hret _ _ _ _ _ _ _ dJ6_valueOf_2dffe_22 hP rfl hS (Nat.le_refl _) (Nat.le_refl _))
end NVAL
