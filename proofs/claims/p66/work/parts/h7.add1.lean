theorem tw1526 : (Jvm.Cond.methodLink "java/util/ArrayList" (129 : Nat) ({ cls := "java/util/ArrayList", name := "grow", desc := "()[Ljava/lang/Object;" } : Jvm.MethodName)) ∈ TBG := tb_t 1526 (by decide +kernel) (by decide +kernel)
theorem tw1528 : (Jvm.Cond.instanceMethod ({ cls := "java/util/ArrayList", name := "grow", desc := "()[Ljava/lang/Object;" } : Jvm.MethodName)) ∈ TBG := tb_t 1528 (by decide +kernel) (by decide +kernel)
theorem tw1529 : (Jvm.Cond.code ({ cls := "java/util/ArrayList", name := "grow", desc := "()[Ljava/lang/Object;" } : Jvm.MethodName) prog_43_method_7_code (1 : Nat) (Option.some (Jvm.ClassFile.FieldType.array (Jvm.ClassFile.FieldType.object "java/lang/Object")))) ∈ TBG := tb_t 1529 (by decide +kernel) (by decide +kernel)
theorem tp15 : Cond.selects "java/util/ArrayList" ⟨"java/util/ArrayList", "grow", "()[Ljava/lang/Object;"⟩ ⟨"java/util/ArrayList", "grow", "()[Ljava/lang/Object;"⟩ ∈ TBG := tb_s (q := (⟨"java/util/ArrayList", "grow", "()[Ljava/lang/Object;"⟩, 3)) 15 (by decide +kernel) (by decide +kernel)
/-! the first element of a list -/
section HAD1
variable {l : Launch} {dC : Nat → ClassId} {dI : Nat → Nat → Nat} {cg : Nat → ClassId} {kA : String → Nat → Nat} {bs i n eA v : Nat} {w : Nat → va_E} {mo : Int32} {F : State → Heap → Prop}
theorem gs_gr : GoodIn TBG (wsV RJx4a65c 129 RJx4a65c yJx4a65c_grow_d5877 (wT yJx4a65c_grow_d5877 cJx4a65c_grow_d5877 1 (some (.array (.object "java/lang/Object"))))) := gT_V tw1526 tw1528 tp15 tw25 tw1529
theorem hd_gr : yJx4a65c_grow_d5877.cls = RJx4a65c ∧ yJx4a65c_grow_d5877.cls ≠ "java/lang/invoke/MethodHandle" ∧ yJx4a65c_grow_d5877.cls ≠ "java/lang/invoke/VarHandle" ∧ (parseMethodDescriptor yJx4a65c_grow_d5877.desc).map (fun d => d.parameters.length) = some 0 := ⟨rfl, by decide +kernel, by decide +kernel, by decide +kernel⟩
/-- the world behind grow() -/
def grW (cg : Nat → ClassId) (bs n i : Nat) (mo : Int32) (w : Nat → va_E) : Nat → va_E := va_up (va_up w n (.inl (cg 6, 10, .inr (.inr (.inr (.inr fun _ => none)))))) i (.inr (4, [.int mo, .ref (bs + n), .int 0]))
theorem vJL_add1 {ci : Nat} {r : vw_C} (hF : gFs (nΩ bs) F) (hj0 : ∀ U H, F U H → jE dC dI cg eA bs U H) (hi : i < n) (he : w i = .inr (4, [.int mo, .ref eA, .int 0])) (hc : vwCl[ci]? = some r) (hca : Cond.castable r.1 "java/lang/Object" ∈ xws) (hel : ∀ U H, gF (nP dC dI cg kA bs) F (n + 1, grW cg bs n i mo w) U H → eP dC v ci H) : gMetVA l yJx4a65c_add_72be8 cJx4a65c_add_72be8 4 4 1 10 (nΩ bs) (gF (nP dC dI cg kA bs) F) (kR kTab kA) [.ref (bs + i), .ref v, .ref eA, .int 0] (n, w) (n + 1, va_up (va_up (grW cg bs n i mo w) n (.inl (cg 6, 10, .inr (.inr (.inr (.inr (va_up (fun _ => none) 0 (some v)))))))) i (.inr (4, [.int mo, .ref (bs + n), .int 1]))) := gEntryVN (by decide) (gF_ok nOK hF) (Nat.le_of_ble_eq_true rfl) (fun p e s m args below meth c Q ls X hmn hP hS hret hl => by
  have hx := X.hx
  have hb := X.hb
  have hP : gF (nP dC dI cg kA bs) F (n, w) s s.heap := hP
  have hj := hj0 _ _ hP.2
  have hz0 : bs ≤ s.heap.size := by
    have h1 : s.heap.size = bs + n := hP.1.1
    omega
  have hi0 : va_at (dC, dI) vwCl (bs + i, .inr (4, [.int mo, .ref eA, .int 0])) s.heap := he ▸ hP.1.2.1 i hi
  refine lv_iload_n hx hb dJx4a65c_add_72be8_0 rfl (lv_at hl 3 rfl) ?_
  refine lv_aload_n hx hb dJx4a65c_add_72be8_1 rfl (lv_at hl 2 rfl) ?_
  refine va_tlen (v := 0) hx hb hj.2.1 (nS_n hz0 hS) rfl dJx4a65c_add_72be8_2 ?_
  refine lv_icmp_ne (tgt := 11) hx hb dJx4a65c_add_72be8_3 (by decide) (fun c1 => absurd rfl c1) (fun _ => ?_)
  refine lv_aload_n hx hb dJx4a65c_add_72be8_6 rfl (lv_at hl 0 rfl) ?_
  refine gCallWO X (gF_ok nOK hF) (fun _ _ _ _ _ h => h) (vJL_grow (dC := dC) (dI := dI) (cg := cg) (kA := kA) (bs := bs) (eA := eA) hF hj0 hi he) (cw_V 0 X gs_gr hd_gr ⟨by decide, by decide⟩) rfl hP hS (Fr_le hS.1) (va_recv hP.1.2.2.1 (cwo hi0) (q0 := 0) (rfl : vwCl[4]? = some (RJx4a65c, TJx4a65c, 3)) rfl) hl.1 (Nat.le_of_ble_eq_true rfl) ⟨Nat.le_refl _, Nat.le_refl _⟩ dJx4a65c_add_72be8_7 (As := []) (rest := []) rfl (fun H locs a hP hB hS => ?_)
  have hB : a = bs + n := hB
  subst hB
  have hP : gF (nP dC dI cg kA bs) F (n + 1, grW cg bs n i mo w) s H := hP
  refine lv_astore_n (lv' := [(2, .ref (bs + n)), (0, .ref (bs + i)), (1, .ref v), (3, .int 0)]) hx hb dJx4a65c_add_72be8_10 rfl hl (by decide) rfl (fun ls hl => ?_)
  have gk : grW cg bs n i mo w n = .inl (cg 6, 10, .inr (.inr (.inr (.inr fun _ => none)))) := by
    unfold grW
    rw [vne (by omega), vat]
  have gi : grW cg bs n i mo w i = .inr (4, [.int mo, .ref (bs + n), .int 0]) := by
    unfold grW
    rw [vat]
  refine lv_aload_n hx hb dJx4a65c_add_72be8_11 rfl (lv_at hl 0 rfl) ?_
  refine lv_iload_n hx hb dJx4a65c_add_72be8_12 rfl (lv_at hl 3 rfl) ?_
  refine lv_aload_n hx hb dJx4a65c_add_72be8_13 rfl (lv_at hl 2 rfl) ?_
  refine nw_aastO X hP.1 hS (Or.inl (Nat.le_add_right _ _)) (by show n < n + 1; omega) gk (hel _ _ hP) hc (X.ks.2.1 _ hca) (show vp_in 0 10 from nI_in (c := 0) (by omega) (by omega)) dJx4a65c_add_72be8_14 (fun H1 locs1 hP1 hz1 oq1 hS1 => ?_)
  rw [tn0] at hP1
  have hF1 := hF.2 s H H1 (by omega) (fun q hq nq => oq1 q (fun z => nq (by show bs ≤ q; omega))) hP.2
  refine lv_aload_n hx hb dJx4a65c_add_72be8_15 rfl (lv_at hl 1 rfl) ?_
  refine lv_iload_n hx hb dJx4a65c_add_72be8_16 rfl (lv_at hl 3 rfl) ?_
  refine lv_iconst (v := 1) hx hb dJx4a65c_add_72be8_17 (by decide) ?_
  refine lv_iadd hx hb dJx4a65c_add_72be8_18 ?_
  rw [show (0 : Int32) + 1 = 1 by decide]
  have hi1 : va_at (dC, dI) vwCl (bs + i, .inr (4, [.int mo, .ref (bs + n), .int 0])) H1 := by
    have h1 := hP1.2.1 i (by show i < n + 1; omega)
    have h1 : va_at (dC, dI) vwCl (bs + i, va_up (grW cg bs n i mo w) n (.inl (cg 6, 10, .inr (.inr (.inr (.inr (va_up (fun _ => none) 0 (some v))))))) i) H1 := h1
    rw [vne (by omega), gi] at h1
    exact h1
  refine va_putO X.hx X.hb X.hts cinJx4a65c tyJx4a65c tyJx4a65c_ok nmJx4a65c X.hown hP1.2.2.1 hi1 (rfl : vwCl[4]? = some (RJx4a65c, TJx4a65c, 3)) 2 (by decide) (X.hts _ tw868) (fun x h => h) rfl (tyJx4a65c_ok 2 (by decide)) rfl rfl (Nat.le_of_ble_eq_true rfl) dJx4a65c_add_72be8_19 (fun H2 j h4 hz oq => ?_)
  have hF2 := hF.2 s H1 H2 (by omega) (fun q hq nq => oq q (fun z => nq (by show bs ≤ q; omega))) hF1
  exact hret _ _ _ _ _ _ dJx4a65c_add_72be8_22 ⟨hP1.up (i := i) h4 hz oq, hF2⟩ (hS1.put (k := j) hz oq (Or.inl (Nat.le_add_right _ _))) (Nat.le_refl _) (Nat.le_refl _))
end HAD1
