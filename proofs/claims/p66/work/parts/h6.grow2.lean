theorem tw1530 : (Jvm.Cond.methodLink "java/util/ArrayList" (69 : Nat) ({ cls := "java/util/ArrayList", name := "grow", desc := "(I)[Ljava/lang/Object;" } : Jvm.MethodName)) ∈ TBG := tb_t 1530 (by decide +kernel) (by decide +kernel)
theorem tw1532 : (Jvm.Cond.instanceMethod ({ cls := "java/util/ArrayList", name := "grow", desc := "(I)[Ljava/lang/Object;" } : Jvm.MethodName)) ∈ TBG := tb_t 1532 (by decide +kernel) (by decide +kernel)
theorem tw1533 : (Jvm.Cond.code ({ cls := "java/util/ArrayList", name := "grow", desc := "(I)[Ljava/lang/Object;" } : Jvm.MethodName) prog_43_method_6_code (4 : Nat) (Option.some (Jvm.ClassFile.FieldType.array (Jvm.ClassFile.FieldType.object "java/lang/Object")))) ∈ TBG := tb_t 1533 (by decide +kernel) (by decide +kernel)
theorem tp16 : Cond.selects "java/util/ArrayList" ⟨"java/util/ArrayList", "grow", "(I)[Ljava/lang/Object;"⟩ ⟨"java/util/ArrayList", "grow", "(I)[Ljava/lang/Object;"⟩ ∈ TBG := tb_s (q := (⟨"java/util/ArrayList", "grow", "(I)[Ljava/lang/Object;"⟩, 3)) 16 (by decide +kernel) (by decide +kernel)
/-! grow() of an empty list -/
section HGR2
variable {l : Launch} {dC : Nat → ClassId} {dI : Nat → Nat → Nat} {cg : Nat → ClassId} {kA : String → Nat → Nat} {bs i n eA : Nat} {w : Nat → va_E} {mo : Int32} {F : State → Heap → Prop}
theorem gs_grI : GoodIn TBG (wsV RJx4a65c 69 RJx4a65c yJx4a65c_grow_92f84 (wT yJx4a65c_grow_92f84 cJx4a65c_grow_92f84 4 (some (.array (.object "java/lang/Object"))))) := gT_V tw1530 tw1532 tp16 tw25 tw1533
theorem hd_grI : yJx4a65c_grow_92f84.cls = RJx4a65c ∧ yJx4a65c_grow_92f84.cls ≠ "java/lang/invoke/MethodHandle" ∧ yJx4a65c_grow_92f84.cls ≠ "java/lang/invoke/VarHandle" ∧ (parseMethodDescriptor yJx4a65c_grow_92f84.desc).map (fun d => d.parameters.length) = some 1 := ⟨rfl, by decide +kernel, by decide +kernel, by decide +kernel⟩
theorem vJL_grow (hF : gFs (nΩ bs) F) (hj0 : ∀ U H, F U H → jE dC dI cg eA bs U H) (hi : i < n) (he : w i = .inr (4, [.int mo, .ref eA, .int 0])) : gMetO l yJx4a65c_grow_d5877 cJx4a65c_grow_d5877 1 (some (.array (.object "java/lang/Object"))) 3 1 10 (nΩ bs) (gF (nP dC dI cg kA bs) F) (kR kTab kA) [.ref (bs + i)] (n, w) (n + 1, va_up (va_up w n (.inl (cg 6, 10, .inr (.inr (.inr (.inr fun _ => none)))))) i (.inr (4, [.int mo, .ref (bs + n), .int 0]))) (fun a _ _ => a = bs + n) := gEntryO (by decide) rfl (Or.inr ⟨_, rfl⟩) (gF_ok nOK hF) (fun _ _ _ _ _ h => h) (Nat.le_of_ble_eq_true rfl) (fun p e s m args below meth c Q ls X hP hS hret hl => by
  have hx := X.hx
  have hb := X.hb
  have hP : gF (nP dC dI cg kA bs) F (n, w) s s.heap := hP
  have hi0 : va_at (dC, dI) vwCl (bs + i, .inr (4, [.int mo, .ref eA, .int 0])) s.heap := he ▸ hP.1.2.1 i hi
  refine lv_aload_n hx hb dJx4a65c_grow_d5877_0 rfl (lv_at hl 0 rfl) ?_
  refine lv_aload_n hx hb dJx4a65c_grow_d5877_1 rfl (lv_at hl 0 rfl) ?_
  refine va_get X.hx X.hb X.hts cinJx4a65c X.hown hP.1.2.2.1 (cwo hi0) 0 rfl (rfl : vwCl[4]? = some (RJx4a65c, TJx4a65c, 3)) 2 (by decide) (X.hts _ tw868) (fun x h => h) rfl dJx4a65c_grow_d5877_2 ?_
  refine lv_iconst (v := 1) hx hb dJx4a65c_grow_d5877_5 (by decide) ?_
  refine lv_iadd hx hb dJx4a65c_grow_d5877_6 ?_
  rw [show (0 : Int32) + 1 = 1 by decide]
  refine gCallWO X (gF_ok nOK hF) (fun _ _ _ _ _ h => h) (vJL_growI (dC := dC) (dI := dI) (cg := cg) (kA := kA) (bs := bs) (eA := eA) hF hj0 hi he) (cw_V 1 X gs_grI hd_grI ⟨by decide, by decide⟩) rfl hP hS (Fr_le hS.1) (va_recv hP.1.2.2.1 (cwo hi0) (q0 := 0) (rfl : vwCl[4]? = some (RJx4a65c, TJx4a65c, 3)) rfl) hl.1 (Nat.le_of_ble_eq_true rfl) ⟨Nat.le_refl _, Nat.le_refl _⟩ dJx4a65c_grow_d5877_7 (As := [.int 1]) (rest := []) rfl (fun H locs a hP hB hS => ?_)
  exact hret _ _ _ _ _ _ a dJx4a65c_grow_d5877_10 hP hB hS (Nat.le_refl _) (Nat.le_refl _))
end HGR2
