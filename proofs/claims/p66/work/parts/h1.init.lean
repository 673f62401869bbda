theorem tw23 : (Jvm.Cond.initialized "java/util/AbstractCollection") ∈ TBG := tb_t 23 (by decide +kernel) (by decide +kernel)
theorem tw816 : (Jvm.Cond.methodLink "GranaryWatchLaw$Cat" (1 : Nat) ({ cls := "java/lang/Object", name := "<init>", desc := "()V" } : Jvm.MethodName)) ∈ TBG := tb_t 816 (by decide +kernel) (by decide +kernel)
theorem tw859 : (Jvm.Cond.methodLink "java/util/AbstractList" (1 : Nat) ({ cls := "java/util/AbstractCollection", name := "<init>", desc := "()V" } : Jvm.MethodName)) ∈ TBG := tb_t 859 (by decide +kernel) (by decide +kernel)
theorem tw860 : (Jvm.Cond.instanceMethod ({ cls := "java/util/AbstractCollection", name := "<init>", desc := "()V" } : Jvm.MethodName)) ∈ TBG := tb_t 860 (by decide +kernel) (by decide +kernel)
theorem tw861 : (Jvm.Cond.code ({ cls := "java/util/AbstractCollection", name := "<init>", desc := "()V" } : Jvm.MethodName) prog_41_method_1_code (1 : Nat) (Option.none : Option Jvm.ClassFile.FieldType)) ∈ TBG := tb_t 861 (by decide +kernel) (by decide +kernel)
theorem tw862 : (Jvm.Cond.methodLink "java/util/AbstractCollection" (1 : Nat) ({ cls := "java/lang/Object", name := "<init>", desc := "()V" } : Jvm.MethodName)) ∈ TBG := tb_t 862 (by decide +kernel) (by decide +kernel)
theorem tw869 : (Jvm.Cond.fieldLink "java/util/AbstractList" (7 : Nat) "java/util/AbstractList" "modCount" "I") ∈ TBG := tb_t 869 (by decide +kernel) (by decide +kernel)
theorem tw950 : (Jvm.Cond.methodLink "GranaryWatchLaw$Sack" (1 : Nat) ({ cls := "java/lang/Object", name := "<init>", desc := "()V" } : Jvm.MethodName)) ∈ TBG := tb_t 950 (by decide +kernel) (by decide +kernel)
/-! the first words of the law's own objects -/
section HINI
variable {l : Launch} {dC : Nat → ClassId} {dI : Nat → Nat → Nat} {cg : Nat → ClassId} {kA : String → Nat → Nat} {bs i n a : Nat} {w : Nat → va_E} {S : NW}
theorem vX11_new : gMetVA l yX11_init cX11_init 1 1 0 0 (nΩ bs) (nP dC dI cg kA bs) (kR kTab kA) [.ref a] S S := gEntryVN (by decide) nOK (Nat.le_of_ble_eq_true rfl) (fun p e s m args below meth c Q ls X hin hP hS hret hl => by
  have hx := X.hx
  have hb := X.hb
  refine lv_aload_n hx hb dX11_init_0 rfl (lv_at hl 0 rfl) ?_
  refine W.objInit hx hb X.hown (X.hts _ tw816) (X.hts _ tw45) (X.hts _ tw46) rfl (by rw [X.hml]; exact hl.1) rfl dX11_init_1 (Nat.le_of_ble_eq_true rfl) (Nat.le_of_ble_eq_true rfl) ?_
  refine W.eq (g2 := F0 m 4 ls []) rfl ?_
  exact hret _ _ _ _ _ _ dX11_init_4 hP hS (Nat.le_refl _) (Nat.le_refl _))
theorem vX13_new : gMetVA l yX13_init cX13_init 1 1 0 0 (nΩ bs) (nP dC dI cg kA bs) (kR kTab kA) [.ref a] S S := gEntryVN (by decide) nOK (Nat.le_of_ble_eq_true rfl) (fun p e s m args below meth c Q ls X hin hP hS hret hl => by
  have hx := X.hx
  have hb := X.hb
  refine lv_aload_n hx hb dX13_init_0 rfl (lv_at hl 0 rfl) ?_
  refine W.objInit hx hb X.hown (X.hts _ tw950) (X.hts _ tw45) (X.hts _ tw46) rfl (by rw [X.hml]; exact hl.1) rfl dX13_init_1 (Nat.le_of_ble_eq_true rfl) (Nat.le_of_ble_eq_true rfl) ?_
  refine W.eq (g2 := F0 m 4 ls []) rfl ?_
  exact hret _ _ _ _ _ _ dX13_init_4 hP hS (Nat.le_refl _) (Nat.le_refl _))
theorem vJC_init : gMetVA l yJxa1e45_init_da8c8 cJxa1e45_init_da8c8 1 1 0 0 (nΩ bs) (nP dC dI cg kA bs) (kR kTab kA) [.ref a] S S := gEntryVN (by decide) nOK (Nat.le_of_ble_eq_true rfl) (fun p e s m args below meth c Q ls X hin hP hS hret hl => by
  have hx := X.hx
  have hb := X.hb
  refine lv_aload_n hx hb dJxa1e45_init_da8c8_0 rfl (lv_at hl 0 rfl) ?_
  refine W.objInit hx hb X.hown (X.hts _ tw862) (X.hts _ tw45) (X.hts _ tw46) rfl (by rw [X.hml]; exact hl.1) rfl dJxa1e45_init_da8c8_1 (Nat.le_of_ble_eq_true rfl) (Nat.le_of_ble_eq_true rfl) ?_
  refine W.eq (g2 := F0 m 4 ls []) rfl ?_
  exact hret _ _ _ _ _ _ dJxa1e45_init_da8c8_4 hP hS (Nat.le_refl _) (Nat.le_refl _))
theorem vJA_init {el : Value} (hi : i < n) (he : w i = .inr (4, [.int 0, el, .int 0])) : gMetVA l yJxc12de_init_da8c8 cJxc12de_init_da8c8 1 2 0 0 (nΩ bs) (nP dC dI cg kA bs) (kR kTab kA) [.ref (bs + i)] (n, w) (n, w) := gEntryVN (by decide) nOK (Nat.le_of_ble_eq_true rfl) (fun p e s m args below meth c Q ls X hin hP hS hret hl => by
  have hx := X.hx
  have hb := X.hb
  refine lv_aload_n hx hb dJxc12de_init_da8c8_0 rfl (lv_at hl 0 rfl) ?_
  refine gCallCI X nOK (vJC_init (dC := dC) (dI := dI) (cg := cg) (kA := kA) (bs := bs) (a := bs + i) (S := (n, w))) (cwI 0 X.hts (wT_good tw861) rfl rfl rfl (X.hts _ tw23) (X.hts _ tw859) (X.hts _ tw860) rfl ⟨by decide, by decide, by decide +kernel⟩ ⟨Nat.le_of_ble_eq_true rfl, Nat.le_of_ble_eq_true rfl⟩) rfl hP hS (Fr_le hS.1) hl.1 (Nat.le_of_ble_eq_true rfl) ⟨Nat.le_refl _, Nat.le_refl _⟩ dJxc12de_init_da8c8_1 (As := []) (rest := []) rfl (fun H locs hP hS => ?_)
  refine lv_aload_n hx hb dJxc12de_init_da8c8_4 rfl (lv_at hl 0 rfl) ?_
  refine lv_iconst (v := 0) hx hb dJxc12de_init_da8c8_5 (by decide) ?_
  have hi0 : va_at (dC, dI) vwCl (bs + i, .inr (4, [.int 0, el, .int 0])) H := by
    have h1 : va_at (dC, dI) vwCl (bs + i, w i) H := hP.2.1 i hi
    rw [he] at h1
    exact h1
  refine va_putO X.hx X.hb X.hts cinJx4a65c tyJx4a65c tyJx4a65c_ok nmJx4a65c X.hown hP.2.2.1 hi0 (rfl : vwCl[4]? = some (RJx4a65c, TJx4a65c, 3)) 0 (by decide) (X.hts _ tw869) (fun x h => h) rfl (tyJx4a65c_ok 0 (by decide)) rfl rfl (Nat.le_of_ble_eq_true rfl) dJxc12de_init_da8c8_6 (fun H1 j h4 hz oq => ?_)
  have hP1 := hP.up (i := i) h4 hz oq
  have hS1 := hS.put (k := j) hz oq (Or.inl (Nat.le_add_right _ _))
  refine hret _ _ _ _ _ _ dJxc12de_init_da8c8_9 (hP1.to (fun q hq => ?_)) hS1 (Nat.le_refl _) (Nat.le_refl _)
  by_cases c0 : q = i
  · subst c0
    rw [vat, he]
    rfl
  · rw [vne c0])
end HINI
