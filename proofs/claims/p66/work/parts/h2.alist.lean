theorem tw24 : (Jvm.Cond.initialized "java/util/AbstractList") ∈ TBG := tb_t 24 (by decide +kernel) (by decide +kernel)
theorem tw856 : (Jvm.Cond.methodLink "java/util/ArrayList" (1 : Nat) ({ cls := "java/util/AbstractList", name := "<init>", desc := "()V" } : Jvm.MethodName)) ∈ TBG := tb_t 856 (by decide +kernel) (by decide +kernel)
theorem tw857 : (Jvm.Cond.instanceMethod ({ cls := "java/util/AbstractList", name := "<init>", desc := "()V" } : Jvm.MethodName)) ∈ TBG := tb_t 857 (by decide +kernel) (by decide +kernel)
theorem tw858 : (Jvm.Cond.code ({ cls := "java/util/AbstractList", name := "<init>", desc := "()V" } : Jvm.MethodName) prog_42_method_1_code (1 : Nat) (Option.none : Option Jvm.ClassFile.FieldType)) ∈ TBG := tb_t 858 (by decide +kernel) (by decide +kernel)
theorem tw863 : (Jvm.Cond.fieldLink "java/util/ArrayList" (39 : Nat) "java/util/ArrayList" "DEFAULTCAPACITY_EMPTY_ELEMENTDATA" "[Ljava/lang/Object;") ∈ TBG := tb_t 863 (by decide +kernel) (by decide +kernel)
/-! ArrayList.<init> over the growing world -/
section HALI
variable {l : Launch} {dC : Nat → ClassId} {dI : Nat → Nat → Nat} {cg : Nat → ClassId} {kA : String → Nat → Nat} {bs i n a eA : Nat} {w : Nat → va_E} {S : NW} {F : State → Heap → Prop}
/-- the empty array that every new list begins with -/
def jE (dC : Nat → ClassId) (dI : Nat → Nat → Nat) (cg : Nat → ClassId) (eA bs : Nat) : State → Heap → Prop := fun U H => va_Z "java/util/ArrayList" "DEFAULTCAPACITY_EMPTY_ELEMENTDATA" "[Ljava/lang/Object;" (.ref eA) (nΩ bs) U H ∧ va_T (.object "java/lang/Object") eA 0 (fun _ => .null) (nΩ bs) U H ∧ va_AO "java/lang/Object" U
theorem jE_fs : gFs (nΩ bs) (jE dC dI cg eA bs) := ⟨fun u U H hvm h => ⟨va_Z.moved hvm h.1, h.2.1.moved hvm, va_AO.moved hvm h.2.2⟩, fun U H H1 hz hk h => ⟨va_Z.kept h.1 hk, h.2.1.kept hk, h.2.2⟩⟩
theorem nS_n {s : State} {H : Heap} {locs : List Loc} (hz : bs ≤ s.heap.size) (hS : va_S (Fr (nΩ bs) s.heap.size) s.heap H locs) : va_S (nΩ bs) s.heap H locs := ⟨hS.1, fun q hq nq => hS.2.1 q hq (fun z => nq (z.elim (fun z => z) (fun z => Nat.le_trans hz z))), fun x hx => (hS.2.2 x hx).elim (fun z => z) (fun z => Nat.le_trans hz z)⟩
theorem vJL_init (hi : i < n) (he : w i = .inr (4, [.int 0, .null, .int 0])) : gMetVA l yJx4a65c_init_da8c8 cJx4a65c_init_da8c8 1 3 0 0 (nΩ bs) (gF (nP dC dI cg kA bs) (jE dC dI cg eA bs)) (kR kTab kA) [.ref (bs + i)] (n, w) (n, va_up w i (.inr (4, [.int 0, .ref eA, .int 0]))) := gEntryVN (by decide) (gF_ok nOK jE_fs) (Nat.le_of_ble_eq_true rfl) (fun p e s m args below meth c Q ls X hin hP hS hret hl => by
  have hx := X.hx
  have hb := X.hb
  have hP : gF (nP dC dI cg kA bs) (jE dC dI cg eA bs) (n, w) s s.heap := hP
  have hz0 : bs ≤ s.heap.size := by
    have h1 : s.heap.size = bs + n := hP.1.1
    omega
  have hj := hP.2
  refine lv_aload_n hx hb dJx4a65c_init_da8c8_0 rfl (lv_at hl 0 rfl) ?_
  refine gCallCI X (gF_ok nOK jE_fs) ((vJA_init (dC := dC) (dI := dI) (cg := cg) (kA := kA) (bs := bs) (el := .null) hi he).lift (jE_fs (eA := eA))) (cwI 0 X.hts (wT_good tw858) rfl rfl rfl (X.hts _ tw24) (X.hts _ tw856) (X.hts _ tw857) rfl ⟨by decide, by decide, by decide +kernel⟩ ⟨Nat.le_of_ble_eq_true rfl, Nat.le_of_ble_eq_true rfl⟩) rfl hP hS (Fr_le hS.1) hl.1 (Nat.le_of_ble_eq_true rfl) ⟨Nat.le_refl _, Nat.le_refl _⟩ dJx4a65c_init_da8c8_1 (As := []) (rest := []) rfl (fun H locs hP hS => ?_)
  refine lv_aload_n hx hb dJx4a65c_init_da8c8_4 rfl (lv_at hl 0 rfl) ?_
  refine va_gets hx hb hj.1 (nS_n hz0 hS) X.hown (X.hts _ tw863) (fun x h => h) dJx4a65c_init_da8c8_5 ?_
  have hi0 : va_at (dC, dI) vwCl (bs + i, .inr (4, [.int 0, .null, .int 0])) H := by
    have h1 : va_at (dC, dI) vwCl (bs + i, w i) H := hP.1.2.1 i hi
    rw [he] at h1
    exact h1
  refine va_putO X.hx X.hb X.hts cinJx4a65c tyJx4a65c tyJx4a65c_ok nmJx4a65c X.hown hP.1.2.2.1 hi0 (rfl : vwCl[4]? = some (RJx4a65c, TJx4a65c, 3)) 1 (by decide) (X.hts _ tw865) (fun x h => h) rfl (tyJx4a65c_ok 1 (by decide)) rfl rfl (Nat.le_of_ble_eq_true rfl) dJx4a65c_init_da8c8_8 (fun H1 j h4 hz oq => ?_)
  have hP1 := hP.1.up (i := i) h4 hz oq
  have hF1 := jE_fs.2 s H H1 (by omega) (fun q hq nq => oq q (fun z => nq (by show bs ≤ q; omega))) hP.2
  exact hret _ _ _ _ _ _ dJx4a65c_init_da8c8_11 ⟨hP1, hF1⟩ (hS.put (k := j) hz oq (Or.inl (Nat.le_add_right _ _))) (Nat.le_refl _) (Nat.le_refl _))
end HALI
