theorem tw850 : (Jvm.Cond.methodLink "GranaryWatchLaw$Granary" (1 : Nat) ({ cls := "java/lang/Object", name := "<init>", desc := "()V" } : Jvm.MethodName)) ∈ TBG := tb_t 850 (by decide +kernel) (by decide +kernel)
theorem tw851 : (Jvm.Cond.classLink "GranaryWatchLaw$Granary" (7 : Nat) "java/util/ArrayList") ∈ TBG := tb_t 851 (by decide +kernel) (by decide +kernel)
theorem tw852 : (Jvm.Cond.instantiable "java/util/ArrayList" (3 : Nat)) ∈ TBG := tb_t 852 (by decide +kernel) (by decide +kernel)
theorem tw853 : (Jvm.Cond.methodLink "GranaryWatchLaw$Granary" (9 : Nat) ({ cls := "java/util/ArrayList", name := "<init>", desc := "()V" } : Jvm.MethodName)) ∈ TBG := tb_t 853 (by decide +kernel) (by decide +kernel)
theorem tw854 : (Jvm.Cond.instanceMethod ({ cls := "java/util/ArrayList", name := "<init>", desc := "()V" } : Jvm.MethodName)) ∈ TBG := tb_t 854 (by decide +kernel) (by decide +kernel)
theorem tw855 : (Jvm.Cond.code ({ cls := "java/util/ArrayList", name := "<init>", desc := "()V" } : Jvm.MethodName) prog_43_method_2_code (1 : Nat) (Option.none : Option Jvm.ClassFile.FieldType)) ∈ TBG := tb_t 855 (by decide +kernel) (by decide +kernel)
/-! the law's granary, new: four empty lists -/
section HGRA
variable {l : Launch} {dC : Nat → ClassId} {dI : Nat → Nat → Nat} {cg : Nat → ClassId} {kA : String → Nat → Nat} {bs i n a eA : Nat} {w : Nat → va_E}
/-- the cells behind j lists -/
def gW (bs eA i : Nat) (w : Nat → va_E) (fs : List Value) (j : Nat) : Nat → va_E := fun q => if q = i then .inr (17, fs) else if i < q ∧ q ≤ i + j then .inr (4, [.int 0, .ref eA, .int 0]) else w q
theorem gW_i {fs : List Value} {j : Nat} : gW bs eA i w fs j i = .inr (17, fs) := if_pos rfl
theorem gW_l {fs : List Value} {j q : Nat} (h : i < q ∧ q ≤ i + j) : gW bs eA i w fs j q = .inr (4, [.int 0, .ref eA, .int 0]) := by
  unfold gW
  rw [if_neg (by omega), if_pos h]
theorem gW_st {fs fs' : List Value} {j q : Nat} (hq : q < i + j + 2) : va_up (va_up (gW bs eA i w fs j) (i + j + 1) (.inr (4, [.int 0, .ref eA, .int 0]))) i (.inr (17, fs')) q = gW bs eA i w fs' (j + 1) q := by
  by_cases h : q = i
  · subst h; rw [vat]; exact gW_i.symm
  · rw [vne h]
    by_cases h2 : q = i + j + 1
    · subst h2; rw [vat]; exact (gW_l ⟨by omega, by omega⟩).symm
    · rw [vne h2]
      unfold gW
      rw [if_neg h, if_neg h]
      by_cases h3 : i < q ∧ q ≤ i + j
      · rw [if_pos h3, if_pos ⟨h3.1, by omega⟩]
      · rw [if_neg h3, if_neg (by omega)]
set_option maxRecDepth 10000 in
theorem vX12_new (he : w i = .inr (17, [.null, .null, .null, .null, .null, .int 0, .int 0, .int 0, .int 0, .int 0, .int 0, .int 0, .int 0, .int 0, .int 0])) : gMetVA l yX12_init cX12_init 1 4 4 12 (nΩ bs) (gF (nP dC dI cg kA bs) (jE dC dI cg eA bs)) (kR kTab kA) [.ref (bs + i)] (i + 1, w) (i + 5, gW bs eA i w [.ref (bs + (i + 1)), .ref (bs + (i + 2)), .ref (bs + (i + 3)), .ref (bs + (i + 4)), .null, .int 0, .int 0, .int 0, .int 0, .int 0, .int 0, .int 0, .int 0, .int 0, .int 0] 4) := gEntryVN (by decide) (gF_ok nOK jE_fs) (Nat.le_of_ble_eq_true rfl) (fun p e s m args below meth c Q ls X hin hP hS hret hl => by
  have hx := X.hx
  have hb := X.hb
  have hP : gF (nP dC dI cg kA bs) (jE dC dI cg eA bs) (i + 1, w) s s.heap := hP
  refine lv_aload_n hx hb dX12_init_0 rfl (lv_at hl 0 rfl) ?_
  refine W.objInit hx hb X.hown (X.hts _ tw850) (X.hts _ tw45) (X.hts _ tw46) rfl (by rw [X.hml]; exact hl.1) rfl dX12_init_1 (Nat.le_of_ble_eq_true rfl) (Nat.le_of_ble_eq_true rfl) ?_
  refine W.eq (g2 := F0 m 4 ls []) rfl ?_
  replace hP : gF (nP dC dI cg kA bs) (jE dC dI cg eA bs) (i + 0 + 1, gW bs eA i w [.null, .null, .null, .null, .null, .int 0, .int 0, .int 0, .int 0, .int 0, .int 0, .int 0, .int 0, .int 0, .int 0] 0) s s.heap := ⟨hP.1.to (fun q hq => by
    unfold gW
    by_cases h : q = i
    · subst h; rw [if_pos rfl]; exact he
    · rw [if_neg h, if_neg (by omega)]), hP.2⟩
  obtain ⟨H, hH⟩ : ∃ H, H = s.heap := ⟨_, rfl⟩
  have hS : va_S (Fr (nΩ bs) s.heap.size) s.heap H [] := by rw [hH]; exact hS
  rw [← hH] at hP ⊢
  clear hH
  generalize ([] : List Loc) = locs at hS ⊢
  refine lv_aload_n hx hb dX12_init_4 rfl (lv_at hl 0 rfl) ?_
  refine nw_newF (ci := 4) (tyT := tyJx4a65c) [.int 0, .null, .int 0] X hP.1 hS cinJx4a65c tyJx4a65c_ok tw851 tw852 tw25 rfl (fun j hj => by rcases (show j = 0 ∨ j = 1 ∨ j = 2 by omega) with rfl | rfl | rfl <;> rfl) ⟨by show _ + 1 ≤ 4; omega, by show _ + 3 ≤ 12; omega⟩ dX12_init_5 (fun H1 hP1 hS1 ho => ?_)
  have hF1 := jE_fs.2 s H H1 ho.1 (fun q hq _ => ho.2 q hq) hP.2
  refine lv_dup hx hb dX12_init_8 rfl ?_
  refine gCallCI X (gF_ok nOK jE_fs) (vJL_init (dC := dC) (dI := dI) (cg := cg) (kA := kA) (bs := bs) (eA := eA) (i := i + 0 + 1) (n := i + 0 + 1 + 1) (by omega) vat) (cwI 0 X.hts (wT_good tw855) rfl rfl rfl (X.hts _ tw25) (X.hts _ tw853) (X.hts _ tw854) rfl ⟨by decide, by decide, by decide +kernel⟩ ⟨Nat.le_of_ble_eq_true rfl, Nat.le_of_ble_eq_true rfl⟩) rfl ⟨hP1, hF1⟩ hS1 (Fr_le hS1.1) hl.1 (Nat.le_of_ble_eq_true rfl) ⟨by show _ + 0 ≤ 4; omega, by show _ + 0 ≤ 12; omega⟩ dX12_init_9 (As := []) (rest := [.ref (bs + (i + 0 + 1)), .ref (bs + i)]) rfl (fun H locs hP hS => ?_)
  have hi0 : va_at (dC, dI) vwCl (bs + i, .inr (17, [.null, .null, .null, .null, .null, .int 0, .int 0, .int 0, .int 0, .int 0, .int 0, .int 0, .int 0, .int 0, .int 0])) H := by
    have h1 := hP.1.2.1 i (by show i < i + 0 + 1 + 1; omega)
    have h1 : va_at (dC, dI) vwCl (bs + i, va_up (va_up (gW bs eA i w [.null, .null, .null, .null, .null, .int 0, .int 0, .int 0, .int 0, .int 0, .int 0, .int 0, .int 0, .int 0, .int 0] 0) (i + 0 + 1) (.inr (4, [.int 0, .null, .int 0]))) (i + 0 + 1) (.inr (4, [.int 0, .ref eA, .int 0])) i) H := h1
    rw [vne (by omega), vne (by omega), gW_i] at h1
    exact h1
  refine va_putFO X.hx X.hb X.hts cinX12 tyX12 tyX12_ok nmX12 X.hown hP.1.2.2.1 hi0 (rfl : vwCl[17]? = some (RX12, TX12, 15)) 0 (by decide) (X.hts _ tw880) (fun x h => h) rfl hin rfl (tyX12_ok 0 (by decide)) rfl rfl (Nat.le_of_ble_eq_true rfl) dX12_init_12 (fun H2 jj h4 hz oq => ?_)
  have hF2 := jE_fs.2 s H H2 (by omega) (fun q hq nq => oq q (fun z => nq (by show bs ≤ q; omega))) hP.2
  have hP2 : nP dC dI cg kA bs (i + 1 + 1, gW bs eA i w [.ref (bs + (i + 1)), .null, .null, .null, .null, .int 0, .int 0, .int 0, .int 0, .int 0, .int 0, .int 0, .int 0, .int 0, .int 0] 1) s H2 := (hP.1.up (i := i) h4 hz oq).to (fun q hq => by
    rw [← gW_st (fs := [.null, .null, .null, .null, .null, .int 0, .int 0, .int 0, .int 0, .int 0, .int 0, .int 0, .int 0, .int 0, .int 0]) (j := 0) (by omega)]
    by_cases h : q = i
    · subst h; rw [vat, vat]; rfl
    · rw [vne h, vne h]
      by_cases h2 : q = i + 0 + 1
      · subst h2; rw [vat, vat]
      · rw [vne h2, vne h2, vne h2])
  replace hS := hS.put (k := jj) hz oq (Or.inl (Nat.le_add_right _ _))
  clear hi0 h4 oq hz hS1 hP1 hF1 ho
  replace hP : gF (nP dC dI cg kA bs) (jE dC dI cg eA bs) (i + 1 + 1, gW bs eA i w [.ref (bs + (i + 1)), .null, .null, .null, .null, .int 0, .int 0, .int 0, .int 0, .int 0, .int 0, .int 0, .int 0, .int 0, .int 0] 1) s H2 := ⟨hP2, hF2⟩
  clear hP2 hF2
  revert hP hS; generalize H2 = H; generalize locs ++ [(⟨bs + i, jj⟩ : Loc)] = locs; intro hS hP
  refine lv_aload_n hx hb dX12_init_15 rfl (lv_at hl 0 rfl) ?_
  refine nw_newF (ci := 4) (tyT := tyJx4a65c) [.int 0, .null, .int 0] X hP.1 hS cinJx4a65c tyJx4a65c_ok tw851 tw852 tw25 rfl (fun j hj => by rcases (show j = 0 ∨ j = 1 ∨ j = 2 by omega) with rfl | rfl | rfl <;> rfl) ⟨by show _ + 1 ≤ 4; omega, by show _ + 3 ≤ 12; omega⟩ dX12_init_16 (fun H1 hP1 hS1 ho => ?_)
  have hF1 := jE_fs.2 s H H1 ho.1 (fun q hq _ => ho.2 q hq) hP.2
  refine lv_dup hx hb dX12_init_19 rfl ?_
  refine gCallCI X (gF_ok nOK jE_fs) (vJL_init (dC := dC) (dI := dI) (cg := cg) (kA := kA) (bs := bs) (eA := eA) (i := i + 1 + 1) (n := i + 1 + 1 + 1) (by omega) vat) (cwI 0 X.hts (wT_good tw855) rfl rfl rfl (X.hts _ tw25) (X.hts _ tw853) (X.hts _ tw854) rfl ⟨by decide, by decide, by decide +kernel⟩ ⟨Nat.le_of_ble_eq_true rfl, Nat.le_of_ble_eq_true rfl⟩) rfl ⟨hP1, hF1⟩ hS1 (Fr_le hS1.1) hl.1 (Nat.le_of_ble_eq_true rfl) ⟨by show _ + 0 ≤ 4; omega, by show _ + 0 ≤ 12; omega⟩ dX12_init_20 (As := []) (rest := [.ref (bs + (i + 1 + 1)), .ref (bs + i)]) rfl (fun H locs hP hS => ?_)
  have hi0 : va_at (dC, dI) vwCl (bs + i, .inr (17, [.ref (bs + (i + 1)), .null, .null, .null, .null, .int 0, .int 0, .int 0, .int 0, .int 0, .int 0, .int 0, .int 0, .int 0, .int 0])) H := by
    have h1 := hP.1.2.1 i (by show i < i + 1 + 1 + 1; omega)
    have h1 : va_at (dC, dI) vwCl (bs + i, va_up (va_up (gW bs eA i w [.ref (bs + (i + 1)), .null, .null, .null, .null, .int 0, .int 0, .int 0, .int 0, .int 0, .int 0, .int 0, .int 0, .int 0, .int 0] 1) (i + 1 + 1) (.inr (4, [.int 0, .null, .int 0]))) (i + 1 + 1) (.inr (4, [.int 0, .ref eA, .int 0])) i) H := h1
    rw [vne (by omega), vne (by omega), gW_i] at h1
    exact h1
  refine va_putFO X.hx X.hb X.hts cinX12 tyX12 tyX12_ok nmX12 X.hown hP.1.2.2.1 hi0 (rfl : vwCl[17]? = some (RX12, TX12, 15)) 1 (by decide) (X.hts _ tw882) (fun x h => h) rfl hin rfl (tyX12_ok 1 (by decide)) rfl rfl (Nat.le_of_ble_eq_true rfl) dX12_init_23 (fun H2 jj h4 hz oq => ?_)
  have hF2 := jE_fs.2 s H H2 (by omega) (fun q hq nq => oq q (fun z => nq (by show bs ≤ q; omega))) hP.2
  have hP2 : nP dC dI cg kA bs (i + 2 + 1, gW bs eA i w [.ref (bs + (i + 1)), .ref (bs + (i + 2)), .null, .null, .null, .int 0, .int 0, .int 0, .int 0, .int 0, .int 0, .int 0, .int 0, .int 0, .int 0] 2) s H2 := (hP.1.up (i := i) h4 hz oq).to (fun q hq => by
    rw [← gW_st (fs := [.ref (bs + (i + 1)), .null, .null, .null, .null, .int 0, .int 0, .int 0, .int 0, .int 0, .int 0, .int 0, .int 0, .int 0, .int 0]) (j := 1) (by omega)]
    by_cases h : q = i
    · subst h; rw [vat, vat]; rfl
    · rw [vne h, vne h]
      by_cases h2 : q = i + 1 + 1
      · subst h2; rw [vat, vat]
      · rw [vne h2, vne h2, vne h2])
  replace hS := hS.put (k := jj) hz oq (Or.inl (Nat.le_add_right _ _))
  clear hi0 h4 oq hz hS1 hP1 hF1 ho
  replace hP : gF (nP dC dI cg kA bs) (jE dC dI cg eA bs) (i + 2 + 1, gW bs eA i w [.ref (bs + (i + 1)), .ref (bs + (i + 2)), .null, .null, .null, .int 0, .int 0, .int 0, .int 0, .int 0, .int 0, .int 0, .int 0, .int 0, .int 0] 2) s H2 := ⟨hP2, hF2⟩
  clear hP2 hF2
  revert hP hS; generalize H2 = H; generalize locs ++ [(⟨bs + i, jj⟩ : Loc)] = locs; intro hS hP
  refine lv_aload_n hx hb dX12_init_26 rfl (lv_at hl 0 rfl) ?_
  refine nw_newF (ci := 4) (tyT := tyJx4a65c) [.int 0, .null, .int 0] X hP.1 hS cinJx4a65c tyJx4a65c_ok tw851 tw852 tw25 rfl (fun j hj => by rcases (show j = 0 ∨ j = 1 ∨ j = 2 by omega) with rfl | rfl | rfl <;> rfl) ⟨by show _ + 1 ≤ 4; omega, by show _ + 3 ≤ 12; omega⟩ dX12_init_27 (fun H1 hP1 hS1 ho => ?_)
  have hF1 := jE_fs.2 s H H1 ho.1 (fun q hq _ => ho.2 q hq) hP.2
  refine lv_dup hx hb dX12_init_30 rfl ?_
  refine gCallCI X (gF_ok nOK jE_fs) (vJL_init (dC := dC) (dI := dI) (cg := cg) (kA := kA) (bs := bs) (eA := eA) (i := i + 2 + 1) (n := i + 2 + 1 + 1) (by omega) vat) (cwI 0 X.hts (wT_good tw855) rfl rfl rfl (X.hts _ tw25) (X.hts _ tw853) (X.hts _ tw854) rfl ⟨by decide, by decide, by decide +kernel⟩ ⟨Nat.le_of_ble_eq_true rfl, Nat.le_of_ble_eq_true rfl⟩) rfl ⟨hP1, hF1⟩ hS1 (Fr_le hS1.1) hl.1 (Nat.le_of_ble_eq_true rfl) ⟨by show _ + 0 ≤ 4; omega, by show _ + 0 ≤ 12; omega⟩ dX12_init_31 (As := []) (rest := [.ref (bs + (i + 2 + 1)), .ref (bs + i)]) rfl (fun H locs hP hS => ?_)
  have hi0 : va_at (dC, dI) vwCl (bs + i, .inr (17, [.ref (bs + (i + 1)), .ref (bs + (i + 2)), .null, .null, .null, .int 0, .int 0, .int 0, .int 0, .int 0, .int 0, .int 0, .int 0, .int 0, .int 0])) H := by
    have h1 := hP.1.2.1 i (by show i < i + 2 + 1 + 1; omega)
    have h1 : va_at (dC, dI) vwCl (bs + i, va_up (va_up (gW bs eA i w [.ref (bs + (i + 1)), .ref (bs + (i + 2)), .null, .null, .null, .int 0, .int 0, .int 0, .int 0, .int 0, .int 0, .int 0, .int 0, .int 0, .int 0] 2) (i + 2 + 1) (.inr (4, [.int 0, .null, .int 0]))) (i + 2 + 1) (.inr (4, [.int 0, .ref eA, .int 0])) i) H := h1
    rw [vne (by omega), vne (by omega), gW_i] at h1
    exact h1
  refine va_putFO X.hx X.hb X.hts cinX12 tyX12 tyX12_ok nmX12 X.hown hP.1.2.2.1 hi0 (rfl : vwCl[17]? = some (RX12, TX12, 15)) 2 (by decide) (X.hts _ tw884) (fun x h => h) rfl hin rfl (tyX12_ok 2 (by decide)) rfl rfl (Nat.le_of_ble_eq_true rfl) dX12_init_34 (fun H2 jj h4 hz oq => ?_)
  have hF2 := jE_fs.2 s H H2 (by omega) (fun q hq nq => oq q (fun z => nq (by show bs ≤ q; omega))) hP.2
  have hP2 : nP dC dI cg kA bs (i + 3 + 1, gW bs eA i w [.ref (bs + (i + 1)), .ref (bs + (i + 2)), .ref (bs + (i + 3)), .null, .null, .int 0, .int 0, .int 0, .int 0, .int 0, .int 0, .int 0, .int 0, .int 0, .int 0] 3) s H2 := (hP.1.up (i := i) h4 hz oq).to (fun q hq => by
    rw [← gW_st (fs := [.ref (bs + (i + 1)), .ref (bs + (i + 2)), .null, .null, .null, .int 0, .int 0, .int 0, .int 0, .int 0, .int 0, .int 0, .int 0, .int 0, .int 0]) (j := 2) (by omega)]
    by_cases h : q = i
    · subst h; rw [vat, vat]; rfl
    · rw [vne h, vne h]
      by_cases h2 : q = i + 2 + 1
      · subst h2; rw [vat, vat]
      · rw [vne h2, vne h2, vne h2])
  replace hS := hS.put (k := jj) hz oq (Or.inl (Nat.le_add_right _ _))
  clear hi0 h4 oq hz hS1 hP1 hF1 ho
  replace hP : gF (nP dC dI cg kA bs) (jE dC dI cg eA bs) (i + 3 + 1, gW bs eA i w [.ref (bs + (i + 1)), .ref (bs + (i + 2)), .ref (bs + (i + 3)), .null, .null, .int 0, .int 0, .int 0, .int 0, .int 0, .int 0, .int 0, .int 0, .int 0, .int 0] 3) s H2 := ⟨hP2, hF2⟩
  clear hP2 hF2
  revert hP hS; generalize H2 = H; generalize locs ++ [(⟨bs + i, jj⟩ : Loc)] = locs; intro hS hP
  refine lv_aload_n hx hb dX12_init_37 rfl (lv_at hl 0 rfl) ?_
  refine nw_newF (ci := 4) (tyT := tyJx4a65c) [.int 0, .null, .int 0] X hP.1 hS cinJx4a65c tyJx4a65c_ok tw851 tw852 tw25 rfl (fun j hj => by rcases (show j = 0 ∨ j = 1 ∨ j = 2 by omega) with rfl | rfl | rfl <;> rfl) ⟨by show _ + 1 ≤ 4; omega, by show _ + 3 ≤ 12; omega⟩ dX12_init_38 (fun H1 hP1 hS1 ho => ?_)
  have hF1 := jE_fs.2 s H H1 ho.1 (fun q hq _ => ho.2 q hq) hP.2
  refine lv_dup hx hb dX12_init_41 rfl ?_
  refine gCallCI X (gF_ok nOK jE_fs) (vJL_init (dC := dC) (dI := dI) (cg := cg) (kA := kA) (bs := bs) (eA := eA) (i := i + 3 + 1) (n := i + 3 + 1 + 1) (by omega) vat) (cwI 0 X.hts (wT_good tw855) rfl rfl rfl (X.hts _ tw25) (X.hts _ tw853) (X.hts _ tw854) rfl ⟨by decide, by decide, by decide +kernel⟩ ⟨Nat.le_of_ble_eq_true rfl, Nat.le_of_ble_eq_true rfl⟩) rfl ⟨hP1, hF1⟩ hS1 (Fr_le hS1.1) hl.1 (Nat.le_of_ble_eq_true rfl) ⟨by show _ + 0 ≤ 4; omega, by show _ + 0 ≤ 12; omega⟩ dX12_init_42 (As := []) (rest := [.ref (bs + (i + 3 + 1)), .ref (bs + i)]) rfl (fun H locs hP hS => ?_)
  have hi0 : va_at (dC, dI) vwCl (bs + i, .inr (17, [.ref (bs + (i + 1)), .ref (bs + (i + 2)), .ref (bs + (i + 3)), .null, .null, .int 0, .int 0, .int 0, .int 0, .int 0, .int 0, .int 0, .int 0, .int 0, .int 0])) H := by
    have h1 := hP.1.2.1 i (by show i < i + 3 + 1 + 1; omega)
    have h1 : va_at (dC, dI) vwCl (bs + i, va_up (va_up (gW bs eA i w [.ref (bs + (i + 1)), .ref (bs + (i + 2)), .ref (bs + (i + 3)), .null, .null, .int 0, .int 0, .int 0, .int 0, .int 0, .int 0, .int 0, .int 0, .int 0, .int 0] 3) (i + 3 + 1) (.inr (4, [.int 0, .null, .int 0]))) (i + 3 + 1) (.inr (4, [.int 0, .ref eA, .int 0])) i) H := h1
    rw [vne (by omega), vne (by omega), gW_i] at h1
    exact h1
  refine va_putFO X.hx X.hb X.hts cinX12 tyX12 tyX12_ok nmX12 X.hown hP.1.2.2.1 hi0 (rfl : vwCl[17]? = some (RX12, TX12, 15)) 3 (by decide) (X.hts _ tw886) (fun x h => h) rfl hin rfl (tyX12_ok 3 (by decide)) rfl rfl (Nat.le_of_ble_eq_true rfl) dX12_init_45 (fun H2 jj h4 hz oq => ?_)
  have hF2 := jE_fs.2 s H H2 (by omega) (fun q hq nq => oq q (fun z => nq (by show bs ≤ q; omega))) hP.2
  have hP2 : nP dC dI cg kA bs (i + 4 + 1, gW bs eA i w [.ref (bs + (i + 1)), .ref (bs + (i + 2)), .ref (bs + (i + 3)), .ref (bs + (i + 4)), .null, .int 0, .int 0, .int 0, .int 0, .int 0, .int 0, .int 0, .int 0, .int 0, .int 0] 4) s H2 := (hP.1.up (i := i) h4 hz oq).to (fun q hq => by
    rw [← gW_st (fs := [.ref (bs + (i + 1)), .ref (bs + (i + 2)), .ref (bs + (i + 3)), .null, .null, .int 0, .int 0, .int 0, .int 0, .int 0, .int 0, .int 0, .int 0, .int 0, .int 0]) (j := 3) (by omega)]
    by_cases h : q = i
    · subst h; rw [vat, vat]; rfl
    · rw [vne h, vne h]
      by_cases h2 : q = i + 3 + 1
      · subst h2; rw [vat, vat]
      · rw [vne h2, vne h2, vne h2])
  replace hS := hS.put (k := jj) hz oq (Or.inl (Nat.le_add_right _ _))
  clear hi0 h4 oq hz hS1 hP1 hF1 ho
  replace hP : gF (nP dC dI cg kA bs) (jE dC dI cg eA bs) (i + 4 + 1, gW bs eA i w [.ref (bs + (i + 1)), .ref (bs + (i + 2)), .ref (bs + (i + 3)), .ref (bs + (i + 4)), .null, .int 0, .int 0, .int 0, .int 0, .int 0, .int 0, .int 0, .int 0, .int 0, .int 0] 4) s H2 := ⟨hP2, hF2⟩
  clear hP2 hF2
  revert hP hS; generalize H2 = H; generalize locs ++ [(⟨bs + i, jj⟩ : Loc)] = locs; intro hS hP
  exact hret _ _ _ _ _ _ dX12_init_48 hP hS (by omega) (by omega))
end HGRA
