theorem tw7 : (Jvm.Cond.initialized "GranaryWatch$Output") ∈ TBG := tb_t 7 (by decide +kernel) (by decide +kernel)
theorem tw15 : (Jvm.Cond.initialized "GranaryWatch$Script") ∈ TBG := tb_t 15 (by decide +kernel) (by decide +kernel)
theorem tw44 : (Jvm.Cond.methodLink "GranaryWatch" (1 : Nat) ({ cls := "java/lang/Object", name := "<init>", desc := "()V" } : Jvm.MethodName)) ∈ TBG := tb_t 44 (by decide +kernel) (by decide +kernel)
theorem tw47 : (Jvm.Cond.classLink "GranaryWatch" (7 : Nat) "GranaryWatch$Text") ∈ TBG := tb_t 47 (by decide +kernel) (by decide +kernel)
theorem tw48 : (Jvm.Cond.instantiable "GranaryWatch$Text" (9 : Nat)) ∈ TBG := tb_t 48 (by decide +kernel) (by decide +kernel)
theorem tw50 : (Jvm.Cond.instanceMethod ({ cls := "GranaryWatch$Text", name := "<init>", desc := "()V" } : Jvm.MethodName)) ∈ TBG := tb_t 50 (by decide +kernel) (by decide +kernel)
theorem tw51 : (Jvm.Cond.code ({ cls := "GranaryWatch$Text", name := "<init>", desc := "()V" } : Jvm.MethodName) prog_10_method_1_code (1 : Nat) (Option.none : Option Jvm.ClassFile.FieldType)) ∈ TBG := tb_t 51 (by decide +kernel) (by decide +kernel)
theorem tw117 : (Jvm.Cond.classLink "GranaryWatch" (16 : Nat) "GranaryWatch$Output") ∈ TBG := tb_t 117 (by decide +kernel) (by decide +kernel)
theorem tw118 : (Jvm.Cond.instantiable "GranaryWatch$Output" (2 : Nat)) ∈ TBG := tb_t 118 (by decide +kernel) (by decide +kernel)
theorem tw120 : (Jvm.Cond.instanceMethod ({ cls := "GranaryWatch$Output", name := "<init>", desc := "()V" } : Jvm.MethodName)) ∈ TBG := tb_t 120 (by decide +kernel) (by decide +kernel)
theorem tw121 : (Jvm.Cond.code ({ cls := "GranaryWatch$Output", name := "<init>", desc := "()V" } : Jvm.MethodName) prog_5_method_1_code (1 : Nat) (Option.none : Option Jvm.ClassFile.FieldType)) ∈ TBG := tb_t 121 (by decide +kernel) (by decide +kernel)
theorem tw129 : (Jvm.Cond.classLink "GranaryWatch" (23 : Nat) "GranaryWatch$Granary") ∈ TBG := tb_t 129 (by decide +kernel) (by decide +kernel)
theorem tw130 : (Jvm.Cond.instantiable "GranaryWatch$Granary" (13 : Nat)) ∈ TBG := tb_t 130 (by decide +kernel) (by decide +kernel)
theorem tw131 : (Jvm.Cond.methodLink "GranaryWatch" (25 : Nat) ({ cls := "GranaryWatch$Granary", name := "<init>", desc := "()V" } : Jvm.MethodName)) ∈ TBG := tb_t 131 (by decide +kernel) (by decide +kernel)
theorem tw132 : (Jvm.Cond.instanceMethod ({ cls := "GranaryWatch$Granary", name := "<init>", desc := "()V" } : Jvm.MethodName)) ∈ TBG := tb_t 132 (by decide +kernel) (by decide +kernel)
theorem tw133 : (Jvm.Cond.code ({ cls := "GranaryWatch$Granary", name := "<init>", desc := "()V" } : Jvm.MethodName) prog_4_method_1_code (2 : Nat) (Option.none : Option Jvm.ClassFile.FieldType)) ∈ TBG := tb_t 133 (by decide +kernel) (by decide +kernel)
theorem tw356 : (Jvm.Cond.classLink "GranaryWatch" (43 : Nat) "GranaryWatch$Setup") ∈ TBG := tb_t 356 (by decide +kernel) (by decide +kernel)
theorem tw357 : (Jvm.Cond.instantiable "GranaryWatch$Setup" (2 : Nat)) ∈ TBG := tb_t 357 (by decide +kernel) (by decide +kernel)
theorem tw358 : (Jvm.Cond.methodLink "GranaryWatch" (45 : Nat) ({ cls := "GranaryWatch$Setup", name := "<init>", desc := "(LGranaryWatch$Text;LGranaryWatch$Granary;)V" } : Jvm.MethodName)) ∈ TBG := tb_t 358 (by decide +kernel) (by decide +kernel)
theorem tw359 : (Jvm.Cond.instanceMethod ({ cls := "GranaryWatch$Setup", name := "<init>", desc := "(LGranaryWatch$Text;LGranaryWatch$Granary;)V" } : Jvm.MethodName)) ∈ TBG := tb_t 359 (by decide +kernel) (by decide +kernel)
theorem tw360 : (Jvm.Cond.code ({ cls := "GranaryWatch$Setup", name := "<init>", desc := "(LGranaryWatch$Text;LGranaryWatch$Granary;)V" } : Jvm.MethodName) prog_8_method_1_code (3 : Nat) (Option.none : Option Jvm.ClassFile.FieldType)) ∈ TBG := tb_t 360 (by decide +kernel) (by decide +kernel)
theorem tw369 : (Jvm.Cond.classLink "GranaryWatch" (52 : Nat) "GranaryWatch$Script") ∈ TBG := tb_t 369 (by decide +kernel) (by decide +kernel)
theorem tw370 : (Jvm.Cond.instantiable "GranaryWatch$Script" (6 : Nat)) ∈ TBG := tb_t 370 (by decide +kernel) (by decide +kernel)
theorem tw371 : (Jvm.Cond.methodLink "GranaryWatch" (54 : Nat) ({ cls := "GranaryWatch$Script", name := "<init>", desc := "(LGranaryWatch$Text;LGranaryWatch$Granary;)V" } : Jvm.MethodName)) ∈ TBG := tb_t 371 (by decide +kernel) (by decide +kernel)
theorem tw372 : (Jvm.Cond.instanceMethod ({ cls := "GranaryWatch$Script", name := "<init>", desc := "(LGranaryWatch$Text;LGranaryWatch$Granary;)V" } : Jvm.MethodName)) ∈ TBG := tb_t 372 (by decide +kernel) (by decide +kernel)
theorem tw373 : (Jvm.Cond.code ({ cls := "GranaryWatch$Script", name := "<init>", desc := "(LGranaryWatch$Text;LGranaryWatch$Granary;)V" } : Jvm.MethodName) prog_7_method_1_code (3 : Nat) (Option.none : Option Jvm.ClassFile.FieldType)) ∈ TBG := tb_t 373 (by decide +kernel) (by decide +kernel)
theorem tw394 : (Jvm.Cond.methodLink "GranaryWatch" (61 : Nat) ({ cls := "GranaryWatch$Text", name := "appendWords", desc := "(Ljava/lang/String;)V" } : Jvm.MethodName)) ∈ TBG := tb_t 394 (by decide +kernel) (by decide +kernel)
theorem tw395 : (Jvm.Cond.instanceMethod ({ cls := "GranaryWatch$Text", name := "appendWords", desc := "(Ljava/lang/String;)V" } : Jvm.MethodName)) ∈ TBG := tb_t 395 (by decide +kernel) (by decide +kernel)
theorem tw396 : (Jvm.Cond.selects "GranaryWatch$Text" ({ cls := "GranaryWatch$Text", name := "appendWords", desc := "(Ljava/lang/String;)V" } : Jvm.MethodName) ({ cls := "GranaryWatch$Text", name := "appendWords", desc := "(Ljava/lang/String;)V" } : Jvm.MethodName)) ∈ TBG := tb_t 396 (by decide +kernel) (by decide +kernel)
theorem tw397 : (Jvm.Cond.code ({ cls := "GranaryWatch$Text", name := "appendWords", desc := "(Ljava/lang/String;)V" } : Jvm.MethodName) prog_10_method_3_code (3 : Nat) (Option.none : Option Jvm.ClassFile.FieldType)) ∈ TBG := tb_t 397 (by decide +kernel) (by decide +kernel)
theorem tw751 : (Jvm.Cond.fieldLink "GranaryWatch" (19 : Nat) "GranaryWatch" "output" "LGranaryWatch$Output;") ∈ TBG := tb_t 751 (by decide +kernel) (by decide +kernel)
theorem tw754 : (Jvm.Cond.fieldLink "GranaryWatch" (33 : Nat) "GranaryWatch" "trial" "LGranaryWatch$Granary;") ∈ TBG := tb_t 754 (by decide +kernel) (by decide +kernel)
theorem tw755 : (Jvm.Cond.fieldLink "GranaryWatch" (36 : Nat) "GranaryWatch" "saved" "LGranaryWatch$Granary;") ∈ TBG := tb_t 755 (by decide +kernel) (by decide +kernel)
theorem tw758 : (Jvm.Cond.fieldLink "GranaryWatch" (55 : Nat) "GranaryWatch" "script" "LGranaryWatch$Script;") ∈ TBG := tb_t 758 (by decide +kernel) (by decide +kernel)
/-! the class's constructor -/
section WATCH
variable {l : Launch} {dC : Nat → ClassId} {dI : Nat → Nat → Nat} {cg : Nat → ClassId} {kA : String → Nat → Nat} {bs : Nat} {w : Nat → va_E} {s : State} {H : Heap}
theorem nP.pp {U : Nat → va_E} {n i : Nat} {A A1 : va_E} (h : nP dC dI cg kA bs (n, va_up (va_up U i A) i A1) s H) : nP dC dI cg kA bs (n, va_up U i A1) s H := h.to (fun q hq => by
  by_cases h1 : q = i
  · rw [h1, vat, vat]
  · rw [vne h1, vne h1, vne h1])
theorem nP.cn {U : Nat → va_E} {n : Nat} {A d : va_E} (h : nP dC dI cg kA bs (n + 1, va_up (va_up U 0 A) n d) s H) (hn : 0 < n) (hU : U n = d) : nP dC dI cg kA bs (n + 1, va_up U 0 A) s H := h.to (fun q hq => by
  by_cases h1 : q = n
  · rw [h1, vat, vne (by omega), hU]
  · rw [vne h1])
theorem nP.cl {U r : Nat → va_E} {n n' sz : Nat} {A d : va_E} (h : nP dC dI cg kA bs (n + sz, po r n (va_up (va_up U 0 A) n d)) s H) (hn : 0 < n) (hU : ∀ t, t < sz → U (n + t) = r t) (e : n + sz = n' := by rfl) : nP dC dI cg kA bs (n', va_up U 0 A) s H := by
  subst e
  refine h.to (fun q hq => ?_)
  by_cases h2 : q < n
  · rw [po_lt h2, vne (by omega)]
  · obtain ⟨t, rfl⟩ : ∃ t, q = n + t := ⟨q - n, by omega⟩
    rw [po_at, vne (by omega)]
    exact (hU t (by omega)).symm
/-- the class's world: while it is made, and behind that -/
def tP (dC : Nat → ClassId) (dI : Nat → Nat → Nat) (cg : Nat → ClassId) (kA : String → Nat → Nat) (bs : Nat) : NW ⊕ CS → State → Heap → Prop := fun x => match x with
  | .inl z => nP dC dI cg kA bs z
  | .inr S => cP dC dI cg kA (caOf bs) S
theorem tOK : gOK (tP dC dI cg kA bs) (kR kTab kA) := ⟨fun x u U H hvm h => by
  cases x with
  | inl z => exact nOK.1 z u U H hvm h
  | inr S => exact cOK.1 S u U H hvm h, kR_ok⟩
theorem vX10_init {S1 : CS} (hini : fX10_ini S0 = some S1) (he : w 0 = .inr (15, [.null, .null, .null, .null, .null, .null, .null, .null, .null, .int 0, .int 0, .int 0])) : gMetVA l yX10_init cX10_init 2 13 834 7080 (nΩ bs) (tP dC dI cg kA bs) (kR kTab kA) [.ref (bs + 0)] (.inl (1, w)) (.inr S1) := gEntryVN (by decide) tOK (Nat.le_of_ble_eq_true rfl) (fun p e s m args below meth c Q ls X hin hP hS hret hl => by
  have hx := X.hx
  have hb := X.hb
  have hP : nP dC dI cg kA bs (1, w) s s.heap := hP
  have hz0 : s.heap.size = bs + 1 := hP.1
  have hP : nP dC dI cg kA bs (1, (va_up (va_up (rW bs cg kA) 147 (aR (cg 2) 8 bs 153 35 0)) 0 (.inr (15, [.null, .null, .null, .null, .null, .null, .null, .null, .null, .int 0, .int 0, .int 0])))) s s.heap := hP.to (fun q hq => by
    have e0 : q = 0 := by omega
    rw [e0, vat, he])
  refine lv_aload_n hx hb dX10_init_0 rfl (lv_at hl 0 rfl) ?_
  refine W.objInit hx hb X.hown (X.hts _ tw44) (X.hts _ tw45) (X.hts _ tw46) rfl (by rw [X.hml]; exact hl.1) rfl dX10_init_1 (Nat.le_of_ble_eq_true rfl) (Nat.le_of_ble_eq_true rfl) ?_
  refine W.eq (g2 := F0 m 4 ls []) rfl ?_
  refine lv_aload_n hx hb dX10_init_4 rfl (lv_at hl 0 rfl) ?_
  refine nw_new (ci := 13) (tyT := tyX8) [.null, .null, .int 0, .int 0, .int 0, .int 0, .int 0, .int 0, .int 0] X hP hS cinX8 tyX8_ok tw47 tw48 tw2 rfl (fun j hj => by rcases (show j = 0 ∨ j = 1 ∨ j = 2 ∨ j = 3 ∨ j = 4 ∨ j = 5 ∨ j = 6 ∨ j = 7 ∨ j = 8 by omega) with rfl | rfl | rfl | rfl | rfl | rfl | rfl | rfl | rfl <;> rfl) ⟨Nat.le_of_ble_eq_true rfl, Nat.le_of_ble_eq_true rfl⟩ dX10_init_5 (fun H hP hS => ?_)
  refine lv_dup hx hb dX10_init_8 rfl ?_
  refine gCallCN X nOK (vX8_init (i := 1) (w := va_up (va_up (va_up (rW bs cg kA) 147 (aR (cg 2) 8 bs 153 35 0)) 0 (.inr (15, [.null, .null, .null, .null, .null, .null, .null, .null, .null, .int 0, .int 0, .int 0]))) 1 (.inr (13, [.null, .null, .int 0, .int 0, .int 0, .int 0, .int 0, .int 0, .int 0]))) (by rw [vat])) ⟨va_cnB 0 X.hts (wT_good tw51) rfl rfl rfl (X.ks.2.1 _ xn44) (X.hts _ tw2) ⟨by decide, by decide, by decide +kernel⟩ ⟨Nat.le_of_ble_eq_true rfl, Nat.le_of_ble_eq_true rfl⟩, rfl, X.hts _ tw50⟩ rfl hP hS (Fr_le hS.1) hl.1 (Nat.le_of_ble_eq_true rfl) ⟨Nat.le_of_ble_eq_true rfl, Nat.le_of_ble_eq_true rfl⟩ dX10_init_9 (As := []) (rest := [.ref (bs + 1), .ref (bs + 0)]) rfl (fun H locs hP hS => ?_)
  have hP : nP dC dI cg kA bs (5, (va_up (va_up (rW bs cg kA) 147 (aR (cg 2) 8 bs 153 35 0)) 0 (.inr (15, [.null, .null, .null, .null, .null, .null, .null, .null, .null, .int 0, .int 0, .int 0])))) s H := nP.cl hP (by omega) (fun t ht => (vne (by omega)).trans (rW_1 ht))
  refine nw_putF X hin hP hS (Or.inl (Nat.le_add_right _ _)) ⟨by omega, by rw [vat]⟩ rfl cinX10 tyX10_ok nmX10 (k := 0) (by decide) rfl rfl (rfl) (rfl) (show 0 + 1 ≤ _ from Nat.le_of_ble_eq_true rfl) tw750 dX10_init_12 (fun H locs hP hS => ?_)
  have hP : nP dC dI cg kA bs (5, (va_up (va_up (rW bs cg kA) 147 (aR (cg 2) 8 bs 153 35 0)) 0 (.inr (15, [.ref (bs + 1), .null, .null, .null, .null, .null, .null, .null, .null, .int 0, .int 0, .int 0])))) s H := nP.pp hP
  refine lv_aload_n hx hb dX10_init_15 rfl (lv_at hl 0 rfl) ?_
  refine nw_new (ci := 8) (tyT := tyX3) [.null, .int 0] X hP hS cinX3 tyX3_ok tw117 tw118 tw7 rfl (fun j hj => by rcases (show j = 0 ∨ j = 1 by omega) with rfl | rfl <;> rfl) ⟨Nat.le_of_ble_eq_true rfl, Nat.le_of_ble_eq_true rfl⟩ dX10_init_16 (fun H hP hS => ?_)
  refine lv_dup hx hb dX10_init_19 rfl ?_
  refine gCallCN X nOK (vX3_init (i := 5) (w := va_up (va_up (va_up (rW bs cg kA) 147 (aR (cg 2) 8 bs 153 35 0)) 0 (.inr (15, [.ref (bs + 1), .null, .null, .null, .null, .null, .null, .null, .null, .int 0, .int 0, .int 0]))) 5 (.inr (8, [.null, .int 0]))) (by rw [vat])) ⟨va_cnB 0 X.hts (wT_good tw121) rfl rfl rfl (X.ks.2.1 _ xn118) (X.hts _ tw7) ⟨by decide, by decide, by decide +kernel⟩ ⟨Nat.le_of_ble_eq_true rfl, Nat.le_of_ble_eq_true rfl⟩, rfl, X.hts _ tw120⟩ rfl hP hS (Fr_le hS.1) hl.1 (Nat.le_of_ble_eq_true rfl) ⟨Nat.le_of_ble_eq_true rfl, Nat.le_of_ble_eq_true rfl⟩ dX10_init_20 (As := []) (rest := [.ref (bs + 5), .ref (bs + 0)]) rfl (fun H locs hP hS => ?_)
  have hP : nP dC dI cg kA bs (7, (va_up (va_up (rW bs cg kA) 147 (aR (cg 2) 8 bs 153 35 0)) 0 (.inr (15, [.ref (bs + 1), .null, .null, .null, .null, .null, .null, .null, .null, .int 0, .int 0, .int 0])))) s H := nP.cl hP (by omega) (fun t ht => (vne (by omega)).trans (rW_5 ht))
  refine nw_putF X hin hP hS (Or.inl (Nat.le_add_right _ _)) ⟨by omega, by rw [vat]⟩ rfl cinX10 tyX10_ok nmX10 (k := 1) (by decide) rfl rfl (rfl) (rfl) (show 1 + 1 ≤ _ from Nat.le_of_ble_eq_true rfl) tw751 dX10_init_23 (fun H locs hP hS => ?_)
  have hP : nP dC dI cg kA bs (7, (va_up (va_up (rW bs cg kA) 147 (aR (cg 2) 8 bs 153 35 0)) 0 (.inr (15, [.ref (bs + 1), .ref (bs + 5), .null, .null, .null, .null, .null, .null, .null, .int 0, .int 0, .int 0])))) s H := nP.pp hP
  refine lv_aload_n hx hb dX10_init_26 rfl (lv_at hl 0 rfl) ?_
  refine nw_new (ci := 7) (tyT := tyX2) [.null, .null, .null, .null, .null, .int 0, .int 0, .int 0, .int 0, .int 0, .int 0, .int 0, .int 0] X hP hS cinX2 tyX2_ok tw129 tw130 tw8 rfl (fun j hj => by rcases (show j = 0 ∨ j = 1 ∨ j = 2 ∨ j = 3 ∨ j = 4 ∨ j = 5 ∨ j = 6 ∨ j = 7 ∨ j = 8 ∨ j = 9 ∨ j = 10 ∨ j = 11 ∨ j = 12 by omega) with rfl | rfl | rfl | rfl | rfl | rfl | rfl | rfl | rfl | rfl | rfl | rfl | rfl <;> rfl) ⟨Nat.le_of_ble_eq_true rfl, Nat.le_of_ble_eq_true rfl⟩ dX10_init_27 (fun H hP hS => ?_)
  refine lv_dup hx hb dX10_init_30 rfl ?_
  refine gCallCI X nOK (vX2_init (i := 7) (w := va_up (va_up (va_up (rW bs cg kA) 147 (aR (cg 2) 8 bs 153 35 0)) 0 (.inr (15, [.ref (bs + 1), .ref (bs + 5), .null, .null, .null, .null, .null, .null, .null, .int 0, .int 0, .int 0]))) 7 (.inr (7, [.null, .null, .null, .null, .null, .int 0, .int 0, .int 0, .int 0, .int 0, .int 0, .int 0, .int 0]))) (by rw [vat])) (cwI 0 X.hts (wT_good tw133) rfl rfl rfl (X.hts _ tw8) (X.hts _ tw131) (X.hts _ tw132) rfl ⟨by decide, by decide, by decide +kernel⟩ ⟨Nat.le_of_ble_eq_true rfl, Nat.le_of_ble_eq_true rfl⟩) rfl hP hS (Fr_le hS.1) hl.1 (Nat.le_of_ble_eq_true rfl) ⟨Nat.le_of_ble_eq_true rfl, Nat.le_of_ble_eq_true rfl⟩ dX10_init_31 (As := []) (rest := [.ref (bs + 7), .ref (bs + 0)]) rfl (fun H locs hP hS => ?_)
  have hP : nP dC dI cg kA bs (42, (va_up (va_up (rW bs cg kA) 147 (aR (cg 2) 8 bs 153 35 0)) 0 (.inr (15, [.ref (bs + 1), .ref (bs + 5), .null, .null, .null, .null, .null, .null, .null, .int 0, .int 0, .int 0])))) s H := nP.cl hP (by omega) (fun t ht => (vne (by omega)).trans (rW_7 ht))
  refine nw_putF X hin hP hS (Or.inl (Nat.le_add_right _ _)) ⟨by omega, by rw [vat]⟩ rfl cinX10 tyX10_ok nmX10 (k := 2) (by decide) rfl rfl (rfl) (rfl) (show 2 + 1 ≤ _ from Nat.le_of_ble_eq_true rfl) tw752 dX10_init_34 (fun H locs hP hS => ?_)
  have hP : nP dC dI cg kA bs (42, (va_up (va_up (rW bs cg kA) 147 (aR (cg 2) 8 bs 153 35 0)) 0 (.inr (15, [.ref (bs + 1), .ref (bs + 5), .ref (bs + 7), .null, .null, .null, .null, .null, .null, .int 0, .int 0, .int 0])))) s H := nP.pp hP
  refine lv_aload_n hx hb dX10_init_37 rfl (lv_at hl 0 rfl) ?_
  refine nw_new (ci := 7) (tyT := tyX2) [.null, .null, .null, .null, .null, .int 0, .int 0, .int 0, .int 0, .int 0, .int 0, .int 0, .int 0] X hP hS cinX2 tyX2_ok tw129 tw130 tw8 rfl (fun j hj => by rcases (show j = 0 ∨ j = 1 ∨ j = 2 ∨ j = 3 ∨ j = 4 ∨ j = 5 ∨ j = 6 ∨ j = 7 ∨ j = 8 ∨ j = 9 ∨ j = 10 ∨ j = 11 ∨ j = 12 by omega) with rfl | rfl | rfl | rfl | rfl | rfl | rfl | rfl | rfl | rfl | rfl | rfl | rfl <;> rfl) ⟨Nat.le_of_ble_eq_true rfl, Nat.le_of_ble_eq_true rfl⟩ dX10_init_38 (fun H hP hS => ?_)
  refine lv_dup hx hb dX10_init_41 rfl ?_
  refine gCallCI X nOK (vX2_init (i := 42) (w := va_up (va_up (va_up (rW bs cg kA) 147 (aR (cg 2) 8 bs 153 35 0)) 0 (.inr (15, [.ref (bs + 1), .ref (bs + 5), .ref (bs + 7), .null, .null, .null, .null, .null, .null, .int 0, .int 0, .int 0]))) 42 (.inr (7, [.null, .null, .null, .null, .null, .int 0, .int 0, .int 0, .int 0, .int 0, .int 0, .int 0, .int 0]))) (by rw [vat])) (cwI 0 X.hts (wT_good tw133) rfl rfl rfl (X.hts _ tw8) (X.hts _ tw131) (X.hts _ tw132) rfl ⟨by decide, by decide, by decide +kernel⟩ ⟨Nat.le_of_ble_eq_true rfl, Nat.le_of_ble_eq_true rfl⟩) rfl hP hS (Fr_le hS.1) hl.1 (Nat.le_of_ble_eq_true rfl) ⟨Nat.le_of_ble_eq_true rfl, Nat.le_of_ble_eq_true rfl⟩ dX10_init_42 (As := []) (rest := [.ref (bs + 42), .ref (bs + 0)]) rfl (fun H locs hP hS => ?_)
  have hP : nP dC dI cg kA bs (77, (va_up (va_up (rW bs cg kA) 147 (aR (cg 2) 8 bs 153 35 0)) 0 (.inr (15, [.ref (bs + 1), .ref (bs + 5), .ref (bs + 7), .null, .null, .null, .null, .null, .null, .int 0, .int 0, .int 0])))) s H := nP.cl hP (by omega) (fun t ht => (vne (by omega)).trans (rW_42 ht))
  refine nw_putF X hin hP hS (Or.inl (Nat.le_add_right _ _)) ⟨by omega, by rw [vat]⟩ rfl cinX10 tyX10_ok nmX10 (k := 3) (by decide) rfl rfl (rfl) (rfl) (show 3 + 1 ≤ _ from Nat.le_of_ble_eq_true rfl) tw753 dX10_init_45 (fun H locs hP hS => ?_)
  have hP : nP dC dI cg kA bs (77, (va_up (va_up (rW bs cg kA) 147 (aR (cg 2) 8 bs 153 35 0)) 0 (.inr (15, [.ref (bs + 1), .ref (bs + 5), .ref (bs + 7), .ref (bs + 42), .null, .null, .null, .null, .null, .int 0, .int 0, .int 0])))) s H := nP.pp hP
  refine lv_aload_n hx hb dX10_init_48 rfl (lv_at hl 0 rfl) ?_
  refine nw_new (ci := 7) (tyT := tyX2) [.null, .null, .null, .null, .null, .int 0, .int 0, .int 0, .int 0, .int 0, .int 0, .int 0, .int 0] X hP hS cinX2 tyX2_ok tw129 tw130 tw8 rfl (fun j hj => by rcases (show j = 0 ∨ j = 1 ∨ j = 2 ∨ j = 3 ∨ j = 4 ∨ j = 5 ∨ j = 6 ∨ j = 7 ∨ j = 8 ∨ j = 9 ∨ j = 10 ∨ j = 11 ∨ j = 12 by omega) with rfl | rfl | rfl | rfl | rfl | rfl | rfl | rfl | rfl | rfl | rfl | rfl | rfl <;> rfl) ⟨Nat.le_of_ble_eq_true rfl, Nat.le_of_ble_eq_true rfl⟩ dX10_init_49 (fun H hP hS => ?_)
  refine lv_dup hx hb dX10_init_52 rfl ?_
  refine gCallCI X nOK (vX2_init (i := 77) (w := va_up (va_up (va_up (rW bs cg kA) 147 (aR (cg 2) 8 bs 153 35 0)) 0 (.inr (15, [.ref (bs + 1), .ref (bs + 5), .ref (bs + 7), .ref (bs + 42), .null, .null, .null, .null, .null, .int 0, .int 0, .int 0]))) 77 (.inr (7, [.null, .null, .null, .null, .null, .int 0, .int 0, .int 0, .int 0, .int 0, .int 0, .int 0, .int 0]))) (by rw [vat])) (cwI 0 X.hts (wT_good tw133) rfl rfl rfl (X.hts _ tw8) (X.hts _ tw131) (X.hts _ tw132) rfl ⟨by decide, by decide, by decide +kernel⟩ ⟨Nat.le_of_ble_eq_true rfl, Nat.le_of_ble_eq_true rfl⟩) rfl hP hS (Fr_le hS.1) hl.1 (Nat.le_of_ble_eq_true rfl) ⟨Nat.le_of_ble_eq_true rfl, Nat.le_of_ble_eq_true rfl⟩ dX10_init_53 (As := []) (rest := [.ref (bs + 77), .ref (bs + 0)]) rfl (fun H locs hP hS => ?_)
  have hP : nP dC dI cg kA bs (112, (va_up (va_up (rW bs cg kA) 147 (aR (cg 2) 8 bs 153 35 0)) 0 (.inr (15, [.ref (bs + 1), .ref (bs + 5), .ref (bs + 7), .ref (bs + 42), .null, .null, .null, .null, .null, .int 0, .int 0, .int 0])))) s H := nP.cl hP (by omega) (fun t ht => (vne (by omega)).trans (rW_77 ht))
  refine nw_putF X hin hP hS (Or.inl (Nat.le_add_right _ _)) ⟨by omega, by rw [vat]⟩ rfl cinX10 tyX10_ok nmX10 (k := 4) (by decide) rfl rfl (rfl) (rfl) (show 4 + 1 ≤ _ from Nat.le_of_ble_eq_true rfl) tw754 dX10_init_56 (fun H locs hP hS => ?_)
  have hP : nP dC dI cg kA bs (112, (va_up (va_up (rW bs cg kA) 147 (aR (cg 2) 8 bs 153 35 0)) 0 (.inr (15, [.ref (bs + 1), .ref (bs + 5), .ref (bs + 7), .ref (bs + 42), .ref (bs + 77), .null, .null, .null, .null, .int 0, .int 0, .int 0])))) s H := nP.pp hP
  refine lv_aload_n hx hb dX10_init_59 rfl (lv_at hl 0 rfl) ?_
  refine nw_new (ci := 7) (tyT := tyX2) [.null, .null, .null, .null, .null, .int 0, .int 0, .int 0, .int 0, .int 0, .int 0, .int 0, .int 0] X hP hS cinX2 tyX2_ok tw129 tw130 tw8 rfl (fun j hj => by rcases (show j = 0 ∨ j = 1 ∨ j = 2 ∨ j = 3 ∨ j = 4 ∨ j = 5 ∨ j = 6 ∨ j = 7 ∨ j = 8 ∨ j = 9 ∨ j = 10 ∨ j = 11 ∨ j = 12 by omega) with rfl | rfl | rfl | rfl | rfl | rfl | rfl | rfl | rfl | rfl | rfl | rfl | rfl <;> rfl) ⟨Nat.le_of_ble_eq_true rfl, Nat.le_of_ble_eq_true rfl⟩ dX10_init_60 (fun H hP hS => ?_)
  refine lv_dup hx hb dX10_init_63 rfl ?_
  refine gCallCI X nOK (vX2_init (i := 112) (w := va_up (va_up (va_up (rW bs cg kA) 147 (aR (cg 2) 8 bs 153 35 0)) 0 (.inr (15, [.ref (bs + 1), .ref (bs + 5), .ref (bs + 7), .ref (bs + 42), .ref (bs + 77), .null, .null, .null, .null, .int 0, .int 0, .int 0]))) 112 (.inr (7, [.null, .null, .null, .null, .null, .int 0, .int 0, .int 0, .int 0, .int 0, .int 0, .int 0, .int 0]))) (by rw [vat])) (cwI 0 X.hts (wT_good tw133) rfl rfl rfl (X.hts _ tw8) (X.hts _ tw131) (X.hts _ tw132) rfl ⟨by decide, by decide, by decide +kernel⟩ ⟨Nat.le_of_ble_eq_true rfl, Nat.le_of_ble_eq_true rfl⟩) rfl hP hS (Fr_le hS.1) hl.1 (Nat.le_of_ble_eq_true rfl) ⟨Nat.le_of_ble_eq_true rfl, Nat.le_of_ble_eq_true rfl⟩ dX10_init_64 (As := []) (rest := [.ref (bs + 112), .ref (bs + 0)]) rfl (fun H locs hP hS => ?_)
  have hP : nP dC dI cg kA bs (147, (va_up (va_up (rW bs cg kA) 147 (aR (cg 2) 8 bs 153 35 0)) 0 (.inr (15, [.ref (bs + 1), .ref (bs + 5), .ref (bs + 7), .ref (bs + 42), .ref (bs + 77), .null, .null, .null, .null, .int 0, .int 0, .int 0])))) s H := nP.cl hP (by omega) (fun t ht => (vne (by omega)).trans (rW_112 ht))
  refine nw_putF X hin hP hS (Or.inl (Nat.le_add_right _ _)) ⟨by omega, by rw [vat]⟩ rfl cinX10 tyX10_ok nmX10 (k := 5) (by decide) rfl rfl (rfl) (rfl) (show 5 + 1 ≤ _ from Nat.le_of_ble_eq_true rfl) tw755 dX10_init_67 (fun H locs hP hS => ?_)
  have hP : nP dC dI cg kA bs (147, (va_up (va_up (rW bs cg kA) 147 (aR (cg 2) 8 bs 153 35 0)) 0 (.inr (15, [.ref (bs + 1), .ref (bs + 5), .ref (bs + 7), .ref (bs + 42), .ref (bs + 77), .ref (bs + 112), .null, .null, .null, .int 0, .int 0, .int 0])))) s H := nP.pp hP
  refine lv_aload_n hx hb dX10_init_70 rfl (lv_at hl 0 rfl) ?_
  refine lv_bipush (v := 8) hx hb dX10_init_71 (by decide) ?_
  refine nw_newq (t0 := 2) (N := 8) X hP hS tw129 (fun z => z.1) rfl (by decide) (by decide) (Nat.le_of_ble_eq_true rfl) ⟨Nat.le_of_ble_eq_true rfl, Nat.le_of_ble_eq_true rfl⟩ dX10_init_73 (fun H hP hS => ?_)
  have hP : nP dC dI cg kA bs (148, (va_up (va_up (rW bs cg kA) 147 (aR (cg 2) 8 bs 153 35 0)) 0 (.inr (15, [.ref (bs + 1), .ref (bs + 5), .ref (bs + 7), .ref (bs + 42), .ref (bs + 77), .ref (bs + 112), .null, .null, .null, .int 0, .int 0, .int 0])))) s H := nP.cn hP (by omega) (vat.trans aR_0)
  refine nw_putF X hin hP hS (Or.inl (Nat.le_add_right _ _)) ⟨by omega, by rw [vat]⟩ rfl cinX10 tyX10_ok nmX10 (k := 6) (by decide) rfl rfl (rfl) (rfl) (show 6 + 1 ≤ _ from Nat.le_of_ble_eq_true rfl) tw756 dX10_init_76 (fun H locs hP hS => ?_)
  have hP : nP dC dI cg kA bs (148, (va_up (va_up (rW bs cg kA) 147 (aR (cg 2) 8 bs 153 35 0)) 0 (.inr (15, [.ref (bs + 1), .ref (bs + 5), .ref (bs + 7), .ref (bs + 42), .ref (bs + 77), .ref (bs + 112), .ref (bs + 147), .null, .null, .int 0, .int 0, .int 0])))) s H := nP.pp hP
  refine lv_aload_n hx hb dX10_init_79 rfl (lv_at hl 0 rfl) ?_
  refine nw_new (ci := 11) (tyT := tyX6) [.null, .null] X hP hS cinX6 tyX6_ok tw356 tw357 tw14 rfl (fun j hj => by rcases (show j = 0 ∨ j = 1 by omega) with rfl | rfl <;> rfl) ⟨Nat.le_of_ble_eq_true rfl, Nat.le_of_ble_eq_true rfl⟩ dX10_init_80 (fun H hP hS => ?_)
  refine lv_dup hx hb dX10_init_83 rfl ?_
  refine lv_aload_n hx hb dX10_init_84 rfl (lv_at hl 0 rfl) ?_
  refine nw_get X hP ⟨by omega, by rw [vne (by omega), vat]⟩ (k := 0) rfl rfl cinX10 (by decide) rfl tw750 dX10_init_85 ?_
  refine lv_aload_n hx hb dX10_init_88 rfl (lv_at hl 0 rfl) ?_
  refine nw_get X hP ⟨by omega, by rw [vne (by omega), vat]⟩ (k := 3) rfl rfl cinX10 (by decide) rfl tw753 dX10_init_89 ?_
  refine gCallCI X nOK (vX6_init (a1 := bs + 1) (a2 := bs + 42) (i := 148) (w := va_up (va_up (va_up (rW bs cg kA) 147 (aR (cg 2) 8 bs 153 35 0)) 0 (.inr (15, [.ref (bs + 1), .ref (bs + 5), .ref (bs + 7), .ref (bs + 42), .ref (bs + 77), .ref (bs + 112), .ref (bs + 147), .null, .null, .int 0, .int 0, .int 0]))) 148 (.inr (11, [.null, .null]))) (by rw [vat])) (cwI 2 X.hts (wT_good tw360) rfl rfl rfl (X.hts _ tw14) (X.hts _ tw358) (X.hts _ tw359) rfl ⟨by decide, by decide, by decide +kernel⟩ ⟨Nat.le_of_ble_eq_true rfl, Nat.le_of_ble_eq_true rfl⟩) rfl hP hS (Fr_le hS.1) hl.1 (Nat.le_of_ble_eq_true rfl) ⟨Nat.le_of_ble_eq_true rfl, Nat.le_of_ble_eq_true rfl⟩ dX10_init_92 (As := [.ref (bs + 1), .ref (bs + 42)]) (rest := [.ref (bs + 148), .ref (bs + 0)]) rfl (fun H locs hP hS => ?_)
  have hP : nP dC dI cg kA bs (149, (va_up (va_up (rW bs cg kA) 147 (aR (cg 2) 8 bs 153 35 0)) 0 (.inr (15, [.ref (bs + 1), .ref (bs + 5), .ref (bs + 7), .ref (bs + 42), .ref (bs + 77), .ref (bs + 112), .ref (bs + 147), .null, .null, .int 0, .int 0, .int 0])))) s H := nP.cl hP (by omega) (fun t ht => (vne (by omega)).trans ((by
    have et : t = 0 := by omega
    subst et
    exact rW_148)))
  refine nw_putF X hin hP hS (Or.inl (Nat.le_add_right _ _)) ⟨by omega, by rw [vat]⟩ rfl cinX10 tyX10_ok nmX10 (k := 7) (by decide) rfl rfl (rfl) (rfl) (show 7 + 1 ≤ _ from Nat.le_of_ble_eq_true rfl) tw757 dX10_init_95 (fun H locs hP hS => ?_)
  have hP : nP dC dI cg kA bs (149, (va_up (va_up (rW bs cg kA) 147 (aR (cg 2) 8 bs 153 35 0)) 0 (.inr (15, [.ref (bs + 1), .ref (bs + 5), .ref (bs + 7), .ref (bs + 42), .ref (bs + 77), .ref (bs + 112), .ref (bs + 147), .ref (bs + 148), .null, .int 0, .int 0, .int 0])))) s H := nP.pp hP
  refine lv_aload_n hx hb dX10_init_98 rfl (lv_at hl 0 rfl) ?_
  refine nw_new (ci := 10) (tyT := tyX5) [.null, .null, .null, .null, .null, .int 0] X hP hS cinX5 tyX5_ok tw369 tw370 tw15 rfl (fun j hj => by rcases (show j = 0 ∨ j = 1 ∨ j = 2 ∨ j = 3 ∨ j = 4 ∨ j = 5 by omega) with rfl | rfl | rfl | rfl | rfl | rfl <;> rfl) ⟨Nat.le_of_ble_eq_true rfl, Nat.le_of_ble_eq_true rfl⟩ dX10_init_99 (fun H hP hS => ?_)
  refine lv_dup hx hb dX10_init_102 rfl ?_
  refine lv_aload_n hx hb dX10_init_103 rfl (lv_at hl 0 rfl) ?_
  refine nw_get X hP ⟨by omega, by rw [vne (by omega), vat]⟩ (k := 0) rfl rfl cinX10 (by decide) rfl tw750 dX10_init_104 ?_
  refine lv_aload_n hx hb dX10_init_107 rfl (lv_at hl 0 rfl) ?_
  refine nw_get X hP ⟨by omega, by rw [vne (by omega), vat]⟩ (k := 2) rfl rfl cinX10 (by decide) rfl tw752 dX10_init_108 ?_
  refine gCallCI X nOK (vX5_init (a1 := bs + 1) (a2 := bs + 7) (i := 149) (w := va_up (va_up (va_up (rW bs cg kA) 147 (aR (cg 2) 8 bs 153 35 0)) 0 (.inr (15, [.ref (bs + 1), .ref (bs + 5), .ref (bs + 7), .ref (bs + 42), .ref (bs + 77), .ref (bs + 112), .ref (bs + 147), .ref (bs + 148), .null, .int 0, .int 0, .int 0]))) 149 (.inr (10, [.null, .null, .null, .null, .null, .int 0]))) (by rw [vat])) (cwI 2 X.hts (wT_good tw373) rfl rfl rfl (X.hts _ tw15) (X.hts _ tw371) (X.hts _ tw372) rfl ⟨by decide, by decide, by decide +kernel⟩ ⟨Nat.le_of_ble_eq_true rfl, Nat.le_of_ble_eq_true rfl⟩) rfl hP hS (Fr_le hS.1) hl.1 (Nat.le_of_ble_eq_true rfl) ⟨Nat.le_of_ble_eq_true rfl, Nat.le_of_ble_eq_true rfl⟩ dX10_init_111 (As := [.ref (bs + 1), .ref (bs + 7)]) (rest := [.ref (bs + 149), .ref (bs + 0)]) rfl (fun H locs hP hS => ?_)
  have hP : nP dC dI cg kA bs (153, (va_up (va_up (rW bs cg kA) 147 (aR (cg 2) 8 bs 153 35 0)) 0 (.inr (15, [.ref (bs + 1), .ref (bs + 5), .ref (bs + 7), .ref (bs + 42), .ref (bs + 77), .ref (bs + 112), .ref (bs + 147), .ref (bs + 148), .null, .int 0, .int 0, .int 0])))) s H := nP.cl hP (by omega) (fun t ht => (vne (by omega)).trans (rW_149 ht))
  refine nw_putF X hin hP hS (Or.inl (Nat.le_add_right _ _)) ⟨by omega, by rw [vat]⟩ rfl cinX10 tyX10_ok nmX10 (k := 8) (by decide) rfl rfl (rfl) (rfl) (show 8 + 1 ≤ _ from Nat.le_of_ble_eq_true rfl) tw758 dX10_init_114 (fun H locs hP hS => ?_)
  have hP : nP dC dI cg kA bs (153, (va_up (va_up (rW bs cg kA) 147 (aR (cg 2) 8 bs 153 35 0)) 0 (.inr (15, [.ref (bs + 1), .ref (bs + 5), .ref (bs + 7), .ref (bs + 42), .ref (bs + 77), .ref (bs + 112), .ref (bs + 147), .ref (bs + 148), .ref (bs + 149), .int 0, .int 0, .int 0])))) s H := nP.pp hP
  have l1 : ∀ r j (ls : Array Slot) (H : Heap) (locs : List Loc) (cl sl : Nat), 8 = j + r → lv_has ls 2 [(1, .int (nI j)), (0, .ref (bs + 0))] → nP dC dI cg kA bs (153 + 35 * j, va_up (rW bs cg kA) (147) (aR (cg 2) 8 bs (153) 35 j)) s H → va_S (Fr (nΩ bs) s.heap.size) s.heap H locs → cl ≤ 152 + 35 * j → sl ≤ 1645 + 202 * j → (∀ (ls : Array Slot) (H : Heap) (locs : List Loc) (cl sl : Nat), lv_has ls 2 [(1, .int (nI 8)), (0, .ref (bs + 0))] → nP dC dI cg kA bs (153 + 35 * 8, va_up (rW bs cg kA) (147) (aR (cg 2) 8 bs (153) 35 8)) s H → va_S (Fr (nΩ bs) s.heap.size) s.heap H locs → cl ≤ 152 + 35 * 8 → sl ≤ 1645 + 202 * 8 → W p l e (rmL 13 834 7080) s m args below meth c H locs cl sl Q (F0 m 147 ls [])) → W p l e (rmL 13 834 7080) s m args below meth c H locs cl sl Q (F0 m 119 ls []) := by
    intro r
    induction r with
    | zero =>
      intro j ls H locs cl sl hj hl hP hS hc hs K
      have ej : j = 8 := by omega
      subst ej
      refine lv_iload_n hx hb dX10_init_119 rfl (lv_at hl 0 rfl) ?_
      refine lv_aload_n hx hb dX10_init_120 rfl (lv_at hl 1 rfl) ?_
      refine nw_get X hP ⟨by omega, by rw [vne (by omega)]; exact rW_0⟩ (k := 6) rfl rfl cinX10 (by decide) rfl tw756 dX10_init_121 ?_
      refine nw_alen (t0 := 2) (v := nI 8) X hP ⟨by omega, by rw [vat]; rfl⟩ rfl rfl dX10_init_124 ?_
      refine lv_icmp_ge (tgt := 147) hx hb dX10_init_125 (by decide) (fun _ => ?_) (fun c => absurd (nI_le (Nat.le_refl _) (by omega)) c)
      exact K ls H locs cl sl hl hP hS hc hs
    | succ r ih =>
      intro j ls H locs cl sl hj hl hP hS hc hs K
      refine lv_iload_n hx hb dX10_init_119 rfl (lv_at hl 0 rfl) ?_
      refine lv_aload_n hx hb dX10_init_120 rfl (lv_at hl 1 rfl) ?_
      refine nw_get X hP ⟨by omega, by rw [vne (by omega)]; exact rW_0⟩ (k := 6) rfl rfl cinX10 (by decide) rfl tw756 dX10_init_121 ?_
      refine nw_alen (t0 := 2) (v := nI 8) X hP ⟨by omega, by rw [vat]; rfl⟩ rfl rfl dX10_init_124 ?_
      refine lv_icmp_ge (tgt := 147) hx hb dX10_init_125 (by decide) (fun c => absurd c (nI_ge (show j < 8 by omega) (by omega))) (fun _ => ?_)
      refine lv_aload_n hx hb dX10_init_128 rfl (lv_at hl 1 rfl) ?_
      refine nw_get X hP ⟨by omega, by rw [vne (by omega)]; exact rW_0⟩ (k := 6) rfl rfl cinX10 (by decide) rfl tw756 dX10_init_129 ?_
      refine lv_iload_n hx hb dX10_init_132 rfl (lv_at hl 0 rfl) ?_
      refine nw_new (ci := 7) (tyT := tyX2) [.null, .null, .null, .null, .null, .int 0, .int 0, .int 0, .int 0, .int 0, .int 0, .int 0, .int 0] X hP hS cinX2 tyX2_ok tw129 tw130 tw8 rfl (fun j hj => by rcases (show j = 0 ∨ j = 1 ∨ j = 2 ∨ j = 3 ∨ j = 4 ∨ j = 5 ∨ j = 6 ∨ j = 7 ∨ j = 8 ∨ j = 9 ∨ j = 10 ∨ j = 11 ∨ j = 12 by omega) with rfl | rfl | rfl | rfl | rfl | rfl | rfl | rfl | rfl | rfl | rfl | rfl | rfl <;> rfl) ⟨by show cl + 1 ≤ 834; omega, by show sl + 13 ≤ 7080; omega⟩ dX10_init_133 (fun H hP hS => ?_)
      refine lv_dup hx hb dX10_init_136 rfl ?_
      refine gCallCI X nOK (vX2_init (i := 153 + 35 * j) (w := va_up (va_up (rW bs cg kA) (147) (aR (cg 2) 8 bs (153) 35 j)) (153 + 35 * j) (.inr (7, [.null, .null, .null, .null, .null, .int 0, .int 0, .int 0, .int 0, .int 0, .int 0, .int 0, .int 0]))) (by rw [vat])) (cwI 0 X.hts (wT_good tw133) rfl rfl rfl (X.hts _ tw8) (X.hts _ tw131) (X.hts _ tw132) rfl ⟨by decide, by decide, by decide +kernel⟩ ⟨Nat.le_of_ble_eq_true rfl, Nat.le_of_ble_eq_true rfl⟩) rfl hP hS (Fr_le hS.1) hl.1 (Nat.le_of_ble_eq_true rfl) ⟨by show cl + 1 + 34 ≤ 834; omega, by show sl + 13 + 189 ≤ 7080; omega⟩ dX10_init_137 (As := []) (rest := [.ref (bs + (153 + 35 * j)), .int (nI j), .ref (bs + (147))]) rfl (fun H locs hP hS => ?_)
      refine nw_aast (t0 := 2) (ci := 7) (f := fun k => if k < j then some (bs + (153 + 35 * k)) else none) X hP hS (Or.inl (Nat.le_add_right _ _)) ⟨by omega, by rw [po_lt (by omega), vne (by omega), vat]; rfl⟩ rfl ⟨by omega, po_0⟩ rfl (nI_in (show j < 8 by omega) (by omega)) dX10_init_140 (fun H locs hP hS => ?_)
      have hP : nP dC dI cg kA bs (153 + 35 * (j + 1), va_up (rW bs cg kA) (147) (aR (cg 2) 8 bs (153) 35 (j + 1))) s H := nP.lp hP (by omega) (aR_s (by omega) rfl) (by omega) (fun t ht => rW_p ht)
      refine lv_iinc (v := nI j + 1) (lv' := [(1, .int (nI j + 1)), (0, .ref (bs + 0))]) hx hb dX10_init_141 hl (k := 0) rfl (by rfl) (by decide) rfl (fun ls hl => ?_)
      rw [nI_1] at hl
      refine lv_goto (tgt := 119) hx hb dX10_init_144 (by decide) ?_
      exact ih (j + 1) ls H locs _ _ (by omega) hl hP hS (by omega) (by omega) K
  have hP : nP dC dI cg kA bs (153 + 35 * 0, va_up (rW bs cg kA) 147 (aR (cg 2) 8 bs 153 35 0)) s H := hP.to (fun q hq => by
    by_cases h1 : q = 0
    · rw [h1, vat, vne (by omega)]; exact rW_0.symm
    · rw [vne h1])
  refine lv_iconst (v := 0) hx hb dX10_init_117 (by decide) ?_
  refine lv_istore_n (lv' := [(1, .int 0), (0, .ref (bs + 0))]) hx hb dX10_init_118 rfl hl (by decide) rfl (fun ls hl => ?_)
  have hl : lv_has ls 2 [(1, .int (nI 0)), (0, .ref (bs + 0))] := hl
  refine l1 8 0 ls H locs _ _ rfl hl hP hS (Nat.le_of_ble_eq_true rfl) (Nat.le_of_ble_eq_true rfl) (fun ls H locs cl sl hl hP hS hc hs => ?_)
  have hP : nP dC dI cg kA bs (433, (rW bs cg kA)) s H := (hP.dr rW_147.symm).cs (by rfl)
  have hP := c_conv hP
  have eA : Fr (nΩ bs) s.heap.size = Fr (cΩ (caOf bs)) s.heap.size := funext fun q => propext (by
    unfold Fr nΩ cΩ
    constructor
    · intro h
      by_cases h1 : q = bs
      · exact Or.inl ⟨0, by omega, h1⟩
      · exact Or.inr (by rcases h with h | h <;> omega)
    · intro h
      rcases h with ⟨z, _, rfl⟩ | h
      · exact Or.inl (Nat.le_add_right _ _)
      · exact Or.inl (by omega))
  rw [eA] at hS
  have hl : lv_has ls 2 [(1, .int (nI 8)), (0, .ref (caOf bs 0))] := hl
  obtain ⟨Sa, ha, hini⟩ := bd hini
  obtain ⟨⟨r, Sb⟩, hb1, hini⟩ := bd hini
  refine lv_aload_n hx hb dX10_init_147 rfl (lv_at hl 1 rfl) ?_
  refine cr_get (k := 0) X hP (rfl : kc 0 = 0) rfl cv0_0 rfl cinX10 (by decide) rfl tw750 dX10_init_148 ?_
  refine va_ldcS hx hb X.hown (kRat (q := ("GranaryWatch", 59, "cat tom 5 left;cat puss 3 right;cat moss 7 right;sack rye 60 4 open;sack oats 30 9 shut;sack peas 8 2 open;shift tom 4;shift puss 3;shift moss 5;", [99, 97, 116, 32, 116, 111, 109, 32, 53, 32, 108, 101, 102, 116, 59, 99, 97, 116, 32, 112, 117, 115, 115, 32, 51, 32, 114, 105, 103, 104, 116, 59, 99, 97, 116, 32, 109, 111, 115, 115, 32, 55, 32, 114, 105, 103, 104, 116, 59, 115, 97, 99, 107, 32, 114, 121, 101, 32, 54, 48, 32, 52, 32, 111, 112, 101, 110, 59, 115, 97, 99, 107, 32, 111, 97, 116, 115, 32, 51, 48, 32, 57, 32, 115, 104, 117, 116, 59, 115, 97, 99, 107, 32, 112, 101, 97, 115, 32, 56, 32, 50, 32, 111, 112, 101, 110, 59, 115, 104, 105, 102, 116, 32, 116, 111, 109, 32, 52, 59, 115, 104, 105, 102, 116, 32, 112, 117, 115, 115, 32, 51, 59, 115, 104, 105, 102, 116, 32, 109, 111, 115, 115, 32, 53, 59])) X.ks 0 rfl) dX10_init_151 ?_
  have hstr : strAt (kA "GranaryWatch" 59) iT (cΩ (caOf bs)) s H := by
    obtain ⟨nA, _, _, _, a4, _⟩ := hP
    exact a4.1 ("GranaryWatch", 59, "cat tom 5 left;cat puss 3 right;cat moss 7 right;sack rye 60 4 open;sack oats 30 9 shut;sack peas 8 2 open;shift tom 4;shift puss 3;shift moss 5;", [99, 97, 116, 32, 116, 111, 109, 32, 53, 32, 108, 101, 102, 116, 59, 99, 97, 116, 32, 112, 117, 115, 115, 32, 51, 32, 114, 105, 103, 104, 116, 59, 99, 97, 116, 32, 109, 111, 115, 115, 32, 55, 32, 114, 105, 103, 104, 116, 59, 115, 97, 99, 107, 32, 114, 121, 101, 32, 54, 48, 32, 52, 32, 111, 112, 101, 110, 59, 115, 97, 99, 107, 32, 111, 97, 116, 115, 32, 51, 48, 32, 57, 32, 115, 104, 117, 116, 59, 115, 97, 99, 107, 32, 112, 101, 97, 115, 32, 56, 32, 50, 32, 111, 112, 101, 110, 59, 115, 104, 105, 102, 116, 32, 116, 111, 109, 32, 52, 59, 115, 104, 105, 102, 116, 32, 112, 117, 115, 115, 32, 51, 59, 115, 104, 105, 102, 116, 32, 109, 111, 115, 115, 32, 53, 59]) (List.mem_of_getElem? (i := 0) rfl)
  refine gCallWV X (gPS_ok cOK) (gMetVA.of (vX8_appendWords (wa1 := kA "GranaryWatch" 59) ha)) (cw_V 1 X (gT_V tw394 tw395 tw396 tw2 tw397) ⟨rfl, by decide, by decide, by decide +kernel⟩ ⟨by decide, by decide⟩) rfl ⟨hP, fun q hq => by
    have e : q = (kA "GranaryWatch" 59, iT) := List.mem_singleton.mp hq
    rw [e]
    exact hstr⟩ hS (Fr_le hS.1) (cr_rec hP (rfl : kc 1 = 1) rfl cw1 rfl) hl.1 (Nat.le_of_ble_eq_true rfl) ⟨by show cl + 0 ≤ 834; omega, by show sl + 0 ≤ 7080; omega⟩ dX10_init_153 (As := [.ref (kA "GranaryWatch" 59)]) (rest := []) rfl (fun H locs hP hS => ?_)
  have hP := hP.1
  refine lv_aload_n hx hb dX10_init_156 rfl (lv_at hl 1 rfl) ?_
  refine cr_get (k := 7) X hP (rfl : kc 0 = 0) rfl cv0_7 rfl cinX10 (by decide) rfl tw757 dX10_init_157 ?_
  refine gCallWI X cOK (vX6_parse hb1) (cw_V 0 X gRX10_X6_parse hdX6_parse ⟨by decide, by decide⟩) rfl hP hS (Fr_le hS.1) (cr_rec hP (rfl : kc 7 = 7) rfl cw7 rfl) hl.1 (Nat.le_of_ble_eq_true rfl) ⟨by show cl + 0 + 402 ≤ 834; omega, by show sl + 0 + 3819 ≤ 7080; omega⟩ dX10_init_160 (As := []) (rest := []) rfl (fun H locs hP hS => ?_)
  refine lv_pop hx hb dX10_init_163 rfl ?_
  refine lv_aload_n hx hb dX10_init_164 rfl (lv_at hl 1 rfl) ?_
  refine cr_get (k := 0) X hP (rfl : kc 0 = 0) rfl cv0_0 rfl cinX10 (by decide) rfl tw750 dX10_init_165 ?_
  refine lv_iconst (v := 0) hx hb dX10_init_168 (by decide) ?_
  refine cr_put (k := 2) X hP hS (rfl : kc 1 = 1) rfl cs1_2 rfl cinX8 tyX8_ok nmX8 (by decide) rfl rfl rfl rfl tw88 dX10_init_169 (fun H locs hP hS => ?_)
  refine lv_aload_n hx hb dX10_init_172 rfl (lv_at hl 1 rfl) ?_
  refine cr_get (k := 2) X hP (rfl : kc 0 = 0) rfl cv0_2 rfl cinX10 (by decide) rfl tw752 dX10_init_173 ?_
  refine lv_aload_n hx hb dX10_init_176 rfl (lv_at hl 1 rfl) ?_
  refine cr_get (k := 3) X hP (rfl : kc 0 = 0) rfl cv0_3 rfl cinX10 (by decide) rfl tw753 dX10_init_177 ?_
  refine gCallWV X cOK (gMetVA.of (vX2_copyFrom (rfl : kc 13 = 11) (rfl : kc 48 = 11) hini)) (cw_V 1 X gRX10_X2_copyFrom hdX2_copyFrom ⟨by decide, by decide⟩) rfl hP hS (Fr_le hS.1) (cr_rec hP (rfl : kc 13 = 11) rfl cw11 rfl) hl.1 (Nat.le_of_ble_eq_true rfl) ⟨by show cl + 0 + 402 + 0 ≤ 834; omega, by show sl + 0 + 3819 + 0 ≤ 7080; omega⟩ dX10_init_180 (As := [.ref (caOf bs 48)]) (rest := []) rfl (fun H locs hP hS => ?_)
  rw [← eA] at hS
  exact hret _ _ _ _ _ _ dX10_init_183 hP hS (by omega) (by omega))
end WATCH
