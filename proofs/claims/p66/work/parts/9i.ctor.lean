theorem tw52 : (Jvm.Cond.methodLink "GranaryWatch$Text" (3 : Nat) ({ cls := "java/lang/Object", name := "<init>", desc := "()V" } : Jvm.MethodName)) ∈ TBG := tb_t 52 (by decide +kernel) (by decide +kernel)
theorem tw53 : (Jvm.Cond.classLink "GranaryWatch$Text" (15 : Nat) "java/lang/StringBuilder") ∈ TBG := tb_t 53 (by decide +kernel) (by decide +kernel)
theorem tw54 : (Jvm.Cond.instantiable "java/lang/StringBuilder" (4 : Nat)) ∈ TBG := tb_t 54 (by decide +kernel) (by decide +kernel)
theorem tw55 : (Jvm.Cond.methodLink "GranaryWatch$Text" (17 : Nat) ({ cls := "java/lang/StringBuilder", name := "<init>", desc := "()V" } : Jvm.MethodName)) ∈ TBG := tb_t 55 (by decide +kernel) (by decide +kernel)
theorem tw56 : (Jvm.Cond.instanceMethod ({ cls := "java/lang/StringBuilder", name := "<init>", desc := "()V" } : Jvm.MethodName)) ∈ TBG := tb_t 56 (by decide +kernel) (by decide +kernel)
theorem tw57 : (Jvm.Cond.code ({ cls := "java/lang/StringBuilder", name := "<init>", desc := "()V" } : Jvm.MethodName) prog_34_method_1_code (1 : Nat) (Option.none : Option Jvm.ClassFile.FieldType)) ∈ TBG := tb_t 57 (by decide +kernel) (by decide +kernel)
theorem tw58 : (Jvm.Cond.methodLink "java/lang/StringBuilder" (1 : Nat) ({ cls := "java/lang/AbstractStringBuilder", name := "<init>", desc := "(I)V" } : Jvm.MethodName)) ∈ TBG := tb_t 58 (by decide +kernel) (by decide +kernel)
theorem tw59 : (Jvm.Cond.instanceMethod ({ cls := "java/lang/AbstractStringBuilder", name := "<init>", desc := "(I)V" } : Jvm.MethodName)) ∈ TBG := tb_t 59 (by decide +kernel) (by decide +kernel)
theorem tw60 : (Jvm.Cond.code ({ cls := "java/lang/AbstractStringBuilder", name := "<init>", desc := "(I)V" } : Jvm.MethodName) prog_18_method_2_code (2 : Nat) (Option.none : Option Jvm.ClassFile.FieldType)) ∈ TBG := tb_t 60 (by decide +kernel) (by decide +kernel)
theorem tw61 : (Jvm.Cond.methodLink "java/lang/AbstractStringBuilder" (3 : Nat) ({ cls := "java/lang/Object", name := "<init>", desc := "()V" } : Jvm.MethodName)) ∈ TBG := tb_t 61 (by decide +kernel) (by decide +kernel)
theorem tw122 : (Jvm.Cond.methodLink "GranaryWatch$Output" (3 : Nat) ({ cls := "java/lang/Object", name := "<init>", desc := "()V" } : Jvm.MethodName)) ∈ TBG := tb_t 122 (by decide +kernel) (by decide +kernel)
theorem tw123 : (Jvm.Cond.fieldLink "GranaryWatch$Output" (9 : Nat) "GranaryWatch$Output" "bytes" "[B") ∈ TBG := tb_t 123 (by decide +kernel) (by decide +kernel)
theorem tw146 : (Jvm.Cond.methodLink "GranaryWatch$Events" (3 : Nat) ({ cls := "java/lang/Object", name := "<init>", desc := "()V" } : Jvm.MethodName)) ∈ TBG := tb_t 146 (by decide +kernel) (by decide +kernel)
theorem tw163 : (Jvm.Cond.arrayClass Jvm.ClassFile.FieldType.int) ∈ TBG := tb_t 163 (by decide +kernel) (by decide +kernel)
theorem tw169 : (Jvm.Cond.methodLink "GranaryWatch$Totals" (1 : Nat) ({ cls := "java/lang/Object", name := "<init>", desc := "()V" } : Jvm.MethodName)) ∈ TBG := tb_t 169 (by decide +kernel) (by decide +kernel)
theorem tw213 : (Jvm.Cond.methodLink "GranaryWatch$Cat" (3 : Nat) ({ cls := "java/lang/Object", name := "<init>", desc := "()V" } : Jvm.MethodName)) ∈ TBG := tb_t 213 (by decide +kernel) (by decide +kernel)
theorem tw249 : (Jvm.Cond.methodLink "GranaryWatch$Sack" (1 : Nat) ({ cls := "java/lang/Object", name := "<init>", desc := "()V" } : Jvm.MethodName)) ∈ TBG := tb_t 249 (by decide +kernel) (by decide +kernel)
theorem tw285 : (Jvm.Cond.methodLink "GranaryWatch$Shift" (1 : Nat) ({ cls := "java/lang/Object", name := "<init>", desc := "()V" } : Jvm.MethodName)) ∈ TBG := tb_t 285 (by decide +kernel) (by decide +kernel)
theorem tw361 : (Jvm.Cond.methodLink "GranaryWatch$Setup" (3 : Nat) ({ cls := "java/lang/Object", name := "<init>", desc := "()V" } : Jvm.MethodName)) ∈ TBG := tb_t 361 (by decide +kernel) (by decide +kernel)
theorem tw374 : (Jvm.Cond.methodLink "GranaryWatch$Script" (3 : Nat) ({ cls := "java/lang/Object", name := "<init>", desc := "()V" } : Jvm.MethodName)) ∈ TBG := tb_t 374 (by decide +kernel) (by decide +kernel)
theorem tw375 : (Jvm.Cond.fieldLink "GranaryWatch$Script" (21 : Nat) "GranaryWatch$Script" "text" "LGranaryWatch$Text;") ∈ TBG := tb_t 375 (by decide +kernel) (by decide +kernel)
theorem tw376 : (Jvm.Cond.fieldLink "GranaryWatch$Script" (25 : Nat) "GranaryWatch$Script" "granary" "LGranaryWatch$Granary;") ∈ TBG := tb_t 376 (by decide +kernel) (by decide +kernel)
theorem tw377 : (Jvm.Cond.fieldLink "GranaryWatch$Script" (9 : Nat) "GranaryWatch$Script" "kinds" "[I") ∈ TBG := tb_t 377 (by decide +kernel) (by decide +kernel)
theorem tw378 : (Jvm.Cond.fieldLink "GranaryWatch$Script" (15 : Nat) "GranaryWatch$Script" "sacks" "[I") ∈ TBG := tb_t 378 (by decide +kernel) (by decide +kernel)
theorem tw379 : (Jvm.Cond.fieldLink "GranaryWatch$Script" (18 : Nat) "GranaryWatch$Script" "numbers" "[I") ∈ TBG := tb_t 379 (by decide +kernel) (by decide +kernel)
/-! the small constructors -/
/-- what a constructor leaves: the cells from place i on -/
def po (r : Nat → va_E) (i : Nat) (w : Nat → va_E) : Nat → va_E := fun q => if i ≤ q then r (q - i) else w q
theorem po_at {r : Nat → va_E} {i k : Nat} {w : Nat → va_E} : po r i w (i + k) = r k := by
  unfold po
  rw [if_pos (by omega), Nat.add_sub_cancel_left]
theorem po_0 {r : Nat → va_E} {i : Nat} {w : Nat → va_E} : po r i w i = r 0 := po_at (k := 0)
theorem po_lt {r : Nat → va_E} {i q : Nat} {w : Nat → va_E} (h : q < i) : po r i w q = w q := if_neg (by omega)
section CTOR
variable {l : Launch} {dC : Nat → ClassId} {dI : Nat → Nat → Nat} {cg : Nat → ClassId} {kA : String → Nat → Nat} {bs i : Nat} {w : Nat → va_E}
def rX0 (bs : Nat) (cg : Nat → ClassId) (kA : String → Nat → Nat) (i : Nat) : Nat → va_E := fun k => match k with
  | _ => .inr (5, [.ref (kA "GranaryWatch$Cat" 9), .int 0, .int 0, .int 0, .int 0, .int 0])
theorem vX0_init (he : w i = .inr (5, [.null, .int 0, .int 0, .int 0, .int 0, .int 0])) : gMetVA l yX0_init cX0_init 1 1 0 0 (nΩ bs) (nP dC dI cg kA bs) (kR kTab kA) [.ref (bs + i)] (i + 1, w) (i + 1, po (rX0 bs cg kA i) i w) := gEntryVN (by decide) nOK (Nat.le_of_ble_eq_true rfl) (fun p e s m args below meth c Q ls X hin hP hS hret hl => by
  have hx := X.hx
  have hb := X.hb
  have hP : nP dC dI cg kA bs (i + 1, va_up w i (.inr (5, [.null, .int 0, .int 0, .int 0, .int 0, .int 0]))) s s.heap := hP.to (fun q hq => by
    by_cases h : q = i
    · subst h; rw [vat, he]
    · rw [vne h])
  refine lv_aload_n hx hb dX0_init_0 rfl (lv_at hl 0 rfl) ?_
  refine W.objInit hx hb X.hown (X.hts _ tw213) (X.hts _ tw45) (X.hts _ tw46) rfl (by rw [X.hml]; exact hl.1) rfl dX0_init_1 (Nat.le_of_ble_eq_true rfl) (Nat.le_of_ble_eq_true rfl) ?_
  refine W.eq (g2 := F0 m 4 ls []) rfl ?_
  refine lv_aload_n hx hb dX0_init_4 rfl (lv_at hl 0 rfl) ?_
  refine va_ldcS hx hb X.hown (kRat (q := ("GranaryWatch$Cat", 9, "", [])) X.ks 5 rfl) dX0_init_5 ?_
  refine nw_put X hP hS (Or.inl (Nat.le_add_right _ _)) ⟨by omega, by rw [vat]⟩ rfl cinX0 tyX0_ok nmX0 (k := 0) (by decide) rfl rfl (rfl) (rfl) (show 0 + 1 ≤ _ from Nat.le_of_ble_eq_true rfl) tw215 dX0_init_7 (fun H locs hP hS => ?_)
  have hP : nP dC dI cg kA bs (i + 1, (va_up (va_up w (i) (.inr (5, [.null, .int 0, .int 0, .int 0, .int 0, .int 0]))) (i) (.inr (5, [.ref (kA "GranaryWatch$Cat" 9), .int 0, .int 0, .int 0, .int 0, .int 0])))) s H := hP
  refine hret _ _ _ _ _ _ dX0_init_10 (hP.to (fun q hq => ?_)) hS (Nat.le_of_ble_eq_true rfl) (Nat.le_of_ble_eq_true rfl)
  rcases (show q < i ∨ q = i by omega) with h | h
  · rw [vne (by omega), vne (by omega), po_lt h]
  · rw [h, vat]; exact (po_0 (r := (rX0 bs cg kA i))).symm)
def rX4 (bs : Nat) (cg : Nat → ClassId) (kA : String → Nat → Nat) (i : Nat) : Nat → va_E := fun k => match k with
  | _ => .inr (9, [.ref (kA "GranaryWatch$Sack" 7), .int 0, .int 0, .int 0, .int 0])
theorem vX4_init (he : w i = .inr (9, [.null, .int 0, .int 0, .int 0, .int 0])) : gMetVA l yX4_init cX4_init 1 1 0 0 (nΩ bs) (nP dC dI cg kA bs) (kR kTab kA) [.ref (bs + i)] (i + 1, w) (i + 1, po (rX4 bs cg kA i) i w) := gEntryVN (by decide) nOK (Nat.le_of_ble_eq_true rfl) (fun p e s m args below meth c Q ls X hin hP hS hret hl => by
  have hx := X.hx
  have hb := X.hb
  have hP : nP dC dI cg kA bs (i + 1, va_up w i (.inr (9, [.null, .int 0, .int 0, .int 0, .int 0]))) s s.heap := hP.to (fun q hq => by
    by_cases h : q = i
    · subst h; rw [vat, he]
    · rw [vne h])
  refine lv_aload_n hx hb dX4_init_0 rfl (lv_at hl 0 rfl) ?_
  refine W.objInit hx hb X.hown (X.hts _ tw249) (X.hts _ tw45) (X.hts _ tw46) rfl (by rw [X.hml]; exact hl.1) rfl dX4_init_1 (Nat.le_of_ble_eq_true rfl) (Nat.le_of_ble_eq_true rfl) ?_
  refine W.eq (g2 := F0 m 4 ls []) rfl ?_
  refine lv_aload_n hx hb dX4_init_4 rfl (lv_at hl 0 rfl) ?_
  refine va_ldcS hx hb X.hown (kRat (q := ("GranaryWatch$Sack", 7, "", [])) X.ks 6 rfl) dX4_init_5 ?_
  refine nw_put X hP hS (Or.inl (Nat.le_add_right _ _)) ⟨by omega, by rw [vat]⟩ rfl cinX4 tyX4_ok nmX4 (k := 0) (by decide) rfl rfl (rfl) (rfl) (show 0 + 1 ≤ _ from Nat.le_of_ble_eq_true rfl) tw251 dX4_init_7 (fun H locs hP hS => ?_)
  have hP : nP dC dI cg kA bs (i + 1, (va_up (va_up w (i) (.inr (9, [.null, .int 0, .int 0, .int 0, .int 0]))) (i) (.inr (9, [.ref (kA "GranaryWatch$Sack" 7), .int 0, .int 0, .int 0, .int 0])))) s H := hP
  refine hret _ _ _ _ _ _ dX4_init_10 (hP.to (fun q hq => ?_)) hS (Nat.le_of_ble_eq_true rfl) (Nat.le_of_ble_eq_true rfl)
  rcases (show q < i ∨ q = i by omega) with h | h
  · rw [vne (by omega), vne (by omega), po_lt h]
  · rw [h, vat]; exact (po_0 (r := (rX4 bs cg kA i))).symm)
def rX7 (bs : Nat) (cg : Nat → ClassId) (kA : String → Nat → Nat) (i : Nat) : Nat → va_E := fun k => match k with
  | _ => .inr (12, [.int 0, .int 0])
theorem vX7_init (he : w i = .inr (12, [.int 0, .int 0])) : gMetVA l yX7_init cX7_init 1 1 0 0 (nΩ bs) (nP dC dI cg kA bs) (kR kTab kA) [.ref (bs + i)] (i + 1, w) (i + 1, po (rX7 bs cg kA i) i w) := gEntryVN (by decide) nOK (Nat.le_of_ble_eq_true rfl) (fun p e s m args below meth c Q ls X hin hP hS hret hl => by
  have hx := X.hx
  have hb := X.hb
  have hP : nP dC dI cg kA bs (i + 1, va_up w i (.inr (12, [.int 0, .int 0]))) s s.heap := hP.to (fun q hq => by
    by_cases h : q = i
    · subst h; rw [vat, he]
    · rw [vne h])
  refine lv_aload_n hx hb dX7_init_0 rfl (lv_at hl 0 rfl) ?_
  refine W.objInit hx hb X.hown (X.hts _ tw285) (X.hts _ tw45) (X.hts _ tw46) rfl (by rw [X.hml]; exact hl.1) rfl dX7_init_1 (Nat.le_of_ble_eq_true rfl) (Nat.le_of_ble_eq_true rfl) ?_
  refine W.eq (g2 := F0 m 4 ls []) rfl ?_
  refine hret _ _ _ _ _ _ dX7_init_4 (hP.to (fun q hq => ?_)) hS (Nat.le_of_ble_eq_true rfl) (Nat.le_of_ble_eq_true rfl)
  rcases (show q < i ∨ q = i by omega) with h | h
  · rw [vne (by omega), po_lt h]
  · rw [h, vat]; exact (po_0 (r := (rX7 bs cg kA i))).symm)
def rX9 (bs : Nat) (cg : Nat → ClassId) (kA : String → Nat → Nat) (i : Nat) : Nat → va_E := fun k => match k with
  | _ => .inr (14, [.int 0, .int 0, .int 0, .int 0, .int 0, .int 0, .int 0, .int 0])
theorem vX9_init (he : w i = .inr (14, [.int 0, .int 0, .int 0, .int 0, .int 0, .int 0, .int 0, .int 0])) : gMetVA l yX9_init cX9_init 1 1 0 0 (nΩ bs) (nP dC dI cg kA bs) (kR kTab kA) [.ref (bs + i)] (i + 1, w) (i + 1, po (rX9 bs cg kA i) i w) := gEntryVN (by decide) nOK (Nat.le_of_ble_eq_true rfl) (fun p e s m args below meth c Q ls X hin hP hS hret hl => by
  have hx := X.hx
  have hb := X.hb
  have hP : nP dC dI cg kA bs (i + 1, va_up w i (.inr (14, [.int 0, .int 0, .int 0, .int 0, .int 0, .int 0, .int 0, .int 0]))) s s.heap := hP.to (fun q hq => by
    by_cases h : q = i
    · subst h; rw [vat, he]
    · rw [vne h])
  refine lv_aload_n hx hb dX9_init_0 rfl (lv_at hl 0 rfl) ?_
  refine W.objInit hx hb X.hown (X.hts _ tw169) (X.hts _ tw45) (X.hts _ tw46) rfl (by rw [X.hml]; exact hl.1) rfl dX9_init_1 (Nat.le_of_ble_eq_true rfl) (Nat.le_of_ble_eq_true rfl) ?_
  refine W.eq (g2 := F0 m 4 ls []) rfl ?_
  refine hret _ _ _ _ _ _ dX9_init_4 (hP.to (fun q hq => ?_)) hS (Nat.le_of_ble_eq_true rfl) (Nat.le_of_ble_eq_true rfl)
  rcases (show q < i ∨ q = i by omega) with h | h
  · rw [vne (by omega), po_lt h]
  · rw [h, vat]; exact (po_0 (r := (rX9 bs cg kA i))).symm)
def rX1 (bs : Nat) (cg : Nat → ClassId) (kA : String → Nat → Nat) (i : Nat) : Nat → va_E := fun k => match k with
  | 0 => .inr (6, [.ref (bs + (i + 1)), .ref (bs + (i + 2)), .ref (bs + (i + 3)), .int 0, .int 0])
  | 1 => .inl (cg 0, 16, .inl fun _ => 0)
  | 2 => .inl (cg 0, 16, .inl fun _ => 0)
  | _ => .inl (cg 0, 16, .inl fun _ => 0)
theorem vX1_init (he : w i = .inr (6, [.null, .null, .null, .int 0, .int 0])) : gMetVA l yX1_init cX1_init 1 1 3 48 (nΩ bs) (nP dC dI cg kA bs) (kR kTab kA) [.ref (bs + i)] (i + 1, w) (i + 4, po (rX1 bs cg kA i) i w) := gEntryVN (by decide) nOK (Nat.le_of_ble_eq_true rfl) (fun p e s m args below meth c Q ls X hin hP hS hret hl => by
  have hx := X.hx
  have hb := X.hb
  have hP : nP dC dI cg kA bs (i + 1, va_up w i (.inr (6, [.null, .null, .null, .int 0, .int 0]))) s s.heap := hP.to (fun q hq => by
    by_cases h : q = i
    · subst h; rw [vat, he]
    · rw [vne h])
  refine lv_aload_n hx hb dX1_init_0 rfl (lv_at hl 0 rfl) ?_
  refine W.objInit hx hb X.hown (X.hts _ tw146) (X.hts _ tw45) (X.hts _ tw46) rfl (by rw [X.hml]; exact hl.1) rfl dX1_init_1 (Nat.le_of_ble_eq_true rfl) (Nat.le_of_ble_eq_true rfl) ?_
  refine W.eq (g2 := F0 m 4 ls []) rfl ?_
  refine lv_aload_n hx hb dX1_init_4 rfl (lv_at hl 0 rfl) ?_
  refine lv_bipush (v := 16) hx hb dX1_init_5 (by decide) ?_
  refine nw_newa (t0 := 0) (N := 16) .int X hP hS rfl tw163 rfl (fun _ => rfl) rfl (by decide) (by decide) (Nat.le_of_ble_eq_true rfl) ⟨Nat.le_of_ble_eq_true rfl, Nat.le_of_ble_eq_true rfl⟩ dX1_init_7 (fun H hP hS => ?_)
  have hP : nP dC dI cg kA bs (i + 2, (va_up (va_up w (i) (.inr (6, [.null, .null, .null, .int 0, .int 0]))) (i + 1) (.inl (cg 0, 16, .inl fun _ => 0)))) s H := hP
  refine nw_putF X hin hP hS (Or.inl (Nat.le_add_right _ _)) ⟨by omega, by rw [vne (by omega), vat]⟩ rfl cinX1 tyX1_ok nmX1 (k := 0) (by decide) rfl rfl (rfl) (rfl) (show 0 + 1 ≤ _ from Nat.le_of_ble_eq_true rfl) tw147 dX1_init_9 (fun H locs hP hS => ?_)
  have hP : nP dC dI cg kA bs (i + 2, (va_up (va_up (va_up w (i) (.inr (6, [.null, .null, .null, .int 0, .int 0]))) (i + 1) (.inl (cg 0, 16, .inl fun _ => 0))) (i) (.inr (6, [.ref (bs + (i + 1)), .null, .null, .int 0, .int 0])))) s H := hP
  refine lv_aload_n hx hb dX1_init_12 rfl (lv_at hl 0 rfl) ?_
  refine lv_bipush (v := 16) hx hb dX1_init_13 (by decide) ?_
  refine nw_newa (t0 := 0) (N := 16) .int X hP hS rfl tw163 rfl (fun _ => rfl) rfl (by decide) (by decide) (Nat.le_of_ble_eq_true rfl) ⟨Nat.le_of_ble_eq_true rfl, Nat.le_of_ble_eq_true rfl⟩ dX1_init_15 (fun H hP hS => ?_)
  have hP : nP dC dI cg kA bs (i + 3, (va_up (va_up (va_up (va_up w (i) (.inr (6, [.null, .null, .null, .int 0, .int 0]))) (i + 1) (.inl (cg 0, 16, .inl fun _ => 0))) (i) (.inr (6, [.ref (bs + (i + 1)), .null, .null, .int 0, .int 0]))) (i + 2) (.inl (cg 0, 16, .inl fun _ => 0)))) s H := hP
  refine nw_putF X hin hP hS (Or.inl (Nat.le_add_right _ _)) ⟨by omega, by rw [vne (by omega), vat]⟩ rfl cinX1 tyX1_ok nmX1 (k := 1) (by decide) rfl rfl (rfl) (rfl) (show 1 + 1 ≤ _ from Nat.le_of_ble_eq_true rfl) tw148 dX1_init_17 (fun H locs hP hS => ?_)
  have hP : nP dC dI cg kA bs (i + 3, (va_up (va_up (va_up (va_up (va_up w (i) (.inr (6, [.null, .null, .null, .int 0, .int 0]))) (i + 1) (.inl (cg 0, 16, .inl fun _ => 0))) (i) (.inr (6, [.ref (bs + (i + 1)), .null, .null, .int 0, .int 0]))) (i + 2) (.inl (cg 0, 16, .inl fun _ => 0))) (i) (.inr (6, [.ref (bs + (i + 1)), .ref (bs + (i + 2)), .null, .int 0, .int 0])))) s H := hP
  refine lv_aload_n hx hb dX1_init_20 rfl (lv_at hl 0 rfl) ?_
  refine lv_bipush (v := 16) hx hb dX1_init_21 (by decide) ?_
  refine nw_newa (t0 := 0) (N := 16) .int X hP hS rfl tw163 rfl (fun _ => rfl) rfl (by decide) (by decide) (Nat.le_of_ble_eq_true rfl) ⟨Nat.le_of_ble_eq_true rfl, Nat.le_of_ble_eq_true rfl⟩ dX1_init_23 (fun H hP hS => ?_)
  have hP : nP dC dI cg kA bs (i + 4, (va_up (va_up (va_up (va_up (va_up (va_up w (i) (.inr (6, [.null, .null, .null, .int 0, .int 0]))) (i + 1) (.inl (cg 0, 16, .inl fun _ => 0))) (i) (.inr (6, [.ref (bs + (i + 1)), .null, .null, .int 0, .int 0]))) (i + 2) (.inl (cg 0, 16, .inl fun _ => 0))) (i) (.inr (6, [.ref (bs + (i + 1)), .ref (bs + (i + 2)), .null, .int 0, .int 0]))) (i + 3) (.inl (cg 0, 16, .inl fun _ => 0)))) s H := hP
  refine nw_putF X hin hP hS (Or.inl (Nat.le_add_right _ _)) ⟨by omega, by rw [vne (by omega), vat]⟩ rfl cinX1 tyX1_ok nmX1 (k := 2) (by decide) rfl rfl (rfl) (rfl) (show 2 + 1 ≤ _ from Nat.le_of_ble_eq_true rfl) tw149 dX1_init_25 (fun H locs hP hS => ?_)
  have hP : nP dC dI cg kA bs (i + 4, (va_up (va_up (va_up (va_up (va_up (va_up (va_up w (i) (.inr (6, [.null, .null, .null, .int 0, .int 0]))) (i + 1) (.inl (cg 0, 16, .inl fun _ => 0))) (i) (.inr (6, [.ref (bs + (i + 1)), .null, .null, .int 0, .int 0]))) (i + 2) (.inl (cg 0, 16, .inl fun _ => 0))) (i) (.inr (6, [.ref (bs + (i + 1)), .ref (bs + (i + 2)), .null, .int 0, .int 0]))) (i + 3) (.inl (cg 0, 16, .inl fun _ => 0))) (i) (.inr (6, [.ref (bs + (i + 1)), .ref (bs + (i + 2)), .ref (bs + (i + 3)), .int 0, .int 0])))) s H := hP
  refine hret _ _ _ _ _ _ dX1_init_28 (hP.to (fun q hq => ?_)) hS (Nat.le_of_ble_eq_true rfl) (Nat.le_of_ble_eq_true rfl)
  rcases (show q < i ∨ q = i ∨ q = i + 1 ∨ q = i + 2 ∨ q = i + 3 by omega) with h | h | h | h | h
  · rw [vne (by omega), vne (by omega), vne (by omega), vne (by omega), vne (by omega), vne (by omega), vne (by omega), po_lt h]
  · rw [h, vat]; exact (po_0 (r := (rX1 bs cg kA i))).symm
  · rw [h, vne (by omega), vne (by omega), vne (by omega), vne (by omega), vne (by omega), vat]; exact (po_at (r := (rX1 bs cg kA i)) (k := 1)).symm
  · rw [h, vne (by omega), vne (by omega), vne (by omega), vat]; exact (po_at (r := (rX1 bs cg kA i)) (k := 2)).symm
  · rw [h, vne (by omega), vat]; exact (po_at (r := (rX1 bs cg kA i)) (k := 3)).symm)
def rX3 (bs : Nat) (cg : Nat → ClassId) (kA : String → Nat → Nat) (i : Nat) : Nat → va_E := fun k => match k with
  | 0 => .inr (8, [.ref (bs + (i + 1)), .int 0])
  | _ => .inl (cg 1, 100, .inl fun _ => 0)
theorem vX3_init (he : w i = .inr (8, [.null, .int 0])) : gMetVA l yX3_init cX3_init 1 1 1 100 (nΩ bs) (nP dC dI cg kA bs) (kR kTab kA) [.ref (bs + i)] (i + 1, w) (i + 2, po (rX3 bs cg kA i) i w) := gEntryVN (by decide) nOK (Nat.le_of_ble_eq_true rfl) (fun p e s m args below meth c Q ls X hin hP hS hret hl => by
  have hx := X.hx
  have hb := X.hb
  have hP : nP dC dI cg kA bs (i + 1, va_up w i (.inr (8, [.null, .int 0]))) s s.heap := hP.to (fun q hq => by
    by_cases h : q = i
    · subst h; rw [vat, he]
    · rw [vne h])
  refine lv_aload_n hx hb dX3_init_0 rfl (lv_at hl 0 rfl) ?_
  refine W.objInit hx hb X.hown (X.hts _ tw122) (X.hts _ tw45) (X.hts _ tw46) rfl (by rw [X.hml]; exact hl.1) rfl dX3_init_1 (Nat.le_of_ble_eq_true rfl) (Nat.le_of_ble_eq_true rfl) ?_
  refine W.eq (g2 := F0 m 4 ls []) rfl ?_
  refine lv_aload_n hx hb dX3_init_4 rfl (lv_at hl 0 rfl) ?_
  refine lv_bipush (v := 100) hx hb dX3_init_5 (by decide) ?_
  refine nw_newa (t0 := 1) (N := 100) .byte X hP hS rfl tw85 rfl (fun _ => rfl) rfl (by decide) (by decide) (Nat.le_of_ble_eq_true rfl) ⟨Nat.le_of_ble_eq_true rfl, Nat.le_of_ble_eq_true rfl⟩ dX3_init_7 (fun H hP hS => ?_)
  have hP : nP dC dI cg kA bs (i + 2, (va_up (va_up w (i) (.inr (8, [.null, .int 0]))) (i + 1) (.inl (cg 1, 100, .inl fun _ => 0)))) s H := hP
  refine nw_putF X hin hP hS (Or.inl (Nat.le_add_right _ _)) ⟨by omega, by rw [vne (by omega), vat]⟩ rfl cinX3 tyX3_ok nmX3 (k := 0) (by decide) rfl rfl (rfl) (rfl) (show 0 + 1 ≤ _ from Nat.le_of_ble_eq_true rfl) tw123 dX3_init_9 (fun H locs hP hS => ?_)
  have hP : nP dC dI cg kA bs (i + 2, (va_up (va_up (va_up w (i) (.inr (8, [.null, .int 0]))) (i + 1) (.inl (cg 1, 100, .inl fun _ => 0))) (i) (.inr (8, [.ref (bs + (i + 1)), .int 0])))) s H := hP
  refine hret _ _ _ _ _ _ dX3_init_12 (hP.to (fun q hq => ?_)) hS (Nat.le_of_ble_eq_true rfl) (Nat.le_of_ble_eq_true rfl)
  rcases (show q < i ∨ q = i ∨ q = i + 1 by omega) with h | h | h
  · rw [vne (by omega), vne (by omega), vne (by omega), po_lt h]
  · rw [h, vat]; exact (po_0 (r := (rX3 bs cg kA i))).symm
  · rw [h, vne (by omega), vat]; exact (po_at (r := (rX3 bs cg kA i)) (k := 1)).symm)
def rX6 (bs : Nat) (cg : Nat → ClassId) (kA : String → Nat → Nat) (a1 : Nat) (a2 : Nat) (i : Nat) : Nat → va_E := fun k => match k with
  | _ => .inr (11, [.ref a1, .ref a2])
theorem vX6_init {a1 : Nat} {a2 : Nat} (he : w i = .inr (11, [.null, .null])) : gMetVA l yX6_init cX6_init 3 1 0 0 (nΩ bs) (nP dC dI cg kA bs) (kR kTab kA) [.ref (bs + i), .ref a1, .ref a2] (i + 1, w) (i + 1, po (rX6 bs cg kA a1 a2 i) i w) := gEntryVN (by decide) nOK (Nat.le_of_ble_eq_true rfl) (fun p e s m args below meth c Q ls X hin hP hS hret hl => by
  have hx := X.hx
  have hb := X.hb
  have hP : nP dC dI cg kA bs (i + 1, va_up w i (.inr (11, [.null, .null]))) s s.heap := hP.to (fun q hq => by
    by_cases h : q = i
    · subst h; rw [vat, he]
    · rw [vne h])
  refine lv_aload_n hx hb dX6_init_0 rfl (lv_at hl 0 rfl) ?_
  refine W.objInit hx hb X.hown (X.hts _ tw361) (X.hts _ tw45) (X.hts _ tw46) rfl (by rw [X.hml]; exact hl.1) rfl dX6_init_1 (Nat.le_of_ble_eq_true rfl) (Nat.le_of_ble_eq_true rfl) ?_
  refine W.eq (g2 := F0 m 4 ls []) rfl ?_
  refine lv_aload_n hx hb dX6_init_4 rfl (lv_at hl 0 rfl) ?_
  refine lv_aload_n hx hb dX6_init_5 rfl (lv_at hl 1 rfl) ?_
  refine nw_putF X hin hP hS (Or.inl (Nat.le_add_right _ _)) ⟨by omega, by rw [vat]⟩ rfl cinX6 tyX6_ok nmX6 (k := 0) (by decide) rfl rfl (rfl) (rfl) (show 0 + 1 ≤ _ from Nat.le_of_ble_eq_true rfl) tw362 dX6_init_6 (fun H locs hP hS => ?_)
  have hP : nP dC dI cg kA bs (i + 1, (va_up (va_up w (i) (.inr (11, [.null, .null]))) (i) (.inr (11, [.ref a1, .null])))) s H := hP
  refine lv_aload_n hx hb dX6_init_9 rfl (lv_at hl 0 rfl) ?_
  refine lv_aload_n hx hb dX6_init_10 rfl (lv_at hl 2 rfl) ?_
  refine nw_putF X hin hP hS (Or.inl (Nat.le_add_right _ _)) ⟨by omega, by rw [vat]⟩ rfl cinX6 tyX6_ok nmX6 (k := 1) (by decide) rfl rfl (rfl) (rfl) (show 1 + 1 ≤ _ from Nat.le_of_ble_eq_true rfl) tw363 dX6_init_11 (fun H locs hP hS => ?_)
  have hP : nP dC dI cg kA bs (i + 1, (va_up (va_up (va_up w (i) (.inr (11, [.null, .null]))) (i) (.inr (11, [.ref a1, .null]))) (i) (.inr (11, [.ref a1, .ref a2])))) s H := hP
  refine hret _ _ _ _ _ _ dX6_init_14 (hP.to (fun q hq => ?_)) hS (Nat.le_of_ble_eq_true rfl) (Nat.le_of_ble_eq_true rfl)
  rcases (show q < i ∨ q = i by omega) with h | h
  · rw [vne (by omega), vne (by omega), vne (by omega), po_lt h]
  · rw [h, vat]; exact (po_0 (r := (rX6 bs cg kA a1 a2 i))).symm)
def rX5 (bs : Nat) (cg : Nat → ClassId) (kA : String → Nat → Nat) (a1 : Nat) (a2 : Nat) (i : Nat) : Nat → va_E := fun k => match k with
  | 0 => .inr (10, [.ref a1, .ref a2, .ref (bs + (i + 1)), .ref (bs + (i + 2)), .ref (bs + (i + 3)), .int 0])
  | 1 => .inl (cg 0, 30, .inl fun _ => 0)
  | 2 => .inl (cg 0, 30, .inl fun _ => 0)
  | _ => .inl (cg 0, 30, .inl fun _ => 0)
theorem vX5_init {a1 : Nat} {a2 : Nat} (he : w i = .inr (10, [.null, .null, .null, .null, .null, .int 0])) : gMetVA l yX5_init cX5_init 3 1 3 90 (nΩ bs) (nP dC dI cg kA bs) (kR kTab kA) [.ref (bs + i), .ref a1, .ref a2] (i + 1, w) (i + 4, po (rX5 bs cg kA a1 a2 i) i w) := gEntryVN (by decide) nOK (Nat.le_of_ble_eq_true rfl) (fun p e s m args below meth c Q ls X hin hP hS hret hl => by
  have hx := X.hx
  have hb := X.hb
  have hP : nP dC dI cg kA bs (i + 1, va_up w i (.inr (10, [.null, .null, .null, .null, .null, .int 0]))) s s.heap := hP.to (fun q hq => by
    by_cases h : q = i
    · subst h; rw [vat, he]
    · rw [vne h])
  refine lv_aload_n hx hb dX5_init_0 rfl (lv_at hl 0 rfl) ?_
  refine W.objInit hx hb X.hown (X.hts _ tw374) (X.hts _ tw45) (X.hts _ tw46) rfl (by rw [X.hml]; exact hl.1) rfl dX5_init_1 (Nat.le_of_ble_eq_true rfl) (Nat.le_of_ble_eq_true rfl) ?_
  refine W.eq (g2 := F0 m 4 ls []) rfl ?_
  refine lv_aload_n hx hb dX5_init_4 rfl (lv_at hl 0 rfl) ?_
  refine lv_bipush (v := 30) hx hb dX5_init_5 (by decide) ?_
  refine nw_newa (t0 := 0) (N := 30) .int X hP hS rfl tw163 rfl (fun _ => rfl) rfl (by decide) (by decide) (Nat.le_of_ble_eq_true rfl) ⟨Nat.le_of_ble_eq_true rfl, Nat.le_of_ble_eq_true rfl⟩ dX5_init_7 (fun H hP hS => ?_)
  have hP : nP dC dI cg kA bs (i + 2, (va_up (va_up w (i) (.inr (10, [.null, .null, .null, .null, .null, .int 0]))) (i + 1) (.inl (cg 0, 30, .inl fun _ => 0)))) s H := hP
  refine nw_putF X hin hP hS (Or.inl (Nat.le_add_right _ _)) ⟨by omega, by rw [vne (by omega), vat]⟩ rfl cinX5 tyX5_ok nmX5 (k := 2) (by decide) rfl rfl (rfl) (rfl) (show 2 + 1 ≤ _ from Nat.le_of_ble_eq_true rfl) tw377 dX5_init_9 (fun H locs hP hS => ?_)
  have hP : nP dC dI cg kA bs (i + 2, (va_up (va_up (va_up w (i) (.inr (10, [.null, .null, .null, .null, .null, .int 0]))) (i + 1) (.inl (cg 0, 30, .inl fun _ => 0))) (i) (.inr (10, [.null, .null, .ref (bs + (i + 1)), .null, .null, .int 0])))) s H := hP
  refine lv_aload_n hx hb dX5_init_12 rfl (lv_at hl 0 rfl) ?_
  refine lv_bipush (v := 30) hx hb dX5_init_13 (by decide) ?_
  refine nw_newa (t0 := 0) (N := 30) .int X hP hS rfl tw163 rfl (fun _ => rfl) rfl (by decide) (by decide) (Nat.le_of_ble_eq_true rfl) ⟨Nat.le_of_ble_eq_true rfl, Nat.le_of_ble_eq_true rfl⟩ dX5_init_15 (fun H hP hS => ?_)
  have hP : nP dC dI cg kA bs (i + 3, (va_up (va_up (va_up (va_up w (i) (.inr (10, [.null, .null, .null, .null, .null, .int 0]))) (i + 1) (.inl (cg 0, 30, .inl fun _ => 0))) (i) (.inr (10, [.null, .null, .ref (bs + (i + 1)), .null, .null, .int 0]))) (i + 2) (.inl (cg 0, 30, .inl fun _ => 0)))) s H := hP
  refine nw_putF X hin hP hS (Or.inl (Nat.le_add_right _ _)) ⟨by omega, by rw [vne (by omega), vat]⟩ rfl cinX5 tyX5_ok nmX5 (k := 3) (by decide) rfl rfl (rfl) (rfl) (show 3 + 1 ≤ _ from Nat.le_of_ble_eq_true rfl) tw378 dX5_init_17 (fun H locs hP hS => ?_)
  have hP : nP dC dI cg kA bs (i + 3, (va_up (va_up (va_up (va_up (va_up w (i) (.inr (10, [.null, .null, .null, .null, .null, .int 0]))) (i + 1) (.inl (cg 0, 30, .inl fun _ => 0))) (i) (.inr (10, [.null, .null, .ref (bs + (i + 1)), .null, .null, .int 0]))) (i + 2) (.inl (cg 0, 30, .inl fun _ => 0))) (i) (.inr (10, [.null, .null, .ref (bs + (i + 1)), .ref (bs + (i + 2)), .null, .int 0])))) s H := hP
  refine lv_aload_n hx hb dX5_init_20 rfl (lv_at hl 0 rfl) ?_
  refine lv_bipush (v := 30) hx hb dX5_init_21 (by decide) ?_
  refine nw_newa (t0 := 0) (N := 30) .int X hP hS rfl tw163 rfl (fun _ => rfl) rfl (by decide) (by decide) (Nat.le_of_ble_eq_true rfl) ⟨Nat.le_of_ble_eq_true rfl, Nat.le_of_ble_eq_true rfl⟩ dX5_init_23 (fun H hP hS => ?_)
  have hP : nP dC dI cg kA bs (i + 4, (va_up (va_up (va_up (va_up (va_up (va_up w (i) (.inr (10, [.null, .null, .null, .null, .null, .int 0]))) (i + 1) (.inl (cg 0, 30, .inl fun _ => 0))) (i) (.inr (10, [.null, .null, .ref (bs + (i + 1)), .null, .null, .int 0]))) (i + 2) (.inl (cg 0, 30, .inl fun _ => 0))) (i) (.inr (10, [.null, .null, .ref (bs + (i + 1)), .ref (bs + (i + 2)), .null, .int 0]))) (i + 3) (.inl (cg 0, 30, .inl fun _ => 0)))) s H := hP
  refine nw_putF X hin hP hS (Or.inl (Nat.le_add_right _ _)) ⟨by omega, by rw [vne (by omega), vat]⟩ rfl cinX5 tyX5_ok nmX5 (k := 4) (by decide) rfl rfl (rfl) (rfl) (show 4 + 1 ≤ _ from Nat.le_of_ble_eq_true rfl) tw379 dX5_init_25 (fun H locs hP hS => ?_)
  have hP : nP dC dI cg kA bs (i + 4, (va_up (va_up (va_up (va_up (va_up (va_up (va_up w (i) (.inr (10, [.null, .null, .null, .null, .null, .int 0]))) (i + 1) (.inl (cg 0, 30, .inl fun _ => 0))) (i) (.inr (10, [.null, .null, .ref (bs + (i + 1)), .null, .null, .int 0]))) (i + 2) (.inl (cg 0, 30, .inl fun _ => 0))) (i) (.inr (10, [.null, .null, .ref (bs + (i + 1)), .ref (bs + (i + 2)), .null, .int 0]))) (i + 3) (.inl (cg 0, 30, .inl fun _ => 0))) (i) (.inr (10, [.null, .null, .ref (bs + (i + 1)), .ref (bs + (i + 2)), .ref (bs + (i + 3)), .int 0])))) s H := hP
  refine lv_aload_n hx hb dX5_init_28 rfl (lv_at hl 0 rfl) ?_
  refine lv_aload_n hx hb dX5_init_29 rfl (lv_at hl 1 rfl) ?_
  refine nw_putF X hin hP hS (Or.inl (Nat.le_add_right _ _)) ⟨by omega, by rw [vat]⟩ rfl cinX5 tyX5_ok nmX5 (k := 0) (by decide) rfl rfl (rfl) (rfl) (show 0 + 1 ≤ _ from Nat.le_of_ble_eq_true rfl) tw375 dX5_init_30 (fun H locs hP hS => ?_)
  have hP : nP dC dI cg kA bs (i + 4, (va_up (va_up (va_up (va_up (va_up (va_up (va_up (va_up w (i) (.inr (10, [.null, .null, .null, .null, .null, .int 0]))) (i + 1) (.inl (cg 0, 30, .inl fun _ => 0))) (i) (.inr (10, [.null, .null, .ref (bs + (i + 1)), .null, .null, .int 0]))) (i + 2) (.inl (cg 0, 30, .inl fun _ => 0))) (i) (.inr (10, [.null, .null, .ref (bs + (i + 1)), .ref (bs + (i + 2)), .null, .int 0]))) (i + 3) (.inl (cg 0, 30, .inl fun _ => 0))) (i) (.inr (10, [.null, .null, .ref (bs + (i + 1)), .ref (bs + (i + 2)), .ref (bs + (i + 3)), .int 0]))) (i) (.inr (10, [.ref a1, .null, .ref (bs + (i + 1)), .ref (bs + (i + 2)), .ref (bs + (i + 3)), .int 0])))) s H := hP
  refine lv_aload_n hx hb dX5_init_33 rfl (lv_at hl 0 rfl) ?_
  refine lv_aload_n hx hb dX5_init_34 rfl (lv_at hl 2 rfl) ?_
  refine nw_putF X hin hP hS (Or.inl (Nat.le_add_right _ _)) ⟨by omega, by rw [vat]⟩ rfl cinX5 tyX5_ok nmX5 (k := 1) (by decide) rfl rfl (rfl) (rfl) (show 1 + 1 ≤ _ from Nat.le_of_ble_eq_true rfl) tw376 dX5_init_35 (fun H locs hP hS => ?_)
  have hP : nP dC dI cg kA bs (i + 4, (va_up (va_up (va_up (va_up (va_up (va_up (va_up (va_up (va_up w (i) (.inr (10, [.null, .null, .null, .null, .null, .int 0]))) (i + 1) (.inl (cg 0, 30, .inl fun _ => 0))) (i) (.inr (10, [.null, .null, .ref (bs + (i + 1)), .null, .null, .int 0]))) (i + 2) (.inl (cg 0, 30, .inl fun _ => 0))) (i) (.inr (10, [.null, .null, .ref (bs + (i + 1)), .ref (bs + (i + 2)), .null, .int 0]))) (i + 3) (.inl (cg 0, 30, .inl fun _ => 0))) (i) (.inr (10, [.null, .null, .ref (bs + (i + 1)), .ref (bs + (i + 2)), .ref (bs + (i + 3)), .int 0]))) (i) (.inr (10, [.ref a1, .null, .ref (bs + (i + 1)), .ref (bs + (i + 2)), .ref (bs + (i + 3)), .int 0]))) (i) (.inr (10, [.ref a1, .ref a2, .ref (bs + (i + 1)), .ref (bs + (i + 2)), .ref (bs + (i + 3)), .int 0])))) s H := hP
  refine hret _ _ _ _ _ _ dX5_init_38 (hP.to (fun q hq => ?_)) hS (Nat.le_of_ble_eq_true rfl) (Nat.le_of_ble_eq_true rfl)
  rcases (show q < i ∨ q = i ∨ q = i + 1 ∨ q = i + 2 ∨ q = i + 3 by omega) with h | h | h | h | h
  · rw [vne (by omega), vne (by omega), vne (by omega), vne (by omega), vne (by omega), vne (by omega), vne (by omega), vne (by omega), vne (by omega), po_lt h]
  · rw [h, vat]; exact (po_0 (r := (rX5 bs cg kA a1 a2 i))).symm
  · rw [h, vne (by omega), vne (by omega), vne (by omega), vne (by omega), vne (by omega), vne (by omega), vne (by omega), vat]; exact (po_at (r := (rX5 bs cg kA a1 a2 i)) (k := 1)).symm
  · rw [h, vne (by omega), vne (by omega), vne (by omega), vne (by omega), vne (by omega), vat]; exact (po_at (r := (rX5 bs cg kA a1 a2 i)) (k := 2)).symm
  · rw [h, vne (by omega), vne (by omega), vne (by omega), vat]; exact (po_at (r := (rX5 bs cg kA a1 a2 i)) (k := 3)).symm)
theorem nw_putI {p : Program} {l : Launch} {e : Env} {R : Room} {s : State} {m : MethodId} {args : Array Value} {below : List Frame} {meth : Method} {c : Code} {H : Heap} {locs : List Loc} {cells slots : Nat} {Q : State → Prop} {cc : ByteArray} {pc nL : Nat} {ls : Array Slot} {rest : List Value} {own : String} {n : Nat} {A0 : Nat → Prop} {N ci index i k : Nat} {C : String} {T : u_T} {tyT : Nat → FieldType} {fs : List Value} {v : Value} (X : gX p s m args c cc nL own (kR kTab kA)) (hP : nP dC dI cg kA bs (n, w) s H) (hS : va_S A0 s.heap H locs) (hA : A0 (bs + i)) (he : i < n ∧ w i = .inr (ci, fs)) (hc : vwCl[ci]? = some (C, T, N)) (hin : ∀ w ∈ u_ws C T N, w ∈ TBG) (hty : ∀ k, k < N → parseFieldDescriptor (T k).2.2.1 = some (tyT k)) (hnm : ∀ a, a < N → ∀ b, b < N → a ≠ b → (T a).2.1 ≠ (T b).2.1) (hk : k < N) (hfin : (T k).2.2.2 = false) (hn : narrow (tyT k) v = v) (hfit : fits (tyT k) v = true) (hl : k < fs.length) (hlink : Cond.fieldLink own index (T k).1 (T k).2.1 (T k).2.2.1 ∈ TBG) (hdg : decode cc pc = .ok (.putfield index, 3))
    (kk : ∀ (H1 : Heap) (locs1 : List Loc), nP dC dI cg kA bs (n, va_up w i (.inr (ci, fs.set k v))) s H1 → va_S A0 s.heap H1 locs1 → W p l e R s m args below meth c H1 locs1 cells slots Q (F0 m (pc + 3) ls rest)) : W p l e R s m args below meth c H locs cells slots Q (F0 m pc ls (v :: .ref (bs + i) :: rest)) := by
  have h0 : va_at (dC, dI) vwCl (bs + i, w i) H := hP.2.1 i he.1
  rw [he.2] at h0
  refine va_putO X.hx X.hb X.hts hin tyT hty hnm X.hown hP.2.2.1 h0 hc k hk (X.hts _ hlink) (fun x h => h) hfin (hty k hk) hn hfit hl hdg (fun H1 j h4 hz oq => ?_)
  exact kk H1 _ (hP.up h4 hz oq) (hS.put hz oq hA)
def rJ4 (bs : Nat) (cg : Nat → ClassId) (kA : String → Nat → Nat) (i : Nat) : Nat → va_E := fun k => match k with
  | 0 => .inr (1, [.ref (bs + (i + 1)), .int 0, .int 0, .int 0])
  | _ => .inl (cg 1, 16, .inl fun _ => 0)
theorem vJ5_init (he : w i = .inr (1, [.null, .int 0, .int 0, .int 0])) : gMetVA l yJ5_init_d00df cJ5_init_d00df 2 1 1 16 (nΩ bs) (nP dC dI cg kA bs) (kR kTab kA) [.ref (bs + i), .int 16] (i + 1, w) (i + 2, po (rJ4 bs cg kA i) i w) := gEntryVN (by decide) nOK (Nat.le_of_ble_eq_true rfl) (fun p e s m args below meth c Q ls X hin hP hS hret hl => by
  have hx := X.hx
  have hb := X.hb
  refine lv_aload_n hx hb dJ5_init_d00df_0 rfl (lv_at hl 0 rfl) ?_
  refine W.objInit hx hb X.hown (X.hts _ tw61) (X.hts _ tw45) (X.hts _ tw46) rfl (by rw [X.hml]; exact hl.1) rfl dJ5_init_d00df_1 (Nat.le_of_ble_eq_true rfl) (Nat.le_of_ble_eq_true rfl) ?_
  refine W.eq (g2 := F0 m 4 ls []) rfl ?_
  refine va_gets hx hb hP.2.2.2.1.2.1 va_S.rf X.hown (X.hts _ tw62) (fun _ h => h) dJ5_init_d00df_4 ?_
  refine lv_if_eq (tgt := 25) hx hb dJ5_init_d00df_7 (by decide) (fun c => absurd c (by decide)) (fun _ => ?_)
  refine lv_aload_n hx hb dJ5_init_d00df_10 rfl (lv_at hl 0 rfl) ?_
  refine lv_iload_n hx hb dJ5_init_d00df_11 rfl (lv_at hl 1 rfl) ?_
  refine nw_newa (t0 := 1) (N := 16) .byte X hP hS rfl tw85 rfl (fun _ => rfl) rfl (by decide) (by decide) (Nat.le_of_ble_eq_true rfl) ⟨Nat.le_of_ble_eq_true rfl, Nat.le_of_ble_eq_true rfl⟩ dJ5_init_d00df_12 (fun H hP hS => ?_)
  have hP : nP dC dI cg kA bs (i + 2, va_up w (i + 1) (.inl (cg 1, 16, .inl fun _ => 0))) s H := hP
  refine nw_putI X hP hS (Or.inl (Nat.le_add_right _ _)) ⟨by omega, by rw [vne (by omega), he]⟩ rfl cinJ4 tyJ4_ok nmJ4 (k := 0) (by decide) rfl rfl rfl (by decide) tw71 dJ5_init_d00df_14 (fun H locs hP hS => ?_)
  have hP : nP dC dI cg kA bs (i + 2, va_up (va_up w (i + 1) (.inl (cg 1, 16, .inl fun _ => 0))) i (.inr (1, [.ref (bs + (i + 1)), .int 0, .int 0, .int 0]))) s H := hP
  refine lv_aload_n hx hb dJ5_init_d00df_17 rfl (lv_at hl 0 rfl) ?_
  refine lv_iconst (v := 0) hx hb dJ5_init_d00df_18 (by decide) ?_
  refine nw_putI X hP hS (Or.inl (Nat.le_add_right _ _)) ⟨by omega, by rw [vat]⟩ rfl cinJ4 tyJ4_ok nmJ4 (k := 1) (by decide) rfl (by decide +kernel) (by decide +kernel) (show 1 + 1 ≤ _ from Nat.le_of_ble_eq_true rfl) tw72 dJ5_init_d00df_19 (fun H locs hP hS => ?_)
  have hP : nP dC dI cg kA bs (i + 2, va_up (va_up (va_up w (i + 1) (.inl (cg 1, 16, .inl fun _ => 0))) i (.inr (1, [.ref (bs + (i + 1)), .int 0, .int 0, .int 0]))) i (.inr (1, [.ref (bs + (i + 1)), .int 0, .int 0, .int 0]))) s H := hP
  refine lv_goto (tgt := 38) hx hb dJ5_init_d00df_22 (by decide) ?_
  refine hret _ _ _ _ _ _ dJ5_init_d00df_38 (hP.to (fun q hq => ?_)) hS (Nat.le_of_ble_eq_true rfl) (Nat.le_of_ble_eq_true rfl)
  rcases (show q < i ∨ q = i ∨ q = i + 1 by omega) with h | h | h
  · rw [vne (by omega), vne (by omega), vne (by omega), po_lt h]
  · rw [h, vat]; exact (po_0 (r := rJ4 bs cg kA i)).symm
  · rw [h, vne (by omega), vne (by omega), vat]; exact (po_at (r := rJ4 bs cg kA i) (k := 1)).symm)
theorem vJ4_init (he : w i = .inr (1, [.null, .int 0, .int 0, .int 0])) : gMetVA l yJ4_init_da8c8 cJ4_init_da8c8 1 2 1 16 (nΩ bs) (nP dC dI cg kA bs) (kR kTab kA) [.ref (bs + i)] (i + 1, w) (i + 2, po (rJ4 bs cg kA i) i w) := gEntryVN (by decide) nOK (Nat.le_of_ble_eq_true rfl) (fun p e s m args below meth c Q ls X hin hP hS hret hl => by
  have hx := X.hx
  have hb := X.hb
  refine lv_aload_n hx hb dJ4_init_da8c8_0 rfl (lv_at hl 0 rfl) ?_
  refine lv_bipush (v := 16) hx hb dJ4_init_da8c8_1 (by decide) ?_
  refine gCallCI X nOK (vJ5_init he) (cwI 1 X.hts (wT_good tw60) rfl rfl rfl (X.hts _ tw3) (X.hts _ tw58) (X.hts _ tw59) rfl ⟨by decide, by decide, by decide +kernel⟩ ⟨Nat.le_of_ble_eq_true rfl, Nat.le_of_ble_eq_true rfl⟩) rfl hP hS (Fr_le hS.1) hl.1 (Nat.le_of_ble_eq_true rfl) ⟨Nat.le_of_ble_eq_true rfl, Nat.le_of_ble_eq_true rfl⟩ dJ4_init_da8c8_3 (As := [.int 16]) (rest := []) rfl (fun H locs hP hS => ?_)
  exact hret _ _ _ _ _ _ dJ4_init_da8c8_6 hP hS (Nat.le_of_ble_eq_true rfl) (Nat.le_of_ble_eq_true rfl))
def rX8 (bs : Nat) (cg : Nat → ClassId) (kA : String → Nat → Nat) (i : Nat) : Nat → va_E := fun k => match k with
  | 0 => .inr (13, [.ref (bs + (i + 1)), .ref (bs + (i + 2)), .int 0, .int 0, .int 0, .int 0, .int 0, .int 0, .int (-1)])
  | 1 => .inl (cg 1, 600, .inl fun _ => 0)
  | 2 => (rJ4 bs cg kA (i + 2)) 0
  | _ => (rJ4 bs cg kA (i + 2)) 1
theorem vX8_init (he : w i = .inr (13, [.null, .null, .int 0, .int 0, .int 0, .int 0, .int 0, .int 0, .int 0])) : gMetVA l yX8_init cX8_init 1 3 3 620 (nΩ bs) (nP dC dI cg kA bs) (kR kTab kA) [.ref (bs + i)] (i + 1, w) (i + 4, po (rX8 bs cg kA i) i w) := gEntryVN (by decide) nOK (Nat.le_of_ble_eq_true rfl) (fun p e s m args below meth c Q ls X hin hP hS hret hl => by
  have hx := X.hx
  have hb := X.hb
  have hP : nP dC dI cg kA bs (i + 1, va_up w i (.inr (13, [.null, .null, .int 0, .int 0, .int 0, .int 0, .int 0, .int 0, .int 0]))) s s.heap := hP.to (fun q hq => by
    by_cases h : q = i
    · subst h; rw [vat, he]
    · rw [vne h])
  refine lv_aload_n hx hb dX8_init_0 rfl (lv_at hl 0 rfl) ?_
  refine W.objInit hx hb X.hown (X.hts _ tw52) (X.hts _ tw45) (X.hts _ tw46) rfl (by rw [X.hml]; exact hl.1) rfl dX8_init_1 (Nat.le_of_ble_eq_true rfl) (Nat.le_of_ble_eq_true rfl) ?_
  refine W.eq (g2 := F0 m 4 ls []) rfl ?_
  refine lv_aload_n hx hb dX8_init_4 rfl (lv_at hl 0 rfl) ?_
  refine lv_sipush (v := 600) hx hb dX8_init_5 (by decide) ?_
  refine nw_newa (t0 := 1) (N := 600) .byte X hP hS rfl tw85 rfl (fun _ => rfl) rfl (by decide) (by decide) (Nat.le_of_ble_eq_true rfl) ⟨Nat.le_of_ble_eq_true rfl, Nat.le_of_ble_eq_true rfl⟩ dX8_init_8 (fun H hP hS => ?_)
  have hP : nP dC dI cg kA bs (i + 2, (va_up (va_up w (i) (.inr (13, [.null, .null, .int 0, .int 0, .int 0, .int 0, .int 0, .int 0, .int 0]))) (i + 1) (.inl (cg 1, 600, .inl fun _ => 0)))) s H := hP
  refine nw_putF X hin hP hS (Or.inl (Nat.le_add_right _ _)) ⟨by omega, by rw [vne (by omega), vat]⟩ rfl cinX8 tyX8_ok nmX8 (k := 0) (by decide) rfl rfl (rfl) (rfl) (show 0 + 1 ≤ _ from Nat.le_of_ble_eq_true rfl) tw86 dX8_init_10 (fun H locs hP hS => ?_)
  have hP : nP dC dI cg kA bs (i + 2, (va_up (va_up (va_up w (i) (.inr (13, [.null, .null, .int 0, .int 0, .int 0, .int 0, .int 0, .int 0, .int 0]))) (i + 1) (.inl (cg 1, 600, .inl fun _ => 0))) (i) (.inr (13, [.ref (bs + (i + 1)), .null, .int 0, .int 0, .int 0, .int 0, .int 0, .int 0, .int 0])))) s H := hP
  refine lv_aload_n hx hb dX8_init_13 rfl (lv_at hl 0 rfl) ?_
  refine nw_new (ci := 1) (tyT := tyJ4) [.null, .int 0, .int 0, .int 0] X hP hS cinJ4 tyJ4_ok tw53 tw54 tw4 rfl (fun j hj => by rcases (show j = 0 ∨ j = 1 ∨ j = 2 ∨ j = 3 by omega) with rfl | rfl | rfl | rfl <;> rfl) ⟨Nat.le_of_ble_eq_true rfl, Nat.le_of_ble_eq_true rfl⟩ dX8_init_14 (fun H hP hS => ?_)
  have hP : nP dC dI cg kA bs (i + 3, (va_up (va_up (va_up (va_up w (i) (.inr (13, [.null, .null, .int 0, .int 0, .int 0, .int 0, .int 0, .int 0, .int 0]))) (i + 1) (.inl (cg 1, 600, .inl fun _ => 0))) (i) (.inr (13, [.ref (bs + (i + 1)), .null, .int 0, .int 0, .int 0, .int 0, .int 0, .int 0, .int 0]))) (i + 2) (.inr (1, [.null, .int 0, .int 0, .int 0])))) s H := hP
  refine lv_dup hx hb dX8_init_17 rfl ?_
  refine gCallCI X nOK (vJ4_init (i := i + 2) (w := (va_up (va_up (va_up (va_up w (i) (.inr (13, [.null, .null, .int 0, .int 0, .int 0, .int 0, .int 0, .int 0, .int 0]))) (i + 1) (.inl (cg 1, 600, .inl fun _ => 0))) (i) (.inr (13, [.ref (bs + (i + 1)), .null, .int 0, .int 0, .int 0, .int 0, .int 0, .int 0, .int 0]))) (i + 2) (.inr (1, [.null, .int 0, .int 0, .int 0])))) (by rw [vat])) (cwI 0 X.hts (wT_good tw57) rfl rfl rfl (X.hts _ tw4) (X.hts _ tw55) (X.hts _ tw56) rfl ⟨by decide, by decide, by decide +kernel⟩ ⟨Nat.le_of_ble_eq_true rfl, Nat.le_of_ble_eq_true rfl⟩) rfl hP hS (Fr_le hS.1) hl.1 (Nat.le_of_ble_eq_true rfl) ⟨Nat.le_of_ble_eq_true rfl, Nat.le_of_ble_eq_true rfl⟩ dX8_init_18 (As := []) (rest := [.ref (bs + (i + 2)), .ref (bs + (i))]) rfl (fun H locs hP hS => ?_)
  have hP := hP.to (w' := (va_up (va_up (va_up (va_up (va_up (va_up w (i) (.inr (13, [.null, .null, .int 0, .int 0, .int 0, .int 0, .int 0, .int 0, .int 0]))) (i + 1) (.inl (cg 1, 600, .inl fun _ => 0))) (i) (.inr (13, [.ref (bs + (i + 1)), .null, .int 0, .int 0, .int 0, .int 0, .int 0, .int 0, .int 0]))) (i + 2) (.inr (1, [.null, .int 0, .int 0, .int 0]))) (i + 2) ((rJ4 bs cg kA (i + 2)) 0)) (i + 3) ((rJ4 bs cg kA (i + 2)) 1))) (fun q hq => by
    rcases (show q < i + 2 ∨ q = i + 2 ∨ q = i + 3 by omega) with h | h | h
    · exact (po_lt h).trans ((vne (by omega)).trans (vne (by omega))).symm
    · rw [h, vne (by omega), vat]; exact po_0 (r := (rJ4 bs cg kA (i + 2)))
    · rw [h, vat]; exact po_at (r := (rJ4 bs cg kA (i + 2))) (k := 1))
  have hP : nP dC dI cg kA bs (i + 4, (va_up (va_up (va_up (va_up (va_up (va_up w (i) (.inr (13, [.null, .null, .int 0, .int 0, .int 0, .int 0, .int 0, .int 0, .int 0]))) (i + 1) (.inl (cg 1, 600, .inl fun _ => 0))) (i) (.inr (13, [.ref (bs + (i + 1)), .null, .int 0, .int 0, .int 0, .int 0, .int 0, .int 0, .int 0]))) (i + 2) (.inr (1, [.null, .int 0, .int 0, .int 0]))) (i + 2) ((rJ4 bs cg kA (i + 2)) 0)) (i + 3) ((rJ4 bs cg kA (i + 2)) 1))) s H := hP
  refine nw_putF X hin hP hS (Or.inl (Nat.le_add_right _ _)) ⟨by omega, by rw [vne (by omega), vne (by omega), vne (by omega), vat]⟩ rfl cinX8 tyX8_ok nmX8 (k := 1) (by decide) rfl rfl (rfl) (rfl) (show 1 + 1 ≤ _ from Nat.le_of_ble_eq_true rfl) tw87 dX8_init_21 (fun H locs hP hS => ?_)
  have hP : nP dC dI cg kA bs (i + 4, (va_up (va_up (va_up (va_up (va_up (va_up (va_up w (i) (.inr (13, [.null, .null, .int 0, .int 0, .int 0, .int 0, .int 0, .int 0, .int 0]))) (i + 1) (.inl (cg 1, 600, .inl fun _ => 0))) (i) (.inr (13, [.ref (bs + (i + 1)), .null, .int 0, .int 0, .int 0, .int 0, .int 0, .int 0, .int 0]))) (i + 2) (.inr (1, [.null, .int 0, .int 0, .int 0]))) (i + 2) ((rJ4 bs cg kA (i + 2)) 0)) (i + 3) ((rJ4 bs cg kA (i + 2)) 1)) (i) (.inr (13, [.ref (bs + (i + 1)), .ref (bs + (i + 2)), .int 0, .int 0, .int 0, .int 0, .int 0, .int 0, .int 0])))) s H := hP
  refine lv_aload_n hx hb dX8_init_24 rfl (lv_at hl 0 rfl) ?_
  refine lv_iconst (v := 0) hx hb dX8_init_25 (by decide) ?_
  refine nw_put X hP hS (Or.inl (Nat.le_add_right _ _)) ⟨by omega, by rw [vat]⟩ rfl cinX8 tyX8_ok nmX8 (k := 7) (by decide) rfl rfl (by decide +kernel) (by decide +kernel) (show 7 + 1 ≤ _ from Nat.le_of_ble_eq_true rfl) tw96 dX8_init_26 (fun H locs hP hS => ?_)
  have hP : nP dC dI cg kA bs (i + 4, (va_up (va_up (va_up (va_up (va_up (va_up (va_up (va_up w (i) (.inr (13, [.null, .null, .int 0, .int 0, .int 0, .int 0, .int 0, .int 0, .int 0]))) (i + 1) (.inl (cg 1, 600, .inl fun _ => 0))) (i) (.inr (13, [.ref (bs + (i + 1)), .null, .int 0, .int 0, .int 0, .int 0, .int 0, .int 0, .int 0]))) (i + 2) (.inr (1, [.null, .int 0, .int 0, .int 0]))) (i + 2) ((rJ4 bs cg kA (i + 2)) 0)) (i + 3) ((rJ4 bs cg kA (i + 2)) 1)) (i) (.inr (13, [.ref (bs + (i + 1)), .ref (bs + (i + 2)), .int 0, .int 0, .int 0, .int 0, .int 0, .int 0, .int 0]))) (i) (.inr (13, [.ref (bs + (i + 1)), .ref (bs + (i + 2)), .int 0, .int 0, .int 0, .int 0, .int 0, .int 0, .int 0])))) s H := hP
  refine lv_aload_n hx hb dX8_init_29 rfl (lv_at hl 0 rfl) ?_
  refine lv_iconst (v := (-1)) hx hb dX8_init_30 (by decide) ?_
  refine nw_put X hP hS (Or.inl (Nat.le_add_right _ _)) ⟨by omega, by rw [vat]⟩ rfl cinX8 tyX8_ok nmX8 (k := 8) (by decide) rfl rfl (by decide +kernel) (by decide +kernel) (show 8 + 1 ≤ _ from Nat.le_of_ble_eq_true rfl) tw97 dX8_init_31 (fun H locs hP hS => ?_)
  have hP : nP dC dI cg kA bs (i + 4, (va_up (va_up (va_up (va_up (va_up (va_up (va_up (va_up (va_up w (i) (.inr (13, [.null, .null, .int 0, .int 0, .int 0, .int 0, .int 0, .int 0, .int 0]))) (i + 1) (.inl (cg 1, 600, .inl fun _ => 0))) (i) (.inr (13, [.ref (bs + (i + 1)), .null, .int 0, .int 0, .int 0, .int 0, .int 0, .int 0, .int 0]))) (i + 2) (.inr (1, [.null, .int 0, .int 0, .int 0]))) (i + 2) ((rJ4 bs cg kA (i + 2)) 0)) (i + 3) ((rJ4 bs cg kA (i + 2)) 1)) (i) (.inr (13, [.ref (bs + (i + 1)), .ref (bs + (i + 2)), .int 0, .int 0, .int 0, .int 0, .int 0, .int 0, .int 0]))) (i) (.inr (13, [.ref (bs + (i + 1)), .ref (bs + (i + 2)), .int 0, .int 0, .int 0, .int 0, .int 0, .int 0, .int 0]))) (i) (.inr (13, [.ref (bs + (i + 1)), .ref (bs + (i + 2)), .int 0, .int 0, .int 0, .int 0, .int 0, .int 0, .int (-1)])))) s H := hP
  refine hret _ _ _ _ _ _ dX8_init_34 (hP.to (fun q hq => ?_)) hS (Nat.le_of_ble_eq_true rfl) (Nat.le_of_ble_eq_true rfl)
  rcases (show q < i ∨ q = i ∨ q = i + 1 ∨ q = i + 2 ∨ q = i + 3 by omega) with h | h | h | h | h
  · rw [vne (by omega), vne (by omega), vne (by omega), vne (by omega), vne (by omega), vne (by omega), vne (by omega), vne (by omega), vne (by omega), po_lt h]
  · rw [h, vat]; exact (po_0 (r := (rX8 bs cg kA i))).symm
  · rw [h, vne (by omega), vne (by omega), vne (by omega), vne (by omega), vne (by omega), vne (by omega), vne (by omega), vat]; exact (po_at (r := (rX8 bs cg kA i)) (k := 1)).symm
  · rw [h, vne (by omega), vne (by omega), vne (by omega), vne (by omega), vat]; exact (po_at (r := (rX8 bs cg kA i)) (k := 2)).symm
  · rw [h, vne (by omega), vne (by omega), vne (by omega), vat]; exact (po_at (r := (rX8 bs cg kA i)) (k := 3)).symm)
end CTOR
