theorem tw2287 : (Jvm.Cond.methodLink "GranaryWatchModel" (406 : Nat) ({ cls := "GranaryWatchModel", name := "write", desc := "(I)V" } : Jvm.MethodName)) ∈ TBG := tb_t 2287 (by decide +kernel) (by decide +kernel)
theorem tw2289 : (Jvm.Cond.instanceMethod ({ cls := "GranaryWatchModel", name := "write", desc := "(I)V" } : Jvm.MethodName)) ∈ TBG := tb_t 2289 (by decide +kernel) (by decide +kernel)
theorem tw2290 : (Jvm.Cond.code ({ cls := "GranaryWatchModel", name := "write", desc := "(I)V" } : Jvm.MethodName) prog_13_method_147_code (2 : Nat) (Option.none : Option Jvm.ClassFile.FieldType)) ∈ TBG := tb_t 2290 (by decide +kernel) (by decide +kernel)
theorem tw2291 : (Jvm.Cond.methodLink "GranaryWatchModel" (403 : Nat) ({ cls := "GranaryWatchModel", name := "writeNumber", desc := "(I)V" } : Jvm.MethodName)) ∈ TBG := tb_t 2291 (by decide +kernel) (by decide +kernel)
theorem tw2293 : (Jvm.Cond.instanceMethod ({ cls := "GranaryWatchModel", name := "writeNumber", desc := "(I)V" } : Jvm.MethodName)) ∈ TBG := tb_t 2293 (by decide +kernel) (by decide +kernel)
theorem tw2294 : (Jvm.Cond.code ({ cls := "GranaryWatchModel", name := "writeNumber", desc := "(I)V" } : Jvm.MethodName) prog_13_method_148_code (2 : Nat) (Option.none : Option Jvm.ClassFile.FieldType)) ∈ TBG := tb_t 2294 (by decide +kernel) (by decide +kernel)
theorem tp100 : Cond.selects "GranaryWatchModel" ⟨"GranaryWatchModel", "write", "(I)V"⟩ ⟨"GranaryWatchModel", "write", "(I)V"⟩ ∈ TBG := tb_s (q := (⟨"GranaryWatchModel", "write", "(I)V"⟩, 25)) 100 (by decide +kernel) (by decide +kernel)
theorem tp101 : Cond.selects "GranaryWatchModel" ⟨"GranaryWatchModel", "writeNumber", "(I)V"⟩ ⟨"GranaryWatchModel", "writeNumber", "(I)V"⟩ ∈ TBG := tb_s (q := (⟨"GranaryWatchModel", "writeNumber", "(I)V"⟩, 25)) 101 (by decide +kernel) (by decide +kernel)
theorem hdX11_write : yX11_write.cls = RX11 ∧ yX11_write.cls ≠ "java/lang/invoke/MethodHandle" ∧ yX11_write.cls ≠ "java/lang/invoke/VarHandle" ∧ (parseMethodDescriptor yX11_write.desc).map (fun d => d.parameters.length) = some 1 := ⟨rfl, by decide +kernel, by decide +kernel, by decide +kernel⟩
theorem hdX11_writeNumber : yX11_writeNumber.cls = RX11 ∧ yX11_writeNumber.cls ≠ "java/lang/invoke/MethodHandle" ∧ yX11_writeNumber.cls ≠ "java/lang/invoke/VarHandle" ∧ (parseMethodDescriptor yX11_writeNumber.desc).map (fun d => d.parameters.length) = some 1 := ⟨rfl, by decide +kernel, by decide +kernel, by decide +kernel⟩
theorem gRX11_X11_write : GoodIn TBG (wsV RX11 406 RX11 yX11_write (wT yX11_write cX11_write 2 none)) := gT_V tw2287 tw2289 tp100 tw31 tw2290
theorem gRX11_X11_writeNumber : GoodIn TBG (wsV RX11 403 RX11 yX11_writeNumber (wT yX11_writeNumber cX11_writeNumber 2 none)) := gT_V tw2291 tw2293 tp101 tw31 tw2294
variable {l : Launch} {p : Program} {e : Env} {s : State} {m : MethodId} {args : Array Value} {below : List Frame} {meth : Method} {c : Code} {A : Nat → Prop} {Q : State → Prop}
variable {dC : Nat → ClassId} {dI : Nat → Nat → Nat} {cI : ClassId} {kA : String → Nat → Nat} {ad : Nat → Nat}
def fX11_writeNumber0 (M : MS) (a1 : Int32) : Option (MS) := none
theorem vX11_writeNumber0 {l : Launch} {dC : Nat → ClassId} {dI : Nat → Nat → Nat} {cI : ClassId} {kA : String → Nat → Nat} {ad : Nat → Nat} {M S1 : MS} {a1 : Int32} (hf : fX11_writeNumber0 M a1 = some S1) : gMetV l yX11_writeNumber cX11_writeNumber 2 1 (mΩ ad) (mP dC dI cI kA ad) (kR kTab kA) [.ref (ad 25), .int a1] M S1 := by unfold fX11_writeNumber0 at hf; cases hf
def fX11_writeNumber1_25 (M : MS) : Option (MS) := some M
def fX11_writeNumber1_14 (M : MS) (x1 : Int32) : Option (MS) := (fX11_write M (48 + (x1 - x1 / 10 * 10))).bind fun q => fX11_writeNumber1_25 q
def fX11_writeNumber1_6 (M : MS) (x1 : Int32) : Option (MS) := (fX11_writeNumber0 M (x1 / 10)).bind fun q => fX11_writeNumber1_14 q x1
def fX11_writeNumber1_0 (M : MS) (a1 : Int32) : Option (MS) := if a1 ≤ 9 then fX11_writeNumber1_14 M a1 else fX11_writeNumber1_6 M a1
def fX11_writeNumber1 (M : MS) (a1 : Int32) : Option (MS) := fX11_writeNumber1_0  M a1
set_option maxRecDepth 10000 in
theorem kX11_writeNumber1_25 {S1 : MS} {M : MS} {H : Heap} {locs : List Loc} {ls : Array Slot} (X : gX p s m args c cX11_writeNumber 2 RX11 (kR kTab kA)) (hret : gRetV p l e (rmL 2 0 0) s m args below meth c cX11_writeNumber (mΩ ad) (mP dC dI cI kA ad) Q S1) (hf : fX11_writeNumber1_25 M = some S1) (hP : (mP dC dI cI kA ad) M s H) (hS : va_S (Fr (mΩ ad) s.heap.size) s.heap H locs) (hl : lv_has ls 2 [(0, .ref (ad 25))]) : W p l e (rmL 2 0 0) s m args below meth c H locs 0 0 Q (F0 m 25 ls []) := by
  have hx := X.hx
  have hb := X.hb
  have hown := X.hown
  have hts := X.hts
  rw [fX11_writeNumber1_25] at hf
  cases hf
  exact hret _ _ _ _ dX11_writeNumber_25 hP hS
set_option maxRecDepth 10000 in
theorem kX11_writeNumber1_14 {S1 : MS} {M : MS} {x1 : Int32} {H : Heap} {locs : List Loc} {ls : Array Slot} (X : gX p s m args c cX11_writeNumber 2 RX11 (kR kTab kA)) (hret : gRetV p l e (rmL 2 0 0) s m args below meth c cX11_writeNumber (mΩ ad) (mP dC dI cI kA ad) Q S1) (hf : fX11_writeNumber1_14 M x1 = some S1) (hP : (mP dC dI cI kA ad) M s H) (hS : va_S (Fr (mΩ ad) s.heap.size) s.heap H locs) (hl : lv_has ls 2 [(0, .ref (ad 25)), (1, .int x1)]) : W p l e (rmL 2 0 0) s m args below meth c H locs 0 0 Q (F0 m 14 ls []) := by
  have hx := X.hx
  have hb := X.hb
  have hown := X.hown
  have hts := X.hts
  rw [fX11_writeNumber1_14] at hf
  refine lv_aload_n hx hb dX11_writeNumber_14 rfl (lv_at hl 0 rfl) ?_
  refine lv_bipush (v := 48) hx hb dX11_writeNumber_15 (by decide) ?_
  refine lv_iload_n hx hb dX11_writeNumber_17 rfl (lv_at hl 1 rfl) ?_
  refine lv_bipush (v := 10) hx hb dX11_writeNumber_18 (by decide) ?_
  refine lv_irem hx hb dX11_writeNumber_20 (by decide) ?_
  refine lv_iadd hx hb dX11_writeNumber_21 ?_
  obtain ⟨q, hc, hf⟩ := bd hf
  refine gCallVV X mOK rfl (vX11_write hc) gRX11_X11_write hdX11_write rfl ⟨by decide, by decide⟩ hP hS (mrec hP) hl.1 (Nat.le_of_ble_eq_true rfl) ⟨Nat.le_refl _, Nat.le_refl _⟩ dX11_writeNumber_22 (As := [.int (48 + (x1 - x1 / 10 * 10))]) (rest := []) rfl (fun H locs hP hS => ?_)
  exact kX11_writeNumber1_25 X hret hf hP hS (lv_sub hl [0] rfl)
set_option maxRecDepth 10000 in
theorem kX11_writeNumber1_6 {S1 : MS} {M : MS} {x1 : Int32} {H : Heap} {locs : List Loc} {ls : Array Slot} (X : gX p s m args c cX11_writeNumber 2 RX11 (kR kTab kA)) (hret : gRetV p l e (rmL 2 0 0) s m args below meth c cX11_writeNumber (mΩ ad) (mP dC dI cI kA ad) Q S1) (hf : fX11_writeNumber1_6 M x1 = some S1) (hP : (mP dC dI cI kA ad) M s H) (hS : va_S (Fr (mΩ ad) s.heap.size) s.heap H locs) (hl : lv_has ls 2 [(0, .ref (ad 25)), (1, .int x1)]) : W p l e (rmL 2 0 0) s m args below meth c H locs 0 0 Q (F0 m 6 ls []) := by
  have hx := X.hx
  have hb := X.hb
  have hown := X.hown
  have hts := X.hts
  rw [fX11_writeNumber1_6] at hf
  refine lv_aload_n hx hb dX11_writeNumber_6 rfl (lv_at hl 0 rfl) ?_
  refine lv_iload_n hx hb dX11_writeNumber_7 rfl (lv_at hl 1 rfl) ?_
  refine lv_bipush (v := 10) hx hb dX11_writeNumber_8 (by decide) ?_
  refine lv_idiv hx hb dX11_writeNumber_10 (by decide) ?_
  obtain ⟨q, hc, hf⟩ := bd hf
  refine gCallVV X mOK rfl (vX11_writeNumber0 hc) gRX11_X11_writeNumber hdX11_writeNumber rfl ⟨by decide, by decide⟩ hP hS (mrec hP) hl.1 (Nat.le_of_ble_eq_true rfl) ⟨Nat.le_refl _, Nat.le_refl _⟩ dX11_writeNumber_11 (As := [.int (x1 / 10)]) (rest := []) rfl (fun H locs hP hS => ?_)
  exact kX11_writeNumber1_14 X hret hf hP hS (lv_sub hl [0, 1] rfl)
set_option maxRecDepth 10000 in
theorem kX11_writeNumber1_0 {S1 : MS} {M : MS} {a1 : Int32} {H : Heap} {locs : List Loc} {ls : Array Slot} (X : gX p s m args c cX11_writeNumber 2 RX11 (kR kTab kA)) (hret : gRetV p l e (rmL 2 0 0) s m args below meth c cX11_writeNumber (mΩ ad) (mP dC dI cI kA ad) Q S1) (hf : fX11_writeNumber1_0 M a1 = some S1) (hP : (mP dC dI cI kA ad) M s H) (hS : va_S (Fr (mΩ ad) s.heap.size) s.heap H locs) (hl : lv_has ls 2 [(0, .ref (ad 25)), (1, .int a1)]) : W p l e (rmL 2 0 0) s m args below meth c H locs 0 0 Q (F0 m 0 ls []) := by
  have hx := X.hx
  have hb := X.hb
  have hown := X.hown
  have hts := X.hts
  rw [fX11_writeNumber1_0] at hf
  refine lv_iload_n hx hb dX11_writeNumber_0 rfl (lv_at hl 1 rfl) ?_
  refine lv_bipush (v := 9) hx hb dX11_writeNumber_1 (by decide) ?_
  refine lv_icmp_le (tgt := 14) hx hb dX11_writeNumber_3 (by decide) (fun c1 => ?_) (fun c1 => ?_)
  · exact kX11_writeNumber1_14 X hret (ifp c1 hf) hP hS (lv_sub hl [0, 1] rfl)
  · exact kX11_writeNumber1_6 X hret (ifn c1 hf) hP hS (lv_sub hl [0, 1] rfl)
theorem vX11_writeNumber1 {l : Launch} {dC : Nat → ClassId} {dI : Nat → Nat → Nat} {cI : ClassId} {kA : String → Nat → Nat} {ad : Nat → Nat} {M S1 : MS} {a1 : Int32} (hf : fX11_writeNumber1 M a1 = some S1) : gMetV l yX11_writeNumber cX11_writeNumber 2 2 (mΩ ad) (mP dC dI cI kA ad) (kR kTab kA) [.ref (ad 25), .int a1] M S1 := gEntryV (by decide) mOK (Nat.le_of_ble_eq_true rfl) (fun p e s m args below meth c Q ls X hP hS hret hl => 
  kX11_writeNumber1_0 X hret hf hP hS (lv_sub hl [0, 1] rfl))
def fX11_writeNumber2_25 (M : MS) : Option (MS) := some M
def fX11_writeNumber2_14 (M : MS) (x1 : Int32) : Option (MS) := (fX11_write M (48 + (x1 - x1 / 10 * 10))).bind fun q => fX11_writeNumber2_25 q
def fX11_writeNumber2_6 (M : MS) (x1 : Int32) : Option (MS) := (fX11_writeNumber1 M (x1 / 10)).bind fun q => fX11_writeNumber2_14 q x1
def fX11_writeNumber2_0 (M : MS) (a1 : Int32) : Option (MS) := if a1 ≤ 9 then fX11_writeNumber2_14 M a1 else fX11_writeNumber2_6 M a1
def fX11_writeNumber2 (M : MS) (a1 : Int32) : Option (MS) := fX11_writeNumber2_0  M a1
set_option maxRecDepth 10000 in
theorem kX11_writeNumber2_25 {S1 : MS} {M : MS} {H : Heap} {locs : List Loc} {ls : Array Slot} (X : gX p s m args c cX11_writeNumber 2 RX11 (kR kTab kA)) (hret : gRetV p l e (rmL 3 0 0) s m args below meth c cX11_writeNumber (mΩ ad) (mP dC dI cI kA ad) Q S1) (hf : fX11_writeNumber2_25 M = some S1) (hP : (mP dC dI cI kA ad) M s H) (hS : va_S (Fr (mΩ ad) s.heap.size) s.heap H locs) (hl : lv_has ls 2 [(0, .ref (ad 25))]) : W p l e (rmL 3 0 0) s m args below meth c H locs 0 0 Q (F0 m 25 ls []) := by
  have hx := X.hx
  have hb := X.hb
  have hown := X.hown
  have hts := X.hts
  rw [fX11_writeNumber2_25] at hf
  cases hf
  exact hret _ _ _ _ dX11_writeNumber_25 hP hS
set_option maxRecDepth 10000 in
theorem kX11_writeNumber2_14 {S1 : MS} {M : MS} {x1 : Int32} {H : Heap} {locs : List Loc} {ls : Array Slot} (X : gX p s m args c cX11_writeNumber 2 RX11 (kR kTab kA)) (hret : gRetV p l e (rmL 3 0 0) s m args below meth c cX11_writeNumber (mΩ ad) (mP dC dI cI kA ad) Q S1) (hf : fX11_writeNumber2_14 M x1 = some S1) (hP : (mP dC dI cI kA ad) M s H) (hS : va_S (Fr (mΩ ad) s.heap.size) s.heap H locs) (hl : lv_has ls 2 [(0, .ref (ad 25)), (1, .int x1)]) : W p l e (rmL 3 0 0) s m args below meth c H locs 0 0 Q (F0 m 14 ls []) := by
  have hx := X.hx
  have hb := X.hb
  have hown := X.hown
  have hts := X.hts
  rw [fX11_writeNumber2_14] at hf
  refine lv_aload_n hx hb dX11_writeNumber_14 rfl (lv_at hl 0 rfl) ?_
  refine lv_bipush (v := 48) hx hb dX11_writeNumber_15 (by decide) ?_
  refine lv_iload_n hx hb dX11_writeNumber_17 rfl (lv_at hl 1 rfl) ?_
  refine lv_bipush (v := 10) hx hb dX11_writeNumber_18 (by decide) ?_
  refine lv_irem hx hb dX11_writeNumber_20 (by decide) ?_
  refine lv_iadd hx hb dX11_writeNumber_21 ?_
  obtain ⟨q, hc, hf⟩ := bd hf
  refine gCallVV X mOK rfl (vX11_write hc) gRX11_X11_write hdX11_write rfl ⟨by decide, by decide⟩ hP hS (mrec hP) hl.1 (Nat.le_of_ble_eq_true rfl) ⟨Nat.le_refl _, Nat.le_refl _⟩ dX11_writeNumber_22 (As := [.int (48 + (x1 - x1 / 10 * 10))]) (rest := []) rfl (fun H locs hP hS => ?_)
  exact kX11_writeNumber2_25 X hret hf hP hS (lv_sub hl [0] rfl)
set_option maxRecDepth 10000 in
theorem kX11_writeNumber2_6 {S1 : MS} {M : MS} {x1 : Int32} {H : Heap} {locs : List Loc} {ls : Array Slot} (X : gX p s m args c cX11_writeNumber 2 RX11 (kR kTab kA)) (hret : gRetV p l e (rmL 3 0 0) s m args below meth c cX11_writeNumber (mΩ ad) (mP dC dI cI kA ad) Q S1) (hf : fX11_writeNumber2_6 M x1 = some S1) (hP : (mP dC dI cI kA ad) M s H) (hS : va_S (Fr (mΩ ad) s.heap.size) s.heap H locs) (hl : lv_has ls 2 [(0, .ref (ad 25)), (1, .int x1)]) : W p l e (rmL 3 0 0) s m args below meth c H locs 0 0 Q (F0 m 6 ls []) := by
  have hx := X.hx
  have hb := X.hb
  have hown := X.hown
  have hts := X.hts
  rw [fX11_writeNumber2_6] at hf
  refine lv_aload_n hx hb dX11_writeNumber_6 rfl (lv_at hl 0 rfl) ?_
  refine lv_iload_n hx hb dX11_writeNumber_7 rfl (lv_at hl 1 rfl) ?_
  refine lv_bipush (v := 10) hx hb dX11_writeNumber_8 (by decide) ?_
  refine lv_idiv hx hb dX11_writeNumber_10 (by decide) ?_
  obtain ⟨q, hc, hf⟩ := bd hf
  refine gCallVV X mOK rfl (vX11_writeNumber1 hc) gRX11_X11_writeNumber hdX11_writeNumber rfl ⟨by decide, by decide⟩ hP hS (mrec hP) hl.1 (Nat.le_of_ble_eq_true rfl) ⟨Nat.le_refl _, Nat.le_refl _⟩ dX11_writeNumber_11 (As := [.int (x1 / 10)]) (rest := []) rfl (fun H locs hP hS => ?_)
  exact kX11_writeNumber2_14 X hret hf hP hS (lv_sub hl [0, 1] rfl)
set_option maxRecDepth 10000 in
theorem kX11_writeNumber2_0 {S1 : MS} {M : MS} {a1 : Int32} {H : Heap} {locs : List Loc} {ls : Array Slot} (X : gX p s m args c cX11_writeNumber 2 RX11 (kR kTab kA)) (hret : gRetV p l e (rmL 3 0 0) s m args below meth c cX11_writeNumber (mΩ ad) (mP dC dI cI kA ad) Q S1) (hf : fX11_writeNumber2_0 M a1 = some S1) (hP : (mP dC dI cI kA ad) M s H) (hS : va_S (Fr (mΩ ad) s.heap.size) s.heap H locs) (hl : lv_has ls 2 [(0, .ref (ad 25)), (1, .int a1)]) : W p l e (rmL 3 0 0) s m args below meth c H locs 0 0 Q (F0 m 0 ls []) := by
  have hx := X.hx
  have hb := X.hb
  have hown := X.hown
  have hts := X.hts
  rw [fX11_writeNumber2_0] at hf
  refine lv_iload_n hx hb dX11_writeNumber_0 rfl (lv_at hl 1 rfl) ?_
  refine lv_bipush (v := 9) hx hb dX11_writeNumber_1 (by decide) ?_
  refine lv_icmp_le (tgt := 14) hx hb dX11_writeNumber_3 (by decide) (fun c1 => ?_) (fun c1 => ?_)
  · exact kX11_writeNumber2_14 X hret (ifp c1 hf) hP hS (lv_sub hl [0, 1] rfl)
  · exact kX11_writeNumber2_6 X hret (ifn c1 hf) hP hS (lv_sub hl [0, 1] rfl)
theorem vX11_writeNumber2 {l : Launch} {dC : Nat → ClassId} {dI : Nat → Nat → Nat} {cI : ClassId} {kA : String → Nat → Nat} {ad : Nat → Nat} {M S1 : MS} {a1 : Int32} (hf : fX11_writeNumber2 M a1 = some S1) : gMetV l yX11_writeNumber cX11_writeNumber 2 3 (mΩ ad) (mP dC dI cI kA ad) (kR kTab kA) [.ref (ad 25), .int a1] M S1 := gEntryV (by decide) mOK (Nat.le_of_ble_eq_true rfl) (fun p e s m args below meth c Q ls X hP hS hret hl => 
  kX11_writeNumber2_0 X hret hf hP hS (lv_sub hl [0, 1] rfl))
def fX11_writeNumber3_25 (M : MS) : Option (MS) := some M
def fX11_writeNumber3_14 (M : MS) (x1 : Int32) : Option (MS) := (fX11_write M (48 + (x1 - x1 / 10 * 10))).bind fun q => fX11_writeNumber3_25 q
def fX11_writeNumber3_6 (M : MS) (x1 : Int32) : Option (MS) := (fX11_writeNumber2 M (x1 / 10)).bind fun q => fX11_writeNumber3_14 q x1
def fX11_writeNumber3_0 (M : MS) (a1 : Int32) : Option (MS) := if a1 ≤ 9 then fX11_writeNumber3_14 M a1 else fX11_writeNumber3_6 M a1
def fX11_writeNumber3 (M : MS) (a1 : Int32) : Option (MS) := fX11_writeNumber3_0  M a1
set_option maxRecDepth 10000 in
theorem kX11_writeNumber3_25 {S1 : MS} {M : MS} {H : Heap} {locs : List Loc} {ls : Array Slot} (X : gX p s m args c cX11_writeNumber 2 RX11 (kR kTab kA)) (hret : gRetV p l e (rmL 4 0 0) s m args below meth c cX11_writeNumber (mΩ ad) (mP dC dI cI kA ad) Q S1) (hf : fX11_writeNumber3_25 M = some S1) (hP : (mP dC dI cI kA ad) M s H) (hS : va_S (Fr (mΩ ad) s.heap.size) s.heap H locs) (hl : lv_has ls 2 [(0, .ref (ad 25))]) : W p l e (rmL 4 0 0) s m args below meth c H locs 0 0 Q (F0 m 25 ls []) := by
  have hx := X.hx
  have hb := X.hb
  have hown := X.hown
  have hts := X.hts
  rw [fX11_writeNumber3_25] at hf
  cases hf
  exact hret _ _ _ _ dX11_writeNumber_25 hP hS
set_option maxRecDepth 10000 in
theorem kX11_writeNumber3_14 {S1 : MS} {M : MS} {x1 : Int32} {H : Heap} {locs : List Loc} {ls : Array Slot} (X : gX p s m args c cX11_writeNumber 2 RX11 (kR kTab kA)) (hret : gRetV p l e (rmL 4 0 0) s m args below meth c cX11_writeNumber (mΩ ad) (mP dC dI cI kA ad) Q S1) (hf : fX11_writeNumber3_14 M x1 = some S1) (hP : (mP dC dI cI kA ad) M s H) (hS : va_S (Fr (mΩ ad) s.heap.size) s.heap H locs) (hl : lv_has ls 2 [(0, .ref (ad 25)), (1, .int x1)]) : W p l e (rmL 4 0 0) s m args below meth c H locs 0 0 Q (F0 m 14 ls []) := by
  have hx := X.hx
  have hb := X.hb
  have hown := X.hown
  have hts := X.hts
  rw [fX11_writeNumber3_14] at hf
  refine lv_aload_n hx hb dX11_writeNumber_14 rfl (lv_at hl 0 rfl) ?_
  refine lv_bipush (v := 48) hx hb dX11_writeNumber_15 (by decide) ?_
  refine lv_iload_n hx hb dX11_writeNumber_17 rfl (lv_at hl 1 rfl) ?_
  refine lv_bipush (v := 10) hx hb dX11_writeNumber_18 (by decide) ?_
  refine lv_irem hx hb dX11_writeNumber_20 (by decide) ?_
  refine lv_iadd hx hb dX11_writeNumber_21 ?_
  obtain ⟨q, hc, hf⟩ := bd hf
  refine gCallVV X mOK rfl (vX11_write hc) gRX11_X11_write hdX11_write rfl ⟨by decide, by decide⟩ hP hS (mrec hP) hl.1 (Nat.le_of_ble_eq_true rfl) ⟨Nat.le_refl _, Nat.le_refl _⟩ dX11_writeNumber_22 (As := [.int (48 + (x1 - x1 / 10 * 10))]) (rest := []) rfl (fun H locs hP hS => ?_)
  exact kX11_writeNumber3_25 X hret hf hP hS (lv_sub hl [0] rfl)
set_option maxRecDepth 10000 in
theorem kX11_writeNumber3_6 {S1 : MS} {M : MS} {x1 : Int32} {H : Heap} {locs : List Loc} {ls : Array Slot} (X : gX p s m args c cX11_writeNumber 2 RX11 (kR kTab kA)) (hret : gRetV p l e (rmL 4 0 0) s m args below meth c cX11_writeNumber (mΩ ad) (mP dC dI cI kA ad) Q S1) (hf : fX11_writeNumber3_6 M x1 = some S1) (hP : (mP dC dI cI kA ad) M s H) (hS : va_S (Fr (mΩ ad) s.heap.size) s.heap H locs) (hl : lv_has ls 2 [(0, .ref (ad 25)), (1, .int x1)]) : W p l e (rmL 4 0 0) s m args below meth c H locs 0 0 Q (F0 m 6 ls []) := by
  have hx := X.hx
  have hb := X.hb
  have hown := X.hown
  have hts := X.hts
  rw [fX11_writeNumber3_6] at hf
  refine lv_aload_n hx hb dX11_writeNumber_6 rfl (lv_at hl 0 rfl) ?_
  refine lv_iload_n hx hb dX11_writeNumber_7 rfl (lv_at hl 1 rfl) ?_
  refine lv_bipush (v := 10) hx hb dX11_writeNumber_8 (by decide) ?_
  refine lv_idiv hx hb dX11_writeNumber_10 (by decide) ?_
  obtain ⟨q, hc, hf⟩ := bd hf
  refine gCallVV X mOK rfl (vX11_writeNumber2 hc) gRX11_X11_writeNumber hdX11_writeNumber rfl ⟨by decide, by decide⟩ hP hS (mrec hP) hl.1 (Nat.le_of_ble_eq_true rfl) ⟨Nat.le_refl _, Nat.le_refl _⟩ dX11_writeNumber_11 (As := [.int (x1 / 10)]) (rest := []) rfl (fun H locs hP hS => ?_)
  exact kX11_writeNumber3_14 X hret hf hP hS (lv_sub hl [0, 1] rfl)
set_option maxRecDepth 10000 in
theorem kX11_writeNumber3_0 {S1 : MS} {M : MS} {a1 : Int32} {H : Heap} {locs : List Loc} {ls : Array Slot} (X : gX p s m args c cX11_writeNumber 2 RX11 (kR kTab kA)) (hret : gRetV p l e (rmL 4 0 0) s m args below meth c cX11_writeNumber (mΩ ad) (mP dC dI cI kA ad) Q S1) (hf : fX11_writeNumber3_0 M a1 = some S1) (hP : (mP dC dI cI kA ad) M s H) (hS : va_S (Fr (mΩ ad) s.heap.size) s.heap H locs) (hl : lv_has ls 2 [(0, .ref (ad 25)), (1, .int a1)]) : W p l e (rmL 4 0 0) s m args below meth c H locs 0 0 Q (F0 m 0 ls []) := by
  have hx := X.hx
  have hb := X.hb
  have hown := X.hown
  have hts := X.hts
  rw [fX11_writeNumber3_0] at hf
  refine lv_iload_n hx hb dX11_writeNumber_0 rfl (lv_at hl 1 rfl) ?_
  refine lv_bipush (v := 9) hx hb dX11_writeNumber_1 (by decide) ?_
  refine lv_icmp_le (tgt := 14) hx hb dX11_writeNumber_3 (by decide) (fun c1 => ?_) (fun c1 => ?_)
  · exact kX11_writeNumber3_14 X hret (ifp c1 hf) hP hS (lv_sub hl [0, 1] rfl)
  · exact kX11_writeNumber3_6 X hret (ifn c1 hf) hP hS (lv_sub hl [0, 1] rfl)
theorem vX11_writeNumber3 {l : Launch} {dC : Nat → ClassId} {dI : Nat → Nat → Nat} {cI : ClassId} {kA : String → Nat → Nat} {ad : Nat → Nat} {M S1 : MS} {a1 : Int32} (hf : fX11_writeNumber3 M a1 = some S1) : gMetV l yX11_writeNumber cX11_writeNumber 2 4 (mΩ ad) (mP dC dI cI kA ad) (kR kTab kA) [.ref (ad 25), .int a1] M S1 := gEntryV (by decide) mOK (Nat.le_of_ble_eq_true rfl) (fun p e s m args below meth c Q ls X hP hS hret hl => 
  kX11_writeNumber3_0 X hret hf hP hS (lv_sub hl [0, 1] rfl))
def fX11_writeNumber4_25 (M : MS) : Option (MS) := some M
def fX11_writeNumber4_14 (M : MS) (x1 : Int32) : Option (MS) := (fX11_write M (48 + (x1 - x1 / 10 * 10))).bind fun q => fX11_writeNumber4_25 q
def fX11_writeNumber4_6 (M : MS) (x1 : Int32) : Option (MS) := (fX11_writeNumber3 M (x1 / 10)).bind fun q => fX11_writeNumber4_14 q x1
def fX11_writeNumber4_0 (M : MS) (a1 : Int32) : Option (MS) := if a1 ≤ 9 then fX11_writeNumber4_14 M a1 else fX11_writeNumber4_6 M a1
def fX11_writeNumber4 (M : MS) (a1 : Int32) : Option (MS) := fX11_writeNumber4_0  M a1
set_option maxRecDepth 10000 in
theorem kX11_writeNumber4_25 {S1 : MS} {M : MS} {H : Heap} {locs : List Loc} {ls : Array Slot} (X : gX p s m args c cX11_writeNumber 2 RX11 (kR kTab kA)) (hret : gRetV p l e (rmL 5 0 0) s m args below meth c cX11_writeNumber (mΩ ad) (mP dC dI cI kA ad) Q S1) (hf : fX11_writeNumber4_25 M = some S1) (hP : (mP dC dI cI kA ad) M s H) (hS : va_S (Fr (mΩ ad) s.heap.size) s.heap H locs) (hl : lv_has ls 2 [(0, .ref (ad 25))]) : W p l e (rmL 5 0 0) s m args below meth c H locs 0 0 Q (F0 m 25 ls []) := by
  have hx := X.hx
  have hb := X.hb
  have hown := X.hown
  have hts := X.hts
  rw [fX11_writeNumber4_25] at hf
  cases hf
  exact hret _ _ _ _ dX11_writeNumber_25 hP hS
set_option maxRecDepth 10000 in
theorem kX11_writeNumber4_14 {S1 : MS} {M : MS} {x1 : Int32} {H : Heap} {locs : List Loc} {ls : Array Slot} (X : gX p s m args c cX11_writeNumber 2 RX11 (kR kTab kA)) (hret : gRetV p l e (rmL 5 0 0) s m args below meth c cX11_writeNumber (mΩ ad) (mP dC dI cI kA ad) Q S1) (hf : fX11_writeNumber4_14 M x1 = some S1) (hP : (mP dC dI cI kA ad) M s H) (hS : va_S (Fr (mΩ ad) s.heap.size) s.heap H locs) (hl : lv_has ls 2 [(0, .ref (ad 25)), (1, .int x1)]) : W p l e (rmL 5 0 0) s m args below meth c H locs 0 0 Q (F0 m 14 ls []) := by
  have hx := X.hx
  have hb := X.hb
  have hown := X.hown
  have hts := X.hts
  rw [fX11_writeNumber4_14] at hf
  refine lv_aload_n hx hb dX11_writeNumber_14 rfl (lv_at hl 0 rfl) ?_
  refine lv_bipush (v := 48) hx hb dX11_writeNumber_15 (by decide) ?_
  refine lv_iload_n hx hb dX11_writeNumber_17 rfl (lv_at hl 1 rfl) ?_
  refine lv_bipush (v := 10) hx hb dX11_writeNumber_18 (by decide) ?_
  refine lv_irem hx hb dX11_writeNumber_20 (by decide) ?_
  refine lv_iadd hx hb dX11_writeNumber_21 ?_
  obtain ⟨q, hc, hf⟩ := bd hf
  refine gCallVV X mOK rfl (vX11_write hc) gRX11_X11_write hdX11_write rfl ⟨by decide, by decide⟩ hP hS (mrec hP) hl.1 (Nat.le_of_ble_eq_true rfl) ⟨Nat.le_refl _, Nat.le_refl _⟩ dX11_writeNumber_22 (As := [.int (48 + (x1 - x1 / 10 * 10))]) (rest := []) rfl (fun H locs hP hS => ?_)
  exact kX11_writeNumber4_25 X hret hf hP hS (lv_sub hl [0] rfl)
set_option maxRecDepth 10000 in
theorem kX11_writeNumber4_6 {S1 : MS} {M : MS} {x1 : Int32} {H : Heap} {locs : List Loc} {ls : Array Slot} (X : gX p s m args c cX11_writeNumber 2 RX11 (kR kTab kA)) (hret : gRetV p l e (rmL 5 0 0) s m args below meth c cX11_writeNumber (mΩ ad) (mP dC dI cI kA ad) Q S1) (hf : fX11_writeNumber4_6 M x1 = some S1) (hP : (mP dC dI cI kA ad) M s H) (hS : va_S (Fr (mΩ ad) s.heap.size) s.heap H locs) (hl : lv_has ls 2 [(0, .ref (ad 25)), (1, .int x1)]) : W p l e (rmL 5 0 0) s m args below meth c H locs 0 0 Q (F0 m 6 ls []) := by
  have hx := X.hx
  have hb := X.hb
  have hown := X.hown
  have hts := X.hts
  rw [fX11_writeNumber4_6] at hf
  refine lv_aload_n hx hb dX11_writeNumber_6 rfl (lv_at hl 0 rfl) ?_
  refine lv_iload_n hx hb dX11_writeNumber_7 rfl (lv_at hl 1 rfl) ?_
  refine lv_bipush (v := 10) hx hb dX11_writeNumber_8 (by decide) ?_
  refine lv_idiv hx hb dX11_writeNumber_10 (by decide) ?_
  obtain ⟨q, hc, hf⟩ := bd hf
  refine gCallVV X mOK rfl (vX11_writeNumber3 hc) gRX11_X11_writeNumber hdX11_writeNumber rfl ⟨by decide, by decide⟩ hP hS (mrec hP) hl.1 (Nat.le_of_ble_eq_true rfl) ⟨Nat.le_refl _, Nat.le_refl _⟩ dX11_writeNumber_11 (As := [.int (x1 / 10)]) (rest := []) rfl (fun H locs hP hS => ?_)
  exact kX11_writeNumber4_14 X hret hf hP hS (lv_sub hl [0, 1] rfl)
set_option maxRecDepth 10000 in
theorem kX11_writeNumber4_0 {S1 : MS} {M : MS} {a1 : Int32} {H : Heap} {locs : List Loc} {ls : Array Slot} (X : gX p s m args c cX11_writeNumber 2 RX11 (kR kTab kA)) (hret : gRetV p l e (rmL 5 0 0) s m args below meth c cX11_writeNumber (mΩ ad) (mP dC dI cI kA ad) Q S1) (hf : fX11_writeNumber4_0 M a1 = some S1) (hP : (mP dC dI cI kA ad) M s H) (hS : va_S (Fr (mΩ ad) s.heap.size) s.heap H locs) (hl : lv_has ls 2 [(0, .ref (ad 25)), (1, .int a1)]) : W p l e (rmL 5 0 0) s m args below meth c H locs 0 0 Q (F0 m 0 ls []) := by
  have hx := X.hx
  have hb := X.hb
  have hown := X.hown
  have hts := X.hts
  rw [fX11_writeNumber4_0] at hf
  refine lv_iload_n hx hb dX11_writeNumber_0 rfl (lv_at hl 1 rfl) ?_
  refine lv_bipush (v := 9) hx hb dX11_writeNumber_1 (by decide) ?_
  refine lv_icmp_le (tgt := 14) hx hb dX11_writeNumber_3 (by decide) (fun c1 => ?_) (fun c1 => ?_)
  · exact kX11_writeNumber4_14 X hret (ifp c1 hf) hP hS (lv_sub hl [0, 1] rfl)
  · exact kX11_writeNumber4_6 X hret (ifn c1 hf) hP hS (lv_sub hl [0, 1] rfl)
theorem vX11_writeNumber4 {l : Launch} {dC : Nat → ClassId} {dI : Nat → Nat → Nat} {cI : ClassId} {kA : String → Nat → Nat} {ad : Nat → Nat} {M S1 : MS} {a1 : Int32} (hf : fX11_writeNumber4 M a1 = some S1) : gMetV l yX11_writeNumber cX11_writeNumber 2 5 (mΩ ad) (mP dC dI cI kA ad) (kR kTab kA) [.ref (ad 25), .int a1] M S1 := gEntryV (by decide) mOK (Nat.le_of_ble_eq_true rfl) (fun p e s m args below meth c Q ls X hP hS hret hl => 
  kX11_writeNumber4_0 X hret hf hP hS (lv_sub hl [0, 1] rfl))
def fX11_writeSacks_116 (M : MS) : Option (Int32 × MS) := some ((M.1 24), M)
def fX11_writeSacks_110 (K12 : MS → Int32 → Option (Int32 × MS)) (M : MS) (x1 : Int32) : Option (Int32 × MS) := K12 M (x1 + 1)
def fX11_writeSacks_104 (K12 : MS → Int32 → Option (Int32 × MS)) (M : MS) (x1 : Int32) : Option (Int32 × MS) := (fX11_write M 39).bind fun q => fX11_writeSacks_110 K12 q x1
def fX11_writeSacks_101 (K12 : MS → Int32 → Option (Int32 × MS)) (M : MS) (x1 : Int32) (s0 : Int32) : Option (Int32 × MS) := if s0 = 0 then fX11_writeSacks_110 K12 M x1 else fX11_writeSacks_104 K12 M x1
def fX11_writeSacks_96 (K12 : MS → Int32 → Option (Int32 × MS)) (M : MS) (x1 : Int32) : Option (Int32 × MS) := (fX11_isOpenSack M x1).bind fun q => fX11_writeSacks_101 K12 M x1 q
def fX11_writeSacks_93 (K12 : MS → Int32 → Option (Int32 × MS)) (M : MS) (x1 : Int32) (s0 : Int32) : Option (Int32 × MS) := (fX11_writeNumber4 M s0).bind fun q => fX11_writeSacks_96 K12 q x1
def fX11_writeSacks_85 (K12 : MS → Int32 → Option (Int32 × MS)) (M : MS) (x1 : Int32) : Option (Int32 × MS) := (fX11_ofSack M x1 8).bind fun q => fX11_writeSacks_93 K12 M x1 q
def fX11_writeSacks_79 (K12 : MS → Int32 → Option (Int32 × MS)) (M : MS) (x1 : Int32) : Option (Int32 × MS) := (fX11_write M 47).bind fun q => fX11_writeSacks_85 K12 q x1
def fX11_writeSacks_76 (K12 : MS → Int32 → Option (Int32 × MS)) (M : MS) (x1 : Int32) (s0 : Int32) : Option (Int32 × MS) := (fX11_writeNumber4 M s0).bind fun q => fX11_writeSacks_79 K12 q x1
def fX11_writeSacks_68 (K12 : MS → Int32 → Option (Int32 × MS)) (M : MS) (x1 : Int32) : Option (Int32 × MS) := (fX11_ofSack M x1 7).bind fun q => fX11_writeSacks_76 K12 M x1 q
def fX11_writeSacks_62 (K12 : MS → Int32 → Option (Int32 × MS)) (M : MS) (x1 : Int32) : Option (Int32 × MS) := (fX11_write M 58).bind fun q => fX11_writeSacks_68 K12 q x1
def fX11_writeSacks_56 (K12 : MS → Int32 → Option (Int32 × MS)) (K34 : MS → Int32 → Int32 → Option (Int32 × MS)) (M : MS) (x1 : Int32) (x2 : Int32) : Option (Int32 × MS) := K34 M x1 (x2 + 1)
def fX11_writeSacks_53 (K12 : MS → Int32 → Option (Int32 × MS)) (K34 : MS → Int32 → Int32 → Option (Int32 × MS)) (M : MS) (x1 : Int32) (x2 : Int32) (s0 : Int32) : Option (Int32 × MS) := (fX11_write M s0).bind fun q => fX11_writeSacks_56 K12 K34 q x1 x2
def fX11_writeSacks_44 (K12 : MS → Int32 → Option (Int32 × MS)) (K34 : MS → Int32 → Int32 → Option (Int32 × MS)) (M : MS) (x1 : Int32) (x2 : Int32) : Option (Int32 × MS) := (fX11_ofSack M x1 (1 + x2)).bind fun q => fX11_writeSacks_53 K12 K34 M x1 x2 q
def fX11_writeSacks_41 (K12 : MS → Int32 → Option (Int32 × MS)) (K34 : MS → Int32 → Int32 → Option (Int32 × MS)) (M : MS) (x1 : Int32) (x2 : Int32) (s0 : Int32) (s1 : Int32) : Option (Int32 × MS) := if s0 ≤ s1 then fX11_writeSacks_62 K12 M x1 else fX11_writeSacks_44 K12 K34 M x1 x2
def fX11_writeSacks_34 (K12 : MS → Int32 → Option (Int32 × MS)) : Nat → MS → Int32 → Int32 → Option (Int32 × MS)
  | 0 => fun _ _ _ => none
  | k + 1 => fun M x1 x2 => (fX11_ofSack M x1 0).bind fun q => fX11_writeSacks_41 K12 (fX11_writeSacks_34 K12 k) M x1 x2 q x2
def fX11_writeSacks_32 (K12 : MS → Int32 → Option (Int32 × MS)) (M : MS) (x1 : Int32) : Option (Int32 × MS) := fX11_writeSacks_34 K12 FU M x1 0
def fX11_writeSacks_26 (K12 : MS → Int32 → Option (Int32 × MS)) (M : MS) (x1 : Int32) : Option (Int32 × MS) := (fX11_write M 32).bind fun q => fX11_writeSacks_32 K12 q x1
def fX11_writeSacks_22 (K12 : MS → Int32 → Option (Int32 × MS)) (M : MS) (x1 : Int32) : Option (Int32 × MS) := if x1 ≤ 0 then fX11_writeSacks_32 K12 M x1 else fX11_writeSacks_26 K12 M x1
def fX11_writeSacks_12 : Nat → MS → Int32 → Option (Int32 × MS)
  | 0 => fun _ _ => none
  | k + 1 => fun M x1 => if gIn 1 257 then if (M.2 0 (1 : Int32).toNatClampNeg) ≤ x1 then fX11_writeSacks_116 M else fX11_writeSacks_22 (fX11_writeSacks_12 k) M x1 else none
def fX11_writeSacks_10 (M : MS) : Option (Int32 × MS) := fX11_writeSacks_12 FU M 0
def fX11_writeSacks_5 (M : MS) : Option (Int32 × MS) := fX11_writeSacks_10 (va_up M.1 24 0, M.2)
def fX11_writeSacks_0 (M : MS) : Option (Int32 × MS) := fX11_writeSacks_5 (va_up M.1 7 0, M.2)
def fX11_writeSacks (M : MS) : Option (Int32 × MS) := fX11_writeSacks_0  M
set_option maxRecDepth 10000 in
theorem kX11_writeSacks_116 {r : Int32} {S1 : MS} {M : MS} {H : Heap} {locs : List Loc} {ls : Array Slot} (X : gX p s m args c cX11_writeSacks 3 RX11 (kR kTab kA)) (hret : gRetI p l e (rmL 6 0 0) s m args below meth c cX11_writeSacks (mΩ ad) (mP dC dI cI kA ad) Q r S1) (hf : fX11_writeSacks_116 M = some (r, S1)) (hP : (mP dC dI cI kA ad) M s H) (hS : va_S (Fr (mΩ ad) s.heap.size) s.heap H locs) (hl : lv_has ls 3 [(0, .ref (ad 25))]) : W p l e (rmL 6 0 0) s m args below meth c H locs 0 0 Q (F0 m 116 ls []) := by
  have hx := X.hx
  have hb := X.hb
  have hown := X.hown
  have hts := X.hts
  rw [fX11_writeSacks_116] at hf
  refine lv_aload_n hx hb dX11_writeSacks_116 rfl (lv_at hl 0 rfl) ?_
  refine mr_get (k := 24) X hP (by decide) rfl rfl tw1689 dX11_writeSacks_117 ?_
  cases hf
  exact hret _ _ _ _ dX11_writeSacks_120 hP hS
set_option maxRecDepth 10000 in
theorem kX11_writeSacks_110 {r : Int32} {S1 : MS} {K12 : MS → Int32 → Option (Int32 × MS)} {M : MS} {x1 : Int32} {H : Heap} {locs : List Loc} {ls : Array Slot} (X : gX p s m args c cX11_writeSacks 3 RX11 (kR kTab kA)) (hret : gRetI p l e (rmL 6 0 0) s m args below meth c cX11_writeSacks (mΩ ad) (mP dC dI cI kA ad) Q r S1) (hK12 : ∀ (M : MS) (x1 : Int32) (H : Heap) (locs : List Loc) (ls : Array Slot), K12 M x1 = some (r, S1) → (mP dC dI cI kA ad) M s H → va_S (Fr (mΩ ad) s.heap.size) s.heap H locs → lv_has ls 3 [(0, .ref (ad 25)), (1, .int x1)] → W p l e (rmL 6 0 0) s m args below meth c H locs 0 0 Q (F0 m 12 ls [])) (hf : fX11_writeSacks_110 K12 M x1 = some (r, S1)) (hP : (mP dC dI cI kA ad) M s H) (hS : va_S (Fr (mΩ ad) s.heap.size) s.heap H locs) (hl : lv_has ls 3 [(0, .ref (ad 25)), (1, .int x1)]) : W p l e (rmL 6 0 0) s m args below meth c H locs 0 0 Q (F0 m 110 ls []) := by
  have hx := X.hx
  have hb := X.hb
  have hown := X.hown
  have hts := X.hts
  rw [fX11_writeSacks_110] at hf
  refine lv_iinc (v := (x1 + 1)) (lv' := [(1, .int (x1 + 1)), (0, .ref (ad 25))]) hx hb dX11_writeSacks_110 hl (k := 1) rfl (by rfl) (by decide) rfl (fun ls hl => ?_)
  refine lv_goto (tgt := 12) hx hb dX11_writeSacks_113 (by decide) ?_
  exact hK12 _ _ _ _ _ hf hP hS (lv_sub hl [1, 0] rfl)
set_option maxRecDepth 10000 in
theorem kX11_writeSacks_104 {r : Int32} {S1 : MS} {K12 : MS → Int32 → Option (Int32 × MS)} {M : MS} {x1 : Int32} {H : Heap} {locs : List Loc} {ls : Array Slot} (X : gX p s m args c cX11_writeSacks 3 RX11 (kR kTab kA)) (hret : gRetI p l e (rmL 6 0 0) s m args below meth c cX11_writeSacks (mΩ ad) (mP dC dI cI kA ad) Q r S1) (hK12 : ∀ (M : MS) (x1 : Int32) (H : Heap) (locs : List Loc) (ls : Array Slot), K12 M x1 = some (r, S1) → (mP dC dI cI kA ad) M s H → va_S (Fr (mΩ ad) s.heap.size) s.heap H locs → lv_has ls 3 [(0, .ref (ad 25)), (1, .int x1)] → W p l e (rmL 6 0 0) s m args below meth c H locs 0 0 Q (F0 m 12 ls [])) (hf : fX11_writeSacks_104 K12 M x1 = some (r, S1)) (hP : (mP dC dI cI kA ad) M s H) (hS : va_S (Fr (mΩ ad) s.heap.size) s.heap H locs) (hl : lv_has ls 3 [(0, .ref (ad 25)), (1, .int x1)]) : W p l e (rmL 6 0 0) s m args below meth c H locs 0 0 Q (F0 m 104 ls []) := by
  have hx := X.hx
  have hb := X.hb
  have hown := X.hown
  have hts := X.hts
  rw [fX11_writeSacks_104] at hf
  refine lv_aload_n hx hb dX11_writeSacks_104 rfl (lv_at hl 0 rfl) ?_
  refine lv_bipush (v := 39) hx hb dX11_writeSacks_105 (by decide) ?_
  obtain ⟨q, hc, hf⟩ := bd hf
  refine gCallVV X mOK rfl (vX11_write hc) gRX11_X11_write hdX11_write rfl ⟨by decide, by decide⟩ hP hS (mrec hP) hl.1 (Nat.le_of_ble_eq_true rfl) ⟨Nat.le_refl _, Nat.le_refl _⟩ dX11_writeSacks_107 (As := [.int 39]) (rest := []) rfl (fun H locs hP hS => ?_)
  exact kX11_writeSacks_110 X hret hK12 hf hP hS (lv_sub hl [0, 1] rfl)
set_option maxRecDepth 10000 in
theorem kX11_writeSacks_101 {r : Int32} {S1 : MS} {K12 : MS → Int32 → Option (Int32 × MS)} {M : MS} {x1 : Int32} {s0 : Int32} {H : Heap} {locs : List Loc} {ls : Array Slot} (X : gX p s m args c cX11_writeSacks 3 RX11 (kR kTab kA)) (hret : gRetI p l e (rmL 6 0 0) s m args below meth c cX11_writeSacks (mΩ ad) (mP dC dI cI kA ad) Q r S1) (hK12 : ∀ (M : MS) (x1 : Int32) (H : Heap) (locs : List Loc) (ls : Array Slot), K12 M x1 = some (r, S1) → (mP dC dI cI kA ad) M s H → va_S (Fr (mΩ ad) s.heap.size) s.heap H locs → lv_has ls 3 [(0, .ref (ad 25)), (1, .int x1)] → W p l e (rmL 6 0 0) s m args below meth c H locs 0 0 Q (F0 m 12 ls [])) (hf : fX11_writeSacks_101 K12 M x1 s0 = some (r, S1)) (hP : (mP dC dI cI kA ad) M s H) (hS : va_S (Fr (mΩ ad) s.heap.size) s.heap H locs) (hl : lv_has ls 3 [(0, .ref (ad 25)), (1, .int x1)]) : W p l e (rmL 6 0 0) s m args below meth c H locs 0 0 Q (F0 m 101 ls [.int s0]) := by
  have hx := X.hx
  have hb := X.hb
  have hown := X.hown
  have hts := X.hts
  rw [fX11_writeSacks_101] at hf
  refine lv_if_eq (tgt := 110) hx hb dX11_writeSacks_101 (by decide) (fun c1 => ?_) (fun c1 => ?_)
  · exact kX11_writeSacks_110 X hret hK12 (ifp c1 hf) hP hS (lv_sub hl [0, 1] rfl)
  · exact kX11_writeSacks_104 X hret hK12 (ifn c1 hf) hP hS (lv_sub hl [0, 1] rfl)
set_option maxRecDepth 10000 in
theorem kX11_writeSacks_96 {r : Int32} {S1 : MS} {K12 : MS → Int32 → Option (Int32 × MS)} {M : MS} {x1 : Int32} {H : Heap} {locs : List Loc} {ls : Array Slot} (X : gX p s m args c cX11_writeSacks 3 RX11 (kR kTab kA)) (hret : gRetI p l e (rmL 6 0 0) s m args below meth c cX11_writeSacks (mΩ ad) (mP dC dI cI kA ad) Q r S1) (hK12 : ∀ (M : MS) (x1 : Int32) (H : Heap) (locs : List Loc) (ls : Array Slot), K12 M x1 = some (r, S1) → (mP dC dI cI kA ad) M s H → va_S (Fr (mΩ ad) s.heap.size) s.heap H locs → lv_has ls 3 [(0, .ref (ad 25)), (1, .int x1)] → W p l e (rmL 6 0 0) s m args below meth c H locs 0 0 Q (F0 m 12 ls [])) (hf : fX11_writeSacks_96 K12 M x1 = some (r, S1)) (hP : (mP dC dI cI kA ad) M s H) (hS : va_S (Fr (mΩ ad) s.heap.size) s.heap H locs) (hl : lv_has ls 3 [(0, .ref (ad 25)), (1, .int x1)]) : W p l e (rmL 6 0 0) s m args below meth c H locs 0 0 Q (F0 m 96 ls []) := by
  have hx := X.hx
  have hb := X.hb
  have hown := X.hown
  have hts := X.hts
  rw [fX11_writeSacks_96] at hf
  refine lv_aload_n hx hb dX11_writeSacks_96 rfl (lv_at hl 0 rfl) ?_
  refine lv_iload_n hx hb dX11_writeSacks_97 rfl (lv_at hl 1 rfl) ?_
  obtain ⟨q, hc, hf⟩ := bd hf
  refine gCallVR X rfl (vX11_isOpenSack hc) gRX11_X11_isOpenSack hdX11_isOpenSack rfl ⟨by decide, by decide⟩ (gB_blind mOK) (gB_at mOK X hP) (mrec hP) hl.1 (Nat.le_of_ble_eq_true rfl) ⟨Nat.le_refl _, Nat.le_refl _⟩ dX11_writeSacks_98 (As := [.int x1]) (rest := []) rfl ?_
  exact kX11_writeSacks_101 X hret hK12 hf hP hS (lv_sub hl [0, 1] rfl)
set_option maxRecDepth 10000 in
theorem kX11_writeSacks_93 {r : Int32} {S1 : MS} {K12 : MS → Int32 → Option (Int32 × MS)} {M : MS} {x1 : Int32} {s0 : Int32} {H : Heap} {locs : List Loc} {ls : Array Slot} (X : gX p s m args c cX11_writeSacks 3 RX11 (kR kTab kA)) (hret : gRetI p l e (rmL 6 0 0) s m args below meth c cX11_writeSacks (mΩ ad) (mP dC dI cI kA ad) Q r S1) (hK12 : ∀ (M : MS) (x1 : Int32) (H : Heap) (locs : List Loc) (ls : Array Slot), K12 M x1 = some (r, S1) → (mP dC dI cI kA ad) M s H → va_S (Fr (mΩ ad) s.heap.size) s.heap H locs → lv_has ls 3 [(0, .ref (ad 25)), (1, .int x1)] → W p l e (rmL 6 0 0) s m args below meth c H locs 0 0 Q (F0 m 12 ls [])) (hf : fX11_writeSacks_93 K12 M x1 s0 = some (r, S1)) (hP : (mP dC dI cI kA ad) M s H) (hS : va_S (Fr (mΩ ad) s.heap.size) s.heap H locs) (hl : lv_has ls 3 [(0, .ref (ad 25)), (1, .int x1)]) : W p l e (rmL 6 0 0) s m args below meth c H locs 0 0 Q (F0 m 93 ls [.int s0, .ref (ad 25)]) := by
  have hx := X.hx
  have hb := X.hb
  have hown := X.hown
  have hts := X.hts
  rw [fX11_writeSacks_93] at hf
  obtain ⟨q, hc, hf⟩ := bd hf
  refine gCallVV X mOK rfl (vX11_writeNumber4 hc) gRX11_X11_writeNumber hdX11_writeNumber rfl ⟨by decide, by decide⟩ hP hS (mrec hP) hl.1 (Nat.le_of_ble_eq_true rfl) ⟨Nat.le_refl _, Nat.le_refl _⟩ dX11_writeSacks_93 (As := [.int s0]) (rest := []) rfl (fun H locs hP hS => ?_)
  exact kX11_writeSacks_96 X hret hK12 hf hP hS (lv_sub hl [0, 1] rfl)
set_option maxRecDepth 10000 in
theorem kX11_writeSacks_85 {r : Int32} {S1 : MS} {K12 : MS → Int32 → Option (Int32 × MS)} {M : MS} {x1 : Int32} {H : Heap} {locs : List Loc} {ls : Array Slot} (X : gX p s m args c cX11_writeSacks 3 RX11 (kR kTab kA)) (hret : gRetI p l e (rmL 6 0 0) s m args below meth c cX11_writeSacks (mΩ ad) (mP dC dI cI kA ad) Q r S1) (hK12 : ∀ (M : MS) (x1 : Int32) (H : Heap) (locs : List Loc) (ls : Array Slot), K12 M x1 = some (r, S1) → (mP dC dI cI kA ad) M s H → va_S (Fr (mΩ ad) s.heap.size) s.heap H locs → lv_has ls 3 [(0, .ref (ad 25)), (1, .int x1)] → W p l e (rmL 6 0 0) s m args below meth c H locs 0 0 Q (F0 m 12 ls [])) (hf : fX11_writeSacks_85 K12 M x1 = some (r, S1)) (hP : (mP dC dI cI kA ad) M s H) (hS : va_S (Fr (mΩ ad) s.heap.size) s.heap H locs) (hl : lv_has ls 3 [(0, .ref (ad 25)), (1, .int x1)]) : W p l e (rmL 6 0 0) s m args below meth c H locs 0 0 Q (F0 m 85 ls []) := by
  have hx := X.hx
  have hb := X.hb
  have hown := X.hown
  have hts := X.hts
  rw [fX11_writeSacks_85] at hf
  refine lv_aload_n hx hb dX11_writeSacks_85 rfl (lv_at hl 0 rfl) ?_
  refine lv_aload_n hx hb dX11_writeSacks_86 rfl (lv_at hl 0 rfl) ?_
  refine lv_iload_n hx hb dX11_writeSacks_87 rfl (lv_at hl 1 rfl) ?_
  refine lv_bipush (v := 8) hx hb dX11_writeSacks_88 (by decide) ?_
  obtain ⟨q, hc, hf⟩ := bd hf
  refine gCallVR X rfl (vX11_ofSack hc) gRX11_X11_ofSack hdX11_ofSack rfl ⟨by decide, by decide⟩ (gB_blind mOK) (gB_at mOK X hP) (mrec hP) hl.1 (Nat.le_of_ble_eq_true rfl) ⟨Nat.le_refl _, Nat.le_refl _⟩ dX11_writeSacks_90 (As := [.int x1, .int 8]) (rest := [.ref (ad 25)]) rfl ?_
  exact kX11_writeSacks_93 X hret hK12 hf hP hS (lv_sub hl [0, 1] rfl)
set_option maxRecDepth 10000 in
theorem kX11_writeSacks_79 {r : Int32} {S1 : MS} {K12 : MS → Int32 → Option (Int32 × MS)} {M : MS} {x1 : Int32} {H : Heap} {locs : List Loc} {ls : Array Slot} (X : gX p s m args c cX11_writeSacks 3 RX11 (kR kTab kA)) (hret : gRetI p l e (rmL 6 0 0) s m args below meth c cX11_writeSacks (mΩ ad) (mP dC dI cI kA ad) Q r S1) (hK12 : ∀ (M : MS) (x1 : Int32) (H : Heap) (locs : List Loc) (ls : Array Slot), K12 M x1 = some (r, S1) → (mP dC dI cI kA ad) M s H → va_S (Fr (mΩ ad) s.heap.size) s.heap H locs → lv_has ls 3 [(0, .ref (ad 25)), (1, .int x1)] → W p l e (rmL 6 0 0) s m args below meth c H locs 0 0 Q (F0 m 12 ls [])) (hf : fX11_writeSacks_79 K12 M x1 = some (r, S1)) (hP : (mP dC dI cI kA ad) M s H) (hS : va_S (Fr (mΩ ad) s.heap.size) s.heap H locs) (hl : lv_has ls 3 [(0, .ref (ad 25)), (1, .int x1)]) : W p l e (rmL 6 0 0) s m args below meth c H locs 0 0 Q (F0 m 79 ls []) := by
  have hx := X.hx
  have hb := X.hb
  have hown := X.hown
  have hts := X.hts
  rw [fX11_writeSacks_79] at hf
  refine lv_aload_n hx hb dX11_writeSacks_79 rfl (lv_at hl 0 rfl) ?_
  refine lv_bipush (v := 47) hx hb dX11_writeSacks_80 (by decide) ?_
  obtain ⟨q, hc, hf⟩ := bd hf
  refine gCallVV X mOK rfl (vX11_write hc) gRX11_X11_write hdX11_write rfl ⟨by decide, by decide⟩ hP hS (mrec hP) hl.1 (Nat.le_of_ble_eq_true rfl) ⟨Nat.le_refl _, Nat.le_refl _⟩ dX11_writeSacks_82 (As := [.int 47]) (rest := []) rfl (fun H locs hP hS => ?_)
  exact kX11_writeSacks_85 X hret hK12 hf hP hS (lv_sub hl [0, 1] rfl)
set_option maxRecDepth 10000 in
theorem kX11_writeSacks_76 {r : Int32} {S1 : MS} {K12 : MS → Int32 → Option (Int32 × MS)} {M : MS} {x1 : Int32} {s0 : Int32} {H : Heap} {locs : List Loc} {ls : Array Slot} (X : gX p s m args c cX11_writeSacks 3 RX11 (kR kTab kA)) (hret : gRetI p l e (rmL 6 0 0) s m args below meth c cX11_writeSacks (mΩ ad) (mP dC dI cI kA ad) Q r S1) (hK12 : ∀ (M : MS) (x1 : Int32) (H : Heap) (locs : List Loc) (ls : Array Slot), K12 M x1 = some (r, S1) → (mP dC dI cI kA ad) M s H → va_S (Fr (mΩ ad) s.heap.size) s.heap H locs → lv_has ls 3 [(0, .ref (ad 25)), (1, .int x1)] → W p l e (rmL 6 0 0) s m args below meth c H locs 0 0 Q (F0 m 12 ls [])) (hf : fX11_writeSacks_76 K12 M x1 s0 = some (r, S1)) (hP : (mP dC dI cI kA ad) M s H) (hS : va_S (Fr (mΩ ad) s.heap.size) s.heap H locs) (hl : lv_has ls 3 [(0, .ref (ad 25)), (1, .int x1)]) : W p l e (rmL 6 0 0) s m args below meth c H locs 0 0 Q (F0 m 76 ls [.int s0, .ref (ad 25)]) := by
  have hx := X.hx
  have hb := X.hb
  have hown := X.hown
  have hts := X.hts
  rw [fX11_writeSacks_76] at hf
  obtain ⟨q, hc, hf⟩ := bd hf
  refine gCallVV X mOK rfl (vX11_writeNumber4 hc) gRX11_X11_writeNumber hdX11_writeNumber rfl ⟨by decide, by decide⟩ hP hS (mrec hP) hl.1 (Nat.le_of_ble_eq_true rfl) ⟨Nat.le_refl _, Nat.le_refl _⟩ dX11_writeSacks_76 (As := [.int s0]) (rest := []) rfl (fun H locs hP hS => ?_)
  exact kX11_writeSacks_79 X hret hK12 hf hP hS (lv_sub hl [0, 1] rfl)
set_option maxRecDepth 10000 in
theorem kX11_writeSacks_68 {r : Int32} {S1 : MS} {K12 : MS → Int32 → Option (Int32 × MS)} {M : MS} {x1 : Int32} {H : Heap} {locs : List Loc} {ls : Array Slot} (X : gX p s m args c cX11_writeSacks 3 RX11 (kR kTab kA)) (hret : gRetI p l e (rmL 6 0 0) s m args below meth c cX11_writeSacks (mΩ ad) (mP dC dI cI kA ad) Q r S1) (hK12 : ∀ (M : MS) (x1 : Int32) (H : Heap) (locs : List Loc) (ls : Array Slot), K12 M x1 = some (r, S1) → (mP dC dI cI kA ad) M s H → va_S (Fr (mΩ ad) s.heap.size) s.heap H locs → lv_has ls 3 [(0, .ref (ad 25)), (1, .int x1)] → W p l e (rmL 6 0 0) s m args below meth c H locs 0 0 Q (F0 m 12 ls [])) (hf : fX11_writeSacks_68 K12 M x1 = some (r, S1)) (hP : (mP dC dI cI kA ad) M s H) (hS : va_S (Fr (mΩ ad) s.heap.size) s.heap H locs) (hl : lv_has ls 3 [(0, .ref (ad 25)), (1, .int x1)]) : W p l e (rmL 6 0 0) s m args below meth c H locs 0 0 Q (F0 m 68 ls []) := by
  have hx := X.hx
  have hb := X.hb
  have hown := X.hown
  have hts := X.hts
  rw [fX11_writeSacks_68] at hf
  refine lv_aload_n hx hb dX11_writeSacks_68 rfl (lv_at hl 0 rfl) ?_
  refine lv_aload_n hx hb dX11_writeSacks_69 rfl (lv_at hl 0 rfl) ?_
  refine lv_iload_n hx hb dX11_writeSacks_70 rfl (lv_at hl 1 rfl) ?_
  refine lv_bipush (v := 7) hx hb dX11_writeSacks_71 (by decide) ?_
  obtain ⟨q, hc, hf⟩ := bd hf
  refine gCallVR X rfl (vX11_ofSack hc) gRX11_X11_ofSack hdX11_ofSack rfl ⟨by decide, by decide⟩ (gB_blind mOK) (gB_at mOK X hP) (mrec hP) hl.1 (Nat.le_of_ble_eq_true rfl) ⟨Nat.le_refl _, Nat.le_refl _⟩ dX11_writeSacks_73 (As := [.int x1, .int 7]) (rest := [.ref (ad 25)]) rfl ?_
  exact kX11_writeSacks_76 X hret hK12 hf hP hS (lv_sub hl [0, 1] rfl)
set_option maxRecDepth 10000 in
theorem kX11_writeSacks_62 {r : Int32} {S1 : MS} {K12 : MS → Int32 → Option (Int32 × MS)} {M : MS} {x1 : Int32} {H : Heap} {locs : List Loc} {ls : Array Slot} (X : gX p s m args c cX11_writeSacks 3 RX11 (kR kTab kA)) (hret : gRetI p l e (rmL 6 0 0) s m args below meth c cX11_writeSacks (mΩ ad) (mP dC dI cI kA ad) Q r S1) (hK12 : ∀ (M : MS) (x1 : Int32) (H : Heap) (locs : List Loc) (ls : Array Slot), K12 M x1 = some (r, S1) → (mP dC dI cI kA ad) M s H → va_S (Fr (mΩ ad) s.heap.size) s.heap H locs → lv_has ls 3 [(0, .ref (ad 25)), (1, .int x1)] → W p l e (rmL 6 0 0) s m args below meth c H locs 0 0 Q (F0 m 12 ls [])) (hf : fX11_writeSacks_62 K12 M x1 = some (r, S1)) (hP : (mP dC dI cI kA ad) M s H) (hS : va_S (Fr (mΩ ad) s.heap.size) s.heap H locs) (hl : lv_has ls 3 [(0, .ref (ad 25)), (1, .int x1)]) : W p l e (rmL 6 0 0) s m args below meth c H locs 0 0 Q (F0 m 62 ls []) := by
  have hx := X.hx
  have hb := X.hb
  have hown := X.hown
  have hts := X.hts
  rw [fX11_writeSacks_62] at hf
  refine lv_aload_n hx hb dX11_writeSacks_62 rfl (lv_at hl 0 rfl) ?_
  refine lv_bipush (v := 58) hx hb dX11_writeSacks_63 (by decide) ?_
  obtain ⟨q, hc, hf⟩ := bd hf
  refine gCallVV X mOK rfl (vX11_write hc) gRX11_X11_write hdX11_write rfl ⟨by decide, by decide⟩ hP hS (mrec hP) hl.1 (Nat.le_of_ble_eq_true rfl) ⟨Nat.le_refl _, Nat.le_refl _⟩ dX11_writeSacks_65 (As := [.int 58]) (rest := []) rfl (fun H locs hP hS => ?_)
  exact kX11_writeSacks_68 X hret hK12 hf hP hS (lv_sub hl [0, 1] rfl)
set_option maxRecDepth 10000 in
theorem kX11_writeSacks_56 {r : Int32} {S1 : MS} {K12 : MS → Int32 → Option (Int32 × MS)} {K34 : MS → Int32 → Int32 → Option (Int32 × MS)} {M : MS} {x1 : Int32} {x2 : Int32} {H : Heap} {locs : List Loc} {ls : Array Slot} (X : gX p s m args c cX11_writeSacks 3 RX11 (kR kTab kA)) (hret : gRetI p l e (rmL 6 0 0) s m args below meth c cX11_writeSacks (mΩ ad) (mP dC dI cI kA ad) Q r S1) (hK12 : ∀ (M : MS) (x1 : Int32) (H : Heap) (locs : List Loc) (ls : Array Slot), K12 M x1 = some (r, S1) → (mP dC dI cI kA ad) M s H → va_S (Fr (mΩ ad) s.heap.size) s.heap H locs → lv_has ls 3 [(0, .ref (ad 25)), (1, .int x1)] → W p l e (rmL 6 0 0) s m args below meth c H locs 0 0 Q (F0 m 12 ls [])) (hK34 : ∀ (M : MS) (x1 : Int32) (x2 : Int32) (H : Heap) (locs : List Loc) (ls : Array Slot), K34 M x1 x2 = some (r, S1) → (mP dC dI cI kA ad) M s H → va_S (Fr (mΩ ad) s.heap.size) s.heap H locs → lv_has ls 3 [(0, .ref (ad 25)), (1, .int x1), (2, .int x2)] → W p l e (rmL 6 0 0) s m args below meth c H locs 0 0 Q (F0 m 34 ls [])) (hf : fX11_writeSacks_56 K12 K34 M x1 x2 = some (r, S1)) (hP : (mP dC dI cI kA ad) M s H) (hS : va_S (Fr (mΩ ad) s.heap.size) s.heap H locs) (hl : lv_has ls 3 [(0, .ref (ad 25)), (1, .int x1), (2, .int x2)]) : W p l e (rmL 6 0 0) s m args below meth c H locs 0 0 Q (F0 m 56 ls []) := by
  have hx := X.hx
  have hb := X.hb
  have hown := X.hown
  have hts := X.hts
  rw [fX11_writeSacks_56] at hf
  refine lv_iinc (v := (x2 + 1)) (lv' := [(2, .int (x2 + 1)), (0, .ref (ad 25)), (1, .int x1)]) hx hb dX11_writeSacks_56 hl (k := 2) rfl (by rfl) (by decide) rfl (fun ls hl => ?_)
  refine lv_goto (tgt := 34) hx hb dX11_writeSacks_59 (by decide) ?_
  exact hK34 _ _ _ _ _ _ hf hP hS (lv_sub hl [1, 2, 0] rfl)
set_option maxRecDepth 10000 in
theorem kX11_writeSacks_53 {r : Int32} {S1 : MS} {K12 : MS → Int32 → Option (Int32 × MS)} {K34 : MS → Int32 → Int32 → Option (Int32 × MS)} {M : MS} {x1 : Int32} {x2 : Int32} {s0 : Int32} {H : Heap} {locs : List Loc} {ls : Array Slot} (X : gX p s m args c cX11_writeSacks 3 RX11 (kR kTab kA)) (hret : gRetI p l e (rmL 6 0 0) s m args below meth c cX11_writeSacks (mΩ ad) (mP dC dI cI kA ad) Q r S1) (hK12 : ∀ (M : MS) (x1 : Int32) (H : Heap) (locs : List Loc) (ls : Array Slot), K12 M x1 = some (r, S1) → (mP dC dI cI kA ad) M s H → va_S (Fr (mΩ ad) s.heap.size) s.heap H locs → lv_has ls 3 [(0, .ref (ad 25)), (1, .int x1)] → W p l e (rmL 6 0 0) s m args below meth c H locs 0 0 Q (F0 m 12 ls [])) (hK34 : ∀ (M : MS) (x1 : Int32) (x2 : Int32) (H : Heap) (locs : List Loc) (ls : Array Slot), K34 M x1 x2 = some (r, S1) → (mP dC dI cI kA ad) M s H → va_S (Fr (mΩ ad) s.heap.size) s.heap H locs → lv_has ls 3 [(0, .ref (ad 25)), (1, .int x1), (2, .int x2)] → W p l e (rmL 6 0 0) s m args below meth c H locs 0 0 Q (F0 m 34 ls [])) (hf : fX11_writeSacks_53 K12 K34 M x1 x2 s0 = some (r, S1)) (hP : (mP dC dI cI kA ad) M s H) (hS : va_S (Fr (mΩ ad) s.heap.size) s.heap H locs) (hl : lv_has ls 3 [(0, .ref (ad 25)), (1, .int x1), (2, .int x2)]) : W p l e (rmL 6 0 0) s m args below meth c H locs 0 0 Q (F0 m 53 ls [.int s0, .ref (ad 25)]) := by
  have hx := X.hx
  have hb := X.hb
  have hown := X.hown
  have hts := X.hts
  rw [fX11_writeSacks_53] at hf
  obtain ⟨q, hc, hf⟩ := bd hf
  refine gCallVV X mOK rfl (vX11_write hc) gRX11_X11_write hdX11_write rfl ⟨by decide, by decide⟩ hP hS (mrec hP) hl.1 (Nat.le_of_ble_eq_true rfl) ⟨Nat.le_refl _, Nat.le_refl _⟩ dX11_writeSacks_53 (As := [.int s0]) (rest := []) rfl (fun H locs hP hS => ?_)
  exact kX11_writeSacks_56 X hret hK12 hK34 hf hP hS (lv_sub hl [0, 1, 2] rfl)
set_option maxRecDepth 10000 in
theorem kX11_writeSacks_44 {r : Int32} {S1 : MS} {K12 : MS → Int32 → Option (Int32 × MS)} {K34 : MS → Int32 → Int32 → Option (Int32 × MS)} {M : MS} {x1 : Int32} {x2 : Int32} {H : Heap} {locs : List Loc} {ls : Array Slot} (X : gX p s m args c cX11_writeSacks 3 RX11 (kR kTab kA)) (hret : gRetI p l e (rmL 6 0 0) s m args below meth c cX11_writeSacks (mΩ ad) (mP dC dI cI kA ad) Q r S1) (hK12 : ∀ (M : MS) (x1 : Int32) (H : Heap) (locs : List Loc) (ls : Array Slot), K12 M x1 = some (r, S1) → (mP dC dI cI kA ad) M s H → va_S (Fr (mΩ ad) s.heap.size) s.heap H locs → lv_has ls 3 [(0, .ref (ad 25)), (1, .int x1)] → W p l e (rmL 6 0 0) s m args below meth c H locs 0 0 Q (F0 m 12 ls [])) (hK34 : ∀ (M : MS) (x1 : Int32) (x2 : Int32) (H : Heap) (locs : List Loc) (ls : Array Slot), K34 M x1 x2 = some (r, S1) → (mP dC dI cI kA ad) M s H → va_S (Fr (mΩ ad) s.heap.size) s.heap H locs → lv_has ls 3 [(0, .ref (ad 25)), (1, .int x1), (2, .int x2)] → W p l e (rmL 6 0 0) s m args below meth c H locs 0 0 Q (F0 m 34 ls [])) (hf : fX11_writeSacks_44 K12 K34 M x1 x2 = some (r, S1)) (hP : (mP dC dI cI kA ad) M s H) (hS : va_S (Fr (mΩ ad) s.heap.size) s.heap H locs) (hl : lv_has ls 3 [(0, .ref (ad 25)), (1, .int x1), (2, .int x2)]) : W p l e (rmL 6 0 0) s m args below meth c H locs 0 0 Q (F0 m 44 ls []) := by
  have hx := X.hx
  have hb := X.hb
  have hown := X.hown
  have hts := X.hts
  rw [fX11_writeSacks_44] at hf
  refine lv_aload_n hx hb dX11_writeSacks_44 rfl (lv_at hl 0 rfl) ?_
  refine lv_aload_n hx hb dX11_writeSacks_45 rfl (lv_at hl 0 rfl) ?_
  refine lv_iload_n hx hb dX11_writeSacks_46 rfl (lv_at hl 1 rfl) ?_
  refine lv_iconst (v := 1) hx hb dX11_writeSacks_47 (by decide) ?_
  refine lv_iload_n hx hb dX11_writeSacks_48 rfl (lv_at hl 2 rfl) ?_
  refine lv_iadd hx hb dX11_writeSacks_49 ?_
  obtain ⟨q, hc, hf⟩ := bd hf
  refine gCallVR X rfl (vX11_ofSack hc) gRX11_X11_ofSack hdX11_ofSack rfl ⟨by decide, by decide⟩ (gB_blind mOK) (gB_at mOK X hP) (mrec hP) hl.1 (Nat.le_of_ble_eq_true rfl) ⟨Nat.le_refl _, Nat.le_refl _⟩ dX11_writeSacks_50 (As := [.int x1, .int (1 + x2)]) (rest := [.ref (ad 25)]) rfl ?_
  exact kX11_writeSacks_53 X hret hK12 hK34 hf hP hS (lv_sub hl [0, 1, 2] rfl)
set_option maxRecDepth 10000 in
theorem kX11_writeSacks_41 {r : Int32} {S1 : MS} {K12 : MS → Int32 → Option (Int32 × MS)} {K34 : MS → Int32 → Int32 → Option (Int32 × MS)} {M : MS} {x1 : Int32} {x2 : Int32} {s0 : Int32} {s1 : Int32} {H : Heap} {locs : List Loc} {ls : Array Slot} (X : gX p s m args c cX11_writeSacks 3 RX11 (kR kTab kA)) (hret : gRetI p l e (rmL 6 0 0) s m args below meth c cX11_writeSacks (mΩ ad) (mP dC dI cI kA ad) Q r S1) (hK12 : ∀ (M : MS) (x1 : Int32) (H : Heap) (locs : List Loc) (ls : Array Slot), K12 M x1 = some (r, S1) → (mP dC dI cI kA ad) M s H → va_S (Fr (mΩ ad) s.heap.size) s.heap H locs → lv_has ls 3 [(0, .ref (ad 25)), (1, .int x1)] → W p l e (rmL 6 0 0) s m args below meth c H locs 0 0 Q (F0 m 12 ls [])) (hK34 : ∀ (M : MS) (x1 : Int32) (x2 : Int32) (H : Heap) (locs : List Loc) (ls : Array Slot), K34 M x1 x2 = some (r, S1) → (mP dC dI cI kA ad) M s H → va_S (Fr (mΩ ad) s.heap.size) s.heap H locs → lv_has ls 3 [(0, .ref (ad 25)), (1, .int x1), (2, .int x2)] → W p l e (rmL 6 0 0) s m args below meth c H locs 0 0 Q (F0 m 34 ls [])) (hf : fX11_writeSacks_41 K12 K34 M x1 x2 s0 s1 = some (r, S1)) (hP : (mP dC dI cI kA ad) M s H) (hS : va_S (Fr (mΩ ad) s.heap.size) s.heap H locs) (hl : lv_has ls 3 [(0, .ref (ad 25)), (1, .int x1), (2, .int x2)]) : W p l e (rmL 6 0 0) s m args below meth c H locs 0 0 Q (F0 m 41 ls [.int s0, .int s1]) := by
  have hx := X.hx
  have hb := X.hb
  have hown := X.hown
  have hts := X.hts
  rw [fX11_writeSacks_41] at hf
  refine lv_icmp_ge (tgt := 62) hx hb dX11_writeSacks_41 (by decide) (fun c1 => ?_) (fun c1 => ?_)
  · exact kX11_writeSacks_62 X hret hK12 (ifp c1 hf) hP hS (lv_sub hl [0, 1] rfl)
  · exact kX11_writeSacks_44 X hret hK12 hK34 (ifn c1 hf) hP hS (lv_sub hl [0, 1, 2] rfl)
set_option maxRecDepth 10000 in
theorem kX11_writeSacks_34 {r : Int32} {S1 : MS} {K12 : MS → Int32 → Option (Int32 × MS)} (X : gX p s m args c cX11_writeSacks 3 RX11 (kR kTab kA)) (hret : gRetI p l e (rmL 6 0 0) s m args below meth c cX11_writeSacks (mΩ ad) (mP dC dI cI kA ad) Q r S1) (hK12 : ∀ (M : MS) (x1 : Int32) (H : Heap) (locs : List Loc) (ls : Array Slot), K12 M x1 = some (r, S1) → (mP dC dI cI kA ad) M s H → va_S (Fr (mΩ ad) s.heap.size) s.heap H locs → lv_has ls 3 [(0, .ref (ad 25)), (1, .int x1)] → W p l e (rmL 6 0 0) s m args below meth c H locs 0 0 Q (F0 m 12 ls [])) : ∀ (n : Nat) (M : MS) (x1 : Int32) (x2 : Int32) (H : Heap) (locs : List Loc) (ls : Array Slot), fX11_writeSacks_34 K12 n M x1 x2 = some (r, S1) → (mP dC dI cI kA ad) M s H → va_S (Fr (mΩ ad) s.heap.size) s.heap H locs → lv_has ls 3 [(0, .ref (ad 25)), (1, .int x1), (2, .int x2)] → W p l e (rmL 6 0 0) s m args below meth c H locs 0 0 Q (F0 m 34 ls []) := by
  intro n
  induction n with
  | zero => intro M x1 x2 H locs ls hf; cases hf
  | succ k ih =>
    intro M x1 x2 H locs ls hf hP hS hl
    have hx := X.hx
    have hb := X.hb
    have hown := X.hown
    have hts := X.hts
    rw [fX11_writeSacks_34] at hf
    try dsimp only at hf
    refine lv_iload_n hx hb dX11_writeSacks_34 rfl (lv_at hl 2 rfl) ?_
    refine lv_aload_n hx hb dX11_writeSacks_35 rfl (lv_at hl 0 rfl) ?_
    refine lv_iload_n hx hb dX11_writeSacks_36 rfl (lv_at hl 1 rfl) ?_
    refine lv_iconst (v := 0) hx hb dX11_writeSacks_37 (by decide) ?_
    obtain ⟨q, hc, hf⟩ := bd hf
    refine gCallVR X rfl (vX11_ofSack hc) gRX11_X11_ofSack hdX11_ofSack rfl ⟨by decide, by decide⟩ (gB_blind mOK) (gB_at mOK X hP) (mrec hP) hl.1 (Nat.le_of_ble_eq_true rfl) ⟨Nat.le_refl _, Nat.le_refl _⟩ dX11_writeSacks_38 (As := [.int x1, .int 0]) (rest := [.int x2]) rfl ?_
    exact kX11_writeSacks_41 X hret hK12 ih hf hP hS (lv_sub hl [0, 1, 2] rfl)
set_option maxRecDepth 10000 in
theorem kX11_writeSacks_32 {r : Int32} {S1 : MS} {K12 : MS → Int32 → Option (Int32 × MS)} {M : MS} {x1 : Int32} {H : Heap} {locs : List Loc} {ls : Array Slot} (X : gX p s m args c cX11_writeSacks 3 RX11 (kR kTab kA)) (hret : gRetI p l e (rmL 6 0 0) s m args below meth c cX11_writeSacks (mΩ ad) (mP dC dI cI kA ad) Q r S1) (hK12 : ∀ (M : MS) (x1 : Int32) (H : Heap) (locs : List Loc) (ls : Array Slot), K12 M x1 = some (r, S1) → (mP dC dI cI kA ad) M s H → va_S (Fr (mΩ ad) s.heap.size) s.heap H locs → lv_has ls 3 [(0, .ref (ad 25)), (1, .int x1)] → W p l e (rmL 6 0 0) s m args below meth c H locs 0 0 Q (F0 m 12 ls [])) (hf : fX11_writeSacks_32 K12 M x1 = some (r, S1)) (hP : (mP dC dI cI kA ad) M s H) (hS : va_S (Fr (mΩ ad) s.heap.size) s.heap H locs) (hl : lv_has ls 3 [(0, .ref (ad 25)), (1, .int x1)]) : W p l e (rmL 6 0 0) s m args below meth c H locs 0 0 Q (F0 m 32 ls []) := by
  have hx := X.hx
  have hb := X.hb
  have hown := X.hown
  have hts := X.hts
  rw [fX11_writeSacks_32] at hf
  refine lv_iconst (v := 0) hx hb dX11_writeSacks_32 (by decide) ?_
  refine lv_istore_n (lv' := [(2, .int 0), (0, .ref (ad 25)), (1, .int x1)]) hx hb dX11_writeSacks_33 rfl hl (by decide) rfl (fun ls hl => ?_)
  exact kX11_writeSacks_34 X hret hK12 FU _ _ _ _ _ _ hf hP hS (lv_sub hl [1, 2, 0] rfl)
set_option maxRecDepth 10000 in
theorem kX11_writeSacks_26 {r : Int32} {S1 : MS} {K12 : MS → Int32 → Option (Int32 × MS)} {M : MS} {x1 : Int32} {H : Heap} {locs : List Loc} {ls : Array Slot} (X : gX p s m args c cX11_writeSacks 3 RX11 (kR kTab kA)) (hret : gRetI p l e (rmL 6 0 0) s m args below meth c cX11_writeSacks (mΩ ad) (mP dC dI cI kA ad) Q r S1) (hK12 : ∀ (M : MS) (x1 : Int32) (H : Heap) (locs : List Loc) (ls : Array Slot), K12 M x1 = some (r, S1) → (mP dC dI cI kA ad) M s H → va_S (Fr (mΩ ad) s.heap.size) s.heap H locs → lv_has ls 3 [(0, .ref (ad 25)), (1, .int x1)] → W p l e (rmL 6 0 0) s m args below meth c H locs 0 0 Q (F0 m 12 ls [])) (hf : fX11_writeSacks_26 K12 M x1 = some (r, S1)) (hP : (mP dC dI cI kA ad) M s H) (hS : va_S (Fr (mΩ ad) s.heap.size) s.heap H locs) (hl : lv_has ls 3 [(0, .ref (ad 25)), (1, .int x1)]) : W p l e (rmL 6 0 0) s m args below meth c H locs 0 0 Q (F0 m 26 ls []) := by
  have hx := X.hx
  have hb := X.hb
  have hown := X.hown
  have hts := X.hts
  rw [fX11_writeSacks_26] at hf
  refine lv_aload_n hx hb dX11_writeSacks_26 rfl (lv_at hl 0 rfl) ?_
  refine lv_bipush (v := 32) hx hb dX11_writeSacks_27 (by decide) ?_
  obtain ⟨q, hc, hf⟩ := bd hf
  refine gCallVV X mOK rfl (vX11_write hc) gRX11_X11_write hdX11_write rfl ⟨by decide, by decide⟩ hP hS (mrec hP) hl.1 (Nat.le_of_ble_eq_true rfl) ⟨Nat.le_refl _, Nat.le_refl _⟩ dX11_writeSacks_29 (As := [.int 32]) (rest := []) rfl (fun H locs hP hS => ?_)
  exact kX11_writeSacks_32 X hret hK12 hf hP hS (lv_sub hl [0, 1] rfl)
set_option maxRecDepth 10000 in
theorem kX11_writeSacks_22 {r : Int32} {S1 : MS} {K12 : MS → Int32 → Option (Int32 × MS)} {M : MS} {x1 : Int32} {H : Heap} {locs : List Loc} {ls : Array Slot} (X : gX p s m args c cX11_writeSacks 3 RX11 (kR kTab kA)) (hret : gRetI p l e (rmL 6 0 0) s m args below meth c cX11_writeSacks (mΩ ad) (mP dC dI cI kA ad) Q r S1) (hK12 : ∀ (M : MS) (x1 : Int32) (H : Heap) (locs : List Loc) (ls : Array Slot), K12 M x1 = some (r, S1) → (mP dC dI cI kA ad) M s H → va_S (Fr (mΩ ad) s.heap.size) s.heap H locs → lv_has ls 3 [(0, .ref (ad 25)), (1, .int x1)] → W p l e (rmL 6 0 0) s m args below meth c H locs 0 0 Q (F0 m 12 ls [])) (hf : fX11_writeSacks_22 K12 M x1 = some (r, S1)) (hP : (mP dC dI cI kA ad) M s H) (hS : va_S (Fr (mΩ ad) s.heap.size) s.heap H locs) (hl : lv_has ls 3 [(0, .ref (ad 25)), (1, .int x1)]) : W p l e (rmL 6 0 0) s m args below meth c H locs 0 0 Q (F0 m 22 ls []) := by
  have hx := X.hx
  have hb := X.hb
  have hown := X.hown
  have hts := X.hts
  rw [fX11_writeSacks_22] at hf
  refine lv_iload_n hx hb dX11_writeSacks_22 rfl (lv_at hl 1 rfl) ?_
  refine lv_if_le (tgt := 32) hx hb dX11_writeSacks_23 (by decide) (fun c1 => ?_) (fun c1 => ?_)
  · exact kX11_writeSacks_32 X hret hK12 (ifp c1 hf) hP hS (lv_sub hl [0, 1] rfl)
  · exact kX11_writeSacks_26 X hret hK12 (ifn c1 hf) hP hS (lv_sub hl [0, 1] rfl)
set_option maxRecDepth 10000 in
theorem kX11_writeSacks_12 {r : Int32} {S1 : MS} (X : gX p s m args c cX11_writeSacks 3 RX11 (kR kTab kA)) (hret : gRetI p l e (rmL 6 0 0) s m args below meth c cX11_writeSacks (mΩ ad) (mP dC dI cI kA ad) Q r S1) : ∀ (n : Nat) (M : MS) (x1 : Int32) (H : Heap) (locs : List Loc) (ls : Array Slot), fX11_writeSacks_12 n M x1 = some (r, S1) → (mP dC dI cI kA ad) M s H → va_S (Fr (mΩ ad) s.heap.size) s.heap H locs → lv_has ls 3 [(0, .ref (ad 25)), (1, .int x1)] → W p l e (rmL 6 0 0) s m args below meth c H locs 0 0 Q (F0 m 12 ls []) := by
  intro n
  induction n with
  | zero => intro M x1 H locs ls hf; cases hf
  | succ k ih =>
    intro M x1 H locs ls hf hP hS hl
    have hx := X.hx
    have hb := X.hb
    have hown := X.hown
    have hts := X.hts
    rw [fX11_writeSacks_12] at hf
    try dsimp only at hf
    refine lv_iload_n hx hb dX11_writeSacks_12 rfl (lv_at hl 1 rfl) ?_
    refine lv_aload_n hx hb dX11_writeSacks_13 rfl (lv_at hl 0 rfl) ?_
    refine mr_get (k := 0) X hP (by decide) rfl rfl tw1665 dX11_writeSacks_14 ?_
    refine lv_iconst (v := 1) hx hb dX11_writeSacks_17 (by decide) ?_
    obtain ⟨g1, hf⟩ := gd hf
    refine mr_ald (a := 0) X hP rfl g1 dX11_writeSacks_18 ?_
    refine lv_icmp_ge (tgt := 116) hx hb dX11_writeSacks_19 (by decide) (fun c1 => ?_) (fun c1 => ?_)
    · exact kX11_writeSacks_116 X hret (ifp c1 hf) hP hS (lv_sub hl [0] rfl)
    · exact kX11_writeSacks_22 X hret ih (ifn c1 hf) hP hS (lv_sub hl [0, 1] rfl)
set_option maxRecDepth 10000 in
theorem kX11_writeSacks_10 {r : Int32} {S1 : MS} {M : MS} {H : Heap} {locs : List Loc} {ls : Array Slot} (X : gX p s m args c cX11_writeSacks 3 RX11 (kR kTab kA)) (hret : gRetI p l e (rmL 6 0 0) s m args below meth c cX11_writeSacks (mΩ ad) (mP dC dI cI kA ad) Q r S1) (hf : fX11_writeSacks_10 M = some (r, S1)) (hP : (mP dC dI cI kA ad) M s H) (hS : va_S (Fr (mΩ ad) s.heap.size) s.heap H locs) (hl : lv_has ls 3 [(0, .ref (ad 25))]) : W p l e (rmL 6 0 0) s m args below meth c H locs 0 0 Q (F0 m 10 ls []) := by
  have hx := X.hx
  have hb := X.hb
  have hown := X.hown
  have hts := X.hts
  rw [fX11_writeSacks_10] at hf
  refine lv_iconst (v := 0) hx hb dX11_writeSacks_10 (by decide) ?_
  refine lv_istore_n (lv' := [(1, .int 0), (0, .ref (ad 25))]) hx hb dX11_writeSacks_11 rfl hl (by decide) rfl (fun ls hl => ?_)
  exact kX11_writeSacks_12 X hret FU _ _ _ _ _ hf hP hS (lv_sub hl [1, 0] rfl)
set_option maxRecDepth 10000 in
theorem kX11_writeSacks_5 {r : Int32} {S1 : MS} {M : MS} {H : Heap} {locs : List Loc} {ls : Array Slot} (X : gX p s m args c cX11_writeSacks 3 RX11 (kR kTab kA)) (hret : gRetI p l e (rmL 6 0 0) s m args below meth c cX11_writeSacks (mΩ ad) (mP dC dI cI kA ad) Q r S1) (hf : fX11_writeSacks_5 M = some (r, S1)) (hP : (mP dC dI cI kA ad) M s H) (hS : va_S (Fr (mΩ ad) s.heap.size) s.heap H locs) (hl : lv_has ls 3 [(0, .ref (ad 25))]) : W p l e (rmL 6 0 0) s m args below meth c H locs 0 0 Q (F0 m 5 ls []) := by
  have hx := X.hx
  have hb := X.hb
  have hown := X.hown
  have hts := X.hts
  rw [fX11_writeSacks_5] at hf
  refine lv_aload_n hx hb dX11_writeSacks_5 rfl (lv_at hl 0 rfl) ?_
  refine lv_iconst (v := 0) hx hb dX11_writeSacks_6 (by decide) ?_
  refine mr_put (k := 24) X hP hS (by decide) rfl rfl rfl rfl tw1689 dX11_writeSacks_7 (fun H locs hP hS => ?_)
  exact kX11_writeSacks_10 X hret hf hP hS (lv_sub hl [0] rfl)
set_option maxRecDepth 10000 in
theorem kX11_writeSacks_0 {r : Int32} {S1 : MS} {M : MS} {H : Heap} {locs : List Loc} {ls : Array Slot} (X : gX p s m args c cX11_writeSacks 3 RX11 (kR kTab kA)) (hret : gRetI p l e (rmL 6 0 0) s m args below meth c cX11_writeSacks (mΩ ad) (mP dC dI cI kA ad) Q r S1) (hf : fX11_writeSacks_0 M = some (r, S1)) (hP : (mP dC dI cI kA ad) M s H) (hS : va_S (Fr (mΩ ad) s.heap.size) s.heap H locs) (hl : lv_has ls 3 [(0, .ref (ad 25))]) : W p l e (rmL 6 0 0) s m args below meth c H locs 0 0 Q (F0 m 0 ls []) := by
  have hx := X.hx
  have hb := X.hb
  have hown := X.hown
  have hts := X.hts
  rw [fX11_writeSacks_0] at hf
  refine lv_aload_n hx hb dX11_writeSacks_0 rfl (lv_at hl 0 rfl) ?_
  refine lv_iconst (v := 0) hx hb dX11_writeSacks_1 (by decide) ?_
  refine mr_put (k := 7) X hP hS (by decide) rfl rfl rfl rfl tw1672 dX11_writeSacks_2 (fun H locs hP hS => ?_)
  exact kX11_writeSacks_5 X hret hf hP hS (lv_sub hl [0] rfl)
theorem vX11_writeSacks {l : Launch} {dC : Nat → ClassId} {dI : Nat → Nat → Nat} {cI : ClassId} {kA : String → Nat → Nat} {ad : Nat → Nat} {M S1 : MS} {r : Int32} (hf : fX11_writeSacks M  = some (r, S1)) : gMetI l yX11_writeSacks cX11_writeSacks 3 (some .int) 6 (mΩ ad) (mP dC dI cI kA ad) (kR kTab kA) [.ref (ad 25)] M r S1 := gEntryI (ty := .int) (by decide) rfl rfl mOK (Nat.le_of_ble_eq_true rfl) (fun p e s m args below meth c Q ls X hP hS hret hl => 
  kX11_writeSacks_0 X hret hf hP hS (lv_sub hl [0] rfl))
