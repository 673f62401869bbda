theorem tw21 : (Jvm.Cond.initialized "java/lang/IndexOutOfBoundsException") ∈ TBG := tb_t 21 (by decide +kernel) (by decide +kernel)
theorem tw29 : (Jvm.Cond.initialized "java/lang/IllegalArgumentException") ∈ TBG := tb_t 29 (by decide +kernel) (by decide +kernel)
theorem tw32 : (Jvm.Cond.initialized "java/lang/IllegalStateException") ∈ TBG := tb_t 32 (by decide +kernel) (by decide +kernel)
theorem tw1308 : (Jvm.Cond.classLink "GranaryWatch" (305 : Nat) "java/lang/IndexOutOfBoundsException") ∈ TBG := tb_t 1308 (by decide +kernel) (by decide +kernel)
theorem tw1451 : (Jvm.Cond.classLink "GranaryWatch" (318 : Nat) "java/lang/IllegalArgumentException") ∈ TBG := tb_t 1451 (by decide +kernel) (by decide +kernel)
theorem tw1515 : (Jvm.Cond.classLink "GranaryWatch" (338 : Nat) "java/lang/IllegalStateException") ∈ TBG := tb_t 1515 (by decide +kernel) (by decide +kernel)
variable {l : Launch} {p : Program} {e : Env} {s : State} {m : MethodId} {args : Array Value} {below : List Frame} {meth : Method} {c : Code} {A : Nat → Prop} {Q : State → Prop}
variable {dC : Nat → ClassId} {dI : Nat → Nat → Nat} {cg : Nat → ClassId} {kA : String → Nat → Nat} {ca : Nat → Nat}
def tX10_catAt_15 (M : CS) : Option (String × CS) := some ("java/lang/IndexOutOfBoundsException", M)
def tX10_catAt_4 (M : CS) (x1 : Int32) : Option (String × CS) := if x1 < (M.1 13 5) then none else tX10_catAt_15 M
def tX10_catAt_0 (M : CS) (a1 : Int32) : Option (String × CS) := if a1 < 0 then tX10_catAt_15 M else tX10_catAt_4 M a1
def tX10_catAt (M : CS) (a1 : Int32) : Option (String × CS) := tX10_catAt_0  M a1
def tX10_sackAt_15 (M : CS) : Option (String × CS) := some ("java/lang/IndexOutOfBoundsException", M)
def tX10_sackAt_4 (M : CS) (x1 : Int32) : Option (String × CS) := if x1 < (M.1 13 6) then none else tX10_sackAt_15 M
def tX10_sackAt_0 (M : CS) (a1 : Int32) : Option (String × CS) := if a1 < 0 then tX10_sackAt_15 M else tX10_sackAt_4 M a1
def tX10_sackAt (M : CS) (a1 : Int32) : Option (String × CS) := tX10_sackAt_0  M a1
def tX10_shiftAt_15 (M : CS) : Option (String × CS) := some ("java/lang/IndexOutOfBoundsException", M)
def tX10_shiftAt_4 (M : CS) (x1 : Int32) : Option (String × CS) := if x1 < (M.1 13 7) then none else tX10_shiftAt_15 M
def tX10_shiftAt_0 (M : CS) (a1 : Int32) : Option (String × CS) := if a1 < 0 then tX10_shiftAt_15 M else tX10_shiftAt_4 M a1
def tX10_shiftAt (M : CS) (a1 : Int32) : Option (String × CS) := tX10_shiftAt_0  M a1
def tX10_requireRange_10 (M : CS) : Option (String × CS) := some ("java/lang/IllegalArgumentException", M)
def tX10_requireRange_5 (M : CS) (x0 : Int32) (x2 : Int32) : Option (String × CS) := if x0 ≤ x2 then none else tX10_requireRange_10 M
def tX10_requireRange_0 (M : CS) (a1 : Int32) (a2 : Int32) (a3 : Int32) : Option (String × CS) := if a1 < a2 then tX10_requireRange_10 M else tX10_requireRange_5 M a1 a3
def tX10_requireRange (M : CS) (a1 : Int32) (a2 : Int32) (a3 : Int32) : Option (String × CS) := tX10_requireRange_0  M a1 a2 a3
def tX10_speedOf_0 (M : CS) (a1 : Int32) : Option (String × CS) := match tX10_catAt M a1 with | some r => some r | none => none
def tX10_speedOf (M : CS) (a1 : Int32) : Option (String × CS) := tX10_speedOf_0  M a1
def tX10_isLeftPawed_0 (M : CS) (a1 : Int32) : Option (String × CS) := match tX10_catAt M a1 with | some r => some r | none => none
def tX10_isLeftPawed (M : CS) (a1 : Int32) : Option (String × CS) := tX10_isLeftPawed_0  M a1
def tX10_tirednessOf_0 (M : CS) (a1 : Int32) : Option (String × CS) := match tX10_catAt M a1 with | some r => some r | none => none
def tX10_tirednessOf (M : CS) (a1 : Int32) : Option (String × CS) := tX10_tirednessOf_0  M a1
def tX10_strengthOf_0 (M : CS) (a1 : Int32) : Option (String × CS) := match tX10_catAt M a1 with | some r => some r | none => none
def tX10_strengthOf (M : CS) (a1 : Int32) : Option (String × CS) := tX10_strengthOf_0  M a1
def tX10_caughtBy_0 (M : CS) (a1 : Int32) : Option (String × CS) := match tX10_catAt M a1 with | some r => some r | none => none
def tX10_caughtBy (M : CS) (a1 : Int32) : Option (String × CS) := tX10_caughtBy_0  M a1
def tX10_oathsOf_0 (M : CS) (a1 : Int32) : Option (String × CS) := match tX10_catAt M a1 with | some r => some r | none => none
def tX10_oathsOf (M : CS) (a1 : Int32) : Option (String × CS) := tX10_oathsOf_0  M a1
def tX10_grainIn_0 (M : CS) (a1 : Int32) : Option (String × CS) := match tX10_sackAt M a1 with | some r => some r | none => none
def tX10_grainIn (M : CS) (a1 : Int32) : Option (String × CS) := tX10_grainIn_0  M a1
def tX10_miceIn_0 (M : CS) (a1 : Int32) : Option (String × CS) := match tX10_sackAt M a1 with | some r => some r | none => none
def tX10_miceIn (M : CS) (a1 : Int32) : Option (String × CS) := tX10_miceIn_0  M a1
def tX10_isOpen_0 (M : CS) (a1 : Int32) : Option (String × CS) := match tX10_sackAt M a1 with | some r => some r | none => none
def tX10_isOpen (M : CS) (a1 : Int32) : Option (String × CS) := tX10_isOpen_0  M a1
def tX10_eatenFrom_0 (M : CS) (a1 : Int32) : Option (String × CS) := match tX10_sackAt M a1 with | some r => some r | none => none
def tX10_eatenFrom (M : CS) (a1 : Int32) : Option (String × CS) := tX10_eatenFrom_0  M a1
def tX10_catOfShift_0 (M : CS) (a1 : Int32) : Option (String × CS) := match tX10_shiftAt M a1 with | some r => some r | none => none
def tX10_catOfShift (M : CS) (a1 : Int32) : Option (String × CS) := tX10_catOfShift_0  M a1
def tX10_hoursOfShift_0 (M : CS) (a1 : Int32) : Option (String × CS) := match tX10_shiftAt M a1 with | some r => some r | none => none
def tX10_hoursOfShift (M : CS) (a1 : Int32) : Option (String × CS) := tX10_hoursOfShift_0  M a1
def tX10_oathReason_0 (M : CS) (a1 : Int32) : Option (String × CS) := match tX10_catAt M a1 with | some r => some r | none => none
def tX10_oathReason (M : CS) (a1 : Int32) : Option (String × CS) := tX10_oathReason_0  M a1
def tX10_shareOf_0 (M : CS) (a1 : Int32) : Option (String × CS) := match tX10_catAt M a1 with | some r => some r | none => none
def tX10_shareOf (M : CS) (a1 : Int32) : Option (String × CS) := tX10_shareOf_0  M a1
def tX10_hoursUntilEmpty_0 (M : CS) (a1 : Int32) : Option (String × CS) := match tX10_sackAt M a1 with | some r => some r | none => none
def tX10_hoursUntilEmpty (M : CS) (a1 : Int32) : Option (String × CS) := tX10_hoursUntilEmpty_0  M a1
def tX10_catNameByte_0 (M : CS) (a1 : Int32) (a2 : Int32) : Option (String × CS) := match tX10_catAt M a1 with | some r => some r | none => none
def tX10_catNameByte (M : CS) (a1 : Int32) (a2 : Int32) : Option (String × CS) := tX10_catNameByte_0  M a1 a2
def tX10_sackNameByte_0 (M : CS) (a1 : Int32) (a2 : Int32) : Option (String × CS) := match tX10_sackAt M a1 with | some r => some r | none => none
def tX10_sackNameByte (M : CS) (a1 : Int32) (a2 : Int32) : Option (String × CS) := tX10_sackNameByte_0  M a1 a2
def tX10_predict_0 (M : CS) (a1 : Int32) : Option (String × CS) := match tX10_requireRange M a1 0 200 with | some r => some r | none => none
def tX10_predict (M : CS) (a1 : Int32) : Option (String × CS) := tX10_predict_0  M a1
def tX10_miceAfter_5 (M : CS) (z0 : Nat) (x1 : Int32) (x2 : Int32) : Option (String × CS) := match tX10_predict M x2 with | some r => some r | none => none
def tX10_miceAfter_0 (M : CS) (a1 : Int32) (a2 : Int32) : Option (String × CS) := match tX10_sackAt M a1 with | some r => some r | none => (fX10_sackAt M a1).bind fun q => tX10_miceAfter_5 M q a1 a2
def tX10_miceAfter (M : CS) (a1 : Int32) (a2 : Int32) : Option (String × CS) := tX10_miceAfter_0  M a1 a2
def tX10_grainAfter_5 (M : CS) (z0 : Nat) (x1 : Int32) (x2 : Int32) : Option (String × CS) := match tX10_predict M x2 with | some r => some r | none => none
def tX10_grainAfter_0 (M : CS) (a1 : Int32) (a2 : Int32) : Option (String × CS) := match tX10_sackAt M a1 with | some r => some r | none => (fX10_sackAt M a1).bind fun q => tX10_grainAfter_5 M q a1 a2
def tX10_grainAfter (M : CS) (a1 : Int32) (a2 : Int32) : Option (String × CS) := tX10_grainAfter_0  M a1 a2
def tX10_swornAfter_0 (M : CS) (a1 : Int32) : Option (String × CS) := match tX10_predict M a1 with | some r => some r | none => none
def tX10_swornAfter (M : CS) (a1 : Int32) : Option (String × CS) := tX10_swornAfter_0  M a1
def tX10_caughtWithin_0 (M : CS) (a1 : Int32) : Option (String × CS) := match tX10_predict M a1 with | some r => some r | none => none
def tX10_caughtWithin (M : CS) (a1 : Int32) : Option (String × CS) := tX10_caughtWithin_0  M a1
def tX10_bestFlapToChange_0 (M : CS) (a1 : Int32) : Option (String × CS) := match tX10_predict M a1 with | some r => some r | none => none
def tX10_bestFlapToChange (M : CS) (a1 : Int32) : Option (String × CS) := tX10_bestFlapToChange_0  M a1
def tX10_change_13 (M : CS) : Option (String × CS) := some ("java/lang/IllegalStateException", M)
def tX10_change_10 (M : CS) (x1 : Int32) (x2 : Int32) (x3 : Int32) (s0 : Int32) : Option (String × CS) := if s0 = 0 then tX10_change_13 M else none
def tX10_change_0 (M : CS) (a1 : Int32) (a2 : Int32) (a3 : Int32) : Option (String × CS) := (fX2_allows M 13 a1 a2 a3).bind fun q => tX10_change_10 M a1 a2 a3 q
def tX10_change (M : CS) (a1 : Int32) (a2 : Int32) (a3 : Int32) : Option (String × CS) := tX10_change_0  M a1 a2 a3
def tX10_letPass_7 (M : CS) (x1 : Int32) : Option (String × CS) := match tX10_change M 0 (-1) x1 with | some r => some r | none => none
def tX10_letPass_0 (M : CS) (a1 : Int32) : Option (String × CS) := match tX10_requireRange M a1 1 99 with | some r => some r | none => (fX10_requireRange M a1 1 99).bind fun q => tX10_letPass_7 q a1
def tX10_letPass (M : CS) (a1 : Int32) : Option (String × CS) := tX10_letPass_0  M a1
def tX10_openFlap_5 (M : CS) (z0 : Nat) (x1 : Int32) : Option (String × CS) := match tX10_change M 1 x1 0 with | some r => some r | none => none
def tX10_openFlap_0 (M : CS) (a1 : Int32) : Option (String × CS) := match tX10_sackAt M a1 with | some r => some r | none => (fX10_sackAt M a1).bind fun q => tX10_openFlap_5 M q a1
def tX10_openFlap (M : CS) (a1 : Int32) : Option (String × CS) := tX10_openFlap_0  M a1
def tX10_shutFlap_5 (M : CS) (z0 : Nat) (x1 : Int32) : Option (String × CS) := match tX10_change M 2 x1 0 with | some r => some r | none => none
def tX10_shutFlap_0 (M : CS) (a1 : Int32) : Option (String × CS) := match tX10_sackAt M a1 with | some r => some r | none => (fX10_sackAt M a1).bind fun q => tX10_shutFlap_5 M q a1
def tX10_shutFlap (M : CS) (a1 : Int32) : Option (String × CS) := tX10_shutFlap_0  M a1
def tX10_addMice_13 (M : CS) (x1 : Int32) (x2 : Int32) : Option (String × CS) := match tX10_change M 3 x1 x2 with | some r => some r | none => none
def tX10_addMice_5 (M : CS) (z0 : Nat) (x1 : Int32) (x2 : Int32) : Option (String × CS) := match tX10_requireRange M x2 1 99 with | some r => some r | none => (fX10_requireRange M x2 1 99).bind fun q => tX10_addMice_13 q x1 x2
def tX10_addMice_0 (M : CS) (a1 : Int32) (a2 : Int32) : Option (String × CS) := match tX10_sackAt M a1 with | some r => some r | none => (fX10_sackAt M a1).bind fun q => tX10_addMice_5 M q a1 a2
def tX10_addMice (M : CS) (a1 : Int32) (a2 : Int32) : Option (String × CS) := tX10_addMice_0  M a1 a2
def tX10_addGrain_14 (M : CS) (x1 : Int32) (x2 : Int32) : Option (String × CS) := match tX10_change M 4 x1 x2 with | some r => some r | none => none
def tX10_addGrain_5 (M : CS) (z0 : Nat) (x1 : Int32) (x2 : Int32) : Option (String × CS) := match tX10_requireRange M x2 1 999 with | some r => some r | none => (fX10_requireRange M x2 1 999).bind fun q => tX10_addGrain_14 q x1 x2
def tX10_addGrain_0 (M : CS) (a1 : Int32) (a2 : Int32) : Option (String × CS) := match tX10_sackAt M a1 with | some r => some r | none => (fX10_sackAt M a1).bind fun q => tX10_addGrain_5 M q a1 a2
def tX10_addGrain (M : CS) (a1 : Int32) (a2 : Int32) : Option (String × CS) := tX10_addGrain_0  M a1 a2
def tX10_dismiss_0 (M : CS) : Option (String × CS) := match tX10_change M 5 (-1) 0 with | some r => some r | none => none
def tX10_dismiss (M : CS) : Option (String × CS) := tX10_dismiss_0  M
def tX10_setMilk_7 (M : CS) (x1 : Int32) : Option (String × CS) := match tX10_change M 6 (-1) x1 with | some r => some r | none => none
def tX10_setMilk_0 (M : CS) (a1 : Int32) : Option (String × CS) := match tX10_requireRange M a1 0 9 with | some r => some r | none => (fX10_requireRange M a1 0 9).bind fun q => tX10_setMilk_7 q a1
def tX10_setMilk (M : CS) (a1 : Int32) : Option (String × CS) := tX10_setMilk_0  M a1
set_option maxRecDepth 10000 in
theorem ktX10_catAt_15 {Ex : String} {S1 : CS} {M : CS} {H : Heap} {locs : List Loc} {ls : Array Slot} (X : gX p s m args c cX10_catAt 2 RX10 (kR kTab kA)) (hT : ∀ x ∈ c.exceptionTable.toList, False) (hlk : meth.locks = false) (hl0 : l.stackTraces = false) (hZ : cmpS (cΩ ca) s s.heap) (hf : tX10_catAt_15 M = some (Ex, S1)) (hP : (cP dC dI cg kA ca) M s H) (hS : va_S (Fr (cΩ ca) s.heap.size) s.heap H locs) (hl : lv_has ls 2 [(0, .ref (ca 0))]) : W p l e (rmL 3 1 6) s m args below meth c H locs 0 0 (gTQ below (cΩ ca) (cP dC dI cg kA ca) Ex S1 args s) (F0 m 15 ls []) := by
  have hx := X.hx
  have hb := X.hb
  have hown := X.hown
  have hts := X.hts
  rw [tX10_catAt_15] at hf
  cases hf
  exact gThrowSW (q := ("GranaryWatch", 307, "there is no such cat", [116, 104, 101, 114, 101, 32, 105, 115, 32, 110, 111, 32, 115, 117, 99, 104, 32, 99, 97, 116])) (cls := "java/lang/IndexOutOfBoundsException") X hT hlk hl0 hZ cExt cOK (kRat (q := ("GranaryWatch", 307, "there is no such cat", [116, 104, 101, 114, 101, 32, 105, 115, 32, 110, 111, 32, 115, 117, 99, 104, 32, 99, 97, 116])) X.ks 3 rfl) tw1308 tw21 xat0w xat0o xat0g (by decide +kernel) hP hS hl.1 dX10_catAt_15 dX10_catAt_18 dX10_catAt_19 dX10_catAt_22 dX10_catAt_25 (by decide) (Nat.le_of_ble_eq_true rfl)
set_option maxRecDepth 10000 in
theorem ktX10_catAt_4 {Ex : String} {S1 : CS} {M : CS} {x1 : Int32} {H : Heap} {locs : List Loc} {ls : Array Slot} (X : gX p s m args c cX10_catAt 2 RX10 (kR kTab kA)) (hT : ∀ x ∈ c.exceptionTable.toList, False) (hlk : meth.locks = false) (hl0 : l.stackTraces = false) (hZ : cmpS (cΩ ca) s s.heap) (hf : tX10_catAt_4 M x1 = some (Ex, S1)) (hP : (cP dC dI cg kA ca) M s H) (hS : va_S (Fr (cΩ ca) s.heap.size) s.heap H locs) (hl : lv_has ls 2 [(0, .ref (ca 0)), (1, .int x1)]) : W p l e (rmL 3 1 6) s m args below meth c H locs 0 0 (gTQ below (cΩ ca) (cP dC dI cg kA ca) Ex S1 args s) (F0 m 4 ls []) := by
  have hx := X.hx
  have hb := X.hb
  have hown := X.hown
  have hts := X.hts
  rw [tX10_catAt_4] at hf
  refine lv_iload_n hx hb dX10_catAt_4 rfl (lv_at hl 1 rfl) ?_
  refine lv_aload_n hx hb dX10_catAt_5 rfl (lv_at hl 0 rfl) ?_
  refine cr_get (k := 2) X hP (rfl : kc 0 = 0) rfl cv0_2 rfl cinX10 (by decide) rfl tw957 dX10_catAt_6 ?_
  refine cr_get (k := 5) X hP (rfl : kc 13 = 11) rfl cv11_5 rfl cinX2 (by decide) rfl tw328 dX10_catAt_9 ?_
  refine lv_icmp_lt (tgt := 26) hx hb dX10_catAt_12 (by decide) (fun c1 => ?_) (fun c1 => ?_)
  · exact absurd (ifp c1 hf) (fun z => by cases z)
  · exact ktX10_catAt_15 X hT hlk hl0 hZ (ifn c1 hf) hP hS (lv_sub hl [0] rfl)
set_option maxRecDepth 10000 in
theorem ktX10_catAt_0 {Ex : String} {S1 : CS} {M : CS} {a1 : Int32} {H : Heap} {locs : List Loc} {ls : Array Slot} (X : gX p s m args c cX10_catAt 2 RX10 (kR kTab kA)) (hT : ∀ x ∈ c.exceptionTable.toList, False) (hlk : meth.locks = false) (hl0 : l.stackTraces = false) (hZ : cmpS (cΩ ca) s s.heap) (hf : tX10_catAt_0 M a1 = some (Ex, S1)) (hP : (cP dC dI cg kA ca) M s H) (hS : va_S (Fr (cΩ ca) s.heap.size) s.heap H locs) (hl : lv_has ls 2 [(0, .ref (ca 0)), (1, .int a1)]) : W p l e (rmL 3 1 6) s m args below meth c H locs 0 0 (gTQ below (cΩ ca) (cP dC dI cg kA ca) Ex S1 args s) (F0 m 0 ls []) := by
  have hx := X.hx
  have hb := X.hb
  have hown := X.hown
  have hts := X.hts
  rw [tX10_catAt_0] at hf
  refine lv_iload_n hx hb dX10_catAt_0 rfl (lv_at hl 1 rfl) ?_
  refine lv_if_lt (tgt := 15) hx hb dX10_catAt_1 (by decide) (fun c1 => ?_) (fun c1 => ?_)
  · exact ktX10_catAt_15 X hT hlk hl0 hZ (ifp c1 hf) hP hS (lv_sub hl [0] rfl)
  · exact ktX10_catAt_4 X hT hlk hl0 hZ (ifn c1 hf) hP hS (lv_sub hl [0, 1] rfl)
theorem wX10_catAt {l : Launch} {dC : Nat → ClassId} {dI : Nat → Nat → Nat} {cg : Nat → ClassId} {kA : String → Nat → Nat} {ca : Nat → Nat} (hl0 : l.stackTraces = false) {M S1 : CS} {Ex : String} {a1 : Int32} (hf : tX10_catAt M a1 = some (Ex, S1)) : gThr l yX10_catAt cX10_catAt 2 (some (.object RX0)) 3 (cΩ ca) (cP dC dI cg kA ca) (kR kTab kA) [.ref (ca 0), .int a1] M Ex S1 := gEntryT (by decide) cOK (Nat.le_of_ble_eq_true rfl) (fun p e s m args below meth c ls X hT hlk hP hS hl => 
  ktX10_catAt_0 X hT hlk hl0 (ccmp hP) hf hP hS (lv_sub hl [0, 1] rfl))
set_option maxRecDepth 10000 in
theorem ktX10_sackAt_15 {Ex : String} {S1 : CS} {M : CS} {H : Heap} {locs : List Loc} {ls : Array Slot} (X : gX p s m args c cX10_sackAt 2 RX10 (kR kTab kA)) (hT : ∀ x ∈ c.exceptionTable.toList, False) (hlk : meth.locks = false) (hl0 : l.stackTraces = false) (hZ : cmpS (cΩ ca) s s.heap) (hf : tX10_sackAt_15 M = some (Ex, S1)) (hP : (cP dC dI cg kA ca) M s H) (hS : va_S (Fr (cΩ ca) s.heap.size) s.heap H locs) (hl : lv_has ls 2 [(0, .ref (ca 0))]) : W p l e (rmL 3 1 6) s m args below meth c H locs 0 0 (gTQ below (cΩ ca) (cP dC dI cg kA ca) Ex S1 args s) (F0 m 15 ls []) := by
  have hx := X.hx
  have hb := X.hb
  have hown := X.hown
  have hts := X.hts
  rw [tX10_sackAt_15] at hf
  cases hf
  exact gThrowSW (q := ("GranaryWatch", 310, "there is no such sack", [116, 104, 101, 114, 101, 32, 105, 115, 32, 110, 111, 32, 115, 117, 99, 104, 32, 115, 97, 99, 107])) (cls := "java/lang/IndexOutOfBoundsException") X hT hlk hl0 hZ cExt cOK (kRat (q := ("GranaryWatch", 310, "there is no such sack", [116, 104, 101, 114, 101, 32, 105, 115, 32, 110, 111, 32, 115, 117, 99, 104, 32, 115, 97, 99, 107])) X.ks 4 rfl) tw1308 tw21 xat0w xat0o xat0g (by decide +kernel) hP hS hl.1 dX10_sackAt_15 dX10_sackAt_18 dX10_sackAt_19 dX10_sackAt_22 dX10_sackAt_25 (by decide) (Nat.le_of_ble_eq_true rfl)
set_option maxRecDepth 10000 in
theorem ktX10_sackAt_4 {Ex : String} {S1 : CS} {M : CS} {x1 : Int32} {H : Heap} {locs : List Loc} {ls : Array Slot} (X : gX p s m args c cX10_sackAt 2 RX10 (kR kTab kA)) (hT : ∀ x ∈ c.exceptionTable.toList, False) (hlk : meth.locks = false) (hl0 : l.stackTraces = false) (hZ : cmpS (cΩ ca) s s.heap) (hf : tX10_sackAt_4 M x1 = some (Ex, S1)) (hP : (cP dC dI cg kA ca) M s H) (hS : va_S (Fr (cΩ ca) s.heap.size) s.heap H locs) (hl : lv_has ls 2 [(0, .ref (ca 0)), (1, .int x1)]) : W p l e (rmL 3 1 6) s m args below meth c H locs 0 0 (gTQ below (cΩ ca) (cP dC dI cg kA ca) Ex S1 args s) (F0 m 4 ls []) := by
  have hx := X.hx
  have hb := X.hb
  have hown := X.hown
  have hts := X.hts
  rw [tX10_sackAt_4] at hf
  refine lv_iload_n hx hb dX10_sackAt_4 rfl (lv_at hl 1 rfl) ?_
  refine lv_aload_n hx hb dX10_sackAt_5 rfl (lv_at hl 0 rfl) ?_
  refine cr_get (k := 2) X hP (rfl : kc 0 = 0) rfl cv0_2 rfl cinX10 (by decide) rfl tw957 dX10_sackAt_6 ?_
  refine cr_get (k := 6) X hP (rfl : kc 13 = 11) rfl cv11_6 rfl cinX2 (by decide) rfl tw331 dX10_sackAt_9 ?_
  refine lv_icmp_lt (tgt := 26) hx hb dX10_sackAt_12 (by decide) (fun c1 => ?_) (fun c1 => ?_)
  · exact absurd (ifp c1 hf) (fun z => by cases z)
  · exact ktX10_sackAt_15 X hT hlk hl0 hZ (ifn c1 hf) hP hS (lv_sub hl [0] rfl)
set_option maxRecDepth 10000 in
theorem ktX10_sackAt_0 {Ex : String} {S1 : CS} {M : CS} {a1 : Int32} {H : Heap} {locs : List Loc} {ls : Array Slot} (X : gX p s m args c cX10_sackAt 2 RX10 (kR kTab kA)) (hT : ∀ x ∈ c.exceptionTable.toList, False) (hlk : meth.locks = false) (hl0 : l.stackTraces = false) (hZ : cmpS (cΩ ca) s s.heap) (hf : tX10_sackAt_0 M a1 = some (Ex, S1)) (hP : (cP dC dI cg kA ca) M s H) (hS : va_S (Fr (cΩ ca) s.heap.size) s.heap H locs) (hl : lv_has ls 2 [(0, .ref (ca 0)), (1, .int a1)]) : W p l e (rmL 3 1 6) s m args below meth c H locs 0 0 (gTQ below (cΩ ca) (cP dC dI cg kA ca) Ex S1 args s) (F0 m 0 ls []) := by
  have hx := X.hx
  have hb := X.hb
  have hown := X.hown
  have hts := X.hts
  rw [tX10_sackAt_0] at hf
  refine lv_iload_n hx hb dX10_sackAt_0 rfl (lv_at hl 1 rfl) ?_
  refine lv_if_lt (tgt := 15) hx hb dX10_sackAt_1 (by decide) (fun c1 => ?_) (fun c1 => ?_)
  · exact ktX10_sackAt_15 X hT hlk hl0 hZ (ifp c1 hf) hP hS (lv_sub hl [0] rfl)
  · exact ktX10_sackAt_4 X hT hlk hl0 hZ (ifn c1 hf) hP hS (lv_sub hl [0, 1] rfl)
theorem wX10_sackAt {l : Launch} {dC : Nat → ClassId} {dI : Nat → Nat → Nat} {cg : Nat → ClassId} {kA : String → Nat → Nat} {ca : Nat → Nat} (hl0 : l.stackTraces = false) {M S1 : CS} {Ex : String} {a1 : Int32} (hf : tX10_sackAt M a1 = some (Ex, S1)) : gThr l yX10_sackAt cX10_sackAt 2 (some (.object RX4)) 3 (cΩ ca) (cP dC dI cg kA ca) (kR kTab kA) [.ref (ca 0), .int a1] M Ex S1 := gEntryT (by decide) cOK (Nat.le_of_ble_eq_true rfl) (fun p e s m args below meth c ls X hT hlk hP hS hl => 
  ktX10_sackAt_0 X hT hlk hl0 (ccmp hP) hf hP hS (lv_sub hl [0, 1] rfl))
set_option maxRecDepth 10000 in
theorem ktX10_shiftAt_15 {Ex : String} {S1 : CS} {M : CS} {H : Heap} {locs : List Loc} {ls : Array Slot} (X : gX p s m args c cX10_shiftAt 2 RX10 (kR kTab kA)) (hT : ∀ x ∈ c.exceptionTable.toList, False) (hlk : meth.locks = false) (hl0 : l.stackTraces = false) (hZ : cmpS (cΩ ca) s s.heap) (hf : tX10_shiftAt_15 M = some (Ex, S1)) (hP : (cP dC dI cg kA ca) M s H) (hS : va_S (Fr (cΩ ca) s.heap.size) s.heap H locs) (hl : lv_has ls 2 [(0, .ref (ca 0))]) : W p l e (rmL 3 1 6) s m args below meth c H locs 0 0 (gTQ below (cΩ ca) (cP dC dI cg kA ca) Ex S1 args s) (F0 m 15 ls []) := by
  have hx := X.hx
  have hb := X.hb
  have hown := X.hown
  have hts := X.hts
  rw [tX10_shiftAt_15] at hf
  cases hf
  exact gThrowSW (q := ("GranaryWatch", 312, "there is no such shift", [116, 104, 101, 114, 101, 32, 105, 115, 32, 110, 111, 32, 115, 117, 99, 104, 32, 115, 104, 105, 102, 116])) (cls := "java/lang/IndexOutOfBoundsException") X hT hlk hl0 hZ cExt cOK (kRat (q := ("GranaryWatch", 312, "there is no such shift", [116, 104, 101, 114, 101, 32, 105, 115, 32, 110, 111, 32, 115, 117, 99, 104, 32, 115, 104, 105, 102, 116])) X.ks 5 rfl) tw1308 tw21 xat0w xat0o xat0g (by decide +kernel) hP hS hl.1 dX10_shiftAt_15 dX10_shiftAt_18 dX10_shiftAt_19 dX10_shiftAt_22 dX10_shiftAt_25 (by decide) (Nat.le_of_ble_eq_true rfl)
set_option maxRecDepth 10000 in
theorem ktX10_shiftAt_4 {Ex : String} {S1 : CS} {M : CS} {x1 : Int32} {H : Heap} {locs : List Loc} {ls : Array Slot} (X : gX p s m args c cX10_shiftAt 2 RX10 (kR kTab kA)) (hT : ∀ x ∈ c.exceptionTable.toList, False) (hlk : meth.locks = false) (hl0 : l.stackTraces = false) (hZ : cmpS (cΩ ca) s s.heap) (hf : tX10_shiftAt_4 M x1 = some (Ex, S1)) (hP : (cP dC dI cg kA ca) M s H) (hS : va_S (Fr (cΩ ca) s.heap.size) s.heap H locs) (hl : lv_has ls 2 [(0, .ref (ca 0)), (1, .int x1)]) : W p l e (rmL 3 1 6) s m args below meth c H locs 0 0 (gTQ below (cΩ ca) (cP dC dI cg kA ca) Ex S1 args s) (F0 m 4 ls []) := by
  have hx := X.hx
  have hb := X.hb
  have hown := X.hown
  have hts := X.hts
  rw [tX10_shiftAt_4] at hf
  refine lv_iload_n hx hb dX10_shiftAt_4 rfl (lv_at hl 1 rfl) ?_
  refine lv_aload_n hx hb dX10_shiftAt_5 rfl (lv_at hl 0 rfl) ?_
  refine cr_get (k := 2) X hP (rfl : kc 0 = 0) rfl cv0_2 rfl cinX10 (by decide) rfl tw957 dX10_shiftAt_6 ?_
  refine cr_get (k := 7) X hP (rfl : kc 13 = 11) rfl cv11_7 rfl cinX2 (by decide) rfl tw334 dX10_shiftAt_9 ?_
  refine lv_icmp_lt (tgt := 26) hx hb dX10_shiftAt_12 (by decide) (fun c1 => ?_) (fun c1 => ?_)
  · exact absurd (ifp c1 hf) (fun z => by cases z)
  · exact ktX10_shiftAt_15 X hT hlk hl0 hZ (ifn c1 hf) hP hS (lv_sub hl [0] rfl)
set_option maxRecDepth 10000 in
theorem ktX10_shiftAt_0 {Ex : String} {S1 : CS} {M : CS} {a1 : Int32} {H : Heap} {locs : List Loc} {ls : Array Slot} (X : gX p s m args c cX10_shiftAt 2 RX10 (kR kTab kA)) (hT : ∀ x ∈ c.exceptionTable.toList, False) (hlk : meth.locks = false) (hl0 : l.stackTraces = false) (hZ : cmpS (cΩ ca) s s.heap) (hf : tX10_shiftAt_0 M a1 = some (Ex, S1)) (hP : (cP dC dI cg kA ca) M s H) (hS : va_S (Fr (cΩ ca) s.heap.size) s.heap H locs) (hl : lv_has ls 2 [(0, .ref (ca 0)), (1, .int a1)]) : W p l e (rmL 3 1 6) s m args below meth c H locs 0 0 (gTQ below (cΩ ca) (cP dC dI cg kA ca) Ex S1 args s) (F0 m 0 ls []) := by
  have hx := X.hx
  have hb := X.hb
  have hown := X.hown
  have hts := X.hts
  rw [tX10_shiftAt_0] at hf
  refine lv_iload_n hx hb dX10_shiftAt_0 rfl (lv_at hl 1 rfl) ?_
  refine lv_if_lt (tgt := 15) hx hb dX10_shiftAt_1 (by decide) (fun c1 => ?_) (fun c1 => ?_)
  · exact ktX10_shiftAt_15 X hT hlk hl0 hZ (ifp c1 hf) hP hS (lv_sub hl [0] rfl)
  · exact ktX10_shiftAt_4 X hT hlk hl0 hZ (ifn c1 hf) hP hS (lv_sub hl [0, 1] rfl)
theorem wX10_shiftAt {l : Launch} {dC : Nat → ClassId} {dI : Nat → Nat → Nat} {cg : Nat → ClassId} {kA : String → Nat → Nat} {ca : Nat → Nat} (hl0 : l.stackTraces = false) {M S1 : CS} {Ex : String} {a1 : Int32} (hf : tX10_shiftAt M a1 = some (Ex, S1)) : gThr l yX10_shiftAt cX10_shiftAt 2 (some (.object RX7)) 3 (cΩ ca) (cP dC dI cg kA ca) (kR kTab kA) [.ref (ca 0), .int a1] M Ex S1 := gEntryT (by decide) cOK (Nat.le_of_ble_eq_true rfl) (fun p e s m args below meth c ls X hT hlk hP hS hl => 
  ktX10_shiftAt_0 X hT hlk hl0 (ccmp hP) hf hP hS (lv_sub hl [0, 1] rfl))
set_option maxRecDepth 10000 in
theorem ktX10_requireRange_10 {Ex : String} {S1 : CS} {M : CS} {H : Heap} {locs : List Loc} {ls : Array Slot} (X : gX p s m args c cX10_requireRange 3 RX10 (kR kTab kA)) (hT : ∀ x ∈ c.exceptionTable.toList, False) (hlk : meth.locks = false) (hl0 : l.stackTraces = false) (hZ : cmpS (cΩ ca) s s.heap) (hf : tX10_requireRange_10 M = some (Ex, S1)) (hP : (cP dC dI cg kA ca) M s H) (hS : va_S (Fr (cΩ ca) s.heap.size) s.heap H locs) (hl : lv_has ls 3 []) : W p l e (rmL 3 1 6) s m args below meth c H locs 0 0 (gTQ below (cΩ ca) (cP dC dI cg kA ca) Ex S1 args s) (F0 m 10 ls []) := by
  have hx := X.hx
  have hb := X.hb
  have hown := X.hown
  have hts := X.hts
  rw [tX10_requireRange_10] at hf
  cases hf
  exact gThrowSW (q := ("GranaryWatch", 320, "the number is out of range", [116, 104, 101, 32, 110, 117, 109, 98, 101, 114, 32, 105, 115, 32, 111, 117, 116, 32, 111, 102, 32, 114, 97, 110, 103, 101])) (cls := "java/lang/IllegalArgumentException") X hT hlk hl0 hZ cExt cOK (kRat (q := ("GranaryWatch", 320, "the number is out of range", [116, 104, 101, 32, 110, 117, 109, 98, 101, 114, 32, 105, 115, 32, 111, 117, 116, 32, 111, 102, 32, 114, 97, 110, 103, 101])) X.ks 6 rfl) tw1451 tw29 xat1w xat1o xat1g (by decide +kernel) hP hS hl.1 dX10_requireRange_10 dX10_requireRange_13 dX10_requireRange_14 dX10_requireRange_17 dX10_requireRange_20 (by decide) (Nat.le_of_ble_eq_true rfl)
set_option maxRecDepth 10000 in
theorem ktX10_requireRange_5 {Ex : String} {S1 : CS} {M : CS} {x0 : Int32} {x2 : Int32} {H : Heap} {locs : List Loc} {ls : Array Slot} (X : gX p s m args c cX10_requireRange 3 RX10 (kR kTab kA)) (hT : ∀ x ∈ c.exceptionTable.toList, False) (hlk : meth.locks = false) (hl0 : l.stackTraces = false) (hZ : cmpS (cΩ ca) s s.heap) (hf : tX10_requireRange_5 M x0 x2 = some (Ex, S1)) (hP : (cP dC dI cg kA ca) M s H) (hS : va_S (Fr (cΩ ca) s.heap.size) s.heap H locs) (hl : lv_has ls 3 [(0, .int x0), (2, .int x2)]) : W p l e (rmL 3 1 6) s m args below meth c H locs 0 0 (gTQ below (cΩ ca) (cP dC dI cg kA ca) Ex S1 args s) (F0 m 5 ls []) := by
  have hx := X.hx
  have hb := X.hb
  have hown := X.hown
  have hts := X.hts
  rw [tX10_requireRange_5] at hf
  refine lv_iload_n hx hb dX10_requireRange_5 rfl (lv_at hl 0 rfl) ?_
  refine lv_iload_n hx hb dX10_requireRange_6 rfl (lv_at hl 1 rfl) ?_
  refine lv_icmp_le (tgt := 21) hx hb dX10_requireRange_7 (by decide) (fun c1 => ?_) (fun c1 => ?_)
  · exact absurd (ifp c1 hf) (fun z => by cases z)
  · exact ktX10_requireRange_10 X hT hlk hl0 hZ (ifn c1 hf) hP hS (lv_sub hl [] rfl)
set_option maxRecDepth 10000 in
theorem ktX10_requireRange_0 {Ex : String} {S1 : CS} {M : CS} {a1 : Int32} {a2 : Int32} {a3 : Int32} {H : Heap} {locs : List Loc} {ls : Array Slot} (X : gX p s m args c cX10_requireRange 3 RX10 (kR kTab kA)) (hT : ∀ x ∈ c.exceptionTable.toList, False) (hlk : meth.locks = false) (hl0 : l.stackTraces = false) (hZ : cmpS (cΩ ca) s s.heap) (hf : tX10_requireRange_0 M a1 a2 a3 = some (Ex, S1)) (hP : (cP dC dI cg kA ca) M s H) (hS : va_S (Fr (cΩ ca) s.heap.size) s.heap H locs) (hl : lv_has ls 3 [(0, .int a1), (1, .int a2), (2, .int a3)]) : W p l e (rmL 3 1 6) s m args below meth c H locs 0 0 (gTQ below (cΩ ca) (cP dC dI cg kA ca) Ex S1 args s) (F0 m 0 ls []) := by
  have hx := X.hx
  have hb := X.hb
  have hown := X.hown
  have hts := X.hts
  rw [tX10_requireRange_0] at hf
  refine lv_iload_n hx hb dX10_requireRange_0 rfl (lv_at hl 0 rfl) ?_
  refine lv_iload_n hx hb dX10_requireRange_1 rfl (lv_at hl 1 rfl) ?_
  refine lv_icmp_lt (tgt := 10) hx hb dX10_requireRange_2 (by decide) (fun c1 => ?_) (fun c1 => ?_)
  · exact ktX10_requireRange_10 X hT hlk hl0 hZ (ifp c1 hf) hP hS (lv_sub hl [] rfl)
  · exact ktX10_requireRange_5 X hT hlk hl0 hZ (ifn c1 hf) hP hS (lv_sub hl [0, 2] rfl)
theorem wX10_requireRange {l : Launch} {dC : Nat → ClassId} {dI : Nat → Nat → Nat} {cg : Nat → ClassId} {kA : String → Nat → Nat} {ca : Nat → Nat} (hl0 : l.stackTraces = false) {M S1 : CS} {Ex : String} {a1 : Int32} {a2 : Int32} {a3 : Int32} (hf : tX10_requireRange M a1 a2 a3 = some (Ex, S1)) : gThr l yX10_requireRange cX10_requireRange 3 none 3 (cΩ ca) (cP dC dI cg kA ca) (kR kTab kA) [.int a1, .int a2, .int a3] M Ex S1 := gEntryT (by decide) cOK (Nat.le_of_ble_eq_true rfl) (fun p e s m args below meth c ls X hT hlk hP hS hl => 
  ktX10_requireRange_0 X hT hlk hl0 (ccmp hP) hf hP hS (lv_sub hl [0, 1, 2] rfl))
set_option maxRecDepth 10000 in
theorem ktX10_speedOf_0 {Ex : String} {S1 : CS} {M : CS} {a1 : Int32} {H : Heap} {locs : List Loc} {ls : Array Slot} (X : gX p s m args c cX10_speedOf 2 RX10 (kR kTab kA)) (hT : ∀ x ∈ c.exceptionTable.toList, False) (hlk : meth.locks = false) (hl0 : l.stackTraces = false) (hZ : cmpS (cΩ ca) s s.heap) (hf : tX10_speedOf_0 M a1 = some (Ex, S1)) (hP : (cP dC dI cg kA ca) M s H) (hS : va_S (Fr (cΩ ca) s.heap.size) s.heap H locs) (hl : lv_has ls 2 [(0, .ref (ca 0)), (1, .int a1)]) : W p l e (rmL 4 1 6) s m args below meth c H locs 0 0 (gTQ below (cΩ ca) (cP dC dI cg kA ca) Ex S1 args s) (F0 m 0 ls []) := by
  have hx := X.hx
  have hb := X.hb
  have hown := X.hown
  have hts := X.hts
  rw [tX10_speedOf_0] at hf
  refine lv_aload_n hx hb dX10_speedOf_0 rfl (lv_at hl 0 rfl) ?_
  refine lv_iload_n hx hb dX10_speedOf_1 rfl (lv_at hl 1 rfl) ?_
  cases ht : tX10_catAt M a1 with
  | some r =>
    rw [ht] at hf
    cases hf
    refine gCallVT X cOK rfl (wX10_catAt hl0 ht) gRX10_X10_catAt hdX10_catAt rfl ⟨by decide, by decide⟩ hP hS (cr_rec hP (rfl : kc 0 = 0) rfl cw0 rfl) hl.1 (Nat.le_of_ble_eq_true rfl) ⟨rfl, rfl⟩ dX10_speedOf_2 (As := [.int a1]) (rest := []) rfl (fun H locs q9 ce hP hS hce hcv hcl => ?_)
    exact gOutT cOK X hT hlk hP hS hce hcv hcl (Nat.le_refl _) (Nat.le_refl _)
  | none =>
    rw [ht] at hf
    dsimp only at hf
    cases hf
theorem wX10_speedOf {l : Launch} {dC : Nat → ClassId} {dI : Nat → Nat → Nat} {cg : Nat → ClassId} {kA : String → Nat → Nat} {ca : Nat → Nat} (hl0 : l.stackTraces = false) {M S1 : CS} {Ex : String} {a1 : Int32} (hf : tX10_speedOf M a1 = some (Ex, S1)) : gThr l yX10_speedOf cX10_speedOf 2 (some .int) 4 (cΩ ca) (cP dC dI cg kA ca) (kR kTab kA) [.ref (ca 0), .int a1] M Ex S1 := gEntryT (by decide) cOK (Nat.le_of_ble_eq_true rfl) (fun p e s m args below meth c ls X hT hlk hP hS hl => 
  ktX10_speedOf_0 X hT hlk hl0 (ccmp hP) hf hP hS (lv_sub hl [0, 1] rfl))
set_option maxRecDepth 10000 in
theorem ktX10_isLeftPawed_0 {Ex : String} {S1 : CS} {M : CS} {a1 : Int32} {H : Heap} {locs : List Loc} {ls : Array Slot} (X : gX p s m args c cX10_isLeftPawed 2 RX10 (kR kTab kA)) (hT : ∀ x ∈ c.exceptionTable.toList, False) (hlk : meth.locks = false) (hl0 : l.stackTraces = false) (hZ : cmpS (cΩ ca) s s.heap) (hf : tX10_isLeftPawed_0 M a1 = some (Ex, S1)) (hP : (cP dC dI cg kA ca) M s H) (hS : va_S (Fr (cΩ ca) s.heap.size) s.heap H locs) (hl : lv_has ls 2 [(0, .ref (ca 0)), (1, .int a1)]) : W p l e (rmL 4 1 6) s m args below meth c H locs 0 0 (gTQ below (cΩ ca) (cP dC dI cg kA ca) Ex S1 args s) (F0 m 0 ls []) := by
  have hx := X.hx
  have hb := X.hb
  have hown := X.hown
  have hts := X.hts
  rw [tX10_isLeftPawed_0] at hf
  refine lv_aload_n hx hb dX10_isLeftPawed_0 rfl (lv_at hl 0 rfl) ?_
  refine lv_iload_n hx hb dX10_isLeftPawed_1 rfl (lv_at hl 1 rfl) ?_
  cases ht : tX10_catAt M a1 with
  | some r =>
    rw [ht] at hf
    cases hf
    refine gCallVT X cOK rfl (wX10_catAt hl0 ht) gRX10_X10_catAt hdX10_catAt rfl ⟨by decide, by decide⟩ hP hS (cr_rec hP (rfl : kc 0 = 0) rfl cw0 rfl) hl.1 (Nat.le_of_ble_eq_true rfl) ⟨rfl, rfl⟩ dX10_isLeftPawed_2 (As := [.int a1]) (rest := []) rfl (fun H locs q9 ce hP hS hce hcv hcl => ?_)
    exact gOutT cOK X hT hlk hP hS hce hcv hcl (Nat.le_refl _) (Nat.le_refl _)
  | none =>
    rw [ht] at hf
    dsimp only at hf
    cases hf
theorem wX10_isLeftPawed {l : Launch} {dC : Nat → ClassId} {dI : Nat → Nat → Nat} {cg : Nat → ClassId} {kA : String → Nat → Nat} {ca : Nat → Nat} (hl0 : l.stackTraces = false) {M S1 : CS} {Ex : String} {a1 : Int32} (hf : tX10_isLeftPawed M a1 = some (Ex, S1)) : gThr l yX10_isLeftPawed cX10_isLeftPawed 2 (some .boolean) 4 (cΩ ca) (cP dC dI cg kA ca) (kR kTab kA) [.ref (ca 0), .int a1] M Ex S1 := gEntryT (by decide) cOK (Nat.le_of_ble_eq_true rfl) (fun p e s m args below meth c ls X hT hlk hP hS hl => 
  ktX10_isLeftPawed_0 X hT hlk hl0 (ccmp hP) hf hP hS (lv_sub hl [0, 1] rfl))
set_option maxRecDepth 10000 in
theorem ktX10_tirednessOf_0 {Ex : String} {S1 : CS} {M : CS} {a1 : Int32} {H : Heap} {locs : List Loc} {ls : Array Slot} (X : gX p s m args c cX10_tirednessOf 2 RX10 (kR kTab kA)) (hT : ∀ x ∈ c.exceptionTable.toList, False) (hlk : meth.locks = false) (hl0 : l.stackTraces = false) (hZ : cmpS (cΩ ca) s s.heap) (hf : tX10_tirednessOf_0 M a1 = some (Ex, S1)) (hP : (cP dC dI cg kA ca) M s H) (hS : va_S (Fr (cΩ ca) s.heap.size) s.heap H locs) (hl : lv_has ls 2 [(0, .ref (ca 0)), (1, .int a1)]) : W p l e (rmL 4 1 6) s m args below meth c H locs 0 0 (gTQ below (cΩ ca) (cP dC dI cg kA ca) Ex S1 args s) (F0 m 0 ls []) := by
  have hx := X.hx
  have hb := X.hb
  have hown := X.hown
  have hts := X.hts
  rw [tX10_tirednessOf_0] at hf
  refine lv_aload_n hx hb dX10_tirednessOf_0 rfl (lv_at hl 0 rfl) ?_
  refine lv_iload_n hx hb dX10_tirednessOf_1 rfl (lv_at hl 1 rfl) ?_
  cases ht : tX10_catAt M a1 with
  | some r =>
    rw [ht] at hf
    cases hf
    refine gCallVT X cOK rfl (wX10_catAt hl0 ht) gRX10_X10_catAt hdX10_catAt rfl ⟨by decide, by decide⟩ hP hS (cr_rec hP (rfl : kc 0 = 0) rfl cw0 rfl) hl.1 (Nat.le_of_ble_eq_true rfl) ⟨rfl, rfl⟩ dX10_tirednessOf_2 (As := [.int a1]) (rest := []) rfl (fun H locs q9 ce hP hS hce hcv hcl => ?_)
    exact gOutT cOK X hT hlk hP hS hce hcv hcl (Nat.le_refl _) (Nat.le_refl _)
  | none =>
    rw [ht] at hf
    dsimp only at hf
    cases hf
theorem wX10_tirednessOf {l : Launch} {dC : Nat → ClassId} {dI : Nat → Nat → Nat} {cg : Nat → ClassId} {kA : String → Nat → Nat} {ca : Nat → Nat} (hl0 : l.stackTraces = false) {M S1 : CS} {Ex : String} {a1 : Int32} (hf : tX10_tirednessOf M a1 = some (Ex, S1)) : gThr l yX10_tirednessOf cX10_tirednessOf 2 (some .int) 4 (cΩ ca) (cP dC dI cg kA ca) (kR kTab kA) [.ref (ca 0), .int a1] M Ex S1 := gEntryT (by decide) cOK (Nat.le_of_ble_eq_true rfl) (fun p e s m args below meth c ls X hT hlk hP hS hl => 
  ktX10_tirednessOf_0 X hT hlk hl0 (ccmp hP) hf hP hS (lv_sub hl [0, 1] rfl))
set_option maxRecDepth 10000 in
theorem ktX10_strengthOf_0 {Ex : String} {S1 : CS} {M : CS} {a1 : Int32} {H : Heap} {locs : List Loc} {ls : Array Slot} (X : gX p s m args c cX10_strengthOf 2 RX10 (kR kTab kA)) (hT : ∀ x ∈ c.exceptionTable.toList, False) (hlk : meth.locks = false) (hl0 : l.stackTraces = false) (hZ : cmpS (cΩ ca) s s.heap) (hf : tX10_strengthOf_0 M a1 = some (Ex, S1)) (hP : (cP dC dI cg kA ca) M s H) (hS : va_S (Fr (cΩ ca) s.heap.size) s.heap H locs) (hl : lv_has ls 2 [(0, .ref (ca 0)), (1, .int a1)]) : W p l e (rmL 4 1 6) s m args below meth c H locs 0 0 (gTQ below (cΩ ca) (cP dC dI cg kA ca) Ex S1 args s) (F0 m 0 ls []) := by
  have hx := X.hx
  have hb := X.hb
  have hown := X.hown
  have hts := X.hts
  rw [tX10_strengthOf_0] at hf
  refine lv_aload_n hx hb dX10_strengthOf_0 rfl (lv_at hl 0 rfl) ?_
  refine lv_iload_n hx hb dX10_strengthOf_1 rfl (lv_at hl 1 rfl) ?_
  cases ht : tX10_catAt M a1 with
  | some r =>
    rw [ht] at hf
    cases hf
    refine gCallVT X cOK rfl (wX10_catAt hl0 ht) gRX10_X10_catAt hdX10_catAt rfl ⟨by decide, by decide⟩ hP hS (cr_rec hP (rfl : kc 0 = 0) rfl cw0 rfl) hl.1 (Nat.le_of_ble_eq_true rfl) ⟨rfl, rfl⟩ dX10_strengthOf_2 (As := [.int a1]) (rest := []) rfl (fun H locs q9 ce hP hS hce hcv hcl => ?_)
    exact gOutT cOK X hT hlk hP hS hce hcv hcl (Nat.le_refl _) (Nat.le_refl _)
  | none =>
    rw [ht] at hf
    dsimp only at hf
    cases hf
theorem wX10_strengthOf {l : Launch} {dC : Nat → ClassId} {dI : Nat → Nat → Nat} {cg : Nat → ClassId} {kA : String → Nat → Nat} {ca : Nat → Nat} (hl0 : l.stackTraces = false) {M S1 : CS} {Ex : String} {a1 : Int32} (hf : tX10_strengthOf M a1 = some (Ex, S1)) : gThr l yX10_strengthOf cX10_strengthOf 2 (some .int) 4 (cΩ ca) (cP dC dI cg kA ca) (kR kTab kA) [.ref (ca 0), .int a1] M Ex S1 := gEntryT (by decide) cOK (Nat.le_of_ble_eq_true rfl) (fun p e s m args below meth c ls X hT hlk hP hS hl => 
  ktX10_strengthOf_0 X hT hlk hl0 (ccmp hP) hf hP hS (lv_sub hl [0, 1] rfl))
set_option maxRecDepth 10000 in
theorem ktX10_caughtBy_0 {Ex : String} {S1 : CS} {M : CS} {a1 : Int32} {H : Heap} {locs : List Loc} {ls : Array Slot} (X : gX p s m args c cX10_caughtBy 2 RX10 (kR kTab kA)) (hT : ∀ x ∈ c.exceptionTable.toList, False) (hlk : meth.locks = false) (hl0 : l.stackTraces = false) (hZ : cmpS (cΩ ca) s s.heap) (hf : tX10_caughtBy_0 M a1 = some (Ex, S1)) (hP : (cP dC dI cg kA ca) M s H) (hS : va_S (Fr (cΩ ca) s.heap.size) s.heap H locs) (hl : lv_has ls 2 [(0, .ref (ca 0)), (1, .int a1)]) : W p l e (rmL 4 1 6) s m args below meth c H locs 0 0 (gTQ below (cΩ ca) (cP dC dI cg kA ca) Ex S1 args s) (F0 m 0 ls []) := by
  have hx := X.hx
  have hb := X.hb
  have hown := X.hown
  have hts := X.hts
  rw [tX10_caughtBy_0] at hf
  refine lv_aload_n hx hb dX10_caughtBy_0 rfl (lv_at hl 0 rfl) ?_
  refine lv_iload_n hx hb dX10_caughtBy_1 rfl (lv_at hl 1 rfl) ?_
  cases ht : tX10_catAt M a1 with
  | some r =>
    rw [ht] at hf
    cases hf
    refine gCallVT X cOK rfl (wX10_catAt hl0 ht) gRX10_X10_catAt hdX10_catAt rfl ⟨by decide, by decide⟩ hP hS (cr_rec hP (rfl : kc 0 = 0) rfl cw0 rfl) hl.1 (Nat.le_of_ble_eq_true rfl) ⟨rfl, rfl⟩ dX10_caughtBy_2 (As := [.int a1]) (rest := []) rfl (fun H locs q9 ce hP hS hce hcv hcl => ?_)
    exact gOutT cOK X hT hlk hP hS hce hcv hcl (Nat.le_refl _) (Nat.le_refl _)
  | none =>
    rw [ht] at hf
    dsimp only at hf
    cases hf
theorem wX10_caughtBy {l : Launch} {dC : Nat → ClassId} {dI : Nat → Nat → Nat} {cg : Nat → ClassId} {kA : String → Nat → Nat} {ca : Nat → Nat} (hl0 : l.stackTraces = false) {M S1 : CS} {Ex : String} {a1 : Int32} (hf : tX10_caughtBy M a1 = some (Ex, S1)) : gThr l yX10_caughtBy cX10_caughtBy 2 (some .int) 4 (cΩ ca) (cP dC dI cg kA ca) (kR kTab kA) [.ref (ca 0), .int a1] M Ex S1 := gEntryT (by decide) cOK (Nat.le_of_ble_eq_true rfl) (fun p e s m args below meth c ls X hT hlk hP hS hl => 
  ktX10_caughtBy_0 X hT hlk hl0 (ccmp hP) hf hP hS (lv_sub hl [0, 1] rfl))
set_option maxRecDepth 10000 in
theorem ktX10_oathsOf_0 {Ex : String} {S1 : CS} {M : CS} {a1 : Int32} {H : Heap} {locs : List Loc} {ls : Array Slot} (X : gX p s m args c cX10_oathsOf 2 RX10 (kR kTab kA)) (hT : ∀ x ∈ c.exceptionTable.toList, False) (hlk : meth.locks = false) (hl0 : l.stackTraces = false) (hZ : cmpS (cΩ ca) s s.heap) (hf : tX10_oathsOf_0 M a1 = some (Ex, S1)) (hP : (cP dC dI cg kA ca) M s H) (hS : va_S (Fr (cΩ ca) s.heap.size) s.heap H locs) (hl : lv_has ls 2 [(0, .ref (ca 0)), (1, .int a1)]) : W p l e (rmL 4 1 6) s m args below meth c H locs 0 0 (gTQ below (cΩ ca) (cP dC dI cg kA ca) Ex S1 args s) (F0 m 0 ls []) := by
  have hx := X.hx
  have hb := X.hb
  have hown := X.hown
  have hts := X.hts
  rw [tX10_oathsOf_0] at hf
  refine lv_aload_n hx hb dX10_oathsOf_0 rfl (lv_at hl 0 rfl) ?_
  refine lv_iload_n hx hb dX10_oathsOf_1 rfl (lv_at hl 1 rfl) ?_
  cases ht : tX10_catAt M a1 with
  | some r =>
    rw [ht] at hf
    cases hf
    refine gCallVT X cOK rfl (wX10_catAt hl0 ht) gRX10_X10_catAt hdX10_catAt rfl ⟨by decide, by decide⟩ hP hS (cr_rec hP (rfl : kc 0 = 0) rfl cw0 rfl) hl.1 (Nat.le_of_ble_eq_true rfl) ⟨rfl, rfl⟩ dX10_oathsOf_2 (As := [.int a1]) (rest := []) rfl (fun H locs q9 ce hP hS hce hcv hcl => ?_)
    exact gOutT cOK X hT hlk hP hS hce hcv hcl (Nat.le_refl _) (Nat.le_refl _)
  | none =>
    rw [ht] at hf
    dsimp only at hf
    cases hf
theorem wX10_oathsOf {l : Launch} {dC : Nat → ClassId} {dI : Nat → Nat → Nat} {cg : Nat → ClassId} {kA : String → Nat → Nat} {ca : Nat → Nat} (hl0 : l.stackTraces = false) {M S1 : CS} {Ex : String} {a1 : Int32} (hf : tX10_oathsOf M a1 = some (Ex, S1)) : gThr l yX10_oathsOf cX10_oathsOf 2 (some .int) 4 (cΩ ca) (cP dC dI cg kA ca) (kR kTab kA) [.ref (ca 0), .int a1] M Ex S1 := gEntryT (by decide) cOK (Nat.le_of_ble_eq_true rfl) (fun p e s m args below meth c ls X hT hlk hP hS hl => 
  ktX10_oathsOf_0 X hT hlk hl0 (ccmp hP) hf hP hS (lv_sub hl [0, 1] rfl))
set_option maxRecDepth 10000 in
theorem ktX10_grainIn_0 {Ex : String} {S1 : CS} {M : CS} {a1 : Int32} {H : Heap} {locs : List Loc} {ls : Array Slot} (X : gX p s m args c cX10_grainIn 2 RX10 (kR kTab kA)) (hT : ∀ x ∈ c.exceptionTable.toList, False) (hlk : meth.locks = false) (hl0 : l.stackTraces = false) (hZ : cmpS (cΩ ca) s s.heap) (hf : tX10_grainIn_0 M a1 = some (Ex, S1)) (hP : (cP dC dI cg kA ca) M s H) (hS : va_S (Fr (cΩ ca) s.heap.size) s.heap H locs) (hl : lv_has ls 2 [(0, .ref (ca 0)), (1, .int a1)]) : W p l e (rmL 4 1 6) s m args below meth c H locs 0 0 (gTQ below (cΩ ca) (cP dC dI cg kA ca) Ex S1 args s) (F0 m 0 ls []) := by
  have hx := X.hx
  have hb := X.hb
  have hown := X.hown
  have hts := X.hts
  rw [tX10_grainIn_0] at hf
  refine lv_aload_n hx hb dX10_grainIn_0 rfl (lv_at hl 0 rfl) ?_
  refine lv_iload_n hx hb dX10_grainIn_1 rfl (lv_at hl 1 rfl) ?_
  cases ht : tX10_sackAt M a1 with
  | some r =>
    rw [ht] at hf
    cases hf
    refine gCallVT X cOK rfl (wX10_sackAt hl0 ht) gRX10_X10_sackAt hdX10_sackAt rfl ⟨by decide, by decide⟩ hP hS (cr_rec hP (rfl : kc 0 = 0) rfl cw0 rfl) hl.1 (Nat.le_of_ble_eq_true rfl) ⟨rfl, rfl⟩ dX10_grainIn_2 (As := [.int a1]) (rest := []) rfl (fun H locs q9 ce hP hS hce hcv hcl => ?_)
    exact gOutT cOK X hT hlk hP hS hce hcv hcl (Nat.le_refl _) (Nat.le_refl _)
  | none =>
    rw [ht] at hf
    dsimp only at hf
    cases hf
theorem wX10_grainIn {l : Launch} {dC : Nat → ClassId} {dI : Nat → Nat → Nat} {cg : Nat → ClassId} {kA : String → Nat → Nat} {ca : Nat → Nat} (hl0 : l.stackTraces = false) {M S1 : CS} {Ex : String} {a1 : Int32} (hf : tX10_grainIn M a1 = some (Ex, S1)) : gThr l yX10_grainIn cX10_grainIn 2 (some .int) 4 (cΩ ca) (cP dC dI cg kA ca) (kR kTab kA) [.ref (ca 0), .int a1] M Ex S1 := gEntryT (by decide) cOK (Nat.le_of_ble_eq_true rfl) (fun p e s m args below meth c ls X hT hlk hP hS hl => 
  ktX10_grainIn_0 X hT hlk hl0 (ccmp hP) hf hP hS (lv_sub hl [0, 1] rfl))
set_option maxRecDepth 10000 in
theorem ktX10_miceIn_0 {Ex : String} {S1 : CS} {M : CS} {a1 : Int32} {H : Heap} {locs : List Loc} {ls : Array Slot} (X : gX p s m args c cX10_miceIn 2 RX10 (kR kTab kA)) (hT : ∀ x ∈ c.exceptionTable.toList, False) (hlk : meth.locks = false) (hl0 : l.stackTraces = false) (hZ : cmpS (cΩ ca) s s.heap) (hf : tX10_miceIn_0 M a1 = some (Ex, S1)) (hP : (cP dC dI cg kA ca) M s H) (hS : va_S (Fr (cΩ ca) s.heap.size) s.heap H locs) (hl : lv_has ls 2 [(0, .ref (ca 0)), (1, .int a1)]) : W p l e (rmL 4 1 6) s m args below meth c H locs 0 0 (gTQ below (cΩ ca) (cP dC dI cg kA ca) Ex S1 args s) (F0 m 0 ls []) := by
  have hx := X.hx
  have hb := X.hb
  have hown := X.hown
  have hts := X.hts
  rw [tX10_miceIn_0] at hf
  refine lv_aload_n hx hb dX10_miceIn_0 rfl (lv_at hl 0 rfl) ?_
  refine lv_iload_n hx hb dX10_miceIn_1 rfl (lv_at hl 1 rfl) ?_
  cases ht : tX10_sackAt M a1 with
  | some r =>
    rw [ht] at hf
    cases hf
    refine gCallVT X cOK rfl (wX10_sackAt hl0 ht) gRX10_X10_sackAt hdX10_sackAt rfl ⟨by decide, by decide⟩ hP hS (cr_rec hP (rfl : kc 0 = 0) rfl cw0 rfl) hl.1 (Nat.le_of_ble_eq_true rfl) ⟨rfl, rfl⟩ dX10_miceIn_2 (As := [.int a1]) (rest := []) rfl (fun H locs q9 ce hP hS hce hcv hcl => ?_)
    exact gOutT cOK X hT hlk hP hS hce hcv hcl (Nat.le_refl _) (Nat.le_refl _)
  | none =>
    rw [ht] at hf
    dsimp only at hf
    cases hf
theorem wX10_miceIn {l : Launch} {dC : Nat → ClassId} {dI : Nat → Nat → Nat} {cg : Nat → ClassId} {kA : String → Nat → Nat} {ca : Nat → Nat} (hl0 : l.stackTraces = false) {M S1 : CS} {Ex : String} {a1 : Int32} (hf : tX10_miceIn M a1 = some (Ex, S1)) : gThr l yX10_miceIn cX10_miceIn 2 (some .int) 4 (cΩ ca) (cP dC dI cg kA ca) (kR kTab kA) [.ref (ca 0), .int a1] M Ex S1 := gEntryT (by decide) cOK (Nat.le_of_ble_eq_true rfl) (fun p e s m args below meth c ls X hT hlk hP hS hl => 
  ktX10_miceIn_0 X hT hlk hl0 (ccmp hP) hf hP hS (lv_sub hl [0, 1] rfl))
set_option maxRecDepth 10000 in
theorem ktX10_isOpen_0 {Ex : String} {S1 : CS} {M : CS} {a1 : Int32} {H : Heap} {locs : List Loc} {ls : Array Slot} (X : gX p s m args c cX10_isOpen 2 RX10 (kR kTab kA)) (hT : ∀ x ∈ c.exceptionTable.toList, False) (hlk : meth.locks = false) (hl0 : l.stackTraces = false) (hZ : cmpS (cΩ ca) s s.heap) (hf : tX10_isOpen_0 M a1 = some (Ex, S1)) (hP : (cP dC dI cg kA ca) M s H) (hS : va_S (Fr (cΩ ca) s.heap.size) s.heap H locs) (hl : lv_has ls 2 [(0, .ref (ca 0)), (1, .int a1)]) : W p l e (rmL 4 1 6) s m args below meth c H locs 0 0 (gTQ below (cΩ ca) (cP dC dI cg kA ca) Ex S1 args s) (F0 m 0 ls []) := by
  have hx := X.hx
  have hb := X.hb
  have hown := X.hown
  have hts := X.hts
  rw [tX10_isOpen_0] at hf
  refine lv_aload_n hx hb dX10_isOpen_0 rfl (lv_at hl 0 rfl) ?_
  refine lv_iload_n hx hb dX10_isOpen_1 rfl (lv_at hl 1 rfl) ?_
  cases ht : tX10_sackAt M a1 with
  | some r =>
    rw [ht] at hf
    cases hf
    refine gCallVT X cOK rfl (wX10_sackAt hl0 ht) gRX10_X10_sackAt hdX10_sackAt rfl ⟨by decide, by decide⟩ hP hS (cr_rec hP (rfl : kc 0 = 0) rfl cw0 rfl) hl.1 (Nat.le_of_ble_eq_true rfl) ⟨rfl, rfl⟩ dX10_isOpen_2 (As := [.int a1]) (rest := []) rfl (fun H locs q9 ce hP hS hce hcv hcl => ?_)
    exact gOutT cOK X hT hlk hP hS hce hcv hcl (Nat.le_refl _) (Nat.le_refl _)
  | none =>
    rw [ht] at hf
    dsimp only at hf
    cases hf
theorem wX10_isOpen {l : Launch} {dC : Nat → ClassId} {dI : Nat → Nat → Nat} {cg : Nat → ClassId} {kA : String → Nat → Nat} {ca : Nat → Nat} (hl0 : l.stackTraces = false) {M S1 : CS} {Ex : String} {a1 : Int32} (hf : tX10_isOpen M a1 = some (Ex, S1)) : gThr l yX10_isOpen cX10_isOpen 2 (some .boolean) 4 (cΩ ca) (cP dC dI cg kA ca) (kR kTab kA) [.ref (ca 0), .int a1] M Ex S1 := gEntryT (by decide) cOK (Nat.le_of_ble_eq_true rfl) (fun p e s m args below meth c ls X hT hlk hP hS hl => 
  ktX10_isOpen_0 X hT hlk hl0 (ccmp hP) hf hP hS (lv_sub hl [0, 1] rfl))
set_option maxRecDepth 10000 in
theorem ktX10_eatenFrom_0 {Ex : String} {S1 : CS} {M : CS} {a1 : Int32} {H : Heap} {locs : List Loc} {ls : Array Slot} (X : gX p s m args c cX10_eatenFrom 2 RX10 (kR kTab kA)) (hT : ∀ x ∈ c.exceptionTable.toList, False) (hlk : meth.locks = false) (hl0 : l.stackTraces = false) (hZ : cmpS (cΩ ca) s s.heap) (hf : tX10_eatenFrom_0 M a1 = some (Ex, S1)) (hP : (cP dC dI cg kA ca) M s H) (hS : va_S (Fr (cΩ ca) s.heap.size) s.heap H locs) (hl : lv_has ls 2 [(0, .ref (ca 0)), (1, .int a1)]) : W p l e (rmL 4 1 6) s m args below meth c H locs 0 0 (gTQ below (cΩ ca) (cP dC dI cg kA ca) Ex S1 args s) (F0 m 0 ls []) := by
  have hx := X.hx
  have hb := X.hb
  have hown := X.hown
  have hts := X.hts
  rw [tX10_eatenFrom_0] at hf
  refine lv_aload_n hx hb dX10_eatenFrom_0 rfl (lv_at hl 0 rfl) ?_
  refine lv_iload_n hx hb dX10_eatenFrom_1 rfl (lv_at hl 1 rfl) ?_
  cases ht : tX10_sackAt M a1 with
  | some r =>
    rw [ht] at hf
    cases hf
    refine gCallVT X cOK rfl (wX10_sackAt hl0 ht) gRX10_X10_sackAt hdX10_sackAt rfl ⟨by decide, by decide⟩ hP hS (cr_rec hP (rfl : kc 0 = 0) rfl cw0 rfl) hl.1 (Nat.le_of_ble_eq_true rfl) ⟨rfl, rfl⟩ dX10_eatenFrom_2 (As := [.int a1]) (rest := []) rfl (fun H locs q9 ce hP hS hce hcv hcl => ?_)
    exact gOutT cOK X hT hlk hP hS hce hcv hcl (Nat.le_refl _) (Nat.le_refl _)
  | none =>
    rw [ht] at hf
    dsimp only at hf
    cases hf
theorem wX10_eatenFrom {l : Launch} {dC : Nat → ClassId} {dI : Nat → Nat → Nat} {cg : Nat → ClassId} {kA : String → Nat → Nat} {ca : Nat → Nat} (hl0 : l.stackTraces = false) {M S1 : CS} {Ex : String} {a1 : Int32} (hf : tX10_eatenFrom M a1 = some (Ex, S1)) : gThr l yX10_eatenFrom cX10_eatenFrom 2 (some .int) 4 (cΩ ca) (cP dC dI cg kA ca) (kR kTab kA) [.ref (ca 0), .int a1] M Ex S1 := gEntryT (by decide) cOK (Nat.le_of_ble_eq_true rfl) (fun p e s m args below meth c ls X hT hlk hP hS hl => 
  ktX10_eatenFrom_0 X hT hlk hl0 (ccmp hP) hf hP hS (lv_sub hl [0, 1] rfl))
set_option maxRecDepth 10000 in
theorem ktX10_catOfShift_0 {Ex : String} {S1 : CS} {M : CS} {a1 : Int32} {H : Heap} {locs : List Loc} {ls : Array Slot} (X : gX p s m args c cX10_catOfShift 2 RX10 (kR kTab kA)) (hT : ∀ x ∈ c.exceptionTable.toList, False) (hlk : meth.locks = false) (hl0 : l.stackTraces = false) (hZ : cmpS (cΩ ca) s s.heap) (hf : tX10_catOfShift_0 M a1 = some (Ex, S1)) (hP : (cP dC dI cg kA ca) M s H) (hS : va_S (Fr (cΩ ca) s.heap.size) s.heap H locs) (hl : lv_has ls 2 [(0, .ref (ca 0)), (1, .int a1)]) : W p l e (rmL 4 1 6) s m args below meth c H locs 0 0 (gTQ below (cΩ ca) (cP dC dI cg kA ca) Ex S1 args s) (F0 m 0 ls []) := by
  have hx := X.hx
  have hb := X.hb
  have hown := X.hown
  have hts := X.hts
  rw [tX10_catOfShift_0] at hf
  refine lv_aload_n hx hb dX10_catOfShift_0 rfl (lv_at hl 0 rfl) ?_
  refine lv_iload_n hx hb dX10_catOfShift_1 rfl (lv_at hl 1 rfl) ?_
  cases ht : tX10_shiftAt M a1 with
  | some r =>
    rw [ht] at hf
    cases hf
    refine gCallVT X cOK rfl (wX10_shiftAt hl0 ht) gRX10_X10_shiftAt hdX10_shiftAt rfl ⟨by decide, by decide⟩ hP hS (cr_rec hP (rfl : kc 0 = 0) rfl cw0 rfl) hl.1 (Nat.le_of_ble_eq_true rfl) ⟨rfl, rfl⟩ dX10_catOfShift_2 (As := [.int a1]) (rest := []) rfl (fun H locs q9 ce hP hS hce hcv hcl => ?_)
    exact gOutT cOK X hT hlk hP hS hce hcv hcl (Nat.le_refl _) (Nat.le_refl _)
  | none =>
    rw [ht] at hf
    dsimp only at hf
    cases hf
theorem wX10_catOfShift {l : Launch} {dC : Nat → ClassId} {dI : Nat → Nat → Nat} {cg : Nat → ClassId} {kA : String → Nat → Nat} {ca : Nat → Nat} (hl0 : l.stackTraces = false) {M S1 : CS} {Ex : String} {a1 : Int32} (hf : tX10_catOfShift M a1 = some (Ex, S1)) : gThr l yX10_catOfShift cX10_catOfShift 2 (some .int) 4 (cΩ ca) (cP dC dI cg kA ca) (kR kTab kA) [.ref (ca 0), .int a1] M Ex S1 := gEntryT (by decide) cOK (Nat.le_of_ble_eq_true rfl) (fun p e s m args below meth c ls X hT hlk hP hS hl => 
  ktX10_catOfShift_0 X hT hlk hl0 (ccmp hP) hf hP hS (lv_sub hl [0, 1] rfl))
set_option maxRecDepth 10000 in
theorem ktX10_hoursOfShift_0 {Ex : String} {S1 : CS} {M : CS} {a1 : Int32} {H : Heap} {locs : List Loc} {ls : Array Slot} (X : gX p s m args c cX10_hoursOfShift 2 RX10 (kR kTab kA)) (hT : ∀ x ∈ c.exceptionTable.toList, False) (hlk : meth.locks = false) (hl0 : l.stackTraces = false) (hZ : cmpS (cΩ ca) s s.heap) (hf : tX10_hoursOfShift_0 M a1 = some (Ex, S1)) (hP : (cP dC dI cg kA ca) M s H) (hS : va_S (Fr (cΩ ca) s.heap.size) s.heap H locs) (hl : lv_has ls 2 [(0, .ref (ca 0)), (1, .int a1)]) : W p l e (rmL 4 1 6) s m args below meth c H locs 0 0 (gTQ below (cΩ ca) (cP dC dI cg kA ca) Ex S1 args s) (F0 m 0 ls []) := by
  have hx := X.hx
  have hb := X.hb
  have hown := X.hown
  have hts := X.hts
  rw [tX10_hoursOfShift_0] at hf
  refine lv_aload_n hx hb dX10_hoursOfShift_0 rfl (lv_at hl 0 rfl) ?_
  refine lv_iload_n hx hb dX10_hoursOfShift_1 rfl (lv_at hl 1 rfl) ?_
  cases ht : tX10_shiftAt M a1 with
  | some r =>
    rw [ht] at hf
    cases hf
    refine gCallVT X cOK rfl (wX10_shiftAt hl0 ht) gRX10_X10_shiftAt hdX10_shiftAt rfl ⟨by decide, by decide⟩ hP hS (cr_rec hP (rfl : kc 0 = 0) rfl cw0 rfl) hl.1 (Nat.le_of_ble_eq_true rfl) ⟨rfl, rfl⟩ dX10_hoursOfShift_2 (As := [.int a1]) (rest := []) rfl (fun H locs q9 ce hP hS hce hcv hcl => ?_)
    exact gOutT cOK X hT hlk hP hS hce hcv hcl (Nat.le_refl _) (Nat.le_refl _)
  | none =>
    rw [ht] at hf
    dsimp only at hf
    cases hf
theorem wX10_hoursOfShift {l : Launch} {dC : Nat → ClassId} {dI : Nat → Nat → Nat} {cg : Nat → ClassId} {kA : String → Nat → Nat} {ca : Nat → Nat} (hl0 : l.stackTraces = false) {M S1 : CS} {Ex : String} {a1 : Int32} (hf : tX10_hoursOfShift M a1 = some (Ex, S1)) : gThr l yX10_hoursOfShift cX10_hoursOfShift 2 (some .int) 4 (cΩ ca) (cP dC dI cg kA ca) (kR kTab kA) [.ref (ca 0), .int a1] M Ex S1 := gEntryT (by decide) cOK (Nat.le_of_ble_eq_true rfl) (fun p e s m args below meth c ls X hT hlk hP hS hl => 
  ktX10_hoursOfShift_0 X hT hlk hl0 (ccmp hP) hf hP hS (lv_sub hl [0, 1] rfl))
set_option maxRecDepth 10000 in
theorem ktX10_oathReason_0 {Ex : String} {S1 : CS} {M : CS} {a1 : Int32} {H : Heap} {locs : List Loc} {ls : Array Slot} (X : gX p s m args c cX10_oathReason 2 RX10 (kR kTab kA)) (hT : ∀ x ∈ c.exceptionTable.toList, False) (hlk : meth.locks = false) (hl0 : l.stackTraces = false) (hZ : cmpS (cΩ ca) s s.heap) (hf : tX10_oathReason_0 M a1 = some (Ex, S1)) (hP : (cP dC dI cg kA ca) M s H) (hS : va_S (Fr (cΩ ca) s.heap.size) s.heap H locs) (hl : lv_has ls 2 [(0, .ref (ca 0)), (1, .int a1)]) : W p l e (rmL 4 1 6) s m args below meth c H locs 0 0 (gTQ below (cΩ ca) (cP dC dI cg kA ca) Ex S1 args s) (F0 m 0 ls []) := by
  have hx := X.hx
  have hb := X.hb
  have hown := X.hown
  have hts := X.hts
  rw [tX10_oathReason_0] at hf
  refine lv_aload_n hx hb dX10_oathReason_0 rfl (lv_at hl 0 rfl) ?_
  refine lv_iload_n hx hb dX10_oathReason_1 rfl (lv_at hl 1 rfl) ?_
  cases ht : tX10_catAt M a1 with
  | some r =>
    rw [ht] at hf
    cases hf
    refine gCallVT X cOK rfl (wX10_catAt hl0 ht) gRX10_X10_catAt hdX10_catAt rfl ⟨by decide, by decide⟩ hP hS (cr_rec hP (rfl : kc 0 = 0) rfl cw0 rfl) hl.1 (Nat.le_of_ble_eq_true rfl) ⟨rfl, rfl⟩ dX10_oathReason_2 (As := [.int a1]) (rest := []) rfl (fun H locs q9 ce hP hS hce hcv hcl => ?_)
    exact gOutT cOK X hT hlk hP hS hce hcv hcl (Nat.le_refl _) (Nat.le_refl _)
  | none =>
    rw [ht] at hf
    dsimp only at hf
    cases hf
theorem wX10_oathReason {l : Launch} {dC : Nat → ClassId} {dI : Nat → Nat → Nat} {cg : Nat → ClassId} {kA : String → Nat → Nat} {ca : Nat → Nat} (hl0 : l.stackTraces = false) {M S1 : CS} {Ex : String} {a1 : Int32} (hf : tX10_oathReason M a1 = some (Ex, S1)) : gThr l yX10_oathReason cX10_oathReason 2 (some .int) 4 (cΩ ca) (cP dC dI cg kA ca) (kR kTab kA) [.ref (ca 0), .int a1] M Ex S1 := gEntryT (by decide) cOK (Nat.le_of_ble_eq_true rfl) (fun p e s m args below meth c ls X hT hlk hP hS hl => 
  ktX10_oathReason_0 X hT hlk hl0 (ccmp hP) hf hP hS (lv_sub hl [0, 1] rfl))
set_option maxRecDepth 10000 in
theorem ktX10_shareOf_0 {Ex : String} {S1 : CS} {M : CS} {a1 : Int32} {H : Heap} {locs : List Loc} {ls : Array Slot} (X : gX p s m args c cX10_shareOf 3 RX10 (kR kTab kA)) (hT : ∀ x ∈ c.exceptionTable.toList, False) (hlk : meth.locks = false) (hl0 : l.stackTraces = false) (hZ : cmpS (cΩ ca) s s.heap) (hf : tX10_shareOf_0 M a1 = some (Ex, S1)) (hP : (cP dC dI cg kA ca) M s H) (hS : va_S (Fr (cΩ ca) s.heap.size) s.heap H locs) (hl : lv_has ls 3 [(0, .ref (ca 0)), (1, .int a1)]) : W p l e (rmL 4 1 6) s m args below meth c H locs 0 0 (gTQ below (cΩ ca) (cP dC dI cg kA ca) Ex S1 args s) (F0 m 0 ls []) := by
  have hx := X.hx
  have hb := X.hb
  have hown := X.hown
  have hts := X.hts
  rw [tX10_shareOf_0] at hf
  refine lv_aload_n hx hb dX10_shareOf_0 rfl (lv_at hl 0 rfl) ?_
  refine lv_iload_n hx hb dX10_shareOf_1 rfl (lv_at hl 1 rfl) ?_
  cases ht : tX10_catAt M a1 with
  | some r =>
    rw [ht] at hf
    cases hf
    refine gCallVT X cOK rfl (wX10_catAt hl0 ht) gRX10_X10_catAt hdX10_catAt rfl ⟨by decide, by decide⟩ hP hS (cr_rec hP (rfl : kc 0 = 0) rfl cw0 rfl) hl.1 (Nat.le_of_ble_eq_true rfl) ⟨rfl, rfl⟩ dX10_shareOf_2 (As := [.int a1]) (rest := []) rfl (fun H locs q9 ce hP hS hce hcv hcl => ?_)
    exact gOutT cOK X hT hlk hP hS hce hcv hcl (Nat.le_refl _) (Nat.le_refl _)
  | none =>
    rw [ht] at hf
    dsimp only at hf
    cases hf
theorem wX10_shareOf {l : Launch} {dC : Nat → ClassId} {dI : Nat → Nat → Nat} {cg : Nat → ClassId} {kA : String → Nat → Nat} {ca : Nat → Nat} (hl0 : l.stackTraces = false) {M S1 : CS} {Ex : String} {a1 : Int32} (hf : tX10_shareOf M a1 = some (Ex, S1)) : gThr l yX10_shareOf cX10_shareOf 3 (some .float) 4 (cΩ ca) (cP dC dI cg kA ca) (kR kTab kA) [.ref (ca 0), .int a1] M Ex S1 := gEntryT (by decide) cOK (Nat.le_of_ble_eq_true rfl) (fun p e s m args below meth c ls X hT hlk hP hS hl => 
  ktX10_shareOf_0 X hT hlk hl0 (ccmp hP) hf hP hS (lv_sub hl [0, 1] rfl))
set_option maxRecDepth 10000 in
theorem ktX10_hoursUntilEmpty_0 {Ex : String} {S1 : CS} {M : CS} {a1 : Int32} {H : Heap} {locs : List Loc} {ls : Array Slot} (X : gX p s m args c cX10_hoursUntilEmpty 3 RX10 (kR kTab kA)) (hT : ∀ x ∈ c.exceptionTable.toList, False) (hlk : meth.locks = false) (hl0 : l.stackTraces = false) (hZ : cmpS (cΩ ca) s s.heap) (hf : tX10_hoursUntilEmpty_0 M a1 = some (Ex, S1)) (hP : (cP dC dI cg kA ca) M s H) (hS : va_S (Fr (cΩ ca) s.heap.size) s.heap H locs) (hl : lv_has ls 3 [(0, .ref (ca 0)), (1, .int a1)]) : W p l e (rmL 5 1 6) s m args below meth c H locs 0 0 (gTQ below (cΩ ca) (cP dC dI cg kA ca) Ex S1 args s) (F0 m 0 ls []) := by
  have hx := X.hx
  have hb := X.hb
  have hown := X.hown
  have hts := X.hts
  rw [tX10_hoursUntilEmpty_0] at hf
  refine lv_aload_n hx hb dX10_hoursUntilEmpty_0 rfl (lv_at hl 0 rfl) ?_
  refine lv_iload_n hx hb dX10_hoursUntilEmpty_1 rfl (lv_at hl 1 rfl) ?_
  cases ht : tX10_sackAt M a1 with
  | some r =>
    rw [ht] at hf
    cases hf
    refine gCallVT X cOK rfl (wX10_sackAt hl0 ht) gRX10_X10_sackAt hdX10_sackAt rfl ⟨by decide, by decide⟩ hP hS (cr_rec hP (rfl : kc 0 = 0) rfl cw0 rfl) hl.1 (Nat.le_of_ble_eq_true rfl) ⟨rfl, rfl⟩ dX10_hoursUntilEmpty_2 (As := [.int a1]) (rest := []) rfl (fun H locs q9 ce hP hS hce hcv hcl => ?_)
    exact gOutT cOK X hT hlk hP hS hce hcv hcl (Nat.le_refl _) (Nat.le_refl _)
  | none =>
    rw [ht] at hf
    dsimp only at hf
    cases hf
theorem wX10_hoursUntilEmpty {l : Launch} {dC : Nat → ClassId} {dI : Nat → Nat → Nat} {cg : Nat → ClassId} {kA : String → Nat → Nat} {ca : Nat → Nat} (hl0 : l.stackTraces = false) {M S1 : CS} {Ex : String} {a1 : Int32} (hf : tX10_hoursUntilEmpty M a1 = some (Ex, S1)) : gThr l yX10_hoursUntilEmpty cX10_hoursUntilEmpty 3 (some .int) 5 (cΩ ca) (cP dC dI cg kA ca) (kR kTab kA) [.ref (ca 0), .int a1] M Ex S1 := gEntryT (by decide) cOK (Nat.le_of_ble_eq_true rfl) (fun p e s m args below meth c ls X hT hlk hP hS hl => 
  ktX10_hoursUntilEmpty_0 X hT hlk hl0 (ccmp hP) hf hP hS (lv_sub hl [0, 1] rfl))
set_option maxRecDepth 10000 in
theorem ktX10_catNameByte_0 {Ex : String} {S1 : CS} {M : CS} {a1 : Int32} {a2 : Int32} {H : Heap} {locs : List Loc} {ls : Array Slot} (X : gX p s m args c cX10_catNameByte 3 RX10 (kR kTab kA)) (hT : ∀ x ∈ c.exceptionTable.toList, False) (hlk : meth.locks = false) (hl0 : l.stackTraces = false) (hZ : cmpS (cΩ ca) s s.heap) (hf : tX10_catNameByte_0 M a1 a2 = some (Ex, S1)) (hP : (cP dC dI cg kA ca) M s H) (hS : va_S (Fr (cΩ ca) s.heap.size) s.heap H locs) (hl : lv_has ls 3 [(0, .ref (ca 0)), (1, .int a1), (2, .int a2)]) : W p l e (rmL 6 1 6) s m args below meth c H locs 0 0 (gTQ below (cΩ ca) (cP dC dI cg kA ca) Ex S1 args s) (F0 m 0 ls []) := by
  have hx := X.hx
  have hb := X.hb
  have hown := X.hown
  have hts := X.hts
  rw [tX10_catNameByte_0] at hf
  refine lv_aload_n hx hb dX10_catNameByte_0 rfl (lv_at hl 0 rfl) ?_
  refine lv_iload_n hx hb dX10_catNameByte_1 rfl (lv_at hl 1 rfl) ?_
  cases ht : tX10_catAt M a1 with
  | some r =>
    rw [ht] at hf
    cases hf
    refine gCallVT X cOK rfl (wX10_catAt hl0 ht) gRX10_X10_catAt hdX10_catAt rfl ⟨by decide, by decide⟩ hP hS (cr_rec hP (rfl : kc 0 = 0) rfl cw0 rfl) hl.1 (Nat.le_of_ble_eq_true rfl) ⟨rfl, rfl⟩ dX10_catNameByte_2 (As := [.int a1]) (rest := []) rfl (fun H locs q9 ce hP hS hce hcv hcl => ?_)
    exact gOutT cOK X hT hlk hP hS hce hcv hcl (Nat.le_refl _) (Nat.le_refl _)
  | none =>
    rw [ht] at hf
    dsimp only at hf
    cases hf
theorem wX10_catNameByte {l : Launch} {dC : Nat → ClassId} {dI : Nat → Nat → Nat} {cg : Nat → ClassId} {kA : String → Nat → Nat} {ca : Nat → Nat} (hl0 : l.stackTraces = false) {M S1 : CS} {Ex : String} {a1 : Int32} {a2 : Int32} (hf : tX10_catNameByte M a1 a2 = some (Ex, S1)) : gThr l yX10_catNameByte cX10_catNameByte 3 (some .int) 6 (cΩ ca) (cP dC dI cg kA ca) (kR kTab kA) [.ref (ca 0), .int a1, .int a2] M Ex S1 := gEntryT (by decide) cOK (Nat.le_of_ble_eq_true rfl) (fun p e s m args below meth c ls X hT hlk hP hS hl => 
  ktX10_catNameByte_0 X hT hlk hl0 (ccmp hP) hf hP hS (lv_sub hl [0, 1, 2] rfl))
set_option maxRecDepth 10000 in
theorem ktX10_sackNameByte_0 {Ex : String} {S1 : CS} {M : CS} {a1 : Int32} {a2 : Int32} {H : Heap} {locs : List Loc} {ls : Array Slot} (X : gX p s m args c cX10_sackNameByte 3 RX10 (kR kTab kA)) (hT : ∀ x ∈ c.exceptionTable.toList, False) (hlk : meth.locks = false) (hl0 : l.stackTraces = false) (hZ : cmpS (cΩ ca) s s.heap) (hf : tX10_sackNameByte_0 M a1 a2 = some (Ex, S1)) (hP : (cP dC dI cg kA ca) M s H) (hS : va_S (Fr (cΩ ca) s.heap.size) s.heap H locs) (hl : lv_has ls 3 [(0, .ref (ca 0)), (1, .int a1), (2, .int a2)]) : W p l e (rmL 6 1 6) s m args below meth c H locs 0 0 (gTQ below (cΩ ca) (cP dC dI cg kA ca) Ex S1 args s) (F0 m 0 ls []) := by
  have hx := X.hx
  have hb := X.hb
  have hown := X.hown
  have hts := X.hts
  rw [tX10_sackNameByte_0] at hf
  refine lv_aload_n hx hb dX10_sackNameByte_0 rfl (lv_at hl 0 rfl) ?_
  refine lv_iload_n hx hb dX10_sackNameByte_1 rfl (lv_at hl 1 rfl) ?_
  cases ht : tX10_sackAt M a1 with
  | some r =>
    rw [ht] at hf
    cases hf
    refine gCallVT X cOK rfl (wX10_sackAt hl0 ht) gRX10_X10_sackAt hdX10_sackAt rfl ⟨by decide, by decide⟩ hP hS (cr_rec hP (rfl : kc 0 = 0) rfl cw0 rfl) hl.1 (Nat.le_of_ble_eq_true rfl) ⟨rfl, rfl⟩ dX10_sackNameByte_2 (As := [.int a1]) (rest := []) rfl (fun H locs q9 ce hP hS hce hcv hcl => ?_)
    exact gOutT cOK X hT hlk hP hS hce hcv hcl (Nat.le_refl _) (Nat.le_refl _)
  | none =>
    rw [ht] at hf
    dsimp only at hf
    cases hf
theorem wX10_sackNameByte {l : Launch} {dC : Nat → ClassId} {dI : Nat → Nat → Nat} {cg : Nat → ClassId} {kA : String → Nat → Nat} {ca : Nat → Nat} (hl0 : l.stackTraces = false) {M S1 : CS} {Ex : String} {a1 : Int32} {a2 : Int32} (hf : tX10_sackNameByte M a1 a2 = some (Ex, S1)) : gThr l yX10_sackNameByte cX10_sackNameByte 3 (some .int) 6 (cΩ ca) (cP dC dI cg kA ca) (kR kTab kA) [.ref (ca 0), .int a1, .int a2] M Ex S1 := gEntryT (by decide) cOK (Nat.le_of_ble_eq_true rfl) (fun p e s m args below meth c ls X hT hlk hP hS hl => 
  ktX10_sackNameByte_0 X hT hlk hl0 (ccmp hP) hf hP hS (lv_sub hl [0, 1, 2] rfl))
set_option maxRecDepth 10000 in
theorem ktX10_predict_0 {Ex : String} {S1 : CS} {M : CS} {a1 : Int32} {H : Heap} {locs : List Loc} {ls : Array Slot} (X : gX p s m args c cX10_predict 2 RX10 (kR kTab kA)) (hT : ∀ x ∈ c.exceptionTable.toList, False) (hlk : meth.locks = false) (hl0 : l.stackTraces = false) (hZ : cmpS (cΩ ca) s s.heap) (hf : tX10_predict_0 M a1 = some (Ex, S1)) (hP : (cP dC dI cg kA ca) M s H) (hS : va_S (Fr (cΩ ca) s.heap.size) s.heap H locs) (hl : lv_has ls 2 [(0, .ref (ca 0)), (1, .int a1)]) : W p l e (rmL 6 1 6) s m args below meth c H locs 0 0 (gTQ below (cΩ ca) (cP dC dI cg kA ca) Ex S1 args s) (F0 m 0 ls []) := by
  have hx := X.hx
  have hb := X.hb
  have hown := X.hown
  have hts := X.hts
  rw [tX10_predict_0] at hf
  refine lv_iload_n hx hb dX10_predict_0 rfl (lv_at hl 1 rfl) ?_
  refine lv_iconst (v := 0) hx hb dX10_predict_1 (by decide) ?_
  refine lv_sipush (v := 200) hx hb dX10_predict_2 (by decide) ?_
  cases ht : tX10_requireRange M a1 0 200 with
  | some r =>
    rw [ht] at hf
    cases hf
    refine gCallST X cOK rfl (wX10_requireRange hl0 ht) gRX10_X10_requireRange hdX10_requireRange rfl ⟨by decide, by decide⟩ hP hS hl.1 (Nat.le_of_ble_eq_true rfl) ⟨rfl, rfl⟩ dX10_predict_5 (As := [.int a1, .int 0, .int 200]) (rest := []) rfl (fun H locs q9 ce hP hS hce hcv hcl => ?_)
    exact gOutT cOK X hT hlk hP hS hce hcv hcl (Nat.le_refl _) (Nat.le_refl _)
  | none =>
    rw [ht] at hf
    dsimp only at hf
    cases hf
theorem wX10_predict {l : Launch} {dC : Nat → ClassId} {dI : Nat → Nat → Nat} {cg : Nat → ClassId} {kA : String → Nat → Nat} {ca : Nat → Nat} (hl0 : l.stackTraces = false) {M S1 : CS} {Ex : String} {a1 : Int32} (hf : tX10_predict M a1 = some (Ex, S1)) : gThr l yX10_predict cX10_predict 2 none 6 (cΩ ca) (cP dC dI cg kA ca) (kR kTab kA) [.ref (ca 0), .int a1] M Ex S1 := gEntryT (by decide) cOK (Nat.le_of_ble_eq_true rfl) (fun p e s m args below meth c ls X hT hlk hP hS hl => 
  ktX10_predict_0 X hT hlk hl0 (ccmp hP) hf hP hS (lv_sub hl [0, 1] rfl))
set_option maxRecDepth 10000 in
theorem ktX10_miceAfter_5 {Ex : String} {S1 : CS} {M : CS} {z0 : Nat} {x1 : Int32} {x2 : Int32} {H : Heap} {locs : List Loc} {ls : Array Slot} (X : gX p s m args c cX10_miceAfter 3 RX10 (kR kTab kA)) (hT : ∀ x ∈ c.exceptionTable.toList, False) (hlk : meth.locks = false) (hl0 : l.stackTraces = false) (hZ : cmpS (cΩ ca) s s.heap) (hkz0 : kc z0 = 19) (hf : tX10_miceAfter_5 M z0 x1 x2 = some (Ex, S1)) (hP : (cP dC dI cg kA ca) M s H) (hS : va_S (Fr (cΩ ca) s.heap.size) s.heap H locs) (hl : lv_has ls 3 [(0, .ref (ca 0)), (1, .int x1), (2, .int x2)]) : W p l e (rmL 7 1 6) s m args below meth c H locs 0 0 (gTQ below (cΩ ca) (cP dC dI cg kA ca) Ex S1 args s) (F0 m 5 ls [.ref (ca z0)]) := by
  have hx := X.hx
  have hb := X.hb
  have hown := X.hown
  have hts := X.hts
  rw [tX10_miceAfter_5] at hf
  refine lv_pop hx hb dX10_miceAfter_5 rfl ?_
  refine lv_aload_n hx hb dX10_miceAfter_6 rfl (lv_at hl 0 rfl) ?_
  refine lv_iload_n hx hb dX10_miceAfter_7 rfl (lv_at hl 2 rfl) ?_
  cases ht : tX10_predict M x2 with
  | some r =>
    rw [ht] at hf
    cases hf
    refine gCallVT X cOK rfl (wX10_predict hl0 ht) gRX10_X10_predict hdX10_predict rfl ⟨by decide, by decide⟩ hP hS (cr_rec hP (rfl : kc 0 = 0) rfl cw0 rfl) hl.1 (Nat.le_of_ble_eq_true rfl) ⟨rfl, rfl⟩ dX10_miceAfter_8 (As := [.int x2]) (rest := []) rfl (fun H locs q9 ce hP hS hce hcv hcl => ?_)
    exact gOutT cOK X hT hlk hP hS hce hcv hcl (Nat.le_refl _) (Nat.le_refl _)
  | none =>
    rw [ht] at hf
    dsimp only at hf
    cases hf
set_option maxRecDepth 10000 in
theorem ktX10_miceAfter_0 {Ex : String} {S1 : CS} {M : CS} {a1 : Int32} {a2 : Int32} {H : Heap} {locs : List Loc} {ls : Array Slot} (X : gX p s m args c cX10_miceAfter 3 RX10 (kR kTab kA)) (hT : ∀ x ∈ c.exceptionTable.toList, False) (hlk : meth.locks = false) (hl0 : l.stackTraces = false) (hZ : cmpS (cΩ ca) s s.heap) (hf : tX10_miceAfter_0 M a1 a2 = some (Ex, S1)) (hP : (cP dC dI cg kA ca) M s H) (hS : va_S (Fr (cΩ ca) s.heap.size) s.heap H locs) (hl : lv_has ls 3 [(0, .ref (ca 0)), (1, .int a1), (2, .int a2)]) : W p l e (rmL 7 1 6) s m args below meth c H locs 0 0 (gTQ below (cΩ ca) (cP dC dI cg kA ca) Ex S1 args s) (F0 m 0 ls []) := by
  have hx := X.hx
  have hb := X.hb
  have hown := X.hown
  have hts := X.hts
  rw [tX10_miceAfter_0] at hf
  refine lv_aload_n hx hb dX10_miceAfter_0 rfl (lv_at hl 0 rfl) ?_
  refine lv_iload_n hx hb dX10_miceAfter_1 rfl (lv_at hl 1 rfl) ?_
  cases ht : tX10_sackAt M a1 with
  | some r =>
    rw [ht] at hf
    cases hf
    refine gCallVT X cOK rfl (wX10_sackAt hl0 ht) gRX10_X10_sackAt hdX10_sackAt rfl ⟨by decide, by decide⟩ hP hS (cr_rec hP (rfl : kc 0 = 0) rfl cw0 rfl) hl.1 (Nat.le_of_ble_eq_true rfl) ⟨rfl, rfl⟩ dX10_miceAfter_2 (As := [.int a1]) (rest := []) rfl (fun H locs q9 ce hP hS hce hcv hcl => ?_)
    exact gOutT cOK X hT hlk hP hS hce hcv hcl (Nat.le_refl _) (Nat.le_refl _)
  | none =>
    rw [ht] at hf
    dsimp only at hf
    obtain ⟨q, hc, hf⟩ := bd hf
    refine gCallVP X rfl (vX10_sackAt hc) gRX10_X10_sackAt hdX10_sackAt rfl ⟨by decide, by decide⟩ (gB_blind cOK) (gB_at cOK X hP) (cr_rec hP (rfl : kc 0 = 0) rfl cw0 rfl) hl.1 (Nat.le_of_ble_eq_true rfl) ⟨Nat.zero_le _, Nat.zero_le _⟩ dX10_miceAfter_2 (As := [.int a1]) (rest := []) rfl ?_
    exact ktX10_miceAfter_5 X hT hlk hl0 hZ (kkX10_sackAt hc) hf hP hS (lv_sub hl [0, 1, 2] rfl)
theorem wX10_miceAfter {l : Launch} {dC : Nat → ClassId} {dI : Nat → Nat → Nat} {cg : Nat → ClassId} {kA : String → Nat → Nat} {ca : Nat → Nat} (hl0 : l.stackTraces = false) {M S1 : CS} {Ex : String} {a1 : Int32} {a2 : Int32} (hf : tX10_miceAfter M a1 a2 = some (Ex, S1)) : gThr l yX10_miceAfter cX10_miceAfter 3 (some .int) 7 (cΩ ca) (cP dC dI cg kA ca) (kR kTab kA) [.ref (ca 0), .int a1, .int a2] M Ex S1 := gEntryT (by decide) cOK (Nat.le_of_ble_eq_true rfl) (fun p e s m args below meth c ls X hT hlk hP hS hl => 
  ktX10_miceAfter_0 X hT hlk hl0 (ccmp hP) hf hP hS (lv_sub hl [0, 1, 2] rfl))
set_option maxRecDepth 10000 in
theorem ktX10_grainAfter_5 {Ex : String} {S1 : CS} {M : CS} {z0 : Nat} {x1 : Int32} {x2 : Int32} {H : Heap} {locs : List Loc} {ls : Array Slot} (X : gX p s m args c cX10_grainAfter 3 RX10 (kR kTab kA)) (hT : ∀ x ∈ c.exceptionTable.toList, False) (hlk : meth.locks = false) (hl0 : l.stackTraces = false) (hZ : cmpS (cΩ ca) s s.heap) (hkz0 : kc z0 = 19) (hf : tX10_grainAfter_5 M z0 x1 x2 = some (Ex, S1)) (hP : (cP dC dI cg kA ca) M s H) (hS : va_S (Fr (cΩ ca) s.heap.size) s.heap H locs) (hl : lv_has ls 3 [(0, .ref (ca 0)), (1, .int x1), (2, .int x2)]) : W p l e (rmL 7 1 6) s m args below meth c H locs 0 0 (gTQ below (cΩ ca) (cP dC dI cg kA ca) Ex S1 args s) (F0 m 5 ls [.ref (ca z0)]) := by
  have hx := X.hx
  have hb := X.hb
  have hown := X.hown
  have hts := X.hts
  rw [tX10_grainAfter_5] at hf
  refine lv_pop hx hb dX10_grainAfter_5 rfl ?_
  refine lv_aload_n hx hb dX10_grainAfter_6 rfl (lv_at hl 0 rfl) ?_
  refine lv_iload_n hx hb dX10_grainAfter_7 rfl (lv_at hl 2 rfl) ?_
  cases ht : tX10_predict M x2 with
  | some r =>
    rw [ht] at hf
    cases hf
    refine gCallVT X cOK rfl (wX10_predict hl0 ht) gRX10_X10_predict hdX10_predict rfl ⟨by decide, by decide⟩ hP hS (cr_rec hP (rfl : kc 0 = 0) rfl cw0 rfl) hl.1 (Nat.le_of_ble_eq_true rfl) ⟨rfl, rfl⟩ dX10_grainAfter_8 (As := [.int x2]) (rest := []) rfl (fun H locs q9 ce hP hS hce hcv hcl => ?_)
    exact gOutT cOK X hT hlk hP hS hce hcv hcl (Nat.le_refl _) (Nat.le_refl _)
  | none =>
    rw [ht] at hf
    dsimp only at hf
    cases hf
set_option maxRecDepth 10000 in
theorem ktX10_grainAfter_0 {Ex : String} {S1 : CS} {M : CS} {a1 : Int32} {a2 : Int32} {H : Heap} {locs : List Loc} {ls : Array Slot} (X : gX p s m args c cX10_grainAfter 3 RX10 (kR kTab kA)) (hT : ∀ x ∈ c.exceptionTable.toList, False) (hlk : meth.locks = false) (hl0 : l.stackTraces = false) (hZ : cmpS (cΩ ca) s s.heap) (hf : tX10_grainAfter_0 M a1 a2 = some (Ex, S1)) (hP : (cP dC dI cg kA ca) M s H) (hS : va_S (Fr (cΩ ca) s.heap.size) s.heap H locs) (hl : lv_has ls 3 [(0, .ref (ca 0)), (1, .int a1), (2, .int a2)]) : W p l e (rmL 7 1 6) s m args below meth c H locs 0 0 (gTQ below (cΩ ca) (cP dC dI cg kA ca) Ex S1 args s) (F0 m 0 ls []) := by
  have hx := X.hx
  have hb := X.hb
  have hown := X.hown
  have hts := X.hts
  rw [tX10_grainAfter_0] at hf
  refine lv_aload_n hx hb dX10_grainAfter_0 rfl (lv_at hl 0 rfl) ?_
  refine lv_iload_n hx hb dX10_grainAfter_1 rfl (lv_at hl 1 rfl) ?_
  cases ht : tX10_sackAt M a1 with
  | some r =>
    rw [ht] at hf
    cases hf
    refine gCallVT X cOK rfl (wX10_sackAt hl0 ht) gRX10_X10_sackAt hdX10_sackAt rfl ⟨by decide, by decide⟩ hP hS (cr_rec hP (rfl : kc 0 = 0) rfl cw0 rfl) hl.1 (Nat.le_of_ble_eq_true rfl) ⟨rfl, rfl⟩ dX10_grainAfter_2 (As := [.int a1]) (rest := []) rfl (fun H locs q9 ce hP hS hce hcv hcl => ?_)
    exact gOutT cOK X hT hlk hP hS hce hcv hcl (Nat.le_refl _) (Nat.le_refl _)
  | none =>
    rw [ht] at hf
    dsimp only at hf
    obtain ⟨q, hc, hf⟩ := bd hf
    refine gCallVP X rfl (vX10_sackAt hc) gRX10_X10_sackAt hdX10_sackAt rfl ⟨by decide, by decide⟩ (gB_blind cOK) (gB_at cOK X hP) (cr_rec hP (rfl : kc 0 = 0) rfl cw0 rfl) hl.1 (Nat.le_of_ble_eq_true rfl) ⟨Nat.zero_le _, Nat.zero_le _⟩ dX10_grainAfter_2 (As := [.int a1]) (rest := []) rfl ?_
    exact ktX10_grainAfter_5 X hT hlk hl0 hZ (kkX10_sackAt hc) hf hP hS (lv_sub hl [0, 1, 2] rfl)
theorem wX10_grainAfter {l : Launch} {dC : Nat → ClassId} {dI : Nat → Nat → Nat} {cg : Nat → ClassId} {kA : String → Nat → Nat} {ca : Nat → Nat} (hl0 : l.stackTraces = false) {M S1 : CS} {Ex : String} {a1 : Int32} {a2 : Int32} (hf : tX10_grainAfter M a1 a2 = some (Ex, S1)) : gThr l yX10_grainAfter cX10_grainAfter 3 (some .int) 7 (cΩ ca) (cP dC dI cg kA ca) (kR kTab kA) [.ref (ca 0), .int a1, .int a2] M Ex S1 := gEntryT (by decide) cOK (Nat.le_of_ble_eq_true rfl) (fun p e s m args below meth c ls X hT hlk hP hS hl => 
  ktX10_grainAfter_0 X hT hlk hl0 (ccmp hP) hf hP hS (lv_sub hl [0, 1, 2] rfl))
set_option maxRecDepth 10000 in
theorem ktX10_swornAfter_0 {Ex : String} {S1 : CS} {M : CS} {a1 : Int32} {H : Heap} {locs : List Loc} {ls : Array Slot} (X : gX p s m args c cX10_swornAfter 2 RX10 (kR kTab kA)) (hT : ∀ x ∈ c.exceptionTable.toList, False) (hlk : meth.locks = false) (hl0 : l.stackTraces = false) (hZ : cmpS (cΩ ca) s s.heap) (hf : tX10_swornAfter_0 M a1 = some (Ex, S1)) (hP : (cP dC dI cg kA ca) M s H) (hS : va_S (Fr (cΩ ca) s.heap.size) s.heap H locs) (hl : lv_has ls 2 [(0, .ref (ca 0)), (1, .int a1)]) : W p l e (rmL 7 1 6) s m args below meth c H locs 0 0 (gTQ below (cΩ ca) (cP dC dI cg kA ca) Ex S1 args s) (F0 m 0 ls []) := by
  have hx := X.hx
  have hb := X.hb
  have hown := X.hown
  have hts := X.hts
  rw [tX10_swornAfter_0] at hf
  refine lv_aload_n hx hb dX10_swornAfter_0 rfl (lv_at hl 0 rfl) ?_
  refine lv_iload_n hx hb dX10_swornAfter_1 rfl (lv_at hl 1 rfl) ?_
  cases ht : tX10_predict M a1 with
  | some r =>
    rw [ht] at hf
    cases hf
    refine gCallVT X cOK rfl (wX10_predict hl0 ht) gRX10_X10_predict hdX10_predict rfl ⟨by decide, by decide⟩ hP hS (cr_rec hP (rfl : kc 0 = 0) rfl cw0 rfl) hl.1 (Nat.le_of_ble_eq_true rfl) ⟨rfl, rfl⟩ dX10_swornAfter_2 (As := [.int a1]) (rest := []) rfl (fun H locs q9 ce hP hS hce hcv hcl => ?_)
    exact gOutT cOK X hT hlk hP hS hce hcv hcl (Nat.le_refl _) (Nat.le_refl _)
  | none =>
    rw [ht] at hf
    dsimp only at hf
    cases hf
theorem wX10_swornAfter {l : Launch} {dC : Nat → ClassId} {dI : Nat → Nat → Nat} {cg : Nat → ClassId} {kA : String → Nat → Nat} {ca : Nat → Nat} (hl0 : l.stackTraces = false) {M S1 : CS} {Ex : String} {a1 : Int32} (hf : tX10_swornAfter M a1 = some (Ex, S1)) : gThr l yX10_swornAfter cX10_swornAfter 2 (some .int) 7 (cΩ ca) (cP dC dI cg kA ca) (kR kTab kA) [.ref (ca 0), .int a1] M Ex S1 := gEntryT (by decide) cOK (Nat.le_of_ble_eq_true rfl) (fun p e s m args below meth c ls X hT hlk hP hS hl => 
  ktX10_swornAfter_0 X hT hlk hl0 (ccmp hP) hf hP hS (lv_sub hl [0, 1] rfl))
set_option maxRecDepth 10000 in
theorem ktX10_caughtWithin_0 {Ex : String} {S1 : CS} {M : CS} {a1 : Int32} {H : Heap} {locs : List Loc} {ls : Array Slot} (X : gX p s m args c cX10_caughtWithin 2 RX10 (kR kTab kA)) (hT : ∀ x ∈ c.exceptionTable.toList, False) (hlk : meth.locks = false) (hl0 : l.stackTraces = false) (hZ : cmpS (cΩ ca) s s.heap) (hf : tX10_caughtWithin_0 M a1 = some (Ex, S1)) (hP : (cP dC dI cg kA ca) M s H) (hS : va_S (Fr (cΩ ca) s.heap.size) s.heap H locs) (hl : lv_has ls 2 [(0, .ref (ca 0)), (1, .int a1)]) : W p l e (rmL 7 1 6) s m args below meth c H locs 0 0 (gTQ below (cΩ ca) (cP dC dI cg kA ca) Ex S1 args s) (F0 m 0 ls []) := by
  have hx := X.hx
  have hb := X.hb
  have hown := X.hown
  have hts := X.hts
  rw [tX10_caughtWithin_0] at hf
  refine lv_aload_n hx hb dX10_caughtWithin_0 rfl (lv_at hl 0 rfl) ?_
  refine lv_iload_n hx hb dX10_caughtWithin_1 rfl (lv_at hl 1 rfl) ?_
  cases ht : tX10_predict M a1 with
  | some r =>
    rw [ht] at hf
    cases hf
    refine gCallVT X cOK rfl (wX10_predict hl0 ht) gRX10_X10_predict hdX10_predict rfl ⟨by decide, by decide⟩ hP hS (cr_rec hP (rfl : kc 0 = 0) rfl cw0 rfl) hl.1 (Nat.le_of_ble_eq_true rfl) ⟨rfl, rfl⟩ dX10_caughtWithin_2 (As := [.int a1]) (rest := []) rfl (fun H locs q9 ce hP hS hce hcv hcl => ?_)
    exact gOutT cOK X hT hlk hP hS hce hcv hcl (Nat.le_refl _) (Nat.le_refl _)
  | none =>
    rw [ht] at hf
    dsimp only at hf
    cases hf
theorem wX10_caughtWithin {l : Launch} {dC : Nat → ClassId} {dI : Nat → Nat → Nat} {cg : Nat → ClassId} {kA : String → Nat → Nat} {ca : Nat → Nat} (hl0 : l.stackTraces = false) {M S1 : CS} {Ex : String} {a1 : Int32} (hf : tX10_caughtWithin M a1 = some (Ex, S1)) : gThr l yX10_caughtWithin cX10_caughtWithin 2 (some .int) 7 (cΩ ca) (cP dC dI cg kA ca) (kR kTab kA) [.ref (ca 0), .int a1] M Ex S1 := gEntryT (by decide) cOK (Nat.le_of_ble_eq_true rfl) (fun p e s m args below meth c ls X hT hlk hP hS hl => 
  ktX10_caughtWithin_0 X hT hlk hl0 (ccmp hP) hf hP hS (lv_sub hl [0, 1] rfl))
set_option maxRecDepth 10000 in
theorem ktX10_bestFlapToChange_0 {Ex : String} {S1 : CS} {M : CS} {a1 : Int32} {H : Heap} {locs : List Loc} {ls : Array Slot} (X : gX p s m args c cX10_bestFlapToChange 6 RX10 (kR kTab kA)) (hT : ∀ x ∈ c.exceptionTable.toList, False) (hlk : meth.locks = false) (hl0 : l.stackTraces = false) (hZ : cmpS (cΩ ca) s s.heap) (hf : tX10_bestFlapToChange_0 M a1 = some (Ex, S1)) (hP : (cP dC dI cg kA ca) M s H) (hS : va_S (Fr (cΩ ca) s.heap.size) s.heap H locs) (hl : lv_has ls 6 [(0, .ref (ca 0)), (1, .int a1)]) : W p l e (rmL 7 1 6) s m args below meth c H locs 0 0 (gTQ below (cΩ ca) (cP dC dI cg kA ca) Ex S1 args s) (F0 m 0 ls []) := by
  have hx := X.hx
  have hb := X.hb
  have hown := X.hown
  have hts := X.hts
  rw [tX10_bestFlapToChange_0] at hf
  refine lv_aload_n hx hb dX10_bestFlapToChange_0 rfl (lv_at hl 0 rfl) ?_
  refine lv_iload_n hx hb dX10_bestFlapToChange_1 rfl (lv_at hl 1 rfl) ?_
  cases ht : tX10_predict M a1 with
  | some r =>
    rw [ht] at hf
    cases hf
    refine gCallVT X cOK rfl (wX10_predict hl0 ht) gRX10_X10_predict hdX10_predict rfl ⟨by decide, by decide⟩ hP hS (cr_rec hP (rfl : kc 0 = 0) rfl cw0 rfl) hl.1 (Nat.le_of_ble_eq_true rfl) ⟨rfl, rfl⟩ dX10_bestFlapToChange_2 (As := [.int a1]) (rest := []) rfl (fun H locs q9 ce hP hS hce hcv hcl => ?_)
    exact gOutT cOK X hT hlk hP hS hce hcv hcl (Nat.le_refl _) (Nat.le_refl _)
  | none =>
    rw [ht] at hf
    dsimp only at hf
    cases hf
theorem wX10_bestFlapToChange {l : Launch} {dC : Nat → ClassId} {dI : Nat → Nat → Nat} {cg : Nat → ClassId} {kA : String → Nat → Nat} {ca : Nat → Nat} (hl0 : l.stackTraces = false) {M S1 : CS} {Ex : String} {a1 : Int32} (hf : tX10_bestFlapToChange M a1 = some (Ex, S1)) : gThr l yX10_bestFlapToChange cX10_bestFlapToChange 6 (some .int) 7 (cΩ ca) (cP dC dI cg kA ca) (kR kTab kA) [.ref (ca 0), .int a1] M Ex S1 := gEntryT (by decide) cOK (Nat.le_of_ble_eq_true rfl) (fun p e s m args below meth c ls X hT hlk hP hS hl => 
  ktX10_bestFlapToChange_0 X hT hlk hl0 (ccmp hP) hf hP hS (lv_sub hl [0, 1] rfl))
set_option maxRecDepth 10000 in
theorem ktX10_change_13 {Ex : String} {S1 : CS} {M : CS} {H : Heap} {locs : List Loc} {ls : Array Slot} (X : gX p s m args c cX10_change 4 RX10 (kR kTab kA)) (hT : ∀ x ∈ c.exceptionTable.toList, False) (hlk : meth.locks = false) (hl0 : l.stackTraces = false) (hZ : cmpS (cΩ ca) s s.heap) (hf : tX10_change_13 M = some (Ex, S1)) (hP : (cP dC dI cg kA ca) M s H) (hS : va_S (Fr (cΩ ca) s.heap.size) s.heap H locs) (hl : lv_has ls 4 [(0, .ref (ca 0))]) : W p l e (rmL 7 1 6) s m args below meth c H locs 0 0 (gTQ below (cΩ ca) (cP dC dI cg kA ca) Ex S1 args s) (F0 m 13 ls []) := by
  have hx := X.hx
  have hb := X.hb
  have hown := X.hown
  have hts := X.hts
  rw [tX10_change_13] at hf
  cases hf
  exact gThrowSW (q := ("GranaryWatch", 340, "the granary does not allow this change now", [116, 104, 101, 32, 103, 114, 97, 110, 97, 114, 121, 32, 100, 111, 101, 115, 32, 110, 111, 116, 32, 97, 108, 108, 111, 119, 32, 116, 104, 105, 115, 32, 99, 104, 97, 110, 103, 101, 32, 110, 111, 119])) (cls := "java/lang/IllegalStateException") X hT hlk hl0 hZ cExt cOK (kRat (q := ("GranaryWatch", 340, "the granary does not allow this change now", [116, 104, 101, 32, 103, 114, 97, 110, 97, 114, 121, 32, 100, 111, 101, 115, 32, 110, 111, 116, 32, 97, 108, 108, 111, 119, 32, 116, 104, 105, 115, 32, 99, 104, 97, 110, 103, 101, 32, 110, 111, 119])) X.ks 7 rfl) tw1515 tw32 xat2w xat2o xat2g (by decide +kernel) hP hS hl.1 dX10_change_13 dX10_change_16 dX10_change_17 dX10_change_20 dX10_change_23 (by decide) (Nat.le_of_ble_eq_true rfl)
set_option maxRecDepth 10000 in
theorem ktX10_change_10 {Ex : String} {S1 : CS} {M : CS} {x1 : Int32} {x2 : Int32} {x3 : Int32} {s0 : Int32} {H : Heap} {locs : List Loc} {ls : Array Slot} (X : gX p s m args c cX10_change 4 RX10 (kR kTab kA)) (hT : ∀ x ∈ c.exceptionTable.toList, False) (hlk : meth.locks = false) (hl0 : l.stackTraces = false) (hZ : cmpS (cΩ ca) s s.heap) (hf : tX10_change_10 M x1 x2 x3 s0 = some (Ex, S1)) (hP : (cP dC dI cg kA ca) M s H) (hS : va_S (Fr (cΩ ca) s.heap.size) s.heap H locs) (hl : lv_has ls 4 [(0, .ref (ca 0)), (1, .int x1), (2, .int x2), (3, .int x3)]) : W p l e (rmL 7 1 6) s m args below meth c H locs 0 0 (gTQ below (cΩ ca) (cP dC dI cg kA ca) Ex S1 args s) (F0 m 10 ls [.int s0]) := by
  have hx := X.hx
  have hb := X.hb
  have hown := X.hown
  have hts := X.hts
  rw [tX10_change_10] at hf
  refine lv_if_ne (tgt := 24) hx hb dX10_change_10 (by decide) (fun c1 => ?_) (fun c1 => ?_)
  · exact absurd (ifn c1 hf) (fun z => by cases z)
  · exact ktX10_change_13 X hT hlk hl0 hZ (ifp c1 hf) hP hS (lv_sub hl [0] rfl)
set_option maxRecDepth 10000 in
theorem ktX10_change_0 {Ex : String} {S1 : CS} {M : CS} {a1 : Int32} {a2 : Int32} {a3 : Int32} {H : Heap} {locs : List Loc} {ls : Array Slot} (X : gX p s m args c cX10_change 4 RX10 (kR kTab kA)) (hT : ∀ x ∈ c.exceptionTable.toList, False) (hlk : meth.locks = false) (hl0 : l.stackTraces = false) (hZ : cmpS (cΩ ca) s s.heap) (hf : tX10_change_0 M a1 a2 a3 = some (Ex, S1)) (hP : (cP dC dI cg kA ca) M s H) (hS : va_S (Fr (cΩ ca) s.heap.size) s.heap H locs) (hl : lv_has ls 4 [(0, .ref (ca 0)), (1, .int a1), (2, .int a2), (3, .int a3)]) : W p l e (rmL 7 1 6) s m args below meth c H locs 0 0 (gTQ below (cΩ ca) (cP dC dI cg kA ca) Ex S1 args s) (F0 m 0 ls []) := by
  have hx := X.hx
  have hb := X.hb
  have hown := X.hown
  have hts := X.hts
  rw [tX10_change_0] at hf
  refine lv_aload_n hx hb dX10_change_0 rfl (lv_at hl 0 rfl) ?_
  refine cr_get (k := 2) X hP (rfl : kc 0 = 0) rfl cv0_2 rfl cinX10 (by decide) rfl tw957 dX10_change_1 ?_
  refine lv_iload_n hx hb dX10_change_4 rfl (lv_at hl 1 rfl) ?_
  refine lv_iload_n hx hb dX10_change_5 rfl (lv_at hl 2 rfl) ?_
  refine lv_iload_n hx hb dX10_change_6 rfl (lv_at hl 3 rfl) ?_
  obtain ⟨q, hc, hf⟩ := bd hf
  refine gCallVR X rfl (vX2_allows (rfl : kc 13 = 11) hc) gRX10_X2_allows hdX2_allows rfl ⟨by decide, by decide⟩ (gB_blind cOK) (gB_at cOK X hP) (cr_rec hP (rfl : kc 13 = 11) rfl cw11 rfl) hl.1 (Nat.le_of_ble_eq_true rfl) ⟨Nat.zero_le _, Nat.zero_le _⟩ dX10_change_7 (As := [.int a1, .int a2, .int a3]) (rest := []) rfl ?_
  exact ktX10_change_10 X hT hlk hl0 hZ hf hP hS (lv_sub hl [0, 1, 2, 3] rfl)
theorem wX10_change {l : Launch} {dC : Nat → ClassId} {dI : Nat → Nat → Nat} {cg : Nat → ClassId} {kA : String → Nat → Nat} {ca : Nat → Nat} (hl0 : l.stackTraces = false) {M S1 : CS} {Ex : String} {a1 : Int32} {a2 : Int32} {a3 : Int32} (hf : tX10_change M a1 a2 a3 = some (Ex, S1)) : gThr l yX10_change cX10_change 4 (some .int) 7 (cΩ ca) (cP dC dI cg kA ca) (kR kTab kA) [.ref (ca 0), .int a1, .int a2, .int a3] M Ex S1 := gEntryT (by decide) cOK (Nat.le_of_ble_eq_true rfl) (fun p e s m args below meth c ls X hT hlk hP hS hl => 
  ktX10_change_0 X hT hlk hl0 (ccmp hP) hf hP hS (lv_sub hl [0, 1, 2, 3] rfl))
set_option maxRecDepth 10000 in
theorem ktX10_letPass_7 {Ex : String} {S1 : CS} {M : CS} {x1 : Int32} {H : Heap} {locs : List Loc} {ls : Array Slot} (X : gX p s m args c cX10_letPass 2 RX10 (kR kTab kA)) (hT : ∀ x ∈ c.exceptionTable.toList, False) (hlk : meth.locks = false) (hl0 : l.stackTraces = false) (hZ : cmpS (cΩ ca) s s.heap) (hf : tX10_letPass_7 M x1 = some (Ex, S1)) (hP : (cP dC dI cg kA ca) M s H) (hS : va_S (Fr (cΩ ca) s.heap.size) s.heap H locs) (hl : lv_has ls 2 [(0, .ref (ca 0)), (1, .int x1)]) : W p l e (rmL 8 1 6) s m args below meth c H locs 0 0 (gTQ below (cΩ ca) (cP dC dI cg kA ca) Ex S1 args s) (F0 m 7 ls []) := by
  have hx := X.hx
  have hb := X.hb
  have hown := X.hown
  have hts := X.hts
  rw [tX10_letPass_7] at hf
  refine lv_aload_n hx hb dX10_letPass_7 rfl (lv_at hl 0 rfl) ?_
  refine lv_iconst (v := 0) hx hb dX10_letPass_8 (by decide) ?_
  refine lv_iconst (v := (-1)) hx hb dX10_letPass_9 (by decide) ?_
  refine lv_iload_n hx hb dX10_letPass_10 rfl (lv_at hl 1 rfl) ?_
  cases ht : tX10_change M 0 (-1) x1 with
  | some r =>
    rw [ht] at hf
    cases hf
    refine gCallVT X cOK rfl (wX10_change hl0 ht) gRX10_X10_change hdX10_change rfl ⟨by decide, by decide⟩ hP hS (cr_rec hP (rfl : kc 0 = 0) rfl cw0 rfl) hl.1 (Nat.le_of_ble_eq_true rfl) ⟨rfl, rfl⟩ dX10_letPass_11 (As := [.int 0, .int (-1), .int x1]) (rest := []) rfl (fun H locs q9 ce hP hS hce hcv hcl => ?_)
    exact gOutT cOK X hT hlk hP hS hce hcv hcl (Nat.le_refl _) (Nat.le_refl _)
  | none =>
    rw [ht] at hf
    dsimp only at hf
    cases hf
set_option maxRecDepth 10000 in
theorem ktX10_letPass_0 {Ex : String} {S1 : CS} {M : CS} {a1 : Int32} {H : Heap} {locs : List Loc} {ls : Array Slot} (X : gX p s m args c cX10_letPass 2 RX10 (kR kTab kA)) (hT : ∀ x ∈ c.exceptionTable.toList, False) (hlk : meth.locks = false) (hl0 : l.stackTraces = false) (hZ : cmpS (cΩ ca) s s.heap) (hf : tX10_letPass_0 M a1 = some (Ex, S1)) (hP : (cP dC dI cg kA ca) M s H) (hS : va_S (Fr (cΩ ca) s.heap.size) s.heap H locs) (hl : lv_has ls 2 [(0, .ref (ca 0)), (1, .int a1)]) : W p l e (rmL 8 1 6) s m args below meth c H locs 0 0 (gTQ below (cΩ ca) (cP dC dI cg kA ca) Ex S1 args s) (F0 m 0 ls []) := by
  have hx := X.hx
  have hb := X.hb
  have hown := X.hown
  have hts := X.hts
  rw [tX10_letPass_0] at hf
  refine lv_iload_n hx hb dX10_letPass_0 rfl (lv_at hl 1 rfl) ?_
  refine lv_iconst (v := 1) hx hb dX10_letPass_1 (by decide) ?_
  refine lv_bipush (v := 99) hx hb dX10_letPass_2 (by decide) ?_
  cases ht : tX10_requireRange M a1 1 99 with
  | some r =>
    rw [ht] at hf
    cases hf
    refine gCallST X cOK rfl (wX10_requireRange hl0 ht) gRX10_X10_requireRange hdX10_requireRange rfl ⟨by decide, by decide⟩ hP hS hl.1 (Nat.le_of_ble_eq_true rfl) ⟨rfl, rfl⟩ dX10_letPass_4 (As := [.int a1, .int 1, .int 99]) (rest := []) rfl (fun H locs q9 ce hP hS hce hcv hcl => ?_)
    exact gOutT cOK X hT hlk hP hS hce hcv hcl (Nat.le_refl _) (Nat.le_refl _)
  | none =>
    rw [ht] at hf
    dsimp only at hf
    obtain ⟨q, hc, hf⟩ := bd hf
    refine gCallSV X cOK rfl (vX10_requireRange hc) gRX10_X10_requireRange hdX10_requireRange rfl ⟨by decide, by decide⟩ hP hS hl.1 (Nat.le_of_ble_eq_true rfl) ⟨Nat.zero_le _, Nat.zero_le _⟩ dX10_letPass_4 (As := [.int a1, .int 1, .int 99]) (rest := []) rfl (fun H locs hP hS => ?_)
    exact ktX10_letPass_7 X hT hlk hl0 hZ hf hP hS (lv_sub hl [0, 1] rfl)
theorem wX10_letPass {l : Launch} {dC : Nat → ClassId} {dI : Nat → Nat → Nat} {cg : Nat → ClassId} {kA : String → Nat → Nat} {ca : Nat → Nat} (hl0 : l.stackTraces = false) {M S1 : CS} {Ex : String} {a1 : Int32} (hf : tX10_letPass M a1 = some (Ex, S1)) : gThr l yX10_letPass cX10_letPass 2 (some .int) 8 (cΩ ca) (cP dC dI cg kA ca) (kR kTab kA) [.ref (ca 0), .int a1] M Ex S1 := gEntryT (by decide) cOK (Nat.le_of_ble_eq_true rfl) (fun p e s m args below meth c ls X hT hlk hP hS hl => 
  ktX10_letPass_0 X hT hlk hl0 (ccmp hP) hf hP hS (lv_sub hl [0, 1] rfl))
set_option maxRecDepth 10000 in
theorem ktX10_openFlap_5 {Ex : String} {S1 : CS} {M : CS} {z0 : Nat} {x1 : Int32} {H : Heap} {locs : List Loc} {ls : Array Slot} (X : gX p s m args c cX10_openFlap 2 RX10 (kR kTab kA)) (hT : ∀ x ∈ c.exceptionTable.toList, False) (hlk : meth.locks = false) (hl0 : l.stackTraces = false) (hZ : cmpS (cΩ ca) s s.heap) (hkz0 : kc z0 = 19) (hf : tX10_openFlap_5 M z0 x1 = some (Ex, S1)) (hP : (cP dC dI cg kA ca) M s H) (hS : va_S (Fr (cΩ ca) s.heap.size) s.heap H locs) (hl : lv_has ls 2 [(0, .ref (ca 0)), (1, .int x1)]) : W p l e (rmL 8 1 6) s m args below meth c H locs 0 0 (gTQ below (cΩ ca) (cP dC dI cg kA ca) Ex S1 args s) (F0 m 5 ls [.ref (ca z0)]) := by
  have hx := X.hx
  have hb := X.hb
  have hown := X.hown
  have hts := X.hts
  rw [tX10_openFlap_5] at hf
  refine lv_pop hx hb dX10_openFlap_5 rfl ?_
  refine lv_aload_n hx hb dX10_openFlap_6 rfl (lv_at hl 0 rfl) ?_
  refine lv_iconst (v := 1) hx hb dX10_openFlap_7 (by decide) ?_
  refine lv_iload_n hx hb dX10_openFlap_8 rfl (lv_at hl 1 rfl) ?_
  refine lv_iconst (v := 0) hx hb dX10_openFlap_9 (by decide) ?_
  cases ht : tX10_change M 1 x1 0 with
  | some r =>
    rw [ht] at hf
    cases hf
    refine gCallVT X cOK rfl (wX10_change hl0 ht) gRX10_X10_change hdX10_change rfl ⟨by decide, by decide⟩ hP hS (cr_rec hP (rfl : kc 0 = 0) rfl cw0 rfl) hl.1 (Nat.le_of_ble_eq_true rfl) ⟨rfl, rfl⟩ dX10_openFlap_10 (As := [.int 1, .int x1, .int 0]) (rest := []) rfl (fun H locs q9 ce hP hS hce hcv hcl => ?_)
    exact gOutT cOK X hT hlk hP hS hce hcv hcl (Nat.le_refl _) (Nat.le_refl _)
  | none =>
    rw [ht] at hf
    dsimp only at hf
    cases hf
set_option maxRecDepth 10000 in
theorem ktX10_openFlap_0 {Ex : String} {S1 : CS} {M : CS} {a1 : Int32} {H : Heap} {locs : List Loc} {ls : Array Slot} (X : gX p s m args c cX10_openFlap 2 RX10 (kR kTab kA)) (hT : ∀ x ∈ c.exceptionTable.toList, False) (hlk : meth.locks = false) (hl0 : l.stackTraces = false) (hZ : cmpS (cΩ ca) s s.heap) (hf : tX10_openFlap_0 M a1 = some (Ex, S1)) (hP : (cP dC dI cg kA ca) M s H) (hS : va_S (Fr (cΩ ca) s.heap.size) s.heap H locs) (hl : lv_has ls 2 [(0, .ref (ca 0)), (1, .int a1)]) : W p l e (rmL 8 1 6) s m args below meth c H locs 0 0 (gTQ below (cΩ ca) (cP dC dI cg kA ca) Ex S1 args s) (F0 m 0 ls []) := by
  have hx := X.hx
  have hb := X.hb
  have hown := X.hown
  have hts := X.hts
  rw [tX10_openFlap_0] at hf
  refine lv_aload_n hx hb dX10_openFlap_0 rfl (lv_at hl 0 rfl) ?_
  refine lv_iload_n hx hb dX10_openFlap_1 rfl (lv_at hl 1 rfl) ?_
  cases ht : tX10_sackAt M a1 with
  | some r =>
    rw [ht] at hf
    cases hf
    refine gCallVT X cOK rfl (wX10_sackAt hl0 ht) gRX10_X10_sackAt hdX10_sackAt rfl ⟨by decide, by decide⟩ hP hS (cr_rec hP (rfl : kc 0 = 0) rfl cw0 rfl) hl.1 (Nat.le_of_ble_eq_true rfl) ⟨rfl, rfl⟩ dX10_openFlap_2 (As := [.int a1]) (rest := []) rfl (fun H locs q9 ce hP hS hce hcv hcl => ?_)
    exact gOutT cOK X hT hlk hP hS hce hcv hcl (Nat.le_refl _) (Nat.le_refl _)
  | none =>
    rw [ht] at hf
    dsimp only at hf
    obtain ⟨q, hc, hf⟩ := bd hf
    refine gCallVP X rfl (vX10_sackAt hc) gRX10_X10_sackAt hdX10_sackAt rfl ⟨by decide, by decide⟩ (gB_blind cOK) (gB_at cOK X hP) (cr_rec hP (rfl : kc 0 = 0) rfl cw0 rfl) hl.1 (Nat.le_of_ble_eq_true rfl) ⟨Nat.zero_le _, Nat.zero_le _⟩ dX10_openFlap_2 (As := [.int a1]) (rest := []) rfl ?_
    exact ktX10_openFlap_5 X hT hlk hl0 hZ (kkX10_sackAt hc) hf hP hS (lv_sub hl [0, 1] rfl)
theorem wX10_openFlap {l : Launch} {dC : Nat → ClassId} {dI : Nat → Nat → Nat} {cg : Nat → ClassId} {kA : String → Nat → Nat} {ca : Nat → Nat} (hl0 : l.stackTraces = false) {M S1 : CS} {Ex : String} {a1 : Int32} (hf : tX10_openFlap M a1 = some (Ex, S1)) : gThr l yX10_openFlap cX10_openFlap 2 (some .int) 8 (cΩ ca) (cP dC dI cg kA ca) (kR kTab kA) [.ref (ca 0), .int a1] M Ex S1 := gEntryT (by decide) cOK (Nat.le_of_ble_eq_true rfl) (fun p e s m args below meth c ls X hT hlk hP hS hl => 
  ktX10_openFlap_0 X hT hlk hl0 (ccmp hP) hf hP hS (lv_sub hl [0, 1] rfl))
set_option maxRecDepth 10000 in
theorem ktX10_shutFlap_5 {Ex : String} {S1 : CS} {M : CS} {z0 : Nat} {x1 : Int32} {H : Heap} {locs : List Loc} {ls : Array Slot} (X : gX p s m args c cX10_shutFlap 2 RX10 (kR kTab kA)) (hT : ∀ x ∈ c.exceptionTable.toList, False) (hlk : meth.locks = false) (hl0 : l.stackTraces = false) (hZ : cmpS (cΩ ca) s s.heap) (hkz0 : kc z0 = 19) (hf : tX10_shutFlap_5 M z0 x1 = some (Ex, S1)) (hP : (cP dC dI cg kA ca) M s H) (hS : va_S (Fr (cΩ ca) s.heap.size) s.heap H locs) (hl : lv_has ls 2 [(0, .ref (ca 0)), (1, .int x1)]) : W p l e (rmL 8 1 6) s m args below meth c H locs 0 0 (gTQ below (cΩ ca) (cP dC dI cg kA ca) Ex S1 args s) (F0 m 5 ls [.ref (ca z0)]) := by
  have hx := X.hx
  have hb := X.hb
  have hown := X.hown
  have hts := X.hts
  rw [tX10_shutFlap_5] at hf
  refine lv_pop hx hb dX10_shutFlap_5 rfl ?_
  refine lv_aload_n hx hb dX10_shutFlap_6 rfl (lv_at hl 0 rfl) ?_
  refine lv_iconst (v := 2) hx hb dX10_shutFlap_7 (by decide) ?_
  refine lv_iload_n hx hb dX10_shutFlap_8 rfl (lv_at hl 1 rfl) ?_
  refine lv_iconst (v := 0) hx hb dX10_shutFlap_9 (by decide) ?_
  cases ht : tX10_change M 2 x1 0 with
  | some r =>
    rw [ht] at hf
    cases hf
    refine gCallVT X cOK rfl (wX10_change hl0 ht) gRX10_X10_change hdX10_change rfl ⟨by decide, by decide⟩ hP hS (cr_rec hP (rfl : kc 0 = 0) rfl cw0 rfl) hl.1 (Nat.le_of_ble_eq_true rfl) ⟨rfl, rfl⟩ dX10_shutFlap_10 (As := [.int 2, .int x1, .int 0]) (rest := []) rfl (fun H locs q9 ce hP hS hce hcv hcl => ?_)
    exact gOutT cOK X hT hlk hP hS hce hcv hcl (Nat.le_refl _) (Nat.le_refl _)
  | none =>
    rw [ht] at hf
    dsimp only at hf
    cases hf
set_option maxRecDepth 10000 in
theorem ktX10_shutFlap_0 {Ex : String} {S1 : CS} {M : CS} {a1 : Int32} {H : Heap} {locs : List Loc} {ls : Array Slot} (X : gX p s m args c cX10_shutFlap 2 RX10 (kR kTab kA)) (hT : ∀ x ∈ c.exceptionTable.toList, False) (hlk : meth.locks = false) (hl0 : l.stackTraces = false) (hZ : cmpS (cΩ ca) s s.heap) (hf : tX10_shutFlap_0 M a1 = some (Ex, S1)) (hP : (cP dC dI cg kA ca) M s H) (hS : va_S (Fr (cΩ ca) s.heap.size) s.heap H locs) (hl : lv_has ls 2 [(0, .ref (ca 0)), (1, .int a1)]) : W p l e (rmL 8 1 6) s m args below meth c H locs 0 0 (gTQ below (cΩ ca) (cP dC dI cg kA ca) Ex S1 args s) (F0 m 0 ls []) := by
  have hx := X.hx
  have hb := X.hb
  have hown := X.hown
  have hts := X.hts
  rw [tX10_shutFlap_0] at hf
  refine lv_aload_n hx hb dX10_shutFlap_0 rfl (lv_at hl 0 rfl) ?_
  refine lv_iload_n hx hb dX10_shutFlap_1 rfl (lv_at hl 1 rfl) ?_
  cases ht : tX10_sackAt M a1 with
  | some r =>
    rw [ht] at hf
    cases hf
    refine gCallVT X cOK rfl (wX10_sackAt hl0 ht) gRX10_X10_sackAt hdX10_sackAt rfl ⟨by decide, by decide⟩ hP hS (cr_rec hP (rfl : kc 0 = 0) rfl cw0 rfl) hl.1 (Nat.le_of_ble_eq_true rfl) ⟨rfl, rfl⟩ dX10_shutFlap_2 (As := [.int a1]) (rest := []) rfl (fun H locs q9 ce hP hS hce hcv hcl => ?_)
    exact gOutT cOK X hT hlk hP hS hce hcv hcl (Nat.le_refl _) (Nat.le_refl _)
  | none =>
    rw [ht] at hf
    dsimp only at hf
    obtain ⟨q, hc, hf⟩ := bd hf
    refine gCallVP X rfl (vX10_sackAt hc) gRX10_X10_sackAt hdX10_sackAt rfl ⟨by decide, by decide⟩ (gB_blind cOK) (gB_at cOK X hP) (cr_rec hP (rfl : kc 0 = 0) rfl cw0 rfl) hl.1 (Nat.le_of_ble_eq_true rfl) ⟨Nat.zero_le _, Nat.zero_le _⟩ dX10_shutFlap_2 (As := [.int a1]) (rest := []) rfl ?_
    exact ktX10_shutFlap_5 X hT hlk hl0 hZ (kkX10_sackAt hc) hf hP hS (lv_sub hl [0, 1] rfl)
theorem wX10_shutFlap {l : Launch} {dC : Nat → ClassId} {dI : Nat → Nat → Nat} {cg : Nat → ClassId} {kA : String → Nat → Nat} {ca : Nat → Nat} (hl0 : l.stackTraces = false) {M S1 : CS} {Ex : String} {a1 : Int32} (hf : tX10_shutFlap M a1 = some (Ex, S1)) : gThr l yX10_shutFlap cX10_shutFlap 2 (some .int) 8 (cΩ ca) (cP dC dI cg kA ca) (kR kTab kA) [.ref (ca 0), .int a1] M Ex S1 := gEntryT (by decide) cOK (Nat.le_of_ble_eq_true rfl) (fun p e s m args below meth c ls X hT hlk hP hS hl => 
  ktX10_shutFlap_0 X hT hlk hl0 (ccmp hP) hf hP hS (lv_sub hl [0, 1] rfl))
set_option maxRecDepth 10000 in
theorem ktX10_addMice_13 {Ex : String} {S1 : CS} {M : CS} {x1 : Int32} {x2 : Int32} {H : Heap} {locs : List Loc} {ls : Array Slot} (X : gX p s m args c cX10_addMice 3 RX10 (kR kTab kA)) (hT : ∀ x ∈ c.exceptionTable.toList, False) (hlk : meth.locks = false) (hl0 : l.stackTraces = false) (hZ : cmpS (cΩ ca) s s.heap) (hf : tX10_addMice_13 M x1 x2 = some (Ex, S1)) (hP : (cP dC dI cg kA ca) M s H) (hS : va_S (Fr (cΩ ca) s.heap.size) s.heap H locs) (hl : lv_has ls 3 [(0, .ref (ca 0)), (1, .int x1), (2, .int x2)]) : W p l e (rmL 8 1 6) s m args below meth c H locs 0 0 (gTQ below (cΩ ca) (cP dC dI cg kA ca) Ex S1 args s) (F0 m 13 ls []) := by
  have hx := X.hx
  have hb := X.hb
  have hown := X.hown
  have hts := X.hts
  rw [tX10_addMice_13] at hf
  refine lv_aload_n hx hb dX10_addMice_13 rfl (lv_at hl 0 rfl) ?_
  refine lv_iconst (v := 3) hx hb dX10_addMice_14 (by decide) ?_
  refine lv_iload_n hx hb dX10_addMice_15 rfl (lv_at hl 1 rfl) ?_
  refine lv_iload_n hx hb dX10_addMice_16 rfl (lv_at hl 2 rfl) ?_
  cases ht : tX10_change M 3 x1 x2 with
  | some r =>
    rw [ht] at hf
    cases hf
    refine gCallVT X cOK rfl (wX10_change hl0 ht) gRX10_X10_change hdX10_change rfl ⟨by decide, by decide⟩ hP hS (cr_rec hP (rfl : kc 0 = 0) rfl cw0 rfl) hl.1 (Nat.le_of_ble_eq_true rfl) ⟨rfl, rfl⟩ dX10_addMice_17 (As := [.int 3, .int x1, .int x2]) (rest := []) rfl (fun H locs q9 ce hP hS hce hcv hcl => ?_)
    exact gOutT cOK X hT hlk hP hS hce hcv hcl (Nat.le_refl _) (Nat.le_refl _)
  | none =>
    rw [ht] at hf
    dsimp only at hf
    cases hf
set_option maxRecDepth 10000 in
theorem ktX10_addMice_5 {Ex : String} {S1 : CS} {M : CS} {z0 : Nat} {x1 : Int32} {x2 : Int32} {H : Heap} {locs : List Loc} {ls : Array Slot} (X : gX p s m args c cX10_addMice 3 RX10 (kR kTab kA)) (hT : ∀ x ∈ c.exceptionTable.toList, False) (hlk : meth.locks = false) (hl0 : l.stackTraces = false) (hZ : cmpS (cΩ ca) s s.heap) (hkz0 : kc z0 = 19) (hf : tX10_addMice_5 M z0 x1 x2 = some (Ex, S1)) (hP : (cP dC dI cg kA ca) M s H) (hS : va_S (Fr (cΩ ca) s.heap.size) s.heap H locs) (hl : lv_has ls 3 [(0, .ref (ca 0)), (1, .int x1), (2, .int x2)]) : W p l e (rmL 8 1 6) s m args below meth c H locs 0 0 (gTQ below (cΩ ca) (cP dC dI cg kA ca) Ex S1 args s) (F0 m 5 ls [.ref (ca z0)]) := by
  have hx := X.hx
  have hb := X.hb
  have hown := X.hown
  have hts := X.hts
  rw [tX10_addMice_5] at hf
  refine lv_pop hx hb dX10_addMice_5 rfl ?_
  refine lv_iload_n hx hb dX10_addMice_6 rfl (lv_at hl 2 rfl) ?_
  refine lv_iconst (v := 1) hx hb dX10_addMice_7 (by decide) ?_
  refine lv_bipush (v := 99) hx hb dX10_addMice_8 (by decide) ?_
  cases ht : tX10_requireRange M x2 1 99 with
  | some r =>
    rw [ht] at hf
    cases hf
    refine gCallST X cOK rfl (wX10_requireRange hl0 ht) gRX10_X10_requireRange hdX10_requireRange rfl ⟨by decide, by decide⟩ hP hS hl.1 (Nat.le_of_ble_eq_true rfl) ⟨rfl, rfl⟩ dX10_addMice_10 (As := [.int x2, .int 1, .int 99]) (rest := []) rfl (fun H locs q9 ce hP hS hce hcv hcl => ?_)
    exact gOutT cOK X hT hlk hP hS hce hcv hcl (Nat.le_refl _) (Nat.le_refl _)
  | none =>
    rw [ht] at hf
    dsimp only at hf
    obtain ⟨q, hc, hf⟩ := bd hf
    refine gCallSV X cOK rfl (vX10_requireRange hc) gRX10_X10_requireRange hdX10_requireRange rfl ⟨by decide, by decide⟩ hP hS hl.1 (Nat.le_of_ble_eq_true rfl) ⟨Nat.zero_le _, Nat.zero_le _⟩ dX10_addMice_10 (As := [.int x2, .int 1, .int 99]) (rest := []) rfl (fun H locs hP hS => ?_)
    exact ktX10_addMice_13 X hT hlk hl0 hZ hf hP hS (lv_sub hl [0, 1, 2] rfl)
set_option maxRecDepth 10000 in
theorem ktX10_addMice_0 {Ex : String} {S1 : CS} {M : CS} {a1 : Int32} {a2 : Int32} {H : Heap} {locs : List Loc} {ls : Array Slot} (X : gX p s m args c cX10_addMice 3 RX10 (kR kTab kA)) (hT : ∀ x ∈ c.exceptionTable.toList, False) (hlk : meth.locks = false) (hl0 : l.stackTraces = false) (hZ : cmpS (cΩ ca) s s.heap) (hf : tX10_addMice_0 M a1 a2 = some (Ex, S1)) (hP : (cP dC dI cg kA ca) M s H) (hS : va_S (Fr (cΩ ca) s.heap.size) s.heap H locs) (hl : lv_has ls 3 [(0, .ref (ca 0)), (1, .int a1), (2, .int a2)]) : W p l e (rmL 8 1 6) s m args below meth c H locs 0 0 (gTQ below (cΩ ca) (cP dC dI cg kA ca) Ex S1 args s) (F0 m 0 ls []) := by
  have hx := X.hx
  have hb := X.hb
  have hown := X.hown
  have hts := X.hts
  rw [tX10_addMice_0] at hf
  refine lv_aload_n hx hb dX10_addMice_0 rfl (lv_at hl 0 rfl) ?_
  refine lv_iload_n hx hb dX10_addMice_1 rfl (lv_at hl 1 rfl) ?_
  cases ht : tX10_sackAt M a1 with
  | some r =>
    rw [ht] at hf
    cases hf
    refine gCallVT X cOK rfl (wX10_sackAt hl0 ht) gRX10_X10_sackAt hdX10_sackAt rfl ⟨by decide, by decide⟩ hP hS (cr_rec hP (rfl : kc 0 = 0) rfl cw0 rfl) hl.1 (Nat.le_of_ble_eq_true rfl) ⟨rfl, rfl⟩ dX10_addMice_2 (As := [.int a1]) (rest := []) rfl (fun H locs q9 ce hP hS hce hcv hcl => ?_)
    exact gOutT cOK X hT hlk hP hS hce hcv hcl (Nat.le_refl _) (Nat.le_refl _)
  | none =>
    rw [ht] at hf
    dsimp only at hf
    obtain ⟨q, hc, hf⟩ := bd hf
    refine gCallVP X rfl (vX10_sackAt hc) gRX10_X10_sackAt hdX10_sackAt rfl ⟨by decide, by decide⟩ (gB_blind cOK) (gB_at cOK X hP) (cr_rec hP (rfl : kc 0 = 0) rfl cw0 rfl) hl.1 (Nat.le_of_ble_eq_true rfl) ⟨Nat.zero_le _, Nat.zero_le _⟩ dX10_addMice_2 (As := [.int a1]) (rest := []) rfl ?_
    exact ktX10_addMice_5 X hT hlk hl0 hZ (kkX10_sackAt hc) hf hP hS (lv_sub hl [0, 1, 2] rfl)
theorem wX10_addMice {l : Launch} {dC : Nat → ClassId} {dI : Nat → Nat → Nat} {cg : Nat → ClassId} {kA : String → Nat → Nat} {ca : Nat → Nat} (hl0 : l.stackTraces = false) {M S1 : CS} {Ex : String} {a1 : Int32} {a2 : Int32} (hf : tX10_addMice M a1 a2 = some (Ex, S1)) : gThr l yX10_addMice cX10_addMice 3 (some .int) 8 (cΩ ca) (cP dC dI cg kA ca) (kR kTab kA) [.ref (ca 0), .int a1, .int a2] M Ex S1 := gEntryT (by decide) cOK (Nat.le_of_ble_eq_true rfl) (fun p e s m args below meth c ls X hT hlk hP hS hl => 
  ktX10_addMice_0 X hT hlk hl0 (ccmp hP) hf hP hS (lv_sub hl [0, 1, 2] rfl))
set_option maxRecDepth 10000 in
theorem ktX10_addGrain_14 {Ex : String} {S1 : CS} {M : CS} {x1 : Int32} {x2 : Int32} {H : Heap} {locs : List Loc} {ls : Array Slot} (X : gX p s m args c cX10_addGrain 3 RX10 (kR kTab kA)) (hT : ∀ x ∈ c.exceptionTable.toList, False) (hlk : meth.locks = false) (hl0 : l.stackTraces = false) (hZ : cmpS (cΩ ca) s s.heap) (hf : tX10_addGrain_14 M x1 x2 = some (Ex, S1)) (hP : (cP dC dI cg kA ca) M s H) (hS : va_S (Fr (cΩ ca) s.heap.size) s.heap H locs) (hl : lv_has ls 3 [(0, .ref (ca 0)), (1, .int x1), (2, .int x2)]) : W p l e (rmL 8 1 6) s m args below meth c H locs 0 0 (gTQ below (cΩ ca) (cP dC dI cg kA ca) Ex S1 args s) (F0 m 14 ls []) := by
  have hx := X.hx
  have hb := X.hb
  have hown := X.hown
  have hts := X.hts
  rw [tX10_addGrain_14] at hf
  refine lv_aload_n hx hb dX10_addGrain_14 rfl (lv_at hl 0 rfl) ?_
  refine lv_iconst (v := 4) hx hb dX10_addGrain_15 (by decide) ?_
  refine lv_iload_n hx hb dX10_addGrain_16 rfl (lv_at hl 1 rfl) ?_
  refine lv_iload_n hx hb dX10_addGrain_17 rfl (lv_at hl 2 rfl) ?_
  cases ht : tX10_change M 4 x1 x2 with
  | some r =>
    rw [ht] at hf
    cases hf
    refine gCallVT X cOK rfl (wX10_change hl0 ht) gRX10_X10_change hdX10_change rfl ⟨by decide, by decide⟩ hP hS (cr_rec hP (rfl : kc 0 = 0) rfl cw0 rfl) hl.1 (Nat.le_of_ble_eq_true rfl) ⟨rfl, rfl⟩ dX10_addGrain_18 (As := [.int 4, .int x1, .int x2]) (rest := []) rfl (fun H locs q9 ce hP hS hce hcv hcl => ?_)
    exact gOutT cOK X hT hlk hP hS hce hcv hcl (Nat.le_refl _) (Nat.le_refl _)
  | none =>
    rw [ht] at hf
    dsimp only at hf
    cases hf
set_option maxRecDepth 10000 in
theorem ktX10_addGrain_5 {Ex : String} {S1 : CS} {M : CS} {z0 : Nat} {x1 : Int32} {x2 : Int32} {H : Heap} {locs : List Loc} {ls : Array Slot} (X : gX p s m args c cX10_addGrain 3 RX10 (kR kTab kA)) (hT : ∀ x ∈ c.exceptionTable.toList, False) (hlk : meth.locks = false) (hl0 : l.stackTraces = false) (hZ : cmpS (cΩ ca) s s.heap) (hkz0 : kc z0 = 19) (hf : tX10_addGrain_5 M z0 x1 x2 = some (Ex, S1)) (hP : (cP dC dI cg kA ca) M s H) (hS : va_S (Fr (cΩ ca) s.heap.size) s.heap H locs) (hl : lv_has ls 3 [(0, .ref (ca 0)), (1, .int x1), (2, .int x2)]) : W p l e (rmL 8 1 6) s m args below meth c H locs 0 0 (gTQ below (cΩ ca) (cP dC dI cg kA ca) Ex S1 args s) (F0 m 5 ls [.ref (ca z0)]) := by
  have hx := X.hx
  have hb := X.hb
  have hown := X.hown
  have hts := X.hts
  rw [tX10_addGrain_5] at hf
  refine lv_pop hx hb dX10_addGrain_5 rfl ?_
  refine lv_iload_n hx hb dX10_addGrain_6 rfl (lv_at hl 2 rfl) ?_
  refine lv_iconst (v := 1) hx hb dX10_addGrain_7 (by decide) ?_
  refine lv_sipush (v := 999) hx hb dX10_addGrain_8 (by decide) ?_
  cases ht : tX10_requireRange M x2 1 999 with
  | some r =>
    rw [ht] at hf
    cases hf
    refine gCallST X cOK rfl (wX10_requireRange hl0 ht) gRX10_X10_requireRange hdX10_requireRange rfl ⟨by decide, by decide⟩ hP hS hl.1 (Nat.le_of_ble_eq_true rfl) ⟨rfl, rfl⟩ dX10_addGrain_11 (As := [.int x2, .int 1, .int 999]) (rest := []) rfl (fun H locs q9 ce hP hS hce hcv hcl => ?_)
    exact gOutT cOK X hT hlk hP hS hce hcv hcl (Nat.le_refl _) (Nat.le_refl _)
  | none =>
    rw [ht] at hf
    dsimp only at hf
    obtain ⟨q, hc, hf⟩ := bd hf
    refine gCallSV X cOK rfl (vX10_requireRange hc) gRX10_X10_requireRange hdX10_requireRange rfl ⟨by decide, by decide⟩ hP hS hl.1 (Nat.le_of_ble_eq_true rfl) ⟨Nat.zero_le _, Nat.zero_le _⟩ dX10_addGrain_11 (As := [.int x2, .int 1, .int 999]) (rest := []) rfl (fun H locs hP hS => ?_)
    exact ktX10_addGrain_14 X hT hlk hl0 hZ hf hP hS (lv_sub hl [0, 1, 2] rfl)
set_option maxRecDepth 10000 in
theorem ktX10_addGrain_0 {Ex : String} {S1 : CS} {M : CS} {a1 : Int32} {a2 : Int32} {H : Heap} {locs : List Loc} {ls : Array Slot} (X : gX p s m args c cX10_addGrain 3 RX10 (kR kTab kA)) (hT : ∀ x ∈ c.exceptionTable.toList, False) (hlk : meth.locks = false) (hl0 : l.stackTraces = false) (hZ : cmpS (cΩ ca) s s.heap) (hf : tX10_addGrain_0 M a1 a2 = some (Ex, S1)) (hP : (cP dC dI cg kA ca) M s H) (hS : va_S (Fr (cΩ ca) s.heap.size) s.heap H locs) (hl : lv_has ls 3 [(0, .ref (ca 0)), (1, .int a1), (2, .int a2)]) : W p l e (rmL 8 1 6) s m args below meth c H locs 0 0 (gTQ below (cΩ ca) (cP dC dI cg kA ca) Ex S1 args s) (F0 m 0 ls []) := by
  have hx := X.hx
  have hb := X.hb
  have hown := X.hown
  have hts := X.hts
  rw [tX10_addGrain_0] at hf
  refine lv_aload_n hx hb dX10_addGrain_0 rfl (lv_at hl 0 rfl) ?_
  refine lv_iload_n hx hb dX10_addGrain_1 rfl (lv_at hl 1 rfl) ?_
  cases ht : tX10_sackAt M a1 with
  | some r =>
    rw [ht] at hf
    cases hf
    refine gCallVT X cOK rfl (wX10_sackAt hl0 ht) gRX10_X10_sackAt hdX10_sackAt rfl ⟨by decide, by decide⟩ hP hS (cr_rec hP (rfl : kc 0 = 0) rfl cw0 rfl) hl.1 (Nat.le_of_ble_eq_true rfl) ⟨rfl, rfl⟩ dX10_addGrain_2 (As := [.int a1]) (rest := []) rfl (fun H locs q9 ce hP hS hce hcv hcl => ?_)
    exact gOutT cOK X hT hlk hP hS hce hcv hcl (Nat.le_refl _) (Nat.le_refl _)
  | none =>
    rw [ht] at hf
    dsimp only at hf
    obtain ⟨q, hc, hf⟩ := bd hf
    refine gCallVP X rfl (vX10_sackAt hc) gRX10_X10_sackAt hdX10_sackAt rfl ⟨by decide, by decide⟩ (gB_blind cOK) (gB_at cOK X hP) (cr_rec hP (rfl : kc 0 = 0) rfl cw0 rfl) hl.1 (Nat.le_of_ble_eq_true rfl) ⟨Nat.zero_le _, Nat.zero_le _⟩ dX10_addGrain_2 (As := [.int a1]) (rest := []) rfl ?_
    exact ktX10_addGrain_5 X hT hlk hl0 hZ (kkX10_sackAt hc) hf hP hS (lv_sub hl [0, 1, 2] rfl)
theorem wX10_addGrain {l : Launch} {dC : Nat → ClassId} {dI : Nat → Nat → Nat} {cg : Nat → ClassId} {kA : String → Nat → Nat} {ca : Nat → Nat} (hl0 : l.stackTraces = false) {M S1 : CS} {Ex : String} {a1 : Int32} {a2 : Int32} (hf : tX10_addGrain M a1 a2 = some (Ex, S1)) : gThr l yX10_addGrain cX10_addGrain 3 (some .int) 8 (cΩ ca) (cP dC dI cg kA ca) (kR kTab kA) [.ref (ca 0), .int a1, .int a2] M Ex S1 := gEntryT (by decide) cOK (Nat.le_of_ble_eq_true rfl) (fun p e s m args below meth c ls X hT hlk hP hS hl => 
  ktX10_addGrain_0 X hT hlk hl0 (ccmp hP) hf hP hS (lv_sub hl [0, 1, 2] rfl))
set_option maxRecDepth 10000 in
theorem ktX10_dismiss_0 {Ex : String} {S1 : CS} {M : CS} {H : Heap} {locs : List Loc} {ls : Array Slot} (X : gX p s m args c cX10_dismiss 1 RX10 (kR kTab kA)) (hT : ∀ x ∈ c.exceptionTable.toList, False) (hlk : meth.locks = false) (hl0 : l.stackTraces = false) (hZ : cmpS (cΩ ca) s s.heap) (hf : tX10_dismiss_0 M = some (Ex, S1)) (hP : (cP dC dI cg kA ca) M s H) (hS : va_S (Fr (cΩ ca) s.heap.size) s.heap H locs) (hl : lv_has ls 1 [(0, .ref (ca 0))]) : W p l e (rmL 8 1 6) s m args below meth c H locs 0 0 (gTQ below (cΩ ca) (cP dC dI cg kA ca) Ex S1 args s) (F0 m 0 ls []) := by
  have hx := X.hx
  have hb := X.hb
  have hown := X.hown
  have hts := X.hts
  rw [tX10_dismiss_0] at hf
  refine lv_aload_n hx hb dX10_dismiss_0 rfl (lv_at hl 0 rfl) ?_
  refine lv_iconst (v := 5) hx hb dX10_dismiss_1 (by decide) ?_
  refine lv_iconst (v := (-1)) hx hb dX10_dismiss_2 (by decide) ?_
  refine lv_iconst (v := 0) hx hb dX10_dismiss_3 (by decide) ?_
  cases ht : tX10_change M 5 (-1) 0 with
  | some r =>
    rw [ht] at hf
    cases hf
    refine gCallVT X cOK rfl (wX10_change hl0 ht) gRX10_X10_change hdX10_change rfl ⟨by decide, by decide⟩ hP hS (cr_rec hP (rfl : kc 0 = 0) rfl cw0 rfl) hl.1 (Nat.le_of_ble_eq_true rfl) ⟨rfl, rfl⟩ dX10_dismiss_4 (As := [.int 5, .int (-1), .int 0]) (rest := []) rfl (fun H locs q9 ce hP hS hce hcv hcl => ?_)
    exact gOutT cOK X hT hlk hP hS hce hcv hcl (Nat.le_refl _) (Nat.le_refl _)
  | none =>
    rw [ht] at hf
    dsimp only at hf
    cases hf
theorem wX10_dismiss {l : Launch} {dC : Nat → ClassId} {dI : Nat → Nat → Nat} {cg : Nat → ClassId} {kA : String → Nat → Nat} {ca : Nat → Nat} (hl0 : l.stackTraces = false) {M S1 : CS} {Ex : String} (hf : tX10_dismiss M  = some (Ex, S1)) : gThr l yX10_dismiss cX10_dismiss 1 (some .int) 8 (cΩ ca) (cP dC dI cg kA ca) (kR kTab kA) [.ref (ca 0)] M Ex S1 := gEntryT (by decide) cOK (Nat.le_of_ble_eq_true rfl) (fun p e s m args below meth c ls X hT hlk hP hS hl => 
  ktX10_dismiss_0 X hT hlk hl0 (ccmp hP) hf hP hS (lv_sub hl [0] rfl))
set_option maxRecDepth 10000 in
theorem ktX10_setMilk_7 {Ex : String} {S1 : CS} {M : CS} {x1 : Int32} {H : Heap} {locs : List Loc} {ls : Array Slot} (X : gX p s m args c cX10_setMilk 2 RX10 (kR kTab kA)) (hT : ∀ x ∈ c.exceptionTable.toList, False) (hlk : meth.locks = false) (hl0 : l.stackTraces = false) (hZ : cmpS (cΩ ca) s s.heap) (hf : tX10_setMilk_7 M x1 = some (Ex, S1)) (hP : (cP dC dI cg kA ca) M s H) (hS : va_S (Fr (cΩ ca) s.heap.size) s.heap H locs) (hl : lv_has ls 2 [(0, .ref (ca 0)), (1, .int x1)]) : W p l e (rmL 8 1 6) s m args below meth c H locs 0 0 (gTQ below (cΩ ca) (cP dC dI cg kA ca) Ex S1 args s) (F0 m 7 ls []) := by
  have hx := X.hx
  have hb := X.hb
  have hown := X.hown
  have hts := X.hts
  rw [tX10_setMilk_7] at hf
  refine lv_aload_n hx hb dX10_setMilk_7 rfl (lv_at hl 0 rfl) ?_
  refine lv_bipush (v := 6) hx hb dX10_setMilk_8 (by decide) ?_
  refine lv_iconst (v := (-1)) hx hb dX10_setMilk_10 (by decide) ?_
  refine lv_iload_n hx hb dX10_setMilk_11 rfl (lv_at hl 1 rfl) ?_
  cases ht : tX10_change M 6 (-1) x1 with
  | some r =>
    rw [ht] at hf
    cases hf
    refine gCallVT X cOK rfl (wX10_change hl0 ht) gRX10_X10_change hdX10_change rfl ⟨by decide, by decide⟩ hP hS (cr_rec hP (rfl : kc 0 = 0) rfl cw0 rfl) hl.1 (Nat.le_of_ble_eq_true rfl) ⟨rfl, rfl⟩ dX10_setMilk_12 (As := [.int 6, .int (-1), .int x1]) (rest := []) rfl (fun H locs q9 ce hP hS hce hcv hcl => ?_)
    exact gOutT cOK X hT hlk hP hS hce hcv hcl (Nat.le_refl _) (Nat.le_refl _)
  | none =>
    rw [ht] at hf
    dsimp only at hf
    cases hf
set_option maxRecDepth 10000 in
theorem ktX10_setMilk_0 {Ex : String} {S1 : CS} {M : CS} {a1 : Int32} {H : Heap} {locs : List Loc} {ls : Array Slot} (X : gX p s m args c cX10_setMilk 2 RX10 (kR kTab kA)) (hT : ∀ x ∈ c.exceptionTable.toList, False) (hlk : meth.locks = false) (hl0 : l.stackTraces = false) (hZ : cmpS (cΩ ca) s s.heap) (hf : tX10_setMilk_0 M a1 = some (Ex, S1)) (hP : (cP dC dI cg kA ca) M s H) (hS : va_S (Fr (cΩ ca) s.heap.size) s.heap H locs) (hl : lv_has ls 2 [(0, .ref (ca 0)), (1, .int a1)]) : W p l e (rmL 8 1 6) s m args below meth c H locs 0 0 (gTQ below (cΩ ca) (cP dC dI cg kA ca) Ex S1 args s) (F0 m 0 ls []) := by
  have hx := X.hx
  have hb := X.hb
  have hown := X.hown
  have hts := X.hts
  rw [tX10_setMilk_0] at hf
  refine lv_iload_n hx hb dX10_setMilk_0 rfl (lv_at hl 1 rfl) ?_
  refine lv_iconst (v := 0) hx hb dX10_setMilk_1 (by decide) ?_
  refine lv_bipush (v := 9) hx hb dX10_setMilk_2 (by decide) ?_
  cases ht : tX10_requireRange M a1 0 9 with
  | some r =>
    rw [ht] at hf
    cases hf
    refine gCallST X cOK rfl (wX10_requireRange hl0 ht) gRX10_X10_requireRange hdX10_requireRange rfl ⟨by decide, by decide⟩ hP hS hl.1 (Nat.le_of_ble_eq_true rfl) ⟨rfl, rfl⟩ dX10_setMilk_4 (As := [.int a1, .int 0, .int 9]) (rest := []) rfl (fun H locs q9 ce hP hS hce hcv hcl => ?_)
    exact gOutT cOK X hT hlk hP hS hce hcv hcl (Nat.le_refl _) (Nat.le_refl _)
  | none =>
    rw [ht] at hf
    dsimp only at hf
    obtain ⟨q, hc, hf⟩ := bd hf
    refine gCallSV X cOK rfl (vX10_requireRange hc) gRX10_X10_requireRange hdX10_requireRange rfl ⟨by decide, by decide⟩ hP hS hl.1 (Nat.le_of_ble_eq_true rfl) ⟨Nat.zero_le _, Nat.zero_le _⟩ dX10_setMilk_4 (As := [.int a1, .int 0, .int 9]) (rest := []) rfl (fun H locs hP hS => ?_)
    exact ktX10_setMilk_7 X hT hlk hl0 hZ hf hP hS (lv_sub hl [0, 1] rfl)
theorem wX10_setMilk {l : Launch} {dC : Nat → ClassId} {dI : Nat → Nat → Nat} {cg : Nat → ClassId} {kA : String → Nat → Nat} {ca : Nat → Nat} (hl0 : l.stackTraces = false) {M S1 : CS} {Ex : String} {a1 : Int32} (hf : tX10_setMilk M a1 = some (Ex, S1)) : gThr l yX10_setMilk cX10_setMilk 2 (some .int) 8 (cΩ ca) (cP dC dI cg kA ca) (kR kTab kA) [.ref (ca 0), .int a1] M Ex S1 := gEntryT (by decide) cOK (Nat.le_of_ble_eq_true rfl) (fun p e s m args below meth c ls X hT hlk hP hS hl => 
  ktX10_setMilk_0 X hT hlk hl0 (ccmp hP) hf hP hS (lv_sub hl [0, 1] rfl))
