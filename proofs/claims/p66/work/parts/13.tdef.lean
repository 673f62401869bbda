def tX10_catAt_15 (M : CS) : Option (String × CS) := some ("java/lang/IndexOutOfBoundsException", M)
def tX10_catAt_4 (M : CS) (x1 : Int32) : Option (String × CS) := if x1 < (M.1 13 5) then none else tX10_catAt_15 M
def tX10_catAt_0 (M : CS) (a1 : Int32) : Option (String × CS) := if a1 < 0 then tX10_catAt_15 M else tX10_catAt_4 M a1
def tX10_catAt (M : CS) (a1 : Int32) : Option (String × CS) := tX10_catAt_0  M a1
def tX10_sackAt_15 (M : CS) : Option (String × CS) := some ("java/lang/IndexOutOfBoundsException", M)
def tX10_sackAt_4 (M : CS) (x1 : Int32) : Option (String × CS) := if x1 < (M.1 13 6) then none else tX10_sackAt_15 M
def tX10_sackAt_0 (M : CS) (a1 : Int32) : Option (String × CS) := if a1 < 0 then tX10_sackAt_15 M else tX10_sackAt_4 M a1
def tX10_sackAt (M : CS) (a1 : Int32) : Option (String × CS) := tX10_sackAt_0  M a1
def tX10_requireRange_10 (M : CS) : Option (String × CS) := some ("java/lang/IllegalArgumentException", M)
def tX10_requireRange_5 (M : CS) (x0 : Int32) (x2 : Int32) : Option (String × CS) := if x0 ≤ x2 then none else tX10_requireRange_10 M
def tX10_requireRange_0 (M : CS) (a1 : Int32) (a2 : Int32) (a3 : Int32) : Option (String × CS) := if a1 < a2 then tX10_requireRange_10 M else tX10_requireRange_5 M a1 a3
def tX10_requireRange (M : CS) (a1 : Int32) (a2 : Int32) (a3 : Int32) : Option (String × CS) := tX10_requireRange_0  M a1 a2 a3
def tX10_tirednessOf_0 (M : CS) (a1 : Int32) : Option (String × CS) := match tX10_catAt M a1 with | some r => some r | none => none
def tX10_tirednessOf (M : CS) (a1 : Int32) : Option (String × CS) := tX10_tirednessOf_0  M a1
def tX10_strengthOf_0 (M : CS) (a1 : Int32) : Option (String × CS) := match tX10_catAt M a1 with | some r => some r | none => none
def tX10_strengthOf (M : CS) (a1 : Int32) : Option (String × CS) := tX10_strengthOf_0  M a1
def tX10_caughtBy_0 (M : CS) (a1 : Int32) : Option (String × CS) := match tX10_catAt M a1 with | some r => some r | none => none
def tX10_caughtBy (M : CS) (a1 : Int32) : Option (String × CS) := tX10_caughtBy_0  M a1
def tX10_oathsOf_0 (M : CS) (a1 : Int32) : Option (String × CS) := match tX10_catAt M a1 with | some r => some r | none => none
def tX10_oathsOf (M : CS) (a1 : Int32) : Option (String × CS) := tX10_oathsOf_0  M a1
def tX10_grainIn_0 (M : CS) (a1 : Int32) : Option (String × CS) := match tX10_sackAt M a1 with | some r => some r | none => none
def tX10_grainIn (M : CS) (a1 : Int32) : Option (String × CS) := tX10_grainIn_0  M a1
def tX10_miceIn_0 (M : CS) (a1 : Int32) : Option (String × CS) := match tX10_sackAt M a1 with | some r => some r | none => none
def tX10_miceIn (M : CS) (a1 : Int32) : Option (String × CS) := tX10_miceIn_0  M a1
def tX10_isOpen_0 (M : CS) (a1 : Int32) : Option (String × CS) := match tX10_sackAt M a1 with | some r => some r | none => none
def tX10_isOpen (M : CS) (a1 : Int32) : Option (String × CS) := tX10_isOpen_0  M a1
def tX10_eatenFrom_0 (M : CS) (a1 : Int32) : Option (String × CS) := match tX10_sackAt M a1 with | some r => some r | none => none
def tX10_eatenFrom (M : CS) (a1 : Int32) : Option (String × CS) := tX10_eatenFrom_0  M a1
def tX10_change_13 (M : CS) : Option (String × CS) := some ("java/lang/IllegalStateException", M)
def tX10_change_10 (M : CS) (x1 : Int32) (x2 : Int32) (x3 : Int32) (s0 : Int32) : Option (String × CS) := if s0 = 0 then tX10_change_13 M else none
def tX10_change_0 (M : CS) (a1 : Int32) (a2 : Int32) (a3 : Int32) : Option (String × CS) := (fX2_allows M 13 a1 a2 a3).bind fun q => tX10_change_10 M a1 a2 a3 q
def tX10_change (M : CS) (a1 : Int32) (a2 : Int32) (a3 : Int32) : Option (String × CS) := tX10_change_0  M a1 a2 a3
def tX10_letPass_7 (M : CS) (x1 : Int32) : Option (String × CS) := match tX10_change M 0 (-1) x1 with | some r => some r | none => none
def tX10_letPass_0 (M : CS) (a1 : Int32) : Option (String × CS) := match tX10_requireRange M a1 1 99 with | some r => some r | none => (fX10_requireRange M a1 1 99).bind fun q => tX10_letPass_7 q a1
def tX10_letPass (M : CS) (a1 : Int32) : Option (String × CS) := tX10_letPass_0  M a1
def tX10_openFlap_5 (M : CS) (z0 : Nat) (x1 : Int32) : Option (String × CS) := match tX10_change M 1 x1 0 with | some r => some r | none => none
def tX10_openFlap_0 (M : CS) (a1 : Int32) : Option (String × CS) := match tX10_sackAt M a1 with | some r => some r | none => (fX10_sackAt M a1).bind fun q => tX10_openFlap_5 M q a1
def tX10_openFlap (M : CS) (a1 : Int32) : Option (String × CS) := tX10_openFlap_0  M a1
def tX10_shutFlap_5 (M : CS) (z0 : Nat) (x1 : Int32) : Option (String × CS) := match tX10_change M 2 x1 0 with | some r => some r | none => none
def tX10_shutFlap_0 (M : CS) (a1 : Int32) : Option (String × CS) := match tX10_sackAt M a1 with | some r => some r | none => (fX10_sackAt M a1).bind fun q => tX10_shutFlap_5 M q a1
def tX10_shutFlap (M : CS) (a1 : Int32) : Option (String × CS) := tX10_shutFlap_0  M a1
def tX10_addMice_13 (M : CS) (x1 : Int32) (x2 : Int32) : Option (String × CS) := match tX10_change M 3 x1 x2 with | some r => some r | none => none
def tX10_addMice_5 (M : CS) (z0 : Nat) (x1 : Int32) (x2 : Int32) : Option (String × CS) := match tX10_requireRange M x2 1 99 with | some r => some r | none => (fX10_requireRange M x2 1 99).bind fun q => tX10_addMice_13 q x1 x2
def tX10_addMice_0 (M : CS) (a1 : Int32) (a2 : Int32) : Option (String × CS) := match tX10_sackAt M a1 with | some r => some r | none => (fX10_sackAt M a1).bind fun q => tX10_addMice_5 M q a1 a2
def tX10_addMice (M : CS) (a1 : Int32) (a2 : Int32) : Option (String × CS) := tX10_addMice_0  M a1 a2
def tX10_addGrain_14 (M : CS) (x1 : Int32) (x2 : Int32) : Option (String × CS) := match tX10_change M 4 x1 x2 with | some r => some r | none => none
def tX10_addGrain_5 (M : CS) (z0 : Nat) (x1 : Int32) (x2 : Int32) : Option (String × CS) := match tX10_requireRange M x2 1 999 with | some r => some r | none => (fX10_requireRange M x2 1 999).bind fun q => tX10_addGrain_14 q x1 x2
def tX10_addGrain_0 (M : CS) (a1 : Int32) (a2 : Int32) : Option (String × CS) := match tX10_sackAt M a1 with | some r => some r | none => (fX10_sackAt M a1).bind fun q => tX10_addGrain_5 M q a1 a2
def tX10_addGrain (M : CS) (a1 : Int32) (a2 : Int32) : Option (String × CS) := tX10_addGrain_0  M a1 a2
def tX10_dismiss_0 (M : CS) : Option (String × CS) := match tX10_change M 5 (-1) 0 with | some r => some r | none => none
def tX10_dismiss (M : CS) : Option (String × CS) := tX10_dismiss_0  M
def tX10_setMilk_7 (M : CS) (x1 : Int32) : Option (String × CS) := match tX10_change M 6 (-1) x1 with | some r => some r | none => none
def tX10_setMilk_0 (M : CS) (a1 : Int32) : Option (String × CS) := match tX10_requireRange M a1 0 9 with | some r => some r | none => (fX10_requireRange M a1 0 9).bind fun q => tX10_setMilk_7 q a1
def tX10_setMilk (M : CS) (a1 : Int32) : Option (String × CS) := tX10_setMilk_0  M a1
