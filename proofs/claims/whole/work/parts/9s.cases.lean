/-! each catching method beside the reference -/
def NN2 : Prop := (∀ {y : UInt32}, vf_n32 y → vf_n64 (FP.f2d y)) ∧ ∀ {v : UInt64}, vf_n64 v → Op.cmpValue (FP.dcmp v v) .l = 0
section CASES
variable {dC : Nat → ClassId} {dI : Nat → Nat → Nat} {cg : Nat → ClassId} {kA : String → Nat → Nat} {b1 b2 o1 o2 : Nat} {cL cD : ClassId} {S : CS} {M : MS} {x : Int64} {d : UInt64} {l : Launch}
theorem xw_catNameByte (hl0 : l.stackTraces = false) (hap : APJ b1 b2 o1 o2) (r : Rel S M) (a : Int32) (b : Int32) : ∃ (y : Int32) (S1 : CS) (M1 : MS) (x1 : Int64), fX11_catNameByte M a b = some (y, M1) ∧ Rel S1 M1 ∧ (M1.1 7 = 0 → x1 = y.toInt64) ∧ gMetX l yL_catNameByte cL_catNameByte 5 [(0, 10, 13, 13)] 26 1 6 (jΩ b1 b2 o1 o2) (jP dC dI cg kA b1 b2 o1 o2 cL cD) (kR kTab kA) [.ref (caOf b1 0), .int a, .int b, .ref o1] (S, M, x, d) (M1.1 7) (S1, M, x1, d) := by
  rcases q_catNameByte r a b with ⟨y, M1, e1, e2, rr, e7⟩ | ⟨y, S1, M1, e1, e2, rr, e7⟩
  · refine ⟨y, S, M1, y.toInt64, e2, rr, fun _ => rfl, ?_⟩
    rw [e7]
    exact xo_catNameByte hap (gMetR_IA cOK (vX10_catNameByte e1))
  · refine ⟨y, S1, M1, x, e2, rr, fun z => absurd (e7.symm.trans z) (by decide), ?_⟩
    rw [e7]
    exact xt1_catNameByte hap (wX10_catNameByte hl0 e1)
theorem xw_sackNameByte (hl0 : l.stackTraces = false) (hap : APJ b1 b2 o1 o2) (r : Rel S M) (a : Int32) (b : Int32) : ∃ (y : Int32) (S1 : CS) (M1 : MS) (x1 : Int64), fX11_sackNameByte M a b = some (y, M1) ∧ Rel S1 M1 ∧ (M1.1 7 = 0 → x1 = y.toInt64) ∧ gMetX l yL_sackNameByte cL_sackNameByte 5 [(0, 10, 13, 13)] 26 1 6 (jΩ b1 b2 o1 o2) (jP dC dI cg kA b1 b2 o1 o2 cL cD) (kR kTab kA) [.ref (caOf b1 0), .int a, .int b, .ref o1] (S, M, x, d) (M1.1 7) (S1, M, x1, d) := by
  rcases q_sackNameByte r a b with ⟨y, M1, e1, e2, rr, e7⟩ | ⟨y, S1, M1, e1, e2, rr, e7⟩
  · refine ⟨y, S, M1, y.toInt64, e2, rr, fun _ => rfl, ?_⟩
    rw [e7]
    exact xo_sackNameByte hap (gMetR_IA cOK (vX10_sackNameByte e1))
  · refine ⟨y, S1, M1, x, e2, rr, fun z => absurd (e7.symm.trans z) (by decide), ?_⟩
    rw [e7]
    exact xt1_sackNameByte hap (wX10_sackNameByte hl0 e1)
theorem xw_speedOf (hl0 : l.stackTraces = false) (hap : APJ b1 b2 o1 o2) (r : Rel S M) (a : Int32) : ∃ (y : Int32) (S1 : CS) (M1 : MS) (x1 : Int64), fX11_speedOf M a = some (y, M1) ∧ Rel S1 M1 ∧ (M1.1 7 = 0 → x1 = y.toInt64) ∧ gMetX l yL_speedOf cL_speedOf 4 [(0, 9, 12, 13)] 26 1 6 (jΩ b1 b2 o1 o2) (jP dC dI cg kA b1 b2 o1 o2 cL cD) (kR kTab kA) [.ref (caOf b1 0), .int a, .ref o1] (S, M, x, d) (M1.1 7) (S1, M, x1, d) := by
  rcases q_speedOf r a with ⟨y, M1, e1, e2, rr, e7⟩ | ⟨y, S1, M1, e1, e2, rr, e7⟩
  · refine ⟨y, S, M1, y.toInt64, e2, rr, fun _ => rfl, ?_⟩
    rw [e7]
    exact xo_speedOf hap (gMetR_IA cOK (vX10_speedOf e1))
  · refine ⟨y, S1, M1, x, e2, rr, fun z => absurd (e7.symm.trans z) (by decide), ?_⟩
    rw [e7]
    exact xt1_speedOf hap (wX10_speedOf hl0 e1)
theorem xw_isLeftPawed (hl0 : l.stackTraces = false) (hap : APJ b1 b2 o1 o2) (r : Rel S M) (a : Int32) : ∃ (y : Int32) (S1 : CS) (M1 : MS) (x1 : Int64), fX11_isLeftPawed M a = some (y, M1) ∧ Rel S1 M1 ∧ (M1.1 7 = 0 → x1 = (if y = 0 then 0 else 1)) ∧ gMetX l yL_isLeftPawed cL_isLeftPawed 4 [(0, 16, 19, 13)] 26 1 6 (jΩ b1 b2 o1 o2) (jP dC dI cg kA b1 b2 o1 o2 cL cD) (kR kTab kA) [.ref (caOf b1 0), .int a, .ref o1] (S, M, x, d) (M1.1 7) (S1, M, x1, d) := by
  rcases q_isLeftPawed r a with ⟨y, M1, e1, e2, rr, e7⟩ | ⟨y, S1, M1, e1, e2, rr, e7⟩
  · refine ⟨y, S, M1, (if y = 0 then 0 else 1), e2, rr, fun _ => rfl, ?_⟩
    rw [e7]
    exact xo_isLeftPawed hap (gMetR_IA cOK (vX10_isLeftPawed e1))
  · refine ⟨y, S1, M1, x, e2, rr, fun z => absurd (e7.symm.trans z) (by decide), ?_⟩
    rw [e7]
    exact xt1_isLeftPawed hap (wX10_isLeftPawed hl0 e1)
theorem xw_tirednessOf (hl0 : l.stackTraces = false) (hap : APJ b1 b2 o1 o2) (r : Rel S M) (a : Int32) : ∃ (y : Int32) (S1 : CS) (M1 : MS) (x1 : Int64), fX11_tirednessOf M a = some (y, M1) ∧ Rel S1 M1 ∧ (M1.1 7 = 0 → x1 = y.toInt64) ∧ gMetX l yL_tirednessOf cL_tirednessOf 4 [(0, 9, 12, 13)] 26 1 6 (jΩ b1 b2 o1 o2) (jP dC dI cg kA b1 b2 o1 o2 cL cD) (kR kTab kA) [.ref (caOf b1 0), .int a, .ref o1] (S, M, x, d) (M1.1 7) (S1, M, x1, d) := by
  rcases q_tirednessOf r a with ⟨y, M1, e1, e2, rr, e7⟩ | ⟨y, S1, M1, e1, e2, rr, e7⟩
  · refine ⟨y, S, M1, y.toInt64, e2, rr, fun _ => rfl, ?_⟩
    rw [e7]
    exact xo_tirednessOf hap (gMetR_IA cOK (vX10_tirednessOf e1))
  · refine ⟨y, S1, M1, x, e2, rr, fun z => absurd (e7.symm.trans z) (by decide), ?_⟩
    rw [e7]
    exact xt1_tirednessOf hap (wX10_tirednessOf hl0 e1)
theorem xw_strengthOf (hl0 : l.stackTraces = false) (hap : APJ b1 b2 o1 o2) (r : Rel S M) (a : Int32) : ∃ (y : Int32) (S1 : CS) (M1 : MS) (x1 : Int64), fX11_strengthOf M a = some (y, M1) ∧ Rel S1 M1 ∧ (M1.1 7 = 0 → x1 = y.toInt64) ∧ gMetX l yL_strengthOf cL_strengthOf 4 [(0, 9, 12, 13)] 26 1 6 (jΩ b1 b2 o1 o2) (jP dC dI cg kA b1 b2 o1 o2 cL cD) (kR kTab kA) [.ref (caOf b1 0), .int a, .ref o1] (S, M, x, d) (M1.1 7) (S1, M, x1, d) := by
  rcases q_strengthOf r a with ⟨y, M1, e1, e2, rr, e7⟩ | ⟨y, S1, M1, e1, e2, rr, e7⟩
  · refine ⟨y, S, M1, y.toInt64, e2, rr, fun _ => rfl, ?_⟩
    rw [e7]
    exact xo_strengthOf hap (gMetR_IA cOK (vX10_strengthOf e1))
  · refine ⟨y, S1, M1, x, e2, rr, fun z => absurd (e7.symm.trans z) (by decide), ?_⟩
    rw [e7]
    exact xt1_strengthOf hap (wX10_strengthOf hl0 e1)
theorem xw_caughtBy (hl0 : l.stackTraces = false) (hap : APJ b1 b2 o1 o2) (r : Rel S M) (a : Int32) : ∃ (y : Int32) (S1 : CS) (M1 : MS) (x1 : Int64), fX11_caughtBy M a = some (y, M1) ∧ Rel S1 M1 ∧ (M1.1 7 = 0 → x1 = y.toInt64) ∧ gMetX l yL_caughtBy cL_caughtBy 4 [(0, 9, 12, 13)] 26 1 6 (jΩ b1 b2 o1 o2) (jP dC dI cg kA b1 b2 o1 o2 cL cD) (kR kTab kA) [.ref (caOf b1 0), .int a, .ref o1] (S, M, x, d) (M1.1 7) (S1, M, x1, d) := by
  rcases q_caughtBy r a with ⟨y, M1, e1, e2, rr, e7⟩ | ⟨y, S1, M1, e1, e2, rr, e7⟩
  · refine ⟨y, S, M1, y.toInt64, e2, rr, fun _ => rfl, ?_⟩
    rw [e7]
    exact xo_caughtBy hap (gMetR_IA cOK (vX10_caughtBy e1))
  · refine ⟨y, S1, M1, x, e2, rr, fun z => absurd (e7.symm.trans z) (by decide), ?_⟩
    rw [e7]
    exact xt1_caughtBy hap (wX10_caughtBy hl0 e1)
theorem xw_oathsOf (hl0 : l.stackTraces = false) (hap : APJ b1 b2 o1 o2) (r : Rel S M) (a : Int32) : ∃ (y : Int32) (S1 : CS) (M1 : MS) (x1 : Int64), fX11_oathsOf M a = some (y, M1) ∧ Rel S1 M1 ∧ (M1.1 7 = 0 → x1 = y.toInt64) ∧ gMetX l yL_oathsOf cL_oathsOf 4 [(0, 9, 12, 13)] 26 1 6 (jΩ b1 b2 o1 o2) (jP dC dI cg kA b1 b2 o1 o2 cL cD) (kR kTab kA) [.ref (caOf b1 0), .int a, .ref o1] (S, M, x, d) (M1.1 7) (S1, M, x1, d) := by
  rcases q_oathsOf r a with ⟨y, M1, e1, e2, rr, e7⟩ | ⟨y, S1, M1, e1, e2, rr, e7⟩
  · refine ⟨y, S, M1, y.toInt64, e2, rr, fun _ => rfl, ?_⟩
    rw [e7]
    exact xo_oathsOf hap (gMetR_IA cOK (vX10_oathsOf e1))
  · refine ⟨y, S1, M1, x, e2, rr, fun z => absurd (e7.symm.trans z) (by decide), ?_⟩
    rw [e7]
    exact xt1_oathsOf hap (wX10_oathsOf hl0 e1)
theorem xw_grainIn (hl0 : l.stackTraces = false) (hap : APJ b1 b2 o1 o2) (r : Rel S M) (a : Int32) : ∃ (y : Int32) (S1 : CS) (M1 : MS) (x1 : Int64), fX11_grainIn M a = some (y, M1) ∧ Rel S1 M1 ∧ (M1.1 7 = 0 → x1 = y.toInt64) ∧ gMetX l yL_grainIn cL_grainIn 4 [(0, 9, 12, 13)] 26 1 6 (jΩ b1 b2 o1 o2) (jP dC dI cg kA b1 b2 o1 o2 cL cD) (kR kTab kA) [.ref (caOf b1 0), .int a, .ref o1] (S, M, x, d) (M1.1 7) (S1, M, x1, d) := by
  rcases q_grainIn r a with ⟨y, M1, e1, e2, rr, e7⟩ | ⟨y, S1, M1, e1, e2, rr, e7⟩
  · refine ⟨y, S, M1, y.toInt64, e2, rr, fun _ => rfl, ?_⟩
    rw [e7]
    exact xo_grainIn hap (gMetR_IA cOK (vX10_grainIn e1))
  · refine ⟨y, S1, M1, x, e2, rr, fun z => absurd (e7.symm.trans z) (by decide), ?_⟩
    rw [e7]
    exact xt1_grainIn hap (wX10_grainIn hl0 e1)
theorem xw_miceIn (hl0 : l.stackTraces = false) (hap : APJ b1 b2 o1 o2) (r : Rel S M) (a : Int32) : ∃ (y : Int32) (S1 : CS) (M1 : MS) (x1 : Int64), fX11_miceIn M a = some (y, M1) ∧ Rel S1 M1 ∧ (M1.1 7 = 0 → x1 = y.toInt64) ∧ gMetX l yL_miceIn cL_miceIn 4 [(0, 9, 12, 13)] 26 1 6 (jΩ b1 b2 o1 o2) (jP dC dI cg kA b1 b2 o1 o2 cL cD) (kR kTab kA) [.ref (caOf b1 0), .int a, .ref o1] (S, M, x, d) (M1.1 7) (S1, M, x1, d) := by
  rcases q_miceIn r a with ⟨y, M1, e1, e2, rr, e7⟩ | ⟨y, S1, M1, e1, e2, rr, e7⟩
  · refine ⟨y, S, M1, y.toInt64, e2, rr, fun _ => rfl, ?_⟩
    rw [e7]
    exact xo_miceIn hap (gMetR_IA cOK (vX10_miceIn e1))
  · refine ⟨y, S1, M1, x, e2, rr, fun z => absurd (e7.symm.trans z) (by decide), ?_⟩
    rw [e7]
    exact xt1_miceIn hap (wX10_miceIn hl0 e1)
theorem xw_isOpen (hl0 : l.stackTraces = false) (hap : APJ b1 b2 o1 o2) (r : Rel S M) (a : Int32) : ∃ (y : Int32) (S1 : CS) (M1 : MS) (x1 : Int64), fX11_isOpen M a = some (y, M1) ∧ Rel S1 M1 ∧ (M1.1 7 = 0 → x1 = (if y = 0 then 0 else 1)) ∧ gMetX l yL_isOpen cL_isOpen 4 [(0, 16, 19, 13)] 26 1 6 (jΩ b1 b2 o1 o2) (jP dC dI cg kA b1 b2 o1 o2 cL cD) (kR kTab kA) [.ref (caOf b1 0), .int a, .ref o1] (S, M, x, d) (M1.1 7) (S1, M, x1, d) := by
  rcases q_isOpen r a with ⟨y, M1, e1, e2, rr, e7⟩ | ⟨y, S1, M1, e1, e2, rr, e7⟩
  · refine ⟨y, S, M1, (if y = 0 then 0 else 1), e2, rr, fun _ => rfl, ?_⟩
    rw [e7]
    exact xo_isOpen hap (gMetR_IA cOK (vX10_isOpen e1))
  · refine ⟨y, S1, M1, x, e2, rr, fun z => absurd (e7.symm.trans z) (by decide), ?_⟩
    rw [e7]
    exact xt1_isOpen hap (wX10_isOpen hl0 e1)
theorem xw_eatenFrom (hl0 : l.stackTraces = false) (hap : APJ b1 b2 o1 o2) (r : Rel S M) (a : Int32) : ∃ (y : Int32) (S1 : CS) (M1 : MS) (x1 : Int64), fX11_eatenFrom M a = some (y, M1) ∧ Rel S1 M1 ∧ (M1.1 7 = 0 → x1 = y.toInt64) ∧ gMetX l yL_eatenFrom cL_eatenFrom 4 [(0, 9, 12, 13)] 26 1 6 (jΩ b1 b2 o1 o2) (jP dC dI cg kA b1 b2 o1 o2 cL cD) (kR kTab kA) [.ref (caOf b1 0), .int a, .ref o1] (S, M, x, d) (M1.1 7) (S1, M, x1, d) := by
  rcases q_eatenFrom r a with ⟨y, M1, e1, e2, rr, e7⟩ | ⟨y, S1, M1, e1, e2, rr, e7⟩
  · refine ⟨y, S, M1, y.toInt64, e2, rr, fun _ => rfl, ?_⟩
    rw [e7]
    exact xo_eatenFrom hap (gMetR_IA cOK (vX10_eatenFrom e1))
  · refine ⟨y, S1, M1, x, e2, rr, fun z => absurd (e7.symm.trans z) (by decide), ?_⟩
    rw [e7]
    exact xt1_eatenFrom hap (wX10_eatenFrom hl0 e1)
theorem xw_catOfShift (hl0 : l.stackTraces = false) (hap : APJ b1 b2 o1 o2) (r : Rel S M) (a : Int32) : ∃ (y : Int32) (S1 : CS) (M1 : MS) (x1 : Int64), fX11_catOfShift M a = some (y, M1) ∧ Rel S1 M1 ∧ (M1.1 7 = 0 → x1 = y.toInt64) ∧ gMetX l yL_catOfShift cL_catOfShift 4 [(0, 9, 12, 13)] 26 1 6 (jΩ b1 b2 o1 o2) (jP dC dI cg kA b1 b2 o1 o2 cL cD) (kR kTab kA) [.ref (caOf b1 0), .int a, .ref o1] (S, M, x, d) (M1.1 7) (S1, M, x1, d) := by
  rcases q_catOfShift r a with ⟨y, M1, e1, e2, rr, e7⟩ | ⟨y, S1, M1, e1, e2, rr, e7⟩
  · refine ⟨y, S, M1, y.toInt64, e2, rr, fun _ => rfl, ?_⟩
    rw [e7]
    exact xo_catOfShift hap (gMetR_IA cOK (vX10_catOfShift e1))
  · refine ⟨y, S1, M1, x, e2, rr, fun z => absurd (e7.symm.trans z) (by decide), ?_⟩
    rw [e7]
    exact xt1_catOfShift hap (wX10_catOfShift hl0 e1)
theorem xw_hoursOfShift (hl0 : l.stackTraces = false) (hap : APJ b1 b2 o1 o2) (r : Rel S M) (a : Int32) : ∃ (y : Int32) (S1 : CS) (M1 : MS) (x1 : Int64), fX11_hoursOfShift M a = some (y, M1) ∧ Rel S1 M1 ∧ (M1.1 7 = 0 → x1 = y.toInt64) ∧ gMetX l yL_hoursOfShift cL_hoursOfShift 4 [(0, 9, 12, 13)] 26 1 6 (jΩ b1 b2 o1 o2) (jP dC dI cg kA b1 b2 o1 o2 cL cD) (kR kTab kA) [.ref (caOf b1 0), .int a, .ref o1] (S, M, x, d) (M1.1 7) (S1, M, x1, d) := by
  rcases q_hoursOfShift r a with ⟨y, M1, e1, e2, rr, e7⟩ | ⟨y, S1, M1, e1, e2, rr, e7⟩
  · refine ⟨y, S, M1, y.toInt64, e2, rr, fun _ => rfl, ?_⟩
    rw [e7]
    exact xo_hoursOfShift hap (gMetR_IA cOK (vX10_hoursOfShift e1))
  · refine ⟨y, S1, M1, x, e2, rr, fun z => absurd (e7.symm.trans z) (by decide), ?_⟩
    rw [e7]
    exact xt1_hoursOfShift hap (wX10_hoursOfShift hl0 e1)
theorem xw_oathReason (hl0 : l.stackTraces = false) (hap : APJ b1 b2 o1 o2) (r : Rel S M) (a : Int32) : ∃ (y : Int32) (S1 : CS) (M1 : MS) (x1 : Int64), fX11_oathReason M a = some (y, M1) ∧ Rel S1 M1 ∧ (M1.1 7 = 0 → x1 = y.toInt64) ∧ gMetX l yL_oathReason cL_oathReason 4 [(0, 9, 12, 13)] 26 1 6 (jΩ b1 b2 o1 o2) (jP dC dI cg kA b1 b2 o1 o2 cL cD) (kR kTab kA) [.ref (caOf b1 0), .int a, .ref o1] (S, M, x, d) (M1.1 7) (S1, M, x1, d) := by
  rcases q_oathReason r a with ⟨y, M1, e1, e2, rr, e7⟩ | ⟨y, S1, M1, e1, e2, rr, e7⟩
  · refine ⟨y, S, M1, y.toInt64, e2, rr, fun _ => rfl, ?_⟩
    rw [e7]
    exact xo_oathReason hap (gMetR_IA cOK (vX10_oathReason e1))
  · refine ⟨y, S1, M1, x, e2, rr, fun z => absurd (e7.symm.trans z) (by decide), ?_⟩
    rw [e7]
    exact xt1_oathReason hap (wX10_oathReason hl0 e1)
theorem xw_miceAfter (hl0 : l.stackTraces = false) (hap : APJ b1 b2 o1 o2) (r : Rel S M) (a : Int32) (b : Int32) : ∃ (y : Int32) (S1 : CS) (M1 : MS) (x1 : Int64), fX11_miceAfter M a b = some (y, M1) ∧ Rel S1 M1 ∧ (M1.1 7 = 0 → x1 = y.toInt64) ∧ gMetX l yL_miceAfter cL_miceAfter 5 [(0, 10, 13, 13), (0, 10, 17, 62)] 26 1 6 (jΩ b1 b2 o1 o2) (jP dC dI cg kA b1 b2 o1 o2 cL cD) (kR kTab kA) [.ref (caOf b1 0), .int a, .int b, .ref o1] (S, M, x, d) (M1.1 7) (S1, M, x1, d) := by
  rcases q_miceAfter r a b with ⟨y, S1, M1, e1, e2, rr, e7⟩ | ⟨y, S1, M1, e1, e2, rr, e7⟩ | ⟨y, S1, M1, e1, e2, rr, e7⟩
  · refine ⟨y, S1, M1, y.toInt64, e2, rr, fun _ => rfl, ?_⟩
    rw [e7]
    exact xo_miceAfter hap (gMetIA.of (vX10_miceAfter e1))
  · refine ⟨y, S1, M1, x, e2, rr, fun z => absurd (e7.symm.trans z) (by decide), ?_⟩
    rw [e7]
    exact xt1_miceAfter hap (wX10_miceAfter hl0 e1)
  · refine ⟨y, S1, M1, x, e2, rr, fun z => absurd (e7.symm.trans z) (by decide), ?_⟩
    rw [e7]
    exact xt2_miceAfter hap (wX10_miceAfter hl0 e1)
theorem xw_grainAfter (hl0 : l.stackTraces = false) (hap : APJ b1 b2 o1 o2) (r : Rel S M) (a : Int32) (b : Int32) : ∃ (y : Int32) (S1 : CS) (M1 : MS) (x1 : Int64), fX11_grainAfter M a b = some (y, M1) ∧ Rel S1 M1 ∧ (M1.1 7 = 0 → x1 = y.toInt64) ∧ gMetX l yL_grainAfter cL_grainAfter 5 [(0, 10, 13, 13), (0, 10, 17, 62)] 26 1 6 (jΩ b1 b2 o1 o2) (jP dC dI cg kA b1 b2 o1 o2 cL cD) (kR kTab kA) [.ref (caOf b1 0), .int a, .int b, .ref o1] (S, M, x, d) (M1.1 7) (S1, M, x1, d) := by
  rcases q_grainAfter r a b with ⟨y, S1, M1, e1, e2, rr, e7⟩ | ⟨y, S1, M1, e1, e2, rr, e7⟩ | ⟨y, S1, M1, e1, e2, rr, e7⟩
  · refine ⟨y, S1, M1, y.toInt64, e2, rr, fun _ => rfl, ?_⟩
    rw [e7]
    exact xo_grainAfter hap (gMetIA.of (vX10_grainAfter e1))
  · refine ⟨y, S1, M1, x, e2, rr, fun z => absurd (e7.symm.trans z) (by decide), ?_⟩
    rw [e7]
    exact xt1_grainAfter hap (wX10_grainAfter hl0 e1)
  · refine ⟨y, S1, M1, x, e2, rr, fun z => absurd (e7.symm.trans z) (by decide), ?_⟩
    rw [e7]
    exact xt2_grainAfter hap (wX10_grainAfter hl0 e1)
theorem xw_swornAfter (hl0 : l.stackTraces = false) (hap : APJ b1 b2 o1 o2) (r : Rel S M) (a : Int32) : ∃ (y : Int32) (S1 : CS) (M1 : MS) (x1 : Int64), fX11_swornAfter M a = some (y, M1) ∧ Rel S1 M1 ∧ (M1.1 7 = 0 → x1 = y.toInt64) ∧ gMetX l yL_swornAfter cL_swornAfter 4 [(0, 9, 12, 62)] 26 1 6 (jΩ b1 b2 o1 o2) (jP dC dI cg kA b1 b2 o1 o2 cL cD) (kR kTab kA) [.ref (caOf b1 0), .int a, .ref o1] (S, M, x, d) (M1.1 7) (S1, M, x1, d) := by
  rcases q_swornAfter r a with ⟨y, S1, M1, e1, e2, rr, e7⟩ | ⟨y, S1, M1, e1, e2, rr, e7⟩
  · refine ⟨y, S1, M1, y.toInt64, e2, rr, fun _ => rfl, ?_⟩
    rw [e7]
    exact xo_swornAfter hap (gMetIA.of (vX10_swornAfter e1))
  · refine ⟨y, S1, M1, x, e2, rr, fun z => absurd (e7.symm.trans z) (by decide), ?_⟩
    rw [e7]
    exact xt1_swornAfter hap (wX10_swornAfter hl0 e1)
theorem xw_hoursUntilEmpty (hl0 : l.stackTraces = false) (hap : APJ b1 b2 o1 o2) (r : Rel S M) (a : Int32) : ∃ (y : Int32) (S1 : CS) (M1 : MS) (x1 : Int64), fX11_hoursUntilEmpty M a = some (y, M1) ∧ Rel S1 M1 ∧ (M1.1 7 = 0 → x1 = y.toInt64) ∧ gMetX l yL_hoursUntilEmpty cL_hoursUntilEmpty 4 [(0, 9, 12, 13)] 26 1 6 (jΩ b1 b2 o1 o2) (jP dC dI cg kA b1 b2 o1 o2 cL cD) (kR kTab kA) [.ref (caOf b1 0), .int a, .ref o1] (S, M, x, d) (M1.1 7) (S1, M, x1, d) := by
  rcases q_hoursUntilEmpty r a with ⟨y, S1, M1, e1, e2, rr, e7⟩ | ⟨y, S1, M1, e1, e2, rr, e7⟩
  · refine ⟨y, S1, M1, y.toInt64, e2, rr, fun _ => rfl, ?_⟩
    rw [e7]
    exact xo_hoursUntilEmpty hap (gMetIA.of (vX10_hoursUntilEmpty e1))
  · refine ⟨y, S1, M1, x, e2, rr, fun z => absurd (e7.symm.trans z) (by decide), ?_⟩
    rw [e7]
    exact xt1_hoursUntilEmpty hap (wX10_hoursUntilEmpty hl0 e1)
theorem xw_caughtWithin (hl0 : l.stackTraces = false) (hap : APJ b1 b2 o1 o2) (r : Rel S M) (a : Int32) : ∃ (y : Int32) (S1 : CS) (M1 : MS) (x1 : Int64), fX11_caughtWithin M a = some (y, M1) ∧ Rel S1 M1 ∧ (M1.1 7 = 0 → x1 = y.toInt64) ∧ gMetX l yL_caughtWithin cL_caughtWithin 4 [(0, 9, 12, 62)] 26 1 6 (jΩ b1 b2 o1 o2) (jP dC dI cg kA b1 b2 o1 o2 cL cD) (kR kTab kA) [.ref (caOf b1 0), .int a, .ref o1] (S, M, x, d) (M1.1 7) (S1, M, x1, d) := by
  rcases q_caughtWithin r a with ⟨y, S1, M1, e1, e2, rr, e7⟩ | ⟨y, S1, M1, e1, e2, rr, e7⟩
  · refine ⟨y, S1, M1, y.toInt64, e2, rr, fun _ => rfl, ?_⟩
    rw [e7]
    exact xo_caughtWithin hap (gMetIA.of (vX10_caughtWithin e1))
  · refine ⟨y, S1, M1, x, e2, rr, fun z => absurd (e7.symm.trans z) (by decide), ?_⟩
    rw [e7]
    exact xt1_caughtWithin hap (wX10_caughtWithin hl0 e1)
theorem xw_bestFlapToChange (hl0 : l.stackTraces = false) (hap : APJ b1 b2 o1 o2) (r : Rel S M) (a : Int32) : ∃ (y : Int32) (S1 : CS) (M1 : MS) (x1 : Int64), fX11_bestFlapToChange M a = some (y, M1) ∧ Rel S1 M1 ∧ (M1.1 7 = 0 → x1 = y.toInt64) ∧ gMetX l yL_bestFlapToChange cL_bestFlapToChange 4 [(0, 9, 12, 62)] 26 1 6 (jΩ b1 b2 o1 o2) (jP dC dI cg kA b1 b2 o1 o2 cL cD) (kR kTab kA) [.ref (caOf b1 0), .int a, .ref o1] (S, M, x, d) (M1.1 7) (S1, M, x1, d) := by
  rcases q_bestFlapToChange r a with ⟨y, S1, M1, e1, e2, rr, e7⟩ | ⟨y, S1, M1, e1, e2, rr, e7⟩
  · refine ⟨y, S1, M1, y.toInt64, e2, rr, fun _ => rfl, ?_⟩
    rw [e7]
    exact xo_bestFlapToChange hap (gMetIA.of (vX10_bestFlapToChange e1))
  · refine ⟨y, S1, M1, x, e2, rr, fun z => absurd (e7.symm.trans z) (by decide), ?_⟩
    rw [e7]
    exact xt1_bestFlapToChange hap (wX10_bestFlapToChange hl0 e1)
theorem xw_shareOf (hl0 : l.stackTraces = false) (hap : APJ b1 b2 o1 o2) (hnn : NNAN) (hn2 : NN2) (r : Rel S M) (a : Int32) : ∃ (y : UInt32) (S1 : CS) (M1 : MS) (d1 : UInt64), fX11_shareOf M a = some (y, M1) ∧ Rel S1 M1 ∧ (M1.1 7 = 0 → d1 = FP.f2d y ∧ vf_n64 d1) ∧ gMetX l yL_shareOf cL_shareOf 4 [(0, 9, 12, 13)] 26 1 6 (jΩ b1 b2 o1 o2) (jP dC dI cg kA b1 b2 o1 o2 cL cD) (kR kTab kA) [.ref (caOf b1 0), .int a, .ref o2] (S, M, x, d) (M1.1 7) (S1, M, x, d1) := by
  rcases q_shareOf hnn r a with ⟨y, M1, e1, e2, rr, e7, hv⟩ | ⟨y, M1, e1, e2, rr, e7⟩
  · refine ⟨y, S, M1, FP.f2d y, e2, rr, fun _ => ⟨rfl, hn2.1 hv⟩, ?_⟩
    rw [e7]
    exact xo_shareOf hap (hn2.1 hv) (vX10_shareOf hnn e1)
  · refine ⟨y, S, M1, d, e2, rr, fun z => absurd (e7.symm.trans z) (by decide), ?_⟩
    rw [e7]
    exact xt1_shareOf hap (wX10_shareOf hl0 e1)
theorem xw_letPass (hl0 : l.stackTraces = false) (hap : APJ b1 b2 o1 o2) (r : Rel S M) (a : Int32) : ∃ (y : Int32) (S1 : CS) (M1 : MS) (x1 : Int64), fX11_letPass M a = some (y, M1) ∧ Rel S1 M1 ∧ (M1.1 7 = 0 → x1 = y.toInt64) ∧ gMetX l yL_letPass cL_letPass 4 [(0, 9, 12, 62), (0, 9, 15, 86)] 26 1 6 (jΩ b1 b2 o1 o2) (jP dC dI cg kA b1 b2 o1 o2 cL cD) (kR kTab kA) [.ref (caOf b1 0), .int a, .ref o1] (S, M, x, d) (M1.1 7) (S1, M, x1, d) := by
  rcases q_letPass r a with ⟨y, S1, M1, e1, e2, rr, e7⟩ | ⟨y, S1, M1, e1, e2, rr, e7⟩ | ⟨y, S1, M1, e1, e2, rr, e7⟩
  · refine ⟨y, S1, M1, y.toInt64, e2, rr, fun _ => rfl, ?_⟩
    rw [e7]
    exact xo_letPass hap (gMetIA.of (vX10_letPass e1))
  · refine ⟨y, S1, M1, x, e2, rr, fun z => absurd (e7.symm.trans z) (by decide), ?_⟩
    rw [e7]
    exact xt1_letPass hap (wX10_letPass hl0 e1)
  · refine ⟨y, S1, M1, x, e2, rr, fun z => absurd (e7.symm.trans z) (by decide), ?_⟩
    rw [e7]
    exact xt2_letPass hap (wX10_letPass hl0 e1)
theorem xw_openFlap (hl0 : l.stackTraces = false) (hap : APJ b1 b2 o1 o2) (r : Rel S M) (a : Int32) : ∃ (y : Int32) (S1 : CS) (M1 : MS) (x1 : Int64), fX11_openFlap M a = some (y, M1) ∧ Rel S1 M1 ∧ (M1.1 7 = 0 → x1 = y.toInt64) ∧ gMetX l yL_openFlap cL_openFlap 4 [(0, 9, 12, 13), (0, 9, 15, 86)] 26 1 6 (jΩ b1 b2 o1 o2) (jP dC dI cg kA b1 b2 o1 o2 cL cD) (kR kTab kA) [.ref (caOf b1 0), .int a, .ref o1] (S, M, x, d) (M1.1 7) (S1, M, x1, d) := by
  rcases q_openFlap r a with ⟨y, S1, M1, e1, e2, rr, e7⟩ | ⟨y, S1, M1, e1, e2, rr, e7⟩ | ⟨y, S1, M1, e1, e2, rr, e7⟩
  · refine ⟨y, S1, M1, y.toInt64, e2, rr, fun _ => rfl, ?_⟩
    rw [e7]
    exact xo_openFlap hap (gMetIA.of (vX10_openFlap e1))
  · refine ⟨y, S1, M1, x, e2, rr, fun z => absurd (e7.symm.trans z) (by decide), ?_⟩
    rw [e7]
    exact xt1_openFlap hap (wX10_openFlap hl0 e1)
  · refine ⟨y, S1, M1, x, e2, rr, fun z => absurd (e7.symm.trans z) (by decide), ?_⟩
    rw [e7]
    exact xt2_openFlap hap (wX10_openFlap hl0 e1)
theorem xw_shutFlap (hl0 : l.stackTraces = false) (hap : APJ b1 b2 o1 o2) (r : Rel S M) (a : Int32) : ∃ (y : Int32) (S1 : CS) (M1 : MS) (x1 : Int64), fX11_shutFlap M a = some (y, M1) ∧ Rel S1 M1 ∧ (M1.1 7 = 0 → x1 = y.toInt64) ∧ gMetX l yL_shutFlap cL_shutFlap 4 [(0, 9, 12, 13), (0, 9, 15, 86)] 26 1 6 (jΩ b1 b2 o1 o2) (jP dC dI cg kA b1 b2 o1 o2 cL cD) (kR kTab kA) [.ref (caOf b1 0), .int a, .ref o1] (S, M, x, d) (M1.1 7) (S1, M, x1, d) := by
  rcases q_shutFlap r a with ⟨y, S1, M1, e1, e2, rr, e7⟩ | ⟨y, S1, M1, e1, e2, rr, e7⟩ | ⟨y, S1, M1, e1, e2, rr, e7⟩
  · refine ⟨y, S1, M1, y.toInt64, e2, rr, fun _ => rfl, ?_⟩
    rw [e7]
    exact xo_shutFlap hap (gMetIA.of (vX10_shutFlap e1))
  · refine ⟨y, S1, M1, x, e2, rr, fun z => absurd (e7.symm.trans z) (by decide), ?_⟩
    rw [e7]
    exact xt1_shutFlap hap (wX10_shutFlap hl0 e1)
  · refine ⟨y, S1, M1, x, e2, rr, fun z => absurd (e7.symm.trans z) (by decide), ?_⟩
    rw [e7]
    exact xt2_shutFlap hap (wX10_shutFlap hl0 e1)
theorem xw_addMice (hl0 : l.stackTraces = false) (hap : APJ b1 b2 o1 o2) (r : Rel S M) (a : Int32) (b : Int32) : ∃ (y : Int32) (S1 : CS) (M1 : MS) (x1 : Int64), fX11_addMice M a b = some (y, M1) ∧ Rel S1 M1 ∧ (M1.1 7 = 0 → x1 = y.toInt64) ∧ gMetX l yL_addMice cL_addMice 5 [(0, 10, 13, 13), (0, 10, 17, 62), (0, 10, 21, 86)] 26 1 6 (jΩ b1 b2 o1 o2) (jP dC dI cg kA b1 b2 o1 o2 cL cD) (kR kTab kA) [.ref (caOf b1 0), .int a, .int b, .ref o1] (S, M, x, d) (M1.1 7) (S1, M, x1, d) := by
  rcases q_addMice r a b with ⟨y, S1, M1, e1, e2, rr, e7⟩ | ⟨y, S1, M1, e1, e2, rr, e7⟩ | ⟨y, S1, M1, e1, e2, rr, e7⟩ | ⟨y, S1, M1, e1, e2, rr, e7⟩
  · refine ⟨y, S1, M1, y.toInt64, e2, rr, fun _ => rfl, ?_⟩
    rw [e7]
    exact xo_addMice hap (gMetIA.of (vX10_addMice e1))
  · refine ⟨y, S1, M1, x, e2, rr, fun z => absurd (e7.symm.trans z) (by decide), ?_⟩
    rw [e7]
    exact xt1_addMice hap (wX10_addMice hl0 e1)
  · refine ⟨y, S1, M1, x, e2, rr, fun z => absurd (e7.symm.trans z) (by decide), ?_⟩
    rw [e7]
    exact xt2_addMice hap (wX10_addMice hl0 e1)
  · refine ⟨y, S1, M1, x, e2, rr, fun z => absurd (e7.symm.trans z) (by decide), ?_⟩
    rw [e7]
    exact xt3_addMice hap (wX10_addMice hl0 e1)
theorem xw_addGrain (hl0 : l.stackTraces = false) (hap : APJ b1 b2 o1 o2) (r : Rel S M) (a : Int32) (b : Int32) : ∃ (y : Int32) (S1 : CS) (M1 : MS) (x1 : Int64), fX11_addGrain M a b = some (y, M1) ∧ Rel S1 M1 ∧ (M1.1 7 = 0 → x1 = y.toInt64) ∧ gMetX l yL_addGrain cL_addGrain 5 [(0, 10, 13, 13), (0, 10, 17, 62), (0, 10, 21, 86)] 26 1 6 (jΩ b1 b2 o1 o2) (jP dC dI cg kA b1 b2 o1 o2 cL cD) (kR kTab kA) [.ref (caOf b1 0), .int a, .int b, .ref o1] (S, M, x, d) (M1.1 7) (S1, M, x1, d) := by
  rcases q_addGrain r a b with ⟨y, S1, M1, e1, e2, rr, e7⟩ | ⟨y, S1, M1, e1, e2, rr, e7⟩ | ⟨y, S1, M1, e1, e2, rr, e7⟩ | ⟨y, S1, M1, e1, e2, rr, e7⟩
  · refine ⟨y, S1, M1, y.toInt64, e2, rr, fun _ => rfl, ?_⟩
    rw [e7]
    exact xo_addGrain hap (gMetIA.of (vX10_addGrain e1))
  · refine ⟨y, S1, M1, x, e2, rr, fun z => absurd (e7.symm.trans z) (by decide), ?_⟩
    rw [e7]
    exact xt1_addGrain hap (wX10_addGrain hl0 e1)
  · refine ⟨y, S1, M1, x, e2, rr, fun z => absurd (e7.symm.trans z) (by decide), ?_⟩
    rw [e7]
    exact xt2_addGrain hap (wX10_addGrain hl0 e1)
  · refine ⟨y, S1, M1, x, e2, rr, fun z => absurd (e7.symm.trans z) (by decide), ?_⟩
    rw [e7]
    exact xt3_addGrain hap (wX10_addGrain hl0 e1)
theorem xw_dismiss (hl0 : l.stackTraces = false) (hap : APJ b1 b2 o1 o2) (r : Rel S M) : ∃ (y : Int32) (S1 : CS) (M1 : MS) (x1 : Int64), fX11_dismiss M  = some (y, M1) ∧ Rel S1 M1 ∧ (M1.1 7 = 0 → x1 = y.toInt64) ∧ gMetX l yL_dismiss cL_dismiss 3 [(0, 8, 11, 86)] 26 1 6 (jΩ b1 b2 o1 o2) (jP dC dI cg kA b1 b2 o1 o2 cL cD) (kR kTab kA) [.ref (caOf b1 0), .ref o1] (S, M, x, d) (M1.1 7) (S1, M, x1, d) := by
  rcases q_dismiss r  with ⟨y, S1, M1, e1, e2, rr, e7⟩ | ⟨y, S1, M1, e1, e2, rr, e7⟩
  · refine ⟨y, S1, M1, y.toInt64, e2, rr, fun _ => rfl, ?_⟩
    rw [e7]
    exact xo_dismiss hap (gMetIA.of (vX10_dismiss e1))
  · refine ⟨y, S1, M1, x, e2, rr, fun z => absurd (e7.symm.trans z) (by decide), ?_⟩
    rw [e7]
    exact xt1_dismiss hap (wX10_dismiss hl0 e1)
theorem xw_setMilk (hl0 : l.stackTraces = false) (hap : APJ b1 b2 o1 o2) (r : Rel S M) (a : Int32) : ∃ (y : Int32) (S1 : CS) (M1 : MS) (x1 : Int64), fX11_setMilk M a = some (y, M1) ∧ Rel S1 M1 ∧ (M1.1 7 = 0 → x1 = y.toInt64) ∧ gMetX l yL_setMilk cL_setMilk 4 [(0, 9, 12, 62)] 26 1 6 (jΩ b1 b2 o1 o2) (jP dC dI cg kA b1 b2 o1 o2 cL cD) (kR kTab kA) [.ref (caOf b1 0), .int a, .ref o1] (S, M, x, d) (M1.1 7) (S1, M, x1, d) := by
  rcases q_setMilk r a with ⟨y, S1, M1, e1, e2, rr, e7⟩ | ⟨y, S1, M1, e1, e2, rr, e7⟩
  · refine ⟨y, S1, M1, y.toInt64, e2, rr, fun _ => rfl, ?_⟩
    rw [e7]
    exact xo_setMilk hap (gMetIA.of (vX10_setMilk e1))
  · refine ⟨y, S1, M1, x, e2, rr, fun z => absurd (e7.symm.trans z) (by decide), ?_⟩
    rw [e7]
    exact xt1_setMilk hap (wX10_setMilk hl0 e1)
theorem xw_undo (hl0 : l.stackTraces = false) (hap : APJ b1 b2 o1 o2) (r : Rel S M) : ∃ (y : Int32) (S1 : CS) (M1 : MS) (x1 : Int64), fX11_undo M  = some (y, M1) ∧ Rel S1 M1 ∧ (M1.1 7 = 0 → x1 = y.toInt64) ∧ gMetX l yL_undo cL_undo 3 [(0, 8, 11, 110)] 26 1 6 (jΩ b1 b2 o1 o2) (jP dC dI cg kA b1 b2 o1 o2 cL cD) (kR kTab kA) [.ref (caOf b1 0), .ref o1] (S, M, x, d) (M1.1 7) (S1, M, x1, d) := by
  rcases q_undo r with ⟨-, y, S1, M1, e1, e2, rr, e7⟩ | ⟨h0, M1, e2, rr, e7⟩
  · refine ⟨y, S1, M1, y.toInt64, e2, rr, fun _ => rfl, ?_⟩
    rw [e7]
    exact xo_undo hap (gMetIA.of (vX10_undo e1))
  · refine ⟨0, S, M1, x, e2, rr, fun z => absurd (e7.symm.trans z) (by decide), ?_⟩
    rw [e7]
    exact xt1_undo hap (wX10_undo hl0 h0)
theorem xw_restoreState (hl0 : l.stackTraces = false) (hap : APJ b1 b2 o1 o2) (r : Rel S M) : ∃ (y : Int32) (S1 : CS) (M1 : MS) (x1 : Int64), fX11_restoreState M  = some (y, M1) ∧ Rel S1 M1 ∧ (M1.1 7 = 0 → x1 = y.toInt64) ∧ gMetX l yL_restoreState cL_restoreState 3 [(0, 8, 11, 110)] 26 1 6 (jΩ b1 b2 o1 o2) (jP dC dI cg kA b1 b2 o1 o2 cL cD) (kR kTab kA) [.ref (caOf b1 0), .ref o1] (S, M, x, d) (M1.1 7) (S1, M, x1, d) := by
  rcases q_restoreState r with ⟨-, y, S1, M1, e1, e2, rr, e7⟩ | ⟨h0, M1, e2, rr, e7⟩
  · refine ⟨y, S1, M1, y.toInt64, e2, rr, fun _ => rfl, ?_⟩
    rw [e7]
    exact xo_restoreState hap (gMetIA.of (vX10_restoreState e1))
  · refine ⟨0, S, M1, x, e2, rr, fun z => absurd (e7.symm.trans z) (by decide), ?_⟩
    rw [e7]
    exact xt1_restoreState hap (wX10_restoreState hl0 h0)
end CASES
