variable {l : Launch} {p : Program} {e : Env} {s : State} {m : MethodId} {args : Array Value} {below : List Frame} {meth : Method} {c : Code} {A : Nat → Prop} {Q : State → Prop}
variable {dC : Nat → ClassId} {dI : Nat → Nat → Nat} {cg : Nat → ClassId} {kA : String → Nat → Nat} {ca : Nat → Nat}
def fX10_miceAfter_11 (M : CS) (x1 : Int32) : Option (Int32 × CS) := if gIn x1 6 then some ((M.1 ((83 + 2) + 15 + x1.toNatClampNeg) 2), M) else none
def fX10_miceAfter_5 (M : CS) (z0 : Nat) (x1 : Int32) (x2 : Int32) : Option (Int32 × CS) := (fX10_predict M x2).bind fun q => fX10_miceAfter_11 q x1
def fX10_miceAfter_0 (M : CS) (a1 : Int32) (a2 : Int32) : Option (Int32 × CS) := (fX10_sackAt M a1).bind fun q => fX10_miceAfter_5 M q a1 a2
def fX10_miceAfter (M : CS) (a1 : Int32) (a2 : Int32) : Option (Int32 × CS) := fX10_miceAfter_0  M a1 a2
def fX10_grainAfter_11 (M : CS) (x1 : Int32) : Option (Int32 × CS) := if gIn x1 6 then some ((M.1 ((83 + 2) + 15 + x1.toNatClampNeg) 1), M) else none
def fX10_grainAfter_5 (M : CS) (z0 : Nat) (x1 : Int32) (x2 : Int32) : Option (Int32 × CS) := (fX10_predict M x2).bind fun q => fX10_grainAfter_11 q x1
def fX10_grainAfter_0 (M : CS) (a1 : Int32) (a2 : Int32) : Option (Int32 × CS) := (fX10_sackAt M a1).bind fun q => fX10_grainAfter_5 M q a1 a2
def fX10_grainAfter (M : CS) (a1 : Int32) (a2 : Int32) : Option (Int32 × CS) := fX10_grainAfter_0  M a1 a2
def fX10_swornAfter_5 (M : CS) : Option (Int32 × CS) := some ((M.1 83 8), M)
def fX10_swornAfter_0 (M : CS) (a1 : Int32) : Option (Int32 × CS) := (fX10_predict M a1).bind fun q => fX10_swornAfter_5 q
def fX10_swornAfter (M : CS) (a1 : Int32) : Option (Int32 × CS) := fX10_swornAfter_0  M a1
def fX10_caughtWithin_5 (M : CS) : Option (Int32 × CS) := some (((M.1 (83 + 8) 0) - (M.1 (13 + 8) 0)), M)
def fX10_caughtWithin_0 (M : CS) (a1 : Int32) : Option (Int32 × CS) := (fX10_predict M a1).bind fun q => fX10_caughtWithin_5 q
def fX10_caughtWithin (M : CS) (a1 : Int32) : Option (Int32 × CS) := fX10_caughtWithin_0  M a1
def fX10_bestFlapToChange_57 (M : CS) (x3 : Int32) : Option (Int32 × CS) := some (x3, M)
def fX10_bestFlapToChange_51 (K18 : CS → Int32 → Int32 → Int32 → Int32 → Option (Int32 × CS)) (M : CS) (x1 : Int32) (x2 : Int32) (x3 : Int32) (x4 : Int32) : Option (Int32 × CS) := K18 M x1 x2 x3 (x4 + 1)
def fX10_bestFlapToChange_45 (K18 : CS → Int32 → Int32 → Int32 → Int32 → Option (Int32 × CS)) (M : CS) (x1 : Int32) (x4 : Int32) (x5 : Int32) : Option (Int32 × CS) := fX10_bestFlapToChange_51 K18 M x1 x5 x4 x4
def fX10_bestFlapToChange_37 (K18 : CS → Int32 → Int32 → Int32 → Int32 → Option (Int32 × CS)) (M : CS) (x1 : Int32) (x2 : Int32) (x3 : Int32) (x4 : Int32) (s0 : Int32) : Option (Int32 × CS) := if s0 ≤ x2 then fX10_bestFlapToChange_51 K18 M x1 x2 x3 x4 else fX10_bestFlapToChange_45 K18 M x1 x4 s0
def fX10_bestFlapToChange_30 (K18 : CS → Int32 → Int32 → Int32 → Int32 → Option (Int32 × CS)) (M : CS) (x1 : Int32) (x2 : Int32) (x3 : Int32) (x4 : Int32) : Option (Int32 × CS) := (fX10_grainWithFlapChanged M x4 x1).bind fun q => fX10_bestFlapToChange_37 K18 q.2 x1 x2 x3 x4 q.1
def fX10_bestFlapToChange_18 : Nat → CS → Int32 → Int32 → Int32 → Int32 → Option (Int32 × CS)
  | 0 => fun _ _ _ _ _ => none
  | k + 1 => fun M x1 x2 x3 x4 => if (M.1 13 6) ≤ x4 then fX10_bestFlapToChange_57 M x3 else fX10_bestFlapToChange_30 (fX10_bestFlapToChange_18 k) M x1 x2 x3 x4
def fX10_bestFlapToChange_12 (M : CS) (x1 : Int32) (s0 : Int32) : Option (Int32 × CS) := fX10_bestFlapToChange_18 FU M x1 s0 (-1) 0
def fX10_bestFlapToChange_5 (M : CS) (x1 : Int32) : Option (Int32 × CS) := (fX2_grainOfAll M 83).bind fun q => fX10_bestFlapToChange_12 M x1 q
def fX10_bestFlapToChange_0 (M : CS) (a1 : Int32) : Option (Int32 × CS) := (fX10_predict M a1).bind fun q => fX10_bestFlapToChange_5 q a1
def fX10_bestFlapToChange (M : CS) (a1 : Int32) : Option (Int32 × CS) := fX10_bestFlapToChange_0  M a1
def fX10_change_38 (M : CS) (s0 : Int32) : Option (Int32 × CS) := some (s0, M)
def fX10_change_28 (M : CS) (x1 : Int32) (x2 : Int32) (x3 : Int32) : Option (Int32 × CS) := (fX2_apply M 13 x1 x2 x3).bind fun q => fX10_change_38 q.2 q.1
def fX10_change_24 (M : CS) (x1 : Int32) (x2 : Int32) (x3 : Int32) : Option (Int32 × CS) := (fX10_remember M ).bind fun q => fX10_change_28 q x1 x2 x3
def fX10_change_13 (M : CS) : Option (Int32 × CS) := none
def fX10_change_10 (M : CS) (x1 : Int32) (x2 : Int32) (x3 : Int32) (s0 : Int32) : Option (Int32 × CS) := if s0 = 0 then fX10_change_13 M else fX10_change_24 M x1 x2 x3
def fX10_change_0 (M : CS) (a1 : Int32) (a2 : Int32) (a3 : Int32) : Option (Int32 × CS) := (fX2_allows M 13 a1 a2 a3).bind fun q => fX10_change_10 M a1 a2 a3 q
def fX10_change (M : CS) (a1 : Int32) (a2 : Int32) (a3 : Int32) : Option (Int32 × CS) := fX10_change_0  M a1 a2 a3
def fX5_readRest_64 (M : CS) : Option (Int32 × CS) := some (0, M)
def fX5_readRest_83 (M : CS) (s0 : Int32) : Option (Int32 × CS) := some (s0, M)
def fX5_readRest_76 (M : CS) : Option (Int32 × CS) := (fX8_takeSemicolon M ).bind fun q => fX5_readRest_83 q.2 q.1
def fX5_readRest_66 (M : CS) : Option (Int32 × CS) := fX5_readRest_76 (va_up M.1 8 (upd (M.1 8) 5 ((M.1 8 5) + 1)), M.2)
def fX5_readRest_61 (M : CS) (s0 : Int32) : Option (Int32 × CS) := if s0 = 0 then fX5_readRest_64 M else fX5_readRest_66 M
def fX5_readRest_56 (M : CS) (x1 : Int32) : Option (Int32 × CS) := (fX5_readNumber M x1).bind fun q => fX5_readRest_61 q.2 q.1
def fX5_readRest_53 (M : CS) (x1 : Int32) (s0 : Int32) : Option (Int32 × CS) := if s0 = 0 then fX5_readRest_64 M else fX5_readRest_56 M x1
def fX5_readRest_48 (M : CS) (x1 : Int32) : Option (Int32 × CS) := (fX5_readSackName M x1).bind fun q => fX5_readRest_53 q.2 x1 q.1
def fX5_readRest_38 (M : CS) (x1 : Int32) : Option (Int32 × CS) := if gIn (M.1 8 5) 30 then fX5_readRest_48 (va_up M.1 11 (upd (M.1 11) (M.1 8 5).toNatClampNeg 0), M.2) x1 else none
def fX5_readRest_28 (M : CS) (x1 : Int32) : Option (Int32 × CS) := if gIn (M.1 8 5) 30 then fX5_readRest_38 (va_up M.1 10 (upd (M.1 10) (M.1 8 5).toNatClampNeg (-1)), M.2) x1 else none
def fX5_readRest_18 (M : CS) (x1 : Int32) : Option (Int32 × CS) := if gIn (M.1 8 5) 30 then fX5_readRest_28 (va_up M.1 9 (upd (M.1 9) (M.1 8 5).toNatClampNeg x1), M.2) x1 else none
def fX5_readRest_17 (M : CS) (s0 : Int32) : Option (Int32 × CS) := some (s0, M)
def fX5_readRest_9 (M : CS) : Option (Int32 × CS) := (fX8_fail M 5).bind fun q => fX5_readRest_17 q.2 q.1
def fX5_readRest_0 (M : CS) (a1 : Int32) : Option (Int32 × CS) := if (M.1 8 5) < 30 then fX5_readRest_18 M a1 else fX5_readRest_9 M
def fX5_readRest (M : CS) (a1 : Int32) : Option (Int32 × CS) := bz (fX5_readRest_0  M a1)
def fX10_letPass_14 (M : CS) (s0 : Int32) : Option (Int32 × CS) := some (s0, M)
def fX10_letPass_7 (M : CS) (x1 : Int32) : Option (Int32 × CS) := (fX10_change M 0 (-1) x1).bind fun q => fX10_letPass_14 q.2 q.1
def fX10_letPass_0 (M : CS) (a1 : Int32) : Option (Int32 × CS) := (fX10_requireRange M a1 1 99).bind fun q => fX10_letPass_7 q a1
def fX10_letPass (M : CS) (a1 : Int32) : Option (Int32 × CS) := fX10_letPass_0  M a1
def fX10_openFlap_13 (M : CS) (s0 : Int32) : Option (Int32 × CS) := some (s0, M)
def fX10_openFlap_5 (M : CS) (z0 : Nat) (x1 : Int32) : Option (Int32 × CS) := (fX10_change M 1 x1 0).bind fun q => fX10_openFlap_13 q.2 q.1
def fX10_openFlap_0 (M : CS) (a1 : Int32) : Option (Int32 × CS) := (fX10_sackAt M a1).bind fun q => fX10_openFlap_5 M q a1
def fX10_openFlap (M : CS) (a1 : Int32) : Option (Int32 × CS) := fX10_openFlap_0  M a1
def fX10_shutFlap_13 (M : CS) (s0 : Int32) : Option (Int32 × CS) := some (s0, M)
def fX10_shutFlap_5 (M : CS) (z0 : Nat) (x1 : Int32) : Option (Int32 × CS) := (fX10_change M 2 x1 0).bind fun q => fX10_shutFlap_13 q.2 q.1
def fX10_shutFlap_0 (M : CS) (a1 : Int32) : Option (Int32 × CS) := (fX10_sackAt M a1).bind fun q => fX10_shutFlap_5 M q a1
def fX10_shutFlap (M : CS) (a1 : Int32) : Option (Int32 × CS) := fX10_shutFlap_0  M a1
def fX10_addMice_20 (M : CS) (s0 : Int32) : Option (Int32 × CS) := some (s0, M)
def fX10_addMice_13 (M : CS) (x1 : Int32) (x2 : Int32) : Option (Int32 × CS) := (fX10_change M 3 x1 x2).bind fun q => fX10_addMice_20 q.2 q.1
def fX10_addMice_5 (M : CS) (z0 : Nat) (x1 : Int32) (x2 : Int32) : Option (Int32 × CS) := (fX10_requireRange M x2 1 99).bind fun q => fX10_addMice_13 q x1 x2
def fX10_addMice_0 (M : CS) (a1 : Int32) (a2 : Int32) : Option (Int32 × CS) := (fX10_sackAt M a1).bind fun q => fX10_addMice_5 M q a1 a2
def fX10_addMice (M : CS) (a1 : Int32) (a2 : Int32) : Option (Int32 × CS) := fX10_addMice_0  M a1 a2
def fX10_addGrain_21 (M : CS) (s0 : Int32) : Option (Int32 × CS) := some (s0, M)
def fX10_addGrain_14 (M : CS) (x1 : Int32) (x2 : Int32) : Option (Int32 × CS) := (fX10_change M 4 x1 x2).bind fun q => fX10_addGrain_21 q.2 q.1
def fX10_addGrain_5 (M : CS) (z0 : Nat) (x1 : Int32) (x2 : Int32) : Option (Int32 × CS) := (fX10_requireRange M x2 1 999).bind fun q => fX10_addGrain_14 q x1 x2
def fX10_addGrain_0 (M : CS) (a1 : Int32) (a2 : Int32) : Option (Int32 × CS) := (fX10_sackAt M a1).bind fun q => fX10_addGrain_5 M q a1 a2
def fX10_addGrain (M : CS) (a1 : Int32) (a2 : Int32) : Option (Int32 × CS) := fX10_addGrain_0  M a1 a2
def fX10_dismiss_7 (M : CS) (s0 : Int32) : Option (Int32 × CS) := some (s0, M)
def fX10_dismiss_0 (M : CS) : Option (Int32 × CS) := (fX10_change M 5 (-1) 0).bind fun q => fX10_dismiss_7 q.2 q.1
def fX10_dismiss (M : CS) : Option (Int32 × CS) := fX10_dismiss_0  M
def fX10_setMilk_15 (M : CS) (s0 : Int32) : Option (Int32 × CS) := some (s0, M)
def fX10_setMilk_7 (M : CS) (x1 : Int32) : Option (Int32 × CS) := (fX10_change M 6 (-1) x1).bind fun q => fX10_setMilk_15 q.2 q.1
def fX10_setMilk_0 (M : CS) (a1 : Int32) : Option (Int32 × CS) := (fX10_requireRange M a1 0 9).bind fun q => fX10_setMilk_7 q a1
def fX10_setMilk (M : CS) (a1 : Int32) : Option (Int32 × CS) := fX10_setMilk_0  M a1
def fX5_parse_70 (M : CS) : Option (Int32 × CS) := some (1, M)
def fX5_parse_64 (K14 : CS → Int32 → Option (Int32 × CS)) (M : CS) (x1 : Int32) : Option (Int32 × CS) := K14 M (x1 + 1)
def fX5_parse_62 (M : CS) : Option (Int32 × CS) := some (0, M)
def fX5_parse_59 (K14 : CS → Int32 → Option (Int32 × CS)) (M : CS) (x1 : Int32) (s0 : Int32) : Option (Int32 × CS) := if s0 = 0 then fX5_parse_62 M else fX5_parse_64 K14 M x1
def fX5_parse_54 (K14 : CS → Int32 → Option (Int32 × CS)) (M : CS) (x1 : Int32) (x2 : Int32) : Option (Int32 × CS) := (fX5_readRest M x2).bind fun q => fX5_parse_59 K14 q.2 x1 q.1
def fX5_parse_53 (M : CS) (s0 : Int32) : Option (Int32 × CS) := some (s0, M)
def fX5_parse_45 (M : CS) : Option (Int32 × CS) := (fX8_fail M 1).bind fun q => fX5_parse_53 q.2 q.1
def fX5_parse_39 (K14 : CS → Int32 → Option (Int32 × CS)) (M : CS) (x1 : Int32) (s0 : Int32) : Option (Int32 × CS) := if s0 = (-1) then fX5_parse_45 M else fX5_parse_54 K14 M x1 s0
def fX5_parse_35 (K14 : CS → Int32 → Option (Int32 × CS)) (M : CS) (x1 : Int32) : Option (Int32 × CS) := (fX5_kindOfStatement M ).bind fun q => fX5_parse_39 K14 M x1 q
def fX5_parse_32 (K14 : CS → Int32 → Option (Int32 × CS)) (M : CS) (x1 : Int32) (s0 : Int32) : Option (Int32 × CS) := if s0 = 0 then fX5_parse_70 M else fX5_parse_35 K14 M x1
def fX5_parse_25 (K14 : CS → Int32 → Option (Int32 × CS)) (M : CS) (x1 : Int32) : Option (Int32 × CS) := (fX8_advance M ).bind fun q => fX5_parse_32 K14 q.2 x1 q.1
def fX5_parse_14 : Nat → CS → Int32 → Option (Int32 × CS)
  | 0 => fun _ _ => none
  | k + 1 => fun M x1 => if (M.1 1 2) < x1 then fX5_parse_70 M else fX5_parse_25 (fX5_parse_14 k) M x1
def fX5_parse_12 (M : CS) : Option (Int32 × CS) := fX5_parse_14 FU M 0
def fX5_parse_7 (M : CS) : Option (Int32 × CS) := fX5_parse_12 (va_up M.1 8 (upd (M.1 8) 5 0), M.2)
def fX5_parse_0 (M : CS) : Option (Int32 × CS) := (fX8_begin M ).bind fun q => fX5_parse_7 q
def fX5_parse (M : CS) : Option (Int32 × CS) := bz (fX5_parse_0  M)
def fX10_runScript_33 (M : CS) (s0 : Int32) : Option (Int32 × CS) := some (s0, M)
def fX10_runScript_26 (M : CS) : Option (Int32 × CS) := (fX5_execute M ).bind fun q => fX10_runScript_33 q.2 q.1
def fX10_runScript_22 (M : CS) : Option (Int32 × CS) := (fX10_remember M ).bind fun q => fX10_runScript_26 q
def fX10_runScript_20 (M : CS) : Option (Int32 × CS) := some ((-1), M)
def fX10_runScript_16 (M : CS) (x1 : Int32) : Option (Int32 × CS) := if x1 = 0 then fX10_runScript_20 M else fX10_runScript_22 M
def fX10_runScript_7 (M : CS) (s0 : Int32) : Option (Int32 × CS) := fX10_runScript_16 (va_up M.1 1 (upd (M.1 1) 2 0), M.2) s0
def fX10_runScript_0 (M : CS) : Option (Int32 × CS) := (fX5_parse M ).bind fun q => fX10_runScript_7 q.2 q.1
def fX10_runScript (M : CS) : Option (Int32 × CS) := fX10_runScript_0  M
set_option maxRecDepth 10000 in
theorem kX10_miceAfter_11 {r : Int32} {S1 : CS} {M : CS} {x1 : Int32} {H : Heap} {locs : List Loc} {ls : Array Slot} (X : gX p s m args c cX10_miceAfter 3 RX10 (kR kTab kA)) (hret : gRetI p l e (rmL 7 0 0) s m args below meth c cX10_miceAfter (cΩ ca) (cP dC dI cg kA ca) Q r S1) (hf : fX10_miceAfter_11 M x1 = some (r, S1)) (hP : (cP dC dI cg kA ca) M s H) (hS : va_S (Fr (cΩ ca) s.heap.size) s.heap H locs) (hl : lv_has ls 3 [(0, .ref (ca 0)), (1, .int x1)]) : W p l e (rmL 7 0 0) s m args below meth c H locs 0 0 Q (F0 m 11 ls []) := by
  have hx := X.hx
  have hb := X.hb
  have hown := X.hown
  have hts := X.hts
  rw [fX10_miceAfter_11] at hf
  refine lv_aload_n hx hb dX10_miceAfter_11 rfl (lv_at hl 0 rfl) ?_
  refine cr_get (k := 4) X hP (rfl : kc 0 = 0) rfl cv0_4 rfl cinX10 (by decide) rfl tw959 dX10_miceAfter_12 ?_
  refine cr_get (k := 1) X hP (rfl : kc 83 = 11) rfl cv11_1 rfl cinX2 (by decide) rfl tw318 dX10_miceAfter_15 ?_
  refine lv_iload_n hx hb dX10_miceAfter_18 rfl (lv_at hl 1 rfl) ?_
  obtain ⟨g1, hf⟩ := gd hf
  refine cr_aald (f := fun i => (83 + 2) + 15 + i) X hP (kc_sacks (rfl : kc 83 = 11)) rfl (fun _ => rfl) rfl g1 dX10_miceAfter_19 ?_
  refine cr_get (k := 2) X hP (kc_sack (kc_sacks (rfl : kc 83 = 11)) g1) rfl cv19_2 rfl cinX4 (by decide) rfl tw274 dX10_miceAfter_20 ?_
  cases hf
  exact hret _ _ _ _ dX10_miceAfter_23 hP hS
set_option maxRecDepth 10000 in
theorem kX10_miceAfter_5 {r : Int32} {S1 : CS} {M : CS} {z0 : Nat} {x1 : Int32} {x2 : Int32} {H : Heap} {locs : List Loc} {ls : Array Slot} (X : gX p s m args c cX10_miceAfter 3 RX10 (kR kTab kA)) (hret : gRetI p l e (rmL 7 0 0) s m args below meth c cX10_miceAfter (cΩ ca) (cP dC dI cg kA ca) Q r S1) (hkz0 : kc z0 = 19) (hf : fX10_miceAfter_5 M z0 x1 x2 = some (r, S1)) (hP : (cP dC dI cg kA ca) M s H) (hS : va_S (Fr (cΩ ca) s.heap.size) s.heap H locs) (hl : lv_has ls 3 [(0, .ref (ca 0)), (1, .int x1), (2, .int x2)]) : W p l e (rmL 7 0 0) s m args below meth c H locs 0 0 Q (F0 m 5 ls [.ref (ca z0)]) := by
  have hx := X.hx
  have hb := X.hb
  have hown := X.hown
  have hts := X.hts
  rw [fX10_miceAfter_5] at hf
  refine lv_pop hx hb dX10_miceAfter_5 rfl ?_
  refine lv_aload_n hx hb dX10_miceAfter_6 rfl (lv_at hl 0 rfl) ?_
  refine lv_iload_n hx hb dX10_miceAfter_7 rfl (lv_at hl 2 rfl) ?_
  obtain ⟨q, hc, hf⟩ := bd hf
  refine gCallVV X cOK rfl (vX10_predict hc) gRX10_X10_predict hdX10_predict rfl ⟨by decide, by decide⟩ hP hS (cr_rec hP (rfl : kc 0 = 0) rfl cw0 rfl) hl.1 (Nat.le_of_ble_eq_true rfl) ⟨Nat.zero_le _, Nat.zero_le _⟩ dX10_miceAfter_8 (As := [.int x2]) (rest := []) rfl (fun H locs hP hS => ?_)
  exact kX10_miceAfter_11 X hret hf hP hS (lv_sub hl [0, 1] rfl)
set_option maxRecDepth 10000 in
theorem kX10_miceAfter_0 {r : Int32} {S1 : CS} {M : CS} {a1 : Int32} {a2 : Int32} {H : Heap} {locs : List Loc} {ls : Array Slot} (X : gX p s m args c cX10_miceAfter 3 RX10 (kR kTab kA)) (hret : gRetI p l e (rmL 7 0 0) s m args below meth c cX10_miceAfter (cΩ ca) (cP dC dI cg kA ca) Q r S1) (hf : fX10_miceAfter_0 M a1 a2 = some (r, S1)) (hP : (cP dC dI cg kA ca) M s H) (hS : va_S (Fr (cΩ ca) s.heap.size) s.heap H locs) (hl : lv_has ls 3 [(0, .ref (ca 0)), (1, .int a1), (2, .int a2)]) : W p l e (rmL 7 0 0) s m args below meth c H locs 0 0 Q (F0 m 0 ls []) := by
  have hx := X.hx
  have hb := X.hb
  have hown := X.hown
  have hts := X.hts
  rw [fX10_miceAfter_0] at hf
  refine lv_aload_n hx hb dX10_miceAfter_0 rfl (lv_at hl 0 rfl) ?_
  refine lv_iload_n hx hb dX10_miceAfter_1 rfl (lv_at hl 1 rfl) ?_
  obtain ⟨q, hc, hf⟩ := bd hf
  refine gCallVP X rfl (vX10_sackAt hc) gRX10_X10_sackAt hdX10_sackAt rfl ⟨by decide, by decide⟩ (gB_blind cOK) (gB_at cOK X hP) (cr_rec hP (rfl : kc 0 = 0) rfl cw0 rfl) hl.1 (Nat.le_of_ble_eq_true rfl) ⟨Nat.zero_le _, Nat.zero_le _⟩ dX10_miceAfter_2 (As := [.int a1]) (rest := []) rfl ?_
  exact kX10_miceAfter_5 X hret (kkX10_sackAt hc) hf hP hS (lv_sub hl [0, 1, 2] rfl)
theorem vX10_miceAfter {l : Launch} {dC : Nat → ClassId} {dI : Nat → Nat → Nat} {cg : Nat → ClassId} {kA : String → Nat → Nat} {ca : Nat → Nat} {M S1 : CS} {r : Int32} {a1 : Int32} {a2 : Int32} (hf : fX10_miceAfter M a1 a2 = some (r, S1)) : gMetI l yX10_miceAfter cX10_miceAfter 3 (some .int) 7 (cΩ ca) (cP dC dI cg kA ca) (kR kTab kA) [.ref (ca 0), .int a1, .int a2] M r S1 := gEntryI (ty := .int) (by decide) rfl rfl cOK (Nat.le_of_ble_eq_true rfl) (fun p e s m args below meth c Q ls X hP hS hret hl => 
  kX10_miceAfter_0 X hret hf hP hS (lv_sub hl [0, 1, 2] rfl))
set_option maxRecDepth 10000 in
theorem kX10_grainAfter_11 {r : Int32} {S1 : CS} {M : CS} {x1 : Int32} {H : Heap} {locs : List Loc} {ls : Array Slot} (X : gX p s m args c cX10_grainAfter 3 RX10 (kR kTab kA)) (hret : gRetI p l e (rmL 7 0 0) s m args below meth c cX10_grainAfter (cΩ ca) (cP dC dI cg kA ca) Q r S1) (hf : fX10_grainAfter_11 M x1 = some (r, S1)) (hP : (cP dC dI cg kA ca) M s H) (hS : va_S (Fr (cΩ ca) s.heap.size) s.heap H locs) (hl : lv_has ls 3 [(0, .ref (ca 0)), (1, .int x1)]) : W p l e (rmL 7 0 0) s m args below meth c H locs 0 0 Q (F0 m 11 ls []) := by
  have hx := X.hx
  have hb := X.hb
  have hown := X.hown
  have hts := X.hts
  rw [fX10_grainAfter_11] at hf
  refine lv_aload_n hx hb dX10_grainAfter_11 rfl (lv_at hl 0 rfl) ?_
  refine cr_get (k := 4) X hP (rfl : kc 0 = 0) rfl cv0_4 rfl cinX10 (by decide) rfl tw959 dX10_grainAfter_12 ?_
  refine cr_get (k := 1) X hP (rfl : kc 83 = 11) rfl cv11_1 rfl cinX2 (by decide) rfl tw318 dX10_grainAfter_15 ?_
  refine lv_iload_n hx hb dX10_grainAfter_18 rfl (lv_at hl 1 rfl) ?_
  obtain ⟨g1, hf⟩ := gd hf
  refine cr_aald (f := fun i => (83 + 2) + 15 + i) X hP (kc_sacks (rfl : kc 83 = 11)) rfl (fun _ => rfl) rfl g1 dX10_grainAfter_19 ?_
  refine cr_get (k := 1) X hP (kc_sack (kc_sacks (rfl : kc 83 = 11)) g1) rfl cv19_1 rfl cinX4 (by decide) rfl tw269 dX10_grainAfter_20 ?_
  cases hf
  exact hret _ _ _ _ dX10_grainAfter_23 hP hS
set_option maxRecDepth 10000 in
theorem kX10_grainAfter_5 {r : Int32} {S1 : CS} {M : CS} {z0 : Nat} {x1 : Int32} {x2 : Int32} {H : Heap} {locs : List Loc} {ls : Array Slot} (X : gX p s m args c cX10_grainAfter 3 RX10 (kR kTab kA)) (hret : gRetI p l e (rmL 7 0 0) s m args below meth c cX10_grainAfter (cΩ ca) (cP dC dI cg kA ca) Q r S1) (hkz0 : kc z0 = 19) (hf : fX10_grainAfter_5 M z0 x1 x2 = some (r, S1)) (hP : (cP dC dI cg kA ca) M s H) (hS : va_S (Fr (cΩ ca) s.heap.size) s.heap H locs) (hl : lv_has ls 3 [(0, .ref (ca 0)), (1, .int x1), (2, .int x2)]) : W p l e (rmL 7 0 0) s m args below meth c H locs 0 0 Q (F0 m 5 ls [.ref (ca z0)]) := by
  have hx := X.hx
  have hb := X.hb
  have hown := X.hown
  have hts := X.hts
  rw [fX10_grainAfter_5] at hf
  refine lv_pop hx hb dX10_grainAfter_5 rfl ?_
  refine lv_aload_n hx hb dX10_grainAfter_6 rfl (lv_at hl 0 rfl) ?_
  refine lv_iload_n hx hb dX10_grainAfter_7 rfl (lv_at hl 2 rfl) ?_
  obtain ⟨q, hc, hf⟩ := bd hf
  refine gCallVV X cOK rfl (vX10_predict hc) gRX10_X10_predict hdX10_predict rfl ⟨by decide, by decide⟩ hP hS (cr_rec hP (rfl : kc 0 = 0) rfl cw0 rfl) hl.1 (Nat.le_of_ble_eq_true rfl) ⟨Nat.zero_le _, Nat.zero_le _⟩ dX10_grainAfter_8 (As := [.int x2]) (rest := []) rfl (fun H locs hP hS => ?_)
  exact kX10_grainAfter_11 X hret hf hP hS (lv_sub hl [0, 1] rfl)
set_option maxRecDepth 10000 in
theorem kX10_grainAfter_0 {r : Int32} {S1 : CS} {M : CS} {a1 : Int32} {a2 : Int32} {H : Heap} {locs : List Loc} {ls : Array Slot} (X : gX p s m args c cX10_grainAfter 3 RX10 (kR kTab kA)) (hret : gRetI p l e (rmL 7 0 0) s m args below meth c cX10_grainAfter (cΩ ca) (cP dC dI cg kA ca) Q r S1) (hf : fX10_grainAfter_0 M a1 a2 = some (r, S1)) (hP : (cP dC dI cg kA ca) M s H) (hS : va_S (Fr (cΩ ca) s.heap.size) s.heap H locs) (hl : lv_has ls 3 [(0, .ref (ca 0)), (1, .int a1), (2, .int a2)]) : W p l e (rmL 7 0 0) s m args below meth c H locs 0 0 Q (F0 m 0 ls []) := by
  have hx := X.hx
  have hb := X.hb
  have hown := X.hown
  have hts := X.hts
  rw [fX10_grainAfter_0] at hf
  refine lv_aload_n hx hb dX10_grainAfter_0 rfl (lv_at hl 0 rfl) ?_
  refine lv_iload_n hx hb dX10_grainAfter_1 rfl (lv_at hl 1 rfl) ?_
  obtain ⟨q, hc, hf⟩ := bd hf
  refine gCallVP X rfl (vX10_sackAt hc) gRX10_X10_sackAt hdX10_sackAt rfl ⟨by decide, by decide⟩ (gB_blind cOK) (gB_at cOK X hP) (cr_rec hP (rfl : kc 0 = 0) rfl cw0 rfl) hl.1 (Nat.le_of_ble_eq_true rfl) ⟨Nat.zero_le _, Nat.zero_le _⟩ dX10_grainAfter_2 (As := [.int a1]) (rest := []) rfl ?_
  exact kX10_grainAfter_5 X hret (kkX10_sackAt hc) hf hP hS (lv_sub hl [0, 1, 2] rfl)
theorem vX10_grainAfter {l : Launch} {dC : Nat → ClassId} {dI : Nat → Nat → Nat} {cg : Nat → ClassId} {kA : String → Nat → Nat} {ca : Nat → Nat} {M S1 : CS} {r : Int32} {a1 : Int32} {a2 : Int32} (hf : fX10_grainAfter M a1 a2 = some (r, S1)) : gMetI l yX10_grainAfter cX10_grainAfter 3 (some .int) 7 (cΩ ca) (cP dC dI cg kA ca) (kR kTab kA) [.ref (ca 0), .int a1, .int a2] M r S1 := gEntryI (ty := .int) (by decide) rfl rfl cOK (Nat.le_of_ble_eq_true rfl) (fun p e s m args below meth c Q ls X hP hS hret hl => 
  kX10_grainAfter_0 X hret hf hP hS (lv_sub hl [0, 1, 2] rfl))
set_option maxRecDepth 10000 in
theorem kX10_swornAfter_5 {r : Int32} {S1 : CS} {M : CS} {H : Heap} {locs : List Loc} {ls : Array Slot} (X : gX p s m args c cX10_swornAfter 2 RX10 (kR kTab kA)) (hret : gRetI p l e (rmL 7 0 0) s m args below meth c cX10_swornAfter (cΩ ca) (cP dC dI cg kA ca) Q r S1) (hf : fX10_swornAfter_5 M = some (r, S1)) (hP : (cP dC dI cg kA ca) M s H) (hS : va_S (Fr (cΩ ca) s.heap.size) s.heap H locs) (hl : lv_has ls 2 [(0, .ref (ca 0))]) : W p l e (rmL 7 0 0) s m args below meth c H locs 0 0 Q (F0 m 5 ls []) := by
  have hx := X.hx
  have hb := X.hb
  have hown := X.hown
  have hts := X.hts
  rw [fX10_swornAfter_5] at hf
  refine lv_aload_n hx hb dX10_swornAfter_5 rfl (lv_at hl 0 rfl) ?_
  refine cr_get (k := 4) X hP (rfl : kc 0 = 0) rfl cv0_4 rfl cinX10 (by decide) rfl tw959 dX10_swornAfter_6 ?_
  refine cr_get (k := 8) X hP (rfl : kc 83 = 11) rfl cv11_8 rfl cinX2 (by decide) rfl tw336 dX10_swornAfter_9 ?_
  cases hf
  exact hret _ _ _ _ dX10_swornAfter_12 hP hS
set_option maxRecDepth 10000 in
theorem kX10_swornAfter_0 {r : Int32} {S1 : CS} {M : CS} {a1 : Int32} {H : Heap} {locs : List Loc} {ls : Array Slot} (X : gX p s m args c cX10_swornAfter 2 RX10 (kR kTab kA)) (hret : gRetI p l e (rmL 7 0 0) s m args below meth c cX10_swornAfter (cΩ ca) (cP dC dI cg kA ca) Q r S1) (hf : fX10_swornAfter_0 M a1 = some (r, S1)) (hP : (cP dC dI cg kA ca) M s H) (hS : va_S (Fr (cΩ ca) s.heap.size) s.heap H locs) (hl : lv_has ls 2 [(0, .ref (ca 0)), (1, .int a1)]) : W p l e (rmL 7 0 0) s m args below meth c H locs 0 0 Q (F0 m 0 ls []) := by
  have hx := X.hx
  have hb := X.hb
  have hown := X.hown
  have hts := X.hts
  rw [fX10_swornAfter_0] at hf
  refine lv_aload_n hx hb dX10_swornAfter_0 rfl (lv_at hl 0 rfl) ?_
  refine lv_iload_n hx hb dX10_swornAfter_1 rfl (lv_at hl 1 rfl) ?_
  obtain ⟨q, hc, hf⟩ := bd hf
  refine gCallVV X cOK rfl (vX10_predict hc) gRX10_X10_predict hdX10_predict rfl ⟨by decide, by decide⟩ hP hS (cr_rec hP (rfl : kc 0 = 0) rfl cw0 rfl) hl.1 (Nat.le_of_ble_eq_true rfl) ⟨Nat.zero_le _, Nat.zero_le _⟩ dX10_swornAfter_2 (As := [.int a1]) (rest := []) rfl (fun H locs hP hS => ?_)
  exact kX10_swornAfter_5 X hret hf hP hS (lv_sub hl [0] rfl)
theorem vX10_swornAfter {l : Launch} {dC : Nat → ClassId} {dI : Nat → Nat → Nat} {cg : Nat → ClassId} {kA : String → Nat → Nat} {ca : Nat → Nat} {M S1 : CS} {r : Int32} {a1 : Int32} (hf : fX10_swornAfter M a1 = some (r, S1)) : gMetI l yX10_swornAfter cX10_swornAfter 2 (some .int) 7 (cΩ ca) (cP dC dI cg kA ca) (kR kTab kA) [.ref (ca 0), .int a1] M r S1 := gEntryI (ty := .int) (by decide) rfl rfl cOK (Nat.le_of_ble_eq_true rfl) (fun p e s m args below meth c Q ls X hP hS hret hl => 
  kX10_swornAfter_0 X hret hf hP hS (lv_sub hl [0, 1] rfl))
set_option maxRecDepth 10000 in
theorem kX10_caughtWithin_5 {r : Int32} {S1 : CS} {M : CS} {H : Heap} {locs : List Loc} {ls : Array Slot} (X : gX p s m args c cX10_caughtWithin 2 RX10 (kR kTab kA)) (hret : gRetI p l e (rmL 7 0 0) s m args below meth c cX10_caughtWithin (cΩ ca) (cP dC dI cg kA ca) Q r S1) (hf : fX10_caughtWithin_5 M = some (r, S1)) (hP : (cP dC dI cg kA ca) M s H) (hS : va_S (Fr (cΩ ca) s.heap.size) s.heap H locs) (hl : lv_has ls 2 [(0, .ref (ca 0))]) : W p l e (rmL 7 0 0) s m args below meth c H locs 0 0 Q (F0 m 5 ls []) := by
  have hx := X.hx
  have hb := X.hb
  have hown := X.hown
  have hts := X.hts
  rw [fX10_caughtWithin_5] at hf
  refine lv_aload_n hx hb dX10_caughtWithin_5 rfl (lv_at hl 0 rfl) ?_
  refine cr_get (k := 4) X hP (rfl : kc 0 = 0) rfl cv0_4 rfl cinX10 (by decide) rfl tw959 dX10_caughtWithin_6 ?_
  refine cr_get (k := 4) X hP (rfl : kc 83 = 11) rfl cv11_4 rfl cinX2 (by decide) rfl tw325 dX10_caughtWithin_9 ?_
  refine cr_get (k := 0) X hP (kc_totals (rfl : kc 83 = 11)) rfl cv17_0 rfl cinX9 (by decide) rfl tw178 dX10_caughtWithin_12 ?_
  refine lv_aload_n hx hb dX10_caughtWithin_15 rfl (lv_at hl 0 rfl) ?_
  refine cr_get (k := 2) X hP (rfl : kc 0 = 0) rfl cv0_2 rfl cinX10 (by decide) rfl tw957 dX10_caughtWithin_16 ?_
  refine cr_get (k := 4) X hP (rfl : kc 13 = 11) rfl cv11_4 rfl cinX2 (by decide) rfl tw325 dX10_caughtWithin_19 ?_
  refine cr_get (k := 0) X hP (kc_totals (rfl : kc 13 = 11)) rfl cv17_0 rfl cinX9 (by decide) rfl tw178 dX10_caughtWithin_22 ?_
  refine lv_isub hx hb dX10_caughtWithin_25 ?_
  cases hf
  exact hret _ _ _ _ dX10_caughtWithin_26 hP hS
set_option maxRecDepth 10000 in
theorem kX10_caughtWithin_0 {r : Int32} {S1 : CS} {M : CS} {a1 : Int32} {H : Heap} {locs : List Loc} {ls : Array Slot} (X : gX p s m args c cX10_caughtWithin 2 RX10 (kR kTab kA)) (hret : gRetI p l e (rmL 7 0 0) s m args below meth c cX10_caughtWithin (cΩ ca) (cP dC dI cg kA ca) Q r S1) (hf : fX10_caughtWithin_0 M a1 = some (r, S1)) (hP : (cP dC dI cg kA ca) M s H) (hS : va_S (Fr (cΩ ca) s.heap.size) s.heap H locs) (hl : lv_has ls 2 [(0, .ref (ca 0)), (1, .int a1)]) : W p l e (rmL 7 0 0) s m args below meth c H locs 0 0 Q (F0 m 0 ls []) := by
  have hx := X.hx
  have hb := X.hb
  have hown := X.hown
  have hts := X.hts
  rw [fX10_caughtWithin_0] at hf
  refine lv_aload_n hx hb dX10_caughtWithin_0 rfl (lv_at hl 0 rfl) ?_
  refine lv_iload_n hx hb dX10_caughtWithin_1 rfl (lv_at hl 1 rfl) ?_
  obtain ⟨q, hc, hf⟩ := bd hf
  refine gCallVV X cOK rfl (vX10_predict hc) gRX10_X10_predict hdX10_predict rfl ⟨by decide, by decide⟩ hP hS (cr_rec hP (rfl : kc 0 = 0) rfl cw0 rfl) hl.1 (Nat.le_of_ble_eq_true rfl) ⟨Nat.zero_le _, Nat.zero_le _⟩ dX10_caughtWithin_2 (As := [.int a1]) (rest := []) rfl (fun H locs hP hS => ?_)
  exact kX10_caughtWithin_5 X hret hf hP hS (lv_sub hl [0] rfl)
theorem vX10_caughtWithin {l : Launch} {dC : Nat → ClassId} {dI : Nat → Nat → Nat} {cg : Nat → ClassId} {kA : String → Nat → Nat} {ca : Nat → Nat} {M S1 : CS} {r : Int32} {a1 : Int32} (hf : fX10_caughtWithin M a1 = some (r, S1)) : gMetI l yX10_caughtWithin cX10_caughtWithin 2 (some .int) 7 (cΩ ca) (cP dC dI cg kA ca) (kR kTab kA) [.ref (ca 0), .int a1] M r S1 := gEntryI (ty := .int) (by decide) rfl rfl cOK (Nat.le_of_ble_eq_true rfl) (fun p e s m args below meth c Q ls X hP hS hret hl => 
  kX10_caughtWithin_0 X hret hf hP hS (lv_sub hl [0, 1] rfl))
set_option maxRecDepth 10000 in
theorem kX10_bestFlapToChange_57 {r : Int32} {S1 : CS} {M : CS} {x3 : Int32} {H : Heap} {locs : List Loc} {ls : Array Slot} (X : gX p s m args c cX10_bestFlapToChange 6 RX10 (kR kTab kA)) (hret : gRetI p l e (rmL 7 0 0) s m args below meth c cX10_bestFlapToChange (cΩ ca) (cP dC dI cg kA ca) Q r S1) (hf : fX10_bestFlapToChange_57 M x3 = some (r, S1)) (hP : (cP dC dI cg kA ca) M s H) (hS : va_S (Fr (cΩ ca) s.heap.size) s.heap H locs) (hl : lv_has ls 6 [(0, .ref (ca 0)), (3, .int x3)]) : W p l e (rmL 7 0 0) s m args below meth c H locs 0 0 Q (F0 m 57 ls []) := by
  have hx := X.hx
  have hb := X.hb
  have hown := X.hown
  have hts := X.hts
  rw [fX10_bestFlapToChange_57] at hf
  refine lv_iload_n hx hb dX10_bestFlapToChange_57 rfl (lv_at hl 1 rfl) ?_
  cases hf
  exact hret _ _ _ _ dX10_bestFlapToChange_58 hP hS
set_option maxRecDepth 10000 in
theorem kX10_bestFlapToChange_51 {r : Int32} {S1 : CS} {K18 : CS → Int32 → Int32 → Int32 → Int32 → Option (Int32 × CS)} {M : CS} {x1 : Int32} {x2 : Int32} {x3 : Int32} {x4 : Int32} {H : Heap} {locs : List Loc} {ls : Array Slot} (X : gX p s m args c cX10_bestFlapToChange 6 RX10 (kR kTab kA)) (hret : gRetI p l e (rmL 7 0 0) s m args below meth c cX10_bestFlapToChange (cΩ ca) (cP dC dI cg kA ca) Q r S1) (hK18 : ∀ (M : CS) (x1 : Int32) (x2 : Int32) (x3 : Int32) (x4 : Int32) (H : Heap) (locs : List Loc) (ls : Array Slot), K18 M x1 x2 x3 x4 = some (r, S1) → (cP dC dI cg kA ca) M s H → va_S (Fr (cΩ ca) s.heap.size) s.heap H locs → lv_has ls 6 [(0, .ref (ca 0)), (1, .int x1), (2, .int x2), (3, .int x3), (4, .int x4)] → W p l e (rmL 7 0 0) s m args below meth c H locs 0 0 Q (F0 m 18 ls [])) (hf : fX10_bestFlapToChange_51 K18 M x1 x2 x3 x4 = some (r, S1)) (hP : (cP dC dI cg kA ca) M s H) (hS : va_S (Fr (cΩ ca) s.heap.size) s.heap H locs) (hl : lv_has ls 6 [(0, .ref (ca 0)), (1, .int x1), (2, .int x2), (3, .int x3), (4, .int x4)]) : W p l e (rmL 7 0 0) s m args below meth c H locs 0 0 Q (F0 m 51 ls []) := by
  have hx := X.hx
  have hb := X.hb
  have hown := X.hown
  have hts := X.hts
  rw [fX10_bestFlapToChange_51] at hf
  refine lv_iinc (v := (x4 + 1)) (lv' := [(4, .int (x4 + 1)), (0, .ref (ca 0)), (1, .int x1), (2, .int x2), (3, .int x3)]) hx hb dX10_bestFlapToChange_51 hl (k := 4) rfl (by rfl) (by decide) rfl (fun ls hl => ?_)
  refine lv_goto (tgt := 18) hx hb dX10_bestFlapToChange_54 (by decide) ?_
  exact hK18 _ _ _ _ _ _ _ _ hf hP hS (lv_sub hl [1, 2, 3, 4, 0] rfl)
set_option maxRecDepth 10000 in
theorem kX10_bestFlapToChange_45 {r : Int32} {S1 : CS} {K18 : CS → Int32 → Int32 → Int32 → Int32 → Option (Int32 × CS)} {M : CS} {x1 : Int32} {x4 : Int32} {x5 : Int32} {H : Heap} {locs : List Loc} {ls : Array Slot} (X : gX p s m args c cX10_bestFlapToChange 6 RX10 (kR kTab kA)) (hret : gRetI p l e (rmL 7 0 0) s m args below meth c cX10_bestFlapToChange (cΩ ca) (cP dC dI cg kA ca) Q r S1) (hK18 : ∀ (M : CS) (x1 : Int32) (x2 : Int32) (x3 : Int32) (x4 : Int32) (H : Heap) (locs : List Loc) (ls : Array Slot), K18 M x1 x2 x3 x4 = some (r, S1) → (cP dC dI cg kA ca) M s H → va_S (Fr (cΩ ca) s.heap.size) s.heap H locs → lv_has ls 6 [(0, .ref (ca 0)), (1, .int x1), (2, .int x2), (3, .int x3), (4, .int x4)] → W p l e (rmL 7 0 0) s m args below meth c H locs 0 0 Q (F0 m 18 ls [])) (hf : fX10_bestFlapToChange_45 K18 M x1 x4 x5 = some (r, S1)) (hP : (cP dC dI cg kA ca) M s H) (hS : va_S (Fr (cΩ ca) s.heap.size) s.heap H locs) (hl : lv_has ls 6 [(0, .ref (ca 0)), (1, .int x1), (4, .int x4), (5, .int x5)]) : W p l e (rmL 7 0 0) s m args below meth c H locs 0 0 Q (F0 m 45 ls []) := by
  have hx := X.hx
  have hb := X.hb
  have hown := X.hown
  have hts := X.hts
  rw [fX10_bestFlapToChange_45] at hf
  refine lv_iload hx hb dX10_bestFlapToChange_45 (lv_at hl 3 rfl) ?_
  refine lv_istore_n (lv' := [(2, .int x5), (0, .ref (ca 0)), (1, .int x1), (4, .int x4), (5, .int x5)]) hx hb dX10_bestFlapToChange_47 rfl hl (by decide) rfl (fun ls hl => ?_)
  refine lv_iload hx hb dX10_bestFlapToChange_48 (lv_at hl 3 rfl) ?_
  refine lv_istore_n (lv' := [(3, .int x4), (2, .int x5), (0, .ref (ca 0)), (1, .int x1), (4, .int x4), (5, .int x5)]) hx hb dX10_bestFlapToChange_50 rfl hl (by decide) rfl (fun ls hl => ?_)
  exact kX10_bestFlapToChange_51 X hret hK18 hf hP hS (lv_sub hl [2, 3, 1, 0, 4] rfl)
set_option maxRecDepth 10000 in
theorem kX10_bestFlapToChange_37 {r : Int32} {S1 : CS} {K18 : CS → Int32 → Int32 → Int32 → Int32 → Option (Int32 × CS)} {M : CS} {x1 : Int32} {x2 : Int32} {x3 : Int32} {x4 : Int32} {s0 : Int32} {H : Heap} {locs : List Loc} {ls : Array Slot} (X : gX p s m args c cX10_bestFlapToChange 6 RX10 (kR kTab kA)) (hret : gRetI p l e (rmL 7 0 0) s m args below meth c cX10_bestFlapToChange (cΩ ca) (cP dC dI cg kA ca) Q r S1) (hK18 : ∀ (M : CS) (x1 : Int32) (x2 : Int32) (x3 : Int32) (x4 : Int32) (H : Heap) (locs : List Loc) (ls : Array Slot), K18 M x1 x2 x3 x4 = some (r, S1) → (cP dC dI cg kA ca) M s H → va_S (Fr (cΩ ca) s.heap.size) s.heap H locs → lv_has ls 6 [(0, .ref (ca 0)), (1, .int x1), (2, .int x2), (3, .int x3), (4, .int x4)] → W p l e (rmL 7 0 0) s m args below meth c H locs 0 0 Q (F0 m 18 ls [])) (hf : fX10_bestFlapToChange_37 K18 M x1 x2 x3 x4 s0 = some (r, S1)) (hP : (cP dC dI cg kA ca) M s H) (hS : va_S (Fr (cΩ ca) s.heap.size) s.heap H locs) (hl : lv_has ls 6 [(0, .ref (ca 0)), (1, .int x1), (2, .int x2), (3, .int x3), (4, .int x4)]) : W p l e (rmL 7 0 0) s m args below meth c H locs 0 0 Q (F0 m 37 ls [.int s0]) := by
  have hx := X.hx
  have hb := X.hb
  have hown := X.hown
  have hts := X.hts
  rw [fX10_bestFlapToChange_37] at hf
  refine lv_istore (lv' := [(5, .int s0), (0, .ref (ca 0)), (1, .int x1), (2, .int x2), (3, .int x3), (4, .int x4)]) hx hb dX10_bestFlapToChange_37 hl (by decide) rfl (fun ls hl => ?_)
  refine lv_iload hx hb dX10_bestFlapToChange_39 (lv_at hl 0 rfl) ?_
  refine lv_iload_n hx hb dX10_bestFlapToChange_41 rfl (lv_at hl 3 rfl) ?_
  refine lv_icmp_le (tgt := 51) hx hb dX10_bestFlapToChange_42 (by decide) (fun c1 => ?_) (fun c1 => ?_)
  · exact kX10_bestFlapToChange_51 X hret hK18 (ifp c1 hf) hP hS (lv_sub hl [1, 2, 3, 4, 5] rfl)
  · exact kX10_bestFlapToChange_45 X hret hK18 (ifn c1 hf) hP hS (lv_sub hl [1, 2, 5, 0] rfl)
set_option maxRecDepth 10000 in
theorem kX10_bestFlapToChange_30 {r : Int32} {S1 : CS} {K18 : CS → Int32 → Int32 → Int32 → Int32 → Option (Int32 × CS)} {M : CS} {x1 : Int32} {x2 : Int32} {x3 : Int32} {x4 : Int32} {H : Heap} {locs : List Loc} {ls : Array Slot} (X : gX p s m args c cX10_bestFlapToChange 6 RX10 (kR kTab kA)) (hret : gRetI p l e (rmL 7 0 0) s m args below meth c cX10_bestFlapToChange (cΩ ca) (cP dC dI cg kA ca) Q r S1) (hK18 : ∀ (M : CS) (x1 : Int32) (x2 : Int32) (x3 : Int32) (x4 : Int32) (H : Heap) (locs : List Loc) (ls : Array Slot), K18 M x1 x2 x3 x4 = some (r, S1) → (cP dC dI cg kA ca) M s H → va_S (Fr (cΩ ca) s.heap.size) s.heap H locs → lv_has ls 6 [(0, .ref (ca 0)), (1, .int x1), (2, .int x2), (3, .int x3), (4, .int x4)] → W p l e (rmL 7 0 0) s m args below meth c H locs 0 0 Q (F0 m 18 ls [])) (hf : fX10_bestFlapToChange_30 K18 M x1 x2 x3 x4 = some (r, S1)) (hP : (cP dC dI cg kA ca) M s H) (hS : va_S (Fr (cΩ ca) s.heap.size) s.heap H locs) (hl : lv_has ls 6 [(0, .ref (ca 0)), (1, .int x1), (2, .int x2), (3, .int x3), (4, .int x4)]) : W p l e (rmL 7 0 0) s m args below meth c H locs 0 0 Q (F0 m 30 ls []) := by
  have hx := X.hx
  have hb := X.hb
  have hown := X.hown
  have hts := X.hts
  rw [fX10_bestFlapToChange_30] at hf
  refine lv_aload_n hx hb dX10_bestFlapToChange_30 rfl (lv_at hl 0 rfl) ?_
  refine lv_iload hx hb dX10_bestFlapToChange_31 (lv_at hl 4 rfl) ?_
  refine lv_iload_n hx hb dX10_bestFlapToChange_33 rfl (lv_at hl 1 rfl) ?_
  obtain ⟨q, hc, hf⟩ := bd hf
  refine gCallVI X cOK rfl (vX10_grainWithFlapChanged hc) gRX10_X10_grainWithFlapChanged hdX10_grainWithFlapChanged rfl ⟨by decide, by decide⟩ hP hS (cr_rec hP (rfl : kc 0 = 0) rfl cw0 rfl) hl.1 (Nat.le_of_ble_eq_true rfl) ⟨Nat.zero_le _, Nat.zero_le _⟩ dX10_bestFlapToChange_34 (As := [.int x4, .int x1]) (rest := []) rfl (fun H locs hP hS => ?_)
  exact kX10_bestFlapToChange_37 X hret hK18 hf hP hS (lv_sub hl [0, 1, 2, 3, 4] rfl)
set_option maxRecDepth 10000 in
theorem kX10_bestFlapToChange_18 {r : Int32} {S1 : CS} (X : gX p s m args c cX10_bestFlapToChange 6 RX10 (kR kTab kA)) (hret : gRetI p l e (rmL 7 0 0) s m args below meth c cX10_bestFlapToChange (cΩ ca) (cP dC dI cg kA ca) Q r S1) : ∀ (n : Nat) (M : CS) (x1 : Int32) (x2 : Int32) (x3 : Int32) (x4 : Int32) (H : Heap) (locs : List Loc) (ls : Array Slot), fX10_bestFlapToChange_18 n M x1 x2 x3 x4 = some (r, S1) → (cP dC dI cg kA ca) M s H → va_S (Fr (cΩ ca) s.heap.size) s.heap H locs → lv_has ls 6 [(0, .ref (ca 0)), (1, .int x1), (2, .int x2), (3, .int x3), (4, .int x4)] → W p l e (rmL 7 0 0) s m args below meth c H locs 0 0 Q (F0 m 18 ls []) := by
  intro n
  induction n with
  | zero => intro M x1 x2 x3 x4 H locs ls hf; cases hf
  | succ k ih =>
    intro M x1 x2 x3 x4 H locs ls hf hP hS hl
    have hx := X.hx
    have hb := X.hb
    have hown := X.hown
    have hts := X.hts
    rw [fX10_bestFlapToChange_18] at hf
    try dsimp only at hf
    refine lv_iload hx hb dX10_bestFlapToChange_18 (lv_at hl 4 rfl) ?_
    refine lv_aload_n hx hb dX10_bestFlapToChange_20 rfl (lv_at hl 0 rfl) ?_
    refine cr_get (k := 2) X hP (rfl : kc 0 = 0) rfl cv0_2 rfl cinX10 (by decide) rfl tw957 dX10_bestFlapToChange_21 ?_
    refine cr_get (k := 6) X hP (rfl : kc 13 = 11) rfl cv11_6 rfl cinX2 (by decide) rfl tw331 dX10_bestFlapToChange_24 ?_
    refine lv_icmp_ge (tgt := 57) hx hb dX10_bestFlapToChange_27 (by decide) (fun c1 => ?_) (fun c1 => ?_)
    · exact kX10_bestFlapToChange_57 X hret (ifp c1 hf) hP hS (lv_sub hl [0, 3] rfl)
    · exact kX10_bestFlapToChange_30 X hret ih (ifn c1 hf) hP hS (lv_sub hl [0, 1, 2, 3, 4] rfl)
set_option maxRecDepth 10000 in
theorem kX10_bestFlapToChange_12 {r : Int32} {S1 : CS} {M : CS} {x1 : Int32} {s0 : Int32} {H : Heap} {locs : List Loc} {ls : Array Slot} (X : gX p s m args c cX10_bestFlapToChange 6 RX10 (kR kTab kA)) (hret : gRetI p l e (rmL 7 0 0) s m args below meth c cX10_bestFlapToChange (cΩ ca) (cP dC dI cg kA ca) Q r S1) (hf : fX10_bestFlapToChange_12 M x1 s0 = some (r, S1)) (hP : (cP dC dI cg kA ca) M s H) (hS : va_S (Fr (cΩ ca) s.heap.size) s.heap H locs) (hl : lv_has ls 6 [(0, .ref (ca 0)), (1, .int x1)]) : W p l e (rmL 7 0 0) s m args below meth c H locs 0 0 Q (F0 m 12 ls [.int s0]) := by
  have hx := X.hx
  have hb := X.hb
  have hown := X.hown
  have hts := X.hts
  rw [fX10_bestFlapToChange_12] at hf
  refine lv_istore_n (lv' := [(2, .int s0), (0, .ref (ca 0)), (1, .int x1)]) hx hb dX10_bestFlapToChange_12 rfl hl (by decide) rfl (fun ls hl => ?_)
  refine lv_iconst (v := (-1)) hx hb dX10_bestFlapToChange_13 (by decide) ?_
  refine lv_istore_n (lv' := [(3, .int (-1)), (2, .int s0), (0, .ref (ca 0)), (1, .int x1)]) hx hb dX10_bestFlapToChange_14 rfl hl (by decide) rfl (fun ls hl => ?_)
  refine lv_iconst (v := 0) hx hb dX10_bestFlapToChange_15 (by decide) ?_
  refine lv_istore (lv' := [(4, .int 0), (3, .int (-1)), (2, .int s0), (0, .ref (ca 0)), (1, .int x1)]) hx hb dX10_bestFlapToChange_16 hl (by decide) rfl (fun ls hl => ?_)
  exact kX10_bestFlapToChange_18 X hret FU _ _ _ _ _ _ _ _ hf hP hS (lv_sub hl [3, 4, 2, 1, 0] rfl)
set_option maxRecDepth 10000 in
theorem kX10_bestFlapToChange_5 {r : Int32} {S1 : CS} {M : CS} {x1 : Int32} {H : Heap} {locs : List Loc} {ls : Array Slot} (X : gX p s m args c cX10_bestFlapToChange 6 RX10 (kR kTab kA)) (hret : gRetI p l e (rmL 7 0 0) s m args below meth c cX10_bestFlapToChange (cΩ ca) (cP dC dI cg kA ca) Q r S1) (hf : fX10_bestFlapToChange_5 M x1 = some (r, S1)) (hP : (cP dC dI cg kA ca) M s H) (hS : va_S (Fr (cΩ ca) s.heap.size) s.heap H locs) (hl : lv_has ls 6 [(0, .ref (ca 0)), (1, .int x1)]) : W p l e (rmL 7 0 0) s m args below meth c H locs 0 0 Q (F0 m 5 ls []) := by
  have hx := X.hx
  have hb := X.hb
  have hown := X.hown
  have hts := X.hts
  rw [fX10_bestFlapToChange_5] at hf
  refine lv_aload_n hx hb dX10_bestFlapToChange_5 rfl (lv_at hl 0 rfl) ?_
  refine cr_get (k := 4) X hP (rfl : kc 0 = 0) rfl cv0_4 rfl cinX10 (by decide) rfl tw959 dX10_bestFlapToChange_6 ?_
  obtain ⟨q, hc, hf⟩ := bd hf
  refine gCallVR X rfl (vX2_grainOfAll (rfl : kc 83 = 11) hc) gRX10_X2_grainOfAll hdX2_grainOfAll rfl ⟨by decide, by decide⟩ (gB_blind cOK) (gB_at cOK X hP) (cr_rec hP (rfl : kc 83 = 11) rfl cw11 rfl) hl.1 (Nat.le_of_ble_eq_true rfl) ⟨Nat.zero_le _, Nat.zero_le _⟩ dX10_bestFlapToChange_9 (As := []) (rest := []) rfl ?_
  exact kX10_bestFlapToChange_12 X hret hf hP hS (lv_sub hl [0, 1] rfl)
set_option maxRecDepth 10000 in
theorem kX10_bestFlapToChange_0 {r : Int32} {S1 : CS} {M : CS} {a1 : Int32} {H : Heap} {locs : List Loc} {ls : Array Slot} (X : gX p s m args c cX10_bestFlapToChange 6 RX10 (kR kTab kA)) (hret : gRetI p l e (rmL 7 0 0) s m args below meth c cX10_bestFlapToChange (cΩ ca) (cP dC dI cg kA ca) Q r S1) (hf : fX10_bestFlapToChange_0 M a1 = some (r, S1)) (hP : (cP dC dI cg kA ca) M s H) (hS : va_S (Fr (cΩ ca) s.heap.size) s.heap H locs) (hl : lv_has ls 6 [(0, .ref (ca 0)), (1, .int a1)]) : W p l e (rmL 7 0 0) s m args below meth c H locs 0 0 Q (F0 m 0 ls []) := by
  have hx := X.hx
  have hb := X.hb
  have hown := X.hown
  have hts := X.hts
  rw [fX10_bestFlapToChange_0] at hf
  refine lv_aload_n hx hb dX10_bestFlapToChange_0 rfl (lv_at hl 0 rfl) ?_
  refine lv_iload_n hx hb dX10_bestFlapToChange_1 rfl (lv_at hl 1 rfl) ?_
  obtain ⟨q, hc, hf⟩ := bd hf
  refine gCallVV X cOK rfl (vX10_predict hc) gRX10_X10_predict hdX10_predict rfl ⟨by decide, by decide⟩ hP hS (cr_rec hP (rfl : kc 0 = 0) rfl cw0 rfl) hl.1 (Nat.le_of_ble_eq_true rfl) ⟨Nat.zero_le _, Nat.zero_le _⟩ dX10_bestFlapToChange_2 (As := [.int a1]) (rest := []) rfl (fun H locs hP hS => ?_)
  exact kX10_bestFlapToChange_5 X hret hf hP hS (lv_sub hl [0, 1] rfl)
theorem vX10_bestFlapToChange {l : Launch} {dC : Nat → ClassId} {dI : Nat → Nat → Nat} {cg : Nat → ClassId} {kA : String → Nat → Nat} {ca : Nat → Nat} {M S1 : CS} {r : Int32} {a1 : Int32} (hf : fX10_bestFlapToChange M a1 = some (r, S1)) : gMetI l yX10_bestFlapToChange cX10_bestFlapToChange 6 (some .int) 7 (cΩ ca) (cP dC dI cg kA ca) (kR kTab kA) [.ref (ca 0), .int a1] M r S1 := gEntryI (ty := .int) (by decide) rfl rfl cOK (Nat.le_of_ble_eq_true rfl) (fun p e s m args below meth c Q ls X hP hS hret hl => 
  kX10_bestFlapToChange_0 X hret hf hP hS (lv_sub hl [0, 1] rfl))
set_option maxRecDepth 10000 in
theorem kX10_change_38 {r : Int32} {S1 : CS} {M : CS} {s0 : Int32} {H : Heap} {locs : List Loc} {ls : Array Slot} (X : gX p s m args c cX10_change 4 RX10 (kR kTab kA)) (hret : gRetI p l e (rmL 7 0 0) s m args below meth c cX10_change (cΩ ca) (cP dC dI cg kA ca) Q r S1) (hf : fX10_change_38 M s0 = some (r, S1)) (hP : (cP dC dI cg kA ca) M s H) (hS : va_S (Fr (cΩ ca) s.heap.size) s.heap H locs) (hl : lv_has ls 4 [(0, .ref (ca 0))]) : W p l e (rmL 7 0 0) s m args below meth c H locs 0 0 Q (F0 m 38 ls [.int s0]) := by
  have hx := X.hx
  have hb := X.hb
  have hown := X.hown
  have hts := X.hts
  rw [fX10_change_38] at hf
  cases hf
  exact hret _ _ _ _ dX10_change_38 hP hS
set_option maxRecDepth 10000 in
theorem kX10_change_28 {r : Int32} {S1 : CS} {M : CS} {x1 : Int32} {x2 : Int32} {x3 : Int32} {H : Heap} {locs : List Loc} {ls : Array Slot} (X : gX p s m args c cX10_change 4 RX10 (kR kTab kA)) (hret : gRetI p l e (rmL 7 0 0) s m args below meth c cX10_change (cΩ ca) (cP dC dI cg kA ca) Q r S1) (hf : fX10_change_28 M x1 x2 x3 = some (r, S1)) (hP : (cP dC dI cg kA ca) M s H) (hS : va_S (Fr (cΩ ca) s.heap.size) s.heap H locs) (hl : lv_has ls 4 [(0, .ref (ca 0)), (1, .int x1), (2, .int x2), (3, .int x3)]) : W p l e (rmL 7 0 0) s m args below meth c H locs 0 0 Q (F0 m 28 ls []) := by
  have hx := X.hx
  have hb := X.hb
  have hown := X.hown
  have hts := X.hts
  rw [fX10_change_28] at hf
  refine lv_aload_n hx hb dX10_change_28 rfl (lv_at hl 0 rfl) ?_
  refine cr_get (k := 2) X hP (rfl : kc 0 = 0) rfl cv0_2 rfl cinX10 (by decide) rfl tw957 dX10_change_29 ?_
  refine lv_iload_n hx hb dX10_change_32 rfl (lv_at hl 1 rfl) ?_
  refine lv_iload_n hx hb dX10_change_33 rfl (lv_at hl 2 rfl) ?_
  refine lv_iload_n hx hb dX10_change_34 rfl (lv_at hl 3 rfl) ?_
  obtain ⟨q, hc, hf⟩ := bd hf
  refine gCallVI X cOK rfl (vX2_apply (rfl : kc 13 = 11) hc) gRX10_X2_apply hdX2_apply rfl ⟨by decide, by decide⟩ hP hS (cr_rec hP (rfl : kc 13 = 11) rfl cw11 rfl) hl.1 (Nat.le_of_ble_eq_true rfl) ⟨Nat.zero_le _, Nat.zero_le _⟩ dX10_change_35 (As := [.int x1, .int x2, .int x3]) (rest := []) rfl (fun H locs hP hS => ?_)
  exact kX10_change_38 X hret hf hP hS (lv_sub hl [0] rfl)
set_option maxRecDepth 10000 in
theorem kX10_change_24 {r : Int32} {S1 : CS} {M : CS} {x1 : Int32} {x2 : Int32} {x3 : Int32} {H : Heap} {locs : List Loc} {ls : Array Slot} (X : gX p s m args c cX10_change 4 RX10 (kR kTab kA)) (hret : gRetI p l e (rmL 7 0 0) s m args below meth c cX10_change (cΩ ca) (cP dC dI cg kA ca) Q r S1) (hf : fX10_change_24 M x1 x2 x3 = some (r, S1)) (hP : (cP dC dI cg kA ca) M s H) (hS : va_S (Fr (cΩ ca) s.heap.size) s.heap H locs) (hl : lv_has ls 4 [(0, .ref (ca 0)), (1, .int x1), (2, .int x2), (3, .int x3)]) : W p l e (rmL 7 0 0) s m args below meth c H locs 0 0 Q (F0 m 24 ls []) := by
  have hx := X.hx
  have hb := X.hb
  have hown := X.hown
  have hts := X.hts
  rw [fX10_change_24] at hf
  refine lv_aload_n hx hb dX10_change_24 rfl (lv_at hl 0 rfl) ?_
  obtain ⟨q, hc, hf⟩ := bd hf
  refine gCallVV X cOK rfl (vX10_remember hc) gRX10_X10_remember hdX10_remember rfl ⟨by decide, by decide⟩ hP hS (cr_rec hP (rfl : kc 0 = 0) rfl cw0 rfl) hl.1 (Nat.le_of_ble_eq_true rfl) ⟨Nat.zero_le _, Nat.zero_le _⟩ dX10_change_25 (As := []) (rest := []) rfl (fun H locs hP hS => ?_)
  exact kX10_change_28 X hret hf hP hS (lv_sub hl [0, 1, 2, 3] rfl)
set_option maxRecDepth 10000 in
theorem kX10_change_13 {r : Int32} {S1 : CS} {M : CS} {H : Heap} {locs : List Loc} {ls : Array Slot} (X : gX p s m args c cX10_change 4 RX10 (kR kTab kA)) (hret : gRetI p l e (rmL 7 0 0) s m args below meth c cX10_change (cΩ ca) (cP dC dI cg kA ca) Q r S1) (hf : fX10_change_13 M = some (r, S1)) (hP : (cP dC dI cg kA ca) M s H) (hS : va_S (Fr (cΩ ca) s.heap.size) s.heap H locs) (hl : lv_has ls 4 [(0, .ref (ca 0))]) : W p l e (rmL 7 0 0) s m args below meth c H locs 0 0 Q (F0 m 13 ls []) := by
  have hx := X.hx
  have hb := X.hb
  have hown := X.hown
  have hts := X.hts
  rw [fX10_change_13] at hf
  cases hf
set_option maxRecDepth 10000 in
theorem kX10_change_10 {r : Int32} {S1 : CS} {M : CS} {x1 : Int32} {x2 : Int32} {x3 : Int32} {s0 : Int32} {H : Heap} {locs : List Loc} {ls : Array Slot} (X : gX p s m args c cX10_change 4 RX10 (kR kTab kA)) (hret : gRetI p l e (rmL 7 0 0) s m args below meth c cX10_change (cΩ ca) (cP dC dI cg kA ca) Q r S1) (hf : fX10_change_10 M x1 x2 x3 s0 = some (r, S1)) (hP : (cP dC dI cg kA ca) M s H) (hS : va_S (Fr (cΩ ca) s.heap.size) s.heap H locs) (hl : lv_has ls 4 [(0, .ref (ca 0)), (1, .int x1), (2, .int x2), (3, .int x3)]) : W p l e (rmL 7 0 0) s m args below meth c H locs 0 0 Q (F0 m 10 ls [.int s0]) := by
  have hx := X.hx
  have hb := X.hb
  have hown := X.hown
  have hts := X.hts
  rw [fX10_change_10] at hf
  refine lv_if_ne (tgt := 24) hx hb dX10_change_10 (by decide) (fun c1 => ?_) (fun c1 => ?_)
  · exact kX10_change_24 X hret (ifn c1 hf) hP hS (lv_sub hl [0, 1, 2, 3] rfl)
  · exact kX10_change_13 X hret (ifp c1 hf) hP hS (lv_sub hl [0] rfl)
set_option maxRecDepth 10000 in
theorem kX10_change_0 {r : Int32} {S1 : CS} {M : CS} {a1 : Int32} {a2 : Int32} {a3 : Int32} {H : Heap} {locs : List Loc} {ls : Array Slot} (X : gX p s m args c cX10_change 4 RX10 (kR kTab kA)) (hret : gRetI p l e (rmL 7 0 0) s m args below meth c cX10_change (cΩ ca) (cP dC dI cg kA ca) Q r S1) (hf : fX10_change_0 M a1 a2 a3 = some (r, S1)) (hP : (cP dC dI cg kA ca) M s H) (hS : va_S (Fr (cΩ ca) s.heap.size) s.heap H locs) (hl : lv_has ls 4 [(0, .ref (ca 0)), (1, .int a1), (2, .int a2), (3, .int a3)]) : W p l e (rmL 7 0 0) s m args below meth c H locs 0 0 Q (F0 m 0 ls []) := by
  have hx := X.hx
  have hb := X.hb
  have hown := X.hown
  have hts := X.hts
  rw [fX10_change_0] at hf
  refine lv_aload_n hx hb dX10_change_0 rfl (lv_at hl 0 rfl) ?_
  refine cr_get (k := 2) X hP (rfl : kc 0 = 0) rfl cv0_2 rfl cinX10 (by decide) rfl tw957 dX10_change_1 ?_
  refine lv_iload_n hx hb dX10_change_4 rfl (lv_at hl 1 rfl) ?_
  refine lv_iload_n hx hb dX10_change_5 rfl (lv_at hl 2 rfl) ?_
  refine lv_iload_n hx hb dX10_change_6 rfl (lv_at hl 3 rfl) ?_
  obtain ⟨q, hc, hf⟩ := bd hf
  refine gCallVR X rfl (vX2_allows (rfl : kc 13 = 11) hc) gRX10_X2_allows hdX2_allows rfl ⟨by decide, by decide⟩ (gB_blind cOK) (gB_at cOK X hP) (cr_rec hP (rfl : kc 13 = 11) rfl cw11 rfl) hl.1 (Nat.le_of_ble_eq_true rfl) ⟨Nat.zero_le _, Nat.zero_le _⟩ dX10_change_7 (As := [.int a1, .int a2, .int a3]) (rest := []) rfl ?_
  exact kX10_change_10 X hret hf hP hS (lv_sub hl [0, 1, 2, 3] rfl)
theorem vX10_change {l : Launch} {dC : Nat → ClassId} {dI : Nat → Nat → Nat} {cg : Nat → ClassId} {kA : String → Nat → Nat} {ca : Nat → Nat} {M S1 : CS} {r : Int32} {a1 : Int32} {a2 : Int32} {a3 : Int32} (hf : fX10_change M a1 a2 a3 = some (r, S1)) : gMetI l yX10_change cX10_change 4 (some .int) 7 (cΩ ca) (cP dC dI cg kA ca) (kR kTab kA) [.ref (ca 0), .int a1, .int a2, .int a3] M r S1 := gEntryI (ty := .int) (by decide) rfl rfl cOK (Nat.le_of_ble_eq_true rfl) (fun p e s m args below meth c Q ls X hP hS hret hl => 
  kX10_change_0 X hret hf hP hS (lv_sub hl [0, 1, 2, 3] rfl))
set_option maxRecDepth 10000 in
theorem kX5_readRest_64 {r : Int32} {S1 : CS} {M : CS} {H : Heap} {locs : List Loc} {ls : Array Slot} (X : gX p s m args c cX5_readRest 2 RX5 (kR kTab kA)) (hret : gRetI p l e (rmL 8 0 0) s m args below meth c cX5_readRest (cΩ ca) (cP dC dI cg kA ca) Q r S1) (hf : fX5_readRest_64 M = some (r, S1)) (hP : (cP dC dI cg kA ca) M s H) (hS : va_S (Fr (cΩ ca) s.heap.size) s.heap H locs) (hl : lv_has ls 2 [(0, .ref (ca 8))]) : W p l e (rmL 8 0 0) s m args below meth c H locs 0 0 Q (F0 m 64 ls []) := by
  have hx := X.hx
  have hb := X.hb
  have hown := X.hown
  have hts := X.hts
  rw [fX5_readRest_64] at hf
  refine lv_iconst (v := 0) hx hb dX5_readRest_64 (by decide) ?_
  cases hf
  exact hret _ _ _ _ dX5_readRest_65 hP hS
set_option maxRecDepth 10000 in
theorem kX5_readRest_83 {r : Int32} {S1 : CS} {M : CS} {s0 : Int32} {H : Heap} {locs : List Loc} {ls : Array Slot} (X : gX p s m args c cX5_readRest 2 RX5 (kR kTab kA)) (hret : gRetI p l e (rmL 8 0 0) s m args below meth c cX5_readRest (cΩ ca) (cP dC dI cg kA ca) Q r S1) (hf : fX5_readRest_83 M s0 = some (r, S1)) (hP : (cP dC dI cg kA ca) M s H) (hS : va_S (Fr (cΩ ca) s.heap.size) s.heap H locs) (hl : lv_has ls 2 [(0, .ref (ca 8))]) : W p l e (rmL 8 0 0) s m args below meth c H locs 0 0 Q (F0 m 83 ls [.int s0]) := by
  have hx := X.hx
  have hb := X.hb
  have hown := X.hown
  have hts := X.hts
  rw [fX5_readRest_83] at hf
  cases hf
  exact hret _ _ _ _ dX5_readRest_83 hP hS
set_option maxRecDepth 10000 in
theorem kX5_readRest_76 {r : Int32} {S1 : CS} {M : CS} {H : Heap} {locs : List Loc} {ls : Array Slot} (X : gX p s m args c cX5_readRest 2 RX5 (kR kTab kA)) (hret : gRetI p l e (rmL 8 0 0) s m args below meth c cX5_readRest (cΩ ca) (cP dC dI cg kA ca) Q r S1) (hf : fX5_readRest_76 M = some (r, S1)) (hP : (cP dC dI cg kA ca) M s H) (hS : va_S (Fr (cΩ ca) s.heap.size) s.heap H locs) (hl : lv_has ls 2 [(0, .ref (ca 8))]) : W p l e (rmL 8 0 0) s m args below meth c H locs 0 0 Q (F0 m 76 ls []) := by
  have hx := X.hx
  have hb := X.hb
  have hown := X.hown
  have hts := X.hts
  rw [fX5_readRest_76] at hf
  refine lv_aload_n hx hb dX5_readRest_76 rfl (lv_at hl 0 rfl) ?_
  refine cr_get (k := 0) X hP (rfl : kc 8 = 8) rfl cv8_0 rfl cinX5 (by decide) rfl tw394 dX5_readRest_77 ?_
  obtain ⟨q, hc, hf⟩ := bd hf
  refine gCallVI X cOK rfl (vX8_takeSemicolon hc) gRX5_X8_takeSemicolon hdX8_takeSemicolon rfl ⟨by decide, by decide⟩ hP hS (cr_rec hP (rfl : kc 1 = 1) rfl cw1 rfl) hl.1 (Nat.le_of_ble_eq_true rfl) ⟨Nat.zero_le _, Nat.zero_le _⟩ dX5_readRest_80 (As := []) (rest := []) rfl (fun H locs hP hS => ?_)
  exact kX5_readRest_83 X hret hf hP hS (lv_sub hl [0] rfl)
set_option maxRecDepth 10000 in
theorem kX5_readRest_66 {r : Int32} {S1 : CS} {M : CS} {H : Heap} {locs : List Loc} {ls : Array Slot} (X : gX p s m args c cX5_readRest 2 RX5 (kR kTab kA)) (hret : gRetI p l e (rmL 8 0 0) s m args below meth c cX5_readRest (cΩ ca) (cP dC dI cg kA ca) Q r S1) (hf : fX5_readRest_66 M = some (r, S1)) (hP : (cP dC dI cg kA ca) M s H) (hS : va_S (Fr (cΩ ca) s.heap.size) s.heap H locs) (hl : lv_has ls 2 [(0, .ref (ca 8))]) : W p l e (rmL 8 0 0) s m args below meth c H locs 0 0 Q (F0 m 66 ls []) := by
  have hx := X.hx
  have hb := X.hb
  have hown := X.hown
  have hts := X.hts
  rw [fX5_readRest_66] at hf
  refine lv_aload_n hx hb dX5_readRest_66 rfl (lv_at hl 0 rfl) ?_
  refine lv_dup hx hb dX5_readRest_67 rfl ?_
  refine cr_get (k := 5) X hP (rfl : kc 8 = 8) rfl cv8_5 rfl cinX5 (by decide) rfl tw399 dX5_readRest_68 ?_
  refine lv_iconst (v := 1) hx hb dX5_readRest_71 (by decide) ?_
  refine lv_iadd hx hb dX5_readRest_72 ?_
  refine cr_put (k := 5) X hP hS (rfl : kc 8 = 8) rfl cs8_5 rfl cinX5 tyX5_ok nmX5 (by decide) rfl rfl rfl rfl tw399 dX5_readRest_73 (fun H locs hP hS => ?_)
  exact kX5_readRest_76 X hret hf hP hS (lv_sub hl [0] rfl)
set_option maxRecDepth 10000 in
theorem kX5_readRest_61 {r : Int32} {S1 : CS} {M : CS} {s0 : Int32} {H : Heap} {locs : List Loc} {ls : Array Slot} (X : gX p s m args c cX5_readRest 2 RX5 (kR kTab kA)) (hret : gRetI p l e (rmL 8 0 0) s m args below meth c cX5_readRest (cΩ ca) (cP dC dI cg kA ca) Q r S1) (hf : fX5_readRest_61 M s0 = some (r, S1)) (hP : (cP dC dI cg kA ca) M s H) (hS : va_S (Fr (cΩ ca) s.heap.size) s.heap H locs) (hl : lv_has ls 2 [(0, .ref (ca 8))]) : W p l e (rmL 8 0 0) s m args below meth c H locs 0 0 Q (F0 m 61 ls [.int s0]) := by
  have hx := X.hx
  have hb := X.hb
  have hown := X.hown
  have hts := X.hts
  rw [fX5_readRest_61] at hf
  refine lv_if_ne (tgt := 66) hx hb dX5_readRest_61 (by decide) (fun c1 => ?_) (fun c1 => ?_)
  · exact kX5_readRest_66 X hret (ifn c1 hf) hP hS (lv_sub hl [0] rfl)
  · exact kX5_readRest_64 X hret (ifp c1 hf) hP hS (lv_sub hl [0] rfl)
set_option maxRecDepth 10000 in
theorem kX5_readRest_56 {r : Int32} {S1 : CS} {M : CS} {x1 : Int32} {H : Heap} {locs : List Loc} {ls : Array Slot} (X : gX p s m args c cX5_readRest 2 RX5 (kR kTab kA)) (hret : gRetI p l e (rmL 8 0 0) s m args below meth c cX5_readRest (cΩ ca) (cP dC dI cg kA ca) Q r S1) (hf : fX5_readRest_56 M x1 = some (r, S1)) (hP : (cP dC dI cg kA ca) M s H) (hS : va_S (Fr (cΩ ca) s.heap.size) s.heap H locs) (hl : lv_has ls 2 [(0, .ref (ca 8)), (1, .int x1)]) : W p l e (rmL 8 0 0) s m args below meth c H locs 0 0 Q (F0 m 56 ls []) := by
  have hx := X.hx
  have hb := X.hb
  have hown := X.hown
  have hts := X.hts
  rw [fX5_readRest_56] at hf
  refine lv_aload_n hx hb dX5_readRest_56 rfl (lv_at hl 0 rfl) ?_
  refine lv_iload_n hx hb dX5_readRest_57 rfl (lv_at hl 1 rfl) ?_
  obtain ⟨q, hc, hf⟩ := bd hf
  refine gCallVI X cOK rfl (vX5_readNumber hc) gRX5_X5_readNumber hdX5_readNumber rfl ⟨by decide, by decide⟩ hP hS (cr_rec hP (rfl : kc 8 = 8) rfl cw8 rfl) hl.1 (Nat.le_of_ble_eq_true rfl) ⟨Nat.zero_le _, Nat.zero_le _⟩ dX5_readRest_58 (As := [.int x1]) (rest := []) rfl (fun H locs hP hS => ?_)
  exact kX5_readRest_61 X hret hf hP hS (lv_sub hl [0] rfl)
set_option maxRecDepth 10000 in
theorem kX5_readRest_53 {r : Int32} {S1 : CS} {M : CS} {x1 : Int32} {s0 : Int32} {H : Heap} {locs : List Loc} {ls : Array Slot} (X : gX p s m args c cX5_readRest 2 RX5 (kR kTab kA)) (hret : gRetI p l e (rmL 8 0 0) s m args below meth c cX5_readRest (cΩ ca) (cP dC dI cg kA ca) Q r S1) (hf : fX5_readRest_53 M x1 s0 = some (r, S1)) (hP : (cP dC dI cg kA ca) M s H) (hS : va_S (Fr (cΩ ca) s.heap.size) s.heap H locs) (hl : lv_has ls 2 [(0, .ref (ca 8)), (1, .int x1)]) : W p l e (rmL 8 0 0) s m args below meth c H locs 0 0 Q (F0 m 53 ls [.int s0]) := by
  have hx := X.hx
  have hb := X.hb
  have hown := X.hown
  have hts := X.hts
  rw [fX5_readRest_53] at hf
  refine lv_if_eq (tgt := 64) hx hb dX5_readRest_53 (by decide) (fun c1 => ?_) (fun c1 => ?_)
  · exact kX5_readRest_64 X hret (ifp c1 hf) hP hS (lv_sub hl [0] rfl)
  · exact kX5_readRest_56 X hret (ifn c1 hf) hP hS (lv_sub hl [0, 1] rfl)
set_option maxRecDepth 10000 in
theorem kX5_readRest_48 {r : Int32} {S1 : CS} {M : CS} {x1 : Int32} {H : Heap} {locs : List Loc} {ls : Array Slot} (X : gX p s m args c cX5_readRest 2 RX5 (kR kTab kA)) (hret : gRetI p l e (rmL 8 0 0) s m args below meth c cX5_readRest (cΩ ca) (cP dC dI cg kA ca) Q r S1) (hf : fX5_readRest_48 M x1 = some (r, S1)) (hP : (cP dC dI cg kA ca) M s H) (hS : va_S (Fr (cΩ ca) s.heap.size) s.heap H locs) (hl : lv_has ls 2 [(0, .ref (ca 8)), (1, .int x1)]) : W p l e (rmL 8 0 0) s m args below meth c H locs 0 0 Q (F0 m 48 ls []) := by
  have hx := X.hx
  have hb := X.hb
  have hown := X.hown
  have hts := X.hts
  rw [fX5_readRest_48] at hf
  refine lv_aload_n hx hb dX5_readRest_48 rfl (lv_at hl 0 rfl) ?_
  refine lv_iload_n hx hb dX5_readRest_49 rfl (lv_at hl 1 rfl) ?_
  obtain ⟨q, hc, hf⟩ := bd hf
  refine gCallVI X cOK rfl (vX5_readSackName hc) gRX5_X5_readSackName hdX5_readSackName rfl ⟨by decide, by decide⟩ hP hS (cr_rec hP (rfl : kc 8 = 8) rfl cw8 rfl) hl.1 (Nat.le_of_ble_eq_true rfl) ⟨Nat.zero_le _, Nat.zero_le _⟩ dX5_readRest_50 (As := [.int x1]) (rest := []) rfl (fun H locs hP hS => ?_)
  exact kX5_readRest_53 X hret hf hP hS (lv_sub hl [0, 1] rfl)
set_option maxRecDepth 10000 in
theorem kX5_readRest_38 {r : Int32} {S1 : CS} {M : CS} {x1 : Int32} {H : Heap} {locs : List Loc} {ls : Array Slot} (X : gX p s m args c cX5_readRest 2 RX5 (kR kTab kA)) (hret : gRetI p l e (rmL 8 0 0) s m args below meth c cX5_readRest (cΩ ca) (cP dC dI cg kA ca) Q r S1) (hf : fX5_readRest_38 M x1 = some (r, S1)) (hP : (cP dC dI cg kA ca) M s H) (hS : va_S (Fr (cΩ ca) s.heap.size) s.heap H locs) (hl : lv_has ls 2 [(0, .ref (ca 8)), (1, .int x1)]) : W p l e (rmL 8 0 0) s m args below meth c H locs 0 0 Q (F0 m 38 ls []) := by
  have hx := X.hx
  have hb := X.hb
  have hown := X.hown
  have hts := X.hts
  rw [fX5_readRest_38] at hf
  refine lv_aload_n hx hb dX5_readRest_38 rfl (lv_at hl 0 rfl) ?_
  refine cr_get (k := 4) X hP (rfl : kc 8 = 8) rfl cv8_4 rfl cinX5 (by decide) rfl tw398 dX5_readRest_39 ?_
  refine lv_aload_n hx hb dX5_readRest_42 rfl (lv_at hl 0 rfl) ?_
  refine cr_get (k := 5) X hP (rfl : kc 8 = 8) rfl cv8_5 rfl cinX5 (by decide) rfl tw399 dX5_readRest_43 ?_
  refine lv_iconst (v := 0) hx hb dX5_readRest_46 (by decide) ?_
  obtain ⟨g1, hf⟩ := gd hf
  refine cr_iast X hP hS (rfl : kc 11 = 9) rfl (fun _ _ => rfl) g1 dX5_readRest_47 (fun H locs hP hS => ?_)
  exact kX5_readRest_48 X hret hf hP hS (lv_sub hl [0, 1] rfl)
set_option maxRecDepth 10000 in
theorem kX5_readRest_28 {r : Int32} {S1 : CS} {M : CS} {x1 : Int32} {H : Heap} {locs : List Loc} {ls : Array Slot} (X : gX p s m args c cX5_readRest 2 RX5 (kR kTab kA)) (hret : gRetI p l e (rmL 8 0 0) s m args below meth c cX5_readRest (cΩ ca) (cP dC dI cg kA ca) Q r S1) (hf : fX5_readRest_28 M x1 = some (r, S1)) (hP : (cP dC dI cg kA ca) M s H) (hS : va_S (Fr (cΩ ca) s.heap.size) s.heap H locs) (hl : lv_has ls 2 [(0, .ref (ca 8)), (1, .int x1)]) : W p l e (rmL 8 0 0) s m args below meth c H locs 0 0 Q (F0 m 28 ls []) := by
  have hx := X.hx
  have hb := X.hb
  have hown := X.hown
  have hts := X.hts
  rw [fX5_readRest_28] at hf
  refine lv_aload_n hx hb dX5_readRest_28 rfl (lv_at hl 0 rfl) ?_
  refine cr_get (k := 3) X hP (rfl : kc 8 = 8) rfl cv8_3 rfl cinX5 (by decide) rfl tw397 dX5_readRest_29 ?_
  refine lv_aload_n hx hb dX5_readRest_32 rfl (lv_at hl 0 rfl) ?_
  refine cr_get (k := 5) X hP (rfl : kc 8 = 8) rfl cv8_5 rfl cinX5 (by decide) rfl tw399 dX5_readRest_33 ?_
  refine lv_iconst (v := (-1)) hx hb dX5_readRest_36 (by decide) ?_
  obtain ⟨g1, hf⟩ := gd hf
  refine cr_iast X hP hS (rfl : kc 10 = 9) rfl (fun _ _ => rfl) g1 dX5_readRest_37 (fun H locs hP hS => ?_)
  exact kX5_readRest_38 X hret hf hP hS (lv_sub hl [0, 1] rfl)
set_option maxRecDepth 10000 in
theorem kX5_readRest_18 {r : Int32} {S1 : CS} {M : CS} {x1 : Int32} {H : Heap} {locs : List Loc} {ls : Array Slot} (X : gX p s m args c cX5_readRest 2 RX5 (kR kTab kA)) (hret : gRetI p l e (rmL 8 0 0) s m args below meth c cX5_readRest (cΩ ca) (cP dC dI cg kA ca) Q r S1) (hf : fX5_readRest_18 M x1 = some (r, S1)) (hP : (cP dC dI cg kA ca) M s H) (hS : va_S (Fr (cΩ ca) s.heap.size) s.heap H locs) (hl : lv_has ls 2 [(0, .ref (ca 8)), (1, .int x1)]) : W p l e (rmL 8 0 0) s m args below meth c H locs 0 0 Q (F0 m 18 ls []) := by
  have hx := X.hx
  have hb := X.hb
  have hown := X.hown
  have hts := X.hts
  rw [fX5_readRest_18] at hf
  refine lv_aload_n hx hb dX5_readRest_18 rfl (lv_at hl 0 rfl) ?_
  refine cr_get (k := 2) X hP (rfl : kc 8 = 8) rfl cv8_2 rfl cinX5 (by decide) rfl tw396 dX5_readRest_19 ?_
  refine lv_aload_n hx hb dX5_readRest_22 rfl (lv_at hl 0 rfl) ?_
  refine cr_get (k := 5) X hP (rfl : kc 8 = 8) rfl cv8_5 rfl cinX5 (by decide) rfl tw399 dX5_readRest_23 ?_
  refine lv_iload_n hx hb dX5_readRest_26 rfl (lv_at hl 1 rfl) ?_
  obtain ⟨g1, hf⟩ := gd hf
  refine cr_iast X hP hS (rfl : kc 9 = 9) rfl (fun _ _ => rfl) g1 dX5_readRest_27 (fun H locs hP hS => ?_)
  exact kX5_readRest_28 X hret hf hP hS (lv_sub hl [0, 1] rfl)
set_option maxRecDepth 10000 in
theorem kX5_readRest_17 {r : Int32} {S1 : CS} {M : CS} {s0 : Int32} {H : Heap} {locs : List Loc} {ls : Array Slot} (X : gX p s m args c cX5_readRest 2 RX5 (kR kTab kA)) (hret : gRetI p l e (rmL 8 0 0) s m args below meth c cX5_readRest (cΩ ca) (cP dC dI cg kA ca) Q r S1) (hf : fX5_readRest_17 M s0 = some (r, S1)) (hP : (cP dC dI cg kA ca) M s H) (hS : va_S (Fr (cΩ ca) s.heap.size) s.heap H locs) (hl : lv_has ls 2 [(0, .ref (ca 8))]) : W p l e (rmL 8 0 0) s m args below meth c H locs 0 0 Q (F0 m 17 ls [.int s0]) := by
  have hx := X.hx
  have hb := X.hb
  have hown := X.hown
  have hts := X.hts
  rw [fX5_readRest_17] at hf
  cases hf
  exact hret _ _ _ _ dX5_readRest_17 hP hS
set_option maxRecDepth 10000 in
theorem kX5_readRest_9 {r : Int32} {S1 : CS} {M : CS} {H : Heap} {locs : List Loc} {ls : Array Slot} (X : gX p s m args c cX5_readRest 2 RX5 (kR kTab kA)) (hret : gRetI p l e (rmL 8 0 0) s m args below meth c cX5_readRest (cΩ ca) (cP dC dI cg kA ca) Q r S1) (hf : fX5_readRest_9 M = some (r, S1)) (hP : (cP dC dI cg kA ca) M s H) (hS : va_S (Fr (cΩ ca) s.heap.size) s.heap H locs) (hl : lv_has ls 2 [(0, .ref (ca 8))]) : W p l e (rmL 8 0 0) s m args below meth c H locs 0 0 Q (F0 m 9 ls []) := by
  have hx := X.hx
  have hb := X.hb
  have hown := X.hown
  have hts := X.hts
  rw [fX5_readRest_9] at hf
  refine lv_aload_n hx hb dX5_readRest_9 rfl (lv_at hl 0 rfl) ?_
  refine cr_get (k := 0) X hP (rfl : kc 8 = 8) rfl cv8_0 rfl cinX5 (by decide) rfl tw394 dX5_readRest_10 ?_
  refine lv_iconst (v := 5) hx hb dX5_readRest_13 (by decide) ?_
  obtain ⟨q, hc, hf⟩ := bd hf
  refine gCallVI X cOK rfl (vX8_fail hc) gRX5_X8_fail hdX8_fail rfl ⟨by decide, by decide⟩ hP hS (cr_rec hP (rfl : kc 1 = 1) rfl cw1 rfl) hl.1 (Nat.le_of_ble_eq_true rfl) ⟨Nat.zero_le _, Nat.zero_le _⟩ dX5_readRest_14 (As := [.int 5]) (rest := []) rfl (fun H locs hP hS => ?_)
  exact kX5_readRest_17 X hret hf hP hS (lv_sub hl [0] rfl)
set_option maxRecDepth 10000 in
theorem kX5_readRest_0 {r : Int32} {S1 : CS} {M : CS} {a1 : Int32} {H : Heap} {locs : List Loc} {ls : Array Slot} (X : gX p s m args c cX5_readRest 2 RX5 (kR kTab kA)) (hret : gRetI p l e (rmL 8 0 0) s m args below meth c cX5_readRest (cΩ ca) (cP dC dI cg kA ca) Q r S1) (hf : fX5_readRest_0 M a1 = some (r, S1)) (hP : (cP dC dI cg kA ca) M s H) (hS : va_S (Fr (cΩ ca) s.heap.size) s.heap H locs) (hl : lv_has ls 2 [(0, .ref (ca 8)), (1, .int a1)]) : W p l e (rmL 8 0 0) s m args below meth c H locs 0 0 Q (F0 m 0 ls []) := by
  have hx := X.hx
  have hb := X.hb
  have hown := X.hown
  have hts := X.hts
  rw [fX5_readRest_0] at hf
  refine lv_aload_n hx hb dX5_readRest_0 rfl (lv_at hl 0 rfl) ?_
  refine cr_get (k := 5) X hP (rfl : kc 8 = 8) rfl cv8_5 rfl cinX5 (by decide) rfl tw399 dX5_readRest_1 ?_
  refine lv_bipush (v := 30) hx hb dX5_readRest_4 (by decide) ?_
  refine lv_icmp_lt (tgt := 18) hx hb dX5_readRest_6 (by decide) (fun c1 => ?_) (fun c1 => ?_)
  · exact kX5_readRest_18 X hret (ifp c1 hf) hP hS (lv_sub hl [0, 1] rfl)
  · exact kX5_readRest_9 X hret (ifn c1 hf) hP hS (lv_sub hl [0] rfl)
theorem vX5_readRest {l : Launch} {dC : Nat → ClassId} {dI : Nat → Nat → Nat} {cg : Nat → ClassId} {kA : String → Nat → Nat} {ca : Nat → Nat} {M S1 : CS} {r : Int32} {a1 : Int32} (hf : fX5_readRest M a1 = some (r, S1)) : gMetI l yX5_readRest cX5_readRest 2 (some .boolean) 8 (cΩ ca) (cP dC dI cg kA ca) (kR kTab kA) [.ref (ca 8), .int a1] M r S1 := gEntryI (ty := .boolean) (by decide) rfl (bz_n hf) cOK (Nat.le_of_ble_eq_true rfl) (fun p e s m args below meth c Q ls X hP hS hret hl => 
  kX5_readRest_0 X hret (bz_f hf) hP hS (lv_sub hl [0, 1] rfl))
set_option maxRecDepth 10000 in
theorem kX10_letPass_14 {r : Int32} {S1 : CS} {M : CS} {s0 : Int32} {H : Heap} {locs : List Loc} {ls : Array Slot} (X : gX p s m args c cX10_letPass 2 RX10 (kR kTab kA)) (hret : gRetI p l e (rmL 8 0 0) s m args below meth c cX10_letPass (cΩ ca) (cP dC dI cg kA ca) Q r S1) (hf : fX10_letPass_14 M s0 = some (r, S1)) (hP : (cP dC dI cg kA ca) M s H) (hS : va_S (Fr (cΩ ca) s.heap.size) s.heap H locs) (hl : lv_has ls 2 [(0, .ref (ca 0))]) : W p l e (rmL 8 0 0) s m args below meth c H locs 0 0 Q (F0 m 14 ls [.int s0]) := by
  have hx := X.hx
  have hb := X.hb
  have hown := X.hown
  have hts := X.hts
  rw [fX10_letPass_14] at hf
  cases hf
  exact hret _ _ _ _ dX10_letPass_14 hP hS
set_option maxRecDepth 10000 in
theorem kX10_letPass_7 {r : Int32} {S1 : CS} {M : CS} {x1 : Int32} {H : Heap} {locs : List Loc} {ls : Array Slot} (X : gX p s m args c cX10_letPass 2 RX10 (kR kTab kA)) (hret : gRetI p l e (rmL 8 0 0) s m args below meth c cX10_letPass (cΩ ca) (cP dC dI cg kA ca) Q r S1) (hf : fX10_letPass_7 M x1 = some (r, S1)) (hP : (cP dC dI cg kA ca) M s H) (hS : va_S (Fr (cΩ ca) s.heap.size) s.heap H locs) (hl : lv_has ls 2 [(0, .ref (ca 0)), (1, .int x1)]) : W p l e (rmL 8 0 0) s m args below meth c H locs 0 0 Q (F0 m 7 ls []) := by
  have hx := X.hx
  have hb := X.hb
  have hown := X.hown
  have hts := X.hts
  rw [fX10_letPass_7] at hf
  refine lv_aload_n hx hb dX10_letPass_7 rfl (lv_at hl 0 rfl) ?_
  refine lv_iconst (v := 0) hx hb dX10_letPass_8 (by decide) ?_
  refine lv_iconst (v := (-1)) hx hb dX10_letPass_9 (by decide) ?_
  refine lv_iload_n hx hb dX10_letPass_10 rfl (lv_at hl 1 rfl) ?_
  obtain ⟨q, hc, hf⟩ := bd hf
  refine gCallVI X cOK rfl (vX10_change hc) gRX10_X10_change hdX10_change rfl ⟨by decide, by decide⟩ hP hS (cr_rec hP (rfl : kc 0 = 0) rfl cw0 rfl) hl.1 (Nat.le_of_ble_eq_true rfl) ⟨Nat.zero_le _, Nat.zero_le _⟩ dX10_letPass_11 (As := [.int 0, .int (-1), .int x1]) (rest := []) rfl (fun H locs hP hS => ?_)
  exact kX10_letPass_14 X hret hf hP hS (lv_sub hl [0] rfl)
set_option maxRecDepth 10000 in
theorem kX10_letPass_0 {r : Int32} {S1 : CS} {M : CS} {a1 : Int32} {H : Heap} {locs : List Loc} {ls : Array Slot} (X : gX p s m args c cX10_letPass 2 RX10 (kR kTab kA)) (hret : gRetI p l e (rmL 8 0 0) s m args below meth c cX10_letPass (cΩ ca) (cP dC dI cg kA ca) Q r S1) (hf : fX10_letPass_0 M a1 = some (r, S1)) (hP : (cP dC dI cg kA ca) M s H) (hS : va_S (Fr (cΩ ca) s.heap.size) s.heap H locs) (hl : lv_has ls 2 [(0, .ref (ca 0)), (1, .int a1)]) : W p l e (rmL 8 0 0) s m args below meth c H locs 0 0 Q (F0 m 0 ls []) := by
  have hx := X.hx
  have hb := X.hb
  have hown := X.hown
  have hts := X.hts
  rw [fX10_letPass_0] at hf
  refine lv_iload_n hx hb dX10_letPass_0 rfl (lv_at hl 1 rfl) ?_
  refine lv_iconst (v := 1) hx hb dX10_letPass_1 (by decide) ?_
  refine lv_bipush (v := 99) hx hb dX10_letPass_2 (by decide) ?_
  obtain ⟨q, hc, hf⟩ := bd hf
  refine gCallSV X cOK rfl (vX10_requireRange hc) gRX10_X10_requireRange hdX10_requireRange rfl ⟨by decide, by decide⟩ hP hS hl.1 (Nat.le_of_ble_eq_true rfl) ⟨Nat.zero_le _, Nat.zero_le _⟩ dX10_letPass_4 (As := [.int a1, .int 1, .int 99]) (rest := []) rfl (fun H locs hP hS => ?_)
  exact kX10_letPass_7 X hret hf hP hS (lv_sub hl [0, 1] rfl)
theorem vX10_letPass {l : Launch} {dC : Nat → ClassId} {dI : Nat → Nat → Nat} {cg : Nat → ClassId} {kA : String → Nat → Nat} {ca : Nat → Nat} {M S1 : CS} {r : Int32} {a1 : Int32} (hf : fX10_letPass M a1 = some (r, S1)) : gMetI l yX10_letPass cX10_letPass 2 (some .int) 8 (cΩ ca) (cP dC dI cg kA ca) (kR kTab kA) [.ref (ca 0), .int a1] M r S1 := gEntryI (ty := .int) (by decide) rfl rfl cOK (Nat.le_of_ble_eq_true rfl) (fun p e s m args below meth c Q ls X hP hS hret hl => 
  kX10_letPass_0 X hret hf hP hS (lv_sub hl [0, 1] rfl))
set_option maxRecDepth 10000 in
theorem kX10_openFlap_13 {r : Int32} {S1 : CS} {M : CS} {s0 : Int32} {H : Heap} {locs : List Loc} {ls : Array Slot} (X : gX p s m args c cX10_openFlap 2 RX10 (kR kTab kA)) (hret : gRetI p l e (rmL 8 0 0) s m args below meth c cX10_openFlap (cΩ ca) (cP dC dI cg kA ca) Q r S1) (hf : fX10_openFlap_13 M s0 = some (r, S1)) (hP : (cP dC dI cg kA ca) M s H) (hS : va_S (Fr (cΩ ca) s.heap.size) s.heap H locs) (hl : lv_has ls 2 [(0, .ref (ca 0))]) : W p l e (rmL 8 0 0) s m args below meth c H locs 0 0 Q (F0 m 13 ls [.int s0]) := by
  have hx := X.hx
  have hb := X.hb
  have hown := X.hown
  have hts := X.hts
  rw [fX10_openFlap_13] at hf
  cases hf
  exact hret _ _ _ _ dX10_openFlap_13 hP hS
set_option maxRecDepth 10000 in
theorem kX10_openFlap_5 {r : Int32} {S1 : CS} {M : CS} {z0 : Nat} {x1 : Int32} {H : Heap} {locs : List Loc} {ls : Array Slot} (X : gX p s m args c cX10_openFlap 2 RX10 (kR kTab kA)) (hret : gRetI p l e (rmL 8 0 0) s m args below meth c cX10_openFlap (cΩ ca) (cP dC dI cg kA ca) Q r S1) (hkz0 : kc z0 = 19) (hf : fX10_openFlap_5 M z0 x1 = some (r, S1)) (hP : (cP dC dI cg kA ca) M s H) (hS : va_S (Fr (cΩ ca) s.heap.size) s.heap H locs) (hl : lv_has ls 2 [(0, .ref (ca 0)), (1, .int x1)]) : W p l e (rmL 8 0 0) s m args below meth c H locs 0 0 Q (F0 m 5 ls [.ref (ca z0)]) := by
  have hx := X.hx
  have hb := X.hb
  have hown := X.hown
  have hts := X.hts
  rw [fX10_openFlap_5] at hf
  refine lv_pop hx hb dX10_openFlap_5 rfl ?_
  refine lv_aload_n hx hb dX10_openFlap_6 rfl (lv_at hl 0 rfl) ?_
  refine lv_iconst (v := 1) hx hb dX10_openFlap_7 (by decide) ?_
  refine lv_iload_n hx hb dX10_openFlap_8 rfl (lv_at hl 1 rfl) ?_
  refine lv_iconst (v := 0) hx hb dX10_openFlap_9 (by decide) ?_
  obtain ⟨q, hc, hf⟩ := bd hf
  refine gCallVI X cOK rfl (vX10_change hc) gRX10_X10_change hdX10_change rfl ⟨by decide, by decide⟩ hP hS (cr_rec hP (rfl : kc 0 = 0) rfl cw0 rfl) hl.1 (Nat.le_of_ble_eq_true rfl) ⟨Nat.zero_le _, Nat.zero_le _⟩ dX10_openFlap_10 (As := [.int 1, .int x1, .int 0]) (rest := []) rfl (fun H locs hP hS => ?_)
  exact kX10_openFlap_13 X hret hf hP hS (lv_sub hl [0] rfl)
set_option maxRecDepth 10000 in
theorem kX10_openFlap_0 {r : Int32} {S1 : CS} {M : CS} {a1 : Int32} {H : Heap} {locs : List Loc} {ls : Array Slot} (X : gX p s m args c cX10_openFlap 2 RX10 (kR kTab kA)) (hret : gRetI p l e (rmL 8 0 0) s m args below meth c cX10_openFlap (cΩ ca) (cP dC dI cg kA ca) Q r S1) (hf : fX10_openFlap_0 M a1 = some (r, S1)) (hP : (cP dC dI cg kA ca) M s H) (hS : va_S (Fr (cΩ ca) s.heap.size) s.heap H locs) (hl : lv_has ls 2 [(0, .ref (ca 0)), (1, .int a1)]) : W p l e (rmL 8 0 0) s m args below meth c H locs 0 0 Q (F0 m 0 ls []) := by
  have hx := X.hx
  have hb := X.hb
  have hown := X.hown
  have hts := X.hts
  rw [fX10_openFlap_0] at hf
  refine lv_aload_n hx hb dX10_openFlap_0 rfl (lv_at hl 0 rfl) ?_
  refine lv_iload_n hx hb dX10_openFlap_1 rfl (lv_at hl 1 rfl) ?_
  obtain ⟨q, hc, hf⟩ := bd hf
  refine gCallVP X rfl (vX10_sackAt hc) gRX10_X10_sackAt hdX10_sackAt rfl ⟨by decide, by decide⟩ (gB_blind cOK) (gB_at cOK X hP) (cr_rec hP (rfl : kc 0 = 0) rfl cw0 rfl) hl.1 (Nat.le_of_ble_eq_true rfl) ⟨Nat.zero_le _, Nat.zero_le _⟩ dX10_openFlap_2 (As := [.int a1]) (rest := []) rfl ?_
  exact kX10_openFlap_5 X hret (kkX10_sackAt hc) hf hP hS (lv_sub hl [0, 1] rfl)
theorem vX10_openFlap {l : Launch} {dC : Nat → ClassId} {dI : Nat → Nat → Nat} {cg : Nat → ClassId} {kA : String → Nat → Nat} {ca : Nat → Nat} {M S1 : CS} {r : Int32} {a1 : Int32} (hf : fX10_openFlap M a1 = some (r, S1)) : gMetI l yX10_openFlap cX10_openFlap 2 (some .int) 8 (cΩ ca) (cP dC dI cg kA ca) (kR kTab kA) [.ref (ca 0), .int a1] M r S1 := gEntryI (ty := .int) (by decide) rfl rfl cOK (Nat.le_of_ble_eq_true rfl) (fun p e s m args below meth c Q ls X hP hS hret hl => 
  kX10_openFlap_0 X hret hf hP hS (lv_sub hl [0, 1] rfl))
set_option maxRecDepth 10000 in
theorem kX10_shutFlap_13 {r : Int32} {S1 : CS} {M : CS} {s0 : Int32} {H : Heap} {locs : List Loc} {ls : Array Slot} (X : gX p s m args c cX10_shutFlap 2 RX10 (kR kTab kA)) (hret : gRetI p l e (rmL 8 0 0) s m args below meth c cX10_shutFlap (cΩ ca) (cP dC dI cg kA ca) Q r S1) (hf : fX10_shutFlap_13 M s0 = some (r, S1)) (hP : (cP dC dI cg kA ca) M s H) (hS : va_S (Fr (cΩ ca) s.heap.size) s.heap H locs) (hl : lv_has ls 2 [(0, .ref (ca 0))]) : W p l e (rmL 8 0 0) s m args below meth c H locs 0 0 Q (F0 m 13 ls [.int s0]) := by
  have hx := X.hx
  have hb := X.hb
  have hown := X.hown
  have hts := X.hts
  rw [fX10_shutFlap_13] at hf
  cases hf
  exact hret _ _ _ _ dX10_shutFlap_13 hP hS
set_option maxRecDepth 10000 in
theorem kX10_shutFlap_5 {r : Int32} {S1 : CS} {M : CS} {z0 : Nat} {x1 : Int32} {H : Heap} {locs : List Loc} {ls : Array Slot} (X : gX p s m args c cX10_shutFlap 2 RX10 (kR kTab kA)) (hret : gRetI p l e (rmL 8 0 0) s m args below meth c cX10_shutFlap (cΩ ca) (cP dC dI cg kA ca) Q r S1) (hkz0 : kc z0 = 19) (hf : fX10_shutFlap_5 M z0 x1 = some (r, S1)) (hP : (cP dC dI cg kA ca) M s H) (hS : va_S (Fr (cΩ ca) s.heap.size) s.heap H locs) (hl : lv_has ls 2 [(0, .ref (ca 0)), (1, .int x1)]) : W p l e (rmL 8 0 0) s m args below meth c H locs 0 0 Q (F0 m 5 ls [.ref (ca z0)]) := by
  have hx := X.hx
  have hb := X.hb
  have hown := X.hown
  have hts := X.hts
  rw [fX10_shutFlap_5] at hf
  refine lv_pop hx hb dX10_shutFlap_5 rfl ?_
  refine lv_aload_n hx hb dX10_shutFlap_6 rfl (lv_at hl 0 rfl) ?_
  refine lv_iconst (v := 2) hx hb dX10_shutFlap_7 (by decide) ?_
  refine lv_iload_n hx hb dX10_shutFlap_8 rfl (lv_at hl 1 rfl) ?_
  refine lv_iconst (v := 0) hx hb dX10_shutFlap_9 (by decide) ?_
  obtain ⟨q, hc, hf⟩ := bd hf
  refine gCallVI X cOK rfl (vX10_change hc) gRX10_X10_change hdX10_change rfl ⟨by decide, by decide⟩ hP hS (cr_rec hP (rfl : kc 0 = 0) rfl cw0 rfl) hl.1 (Nat.le_of_ble_eq_true rfl) ⟨Nat.zero_le _, Nat.zero_le _⟩ dX10_shutFlap_10 (As := [.int 2, .int x1, .int 0]) (rest := []) rfl (fun H locs hP hS => ?_)
  exact kX10_shutFlap_13 X hret hf hP hS (lv_sub hl [0] rfl)
set_option maxRecDepth 10000 in
theorem kX10_shutFlap_0 {r : Int32} {S1 : CS} {M : CS} {a1 : Int32} {H : Heap} {locs : List Loc} {ls : Array Slot} (X : gX p s m args c cX10_shutFlap 2 RX10 (kR kTab kA)) (hret : gRetI p l e (rmL 8 0 0) s m args below meth c cX10_shutFlap (cΩ ca) (cP dC dI cg kA ca) Q r S1) (hf : fX10_shutFlap_0 M a1 = some (r, S1)) (hP : (cP dC dI cg kA ca) M s H) (hS : va_S (Fr (cΩ ca) s.heap.size) s.heap H locs) (hl : lv_has ls 2 [(0, .ref (ca 0)), (1, .int a1)]) : W p l e (rmL 8 0 0) s m args below meth c H locs 0 0 Q (F0 m 0 ls []) := by
  have hx := X.hx
  have hb := X.hb
  have hown := X.hown
  have hts := X.hts
  rw [fX10_shutFlap_0] at hf
  refine lv_aload_n hx hb dX10_shutFlap_0 rfl (lv_at hl 0 rfl) ?_
  refine lv_iload_n hx hb dX10_shutFlap_1 rfl (lv_at hl 1 rfl) ?_
  obtain ⟨q, hc, hf⟩ := bd hf
  refine gCallVP X rfl (vX10_sackAt hc) gRX10_X10_sackAt hdX10_sackAt rfl ⟨by decide, by decide⟩ (gB_blind cOK) (gB_at cOK X hP) (cr_rec hP (rfl : kc 0 = 0) rfl cw0 rfl) hl.1 (Nat.le_of_ble_eq_true rfl) ⟨Nat.zero_le _, Nat.zero_le _⟩ dX10_shutFlap_2 (As := [.int a1]) (rest := []) rfl ?_
  exact kX10_shutFlap_5 X hret (kkX10_sackAt hc) hf hP hS (lv_sub hl [0, 1] rfl)
theorem vX10_shutFlap {l : Launch} {dC : Nat → ClassId} {dI : Nat → Nat → Nat} {cg : Nat → ClassId} {kA : String → Nat → Nat} {ca : Nat → Nat} {M S1 : CS} {r : Int32} {a1 : Int32} (hf : fX10_shutFlap M a1 = some (r, S1)) : gMetI l yX10_shutFlap cX10_shutFlap 2 (some .int) 8 (cΩ ca) (cP dC dI cg kA ca) (kR kTab kA) [.ref (ca 0), .int a1] M r S1 := gEntryI (ty := .int) (by decide) rfl rfl cOK (Nat.le_of_ble_eq_true rfl) (fun p e s m args below meth c Q ls X hP hS hret hl => 
  kX10_shutFlap_0 X hret hf hP hS (lv_sub hl [0, 1] rfl))
set_option maxRecDepth 10000 in
theorem kX10_addMice_20 {r : Int32} {S1 : CS} {M : CS} {s0 : Int32} {H : Heap} {locs : List Loc} {ls : Array Slot} (X : gX p s m args c cX10_addMice 3 RX10 (kR kTab kA)) (hret : gRetI p l e (rmL 8 0 0) s m args below meth c cX10_addMice (cΩ ca) (cP dC dI cg kA ca) Q r S1) (hf : fX10_addMice_20 M s0 = some (r, S1)) (hP : (cP dC dI cg kA ca) M s H) (hS : va_S (Fr (cΩ ca) s.heap.size) s.heap H locs) (hl : lv_has ls 3 [(0, .ref (ca 0))]) : W p l e (rmL 8 0 0) s m args below meth c H locs 0 0 Q (F0 m 20 ls [.int s0]) := by
  have hx := X.hx
  have hb := X.hb
  have hown := X.hown
  have hts := X.hts
  rw [fX10_addMice_20] at hf
  cases hf
  exact hret _ _ _ _ dX10_addMice_20 hP hS
set_option maxRecDepth 10000 in
theorem kX10_addMice_13 {r : Int32} {S1 : CS} {M : CS} {x1 : Int32} {x2 : Int32} {H : Heap} {locs : List Loc} {ls : Array Slot} (X : gX p s m args c cX10_addMice 3 RX10 (kR kTab kA)) (hret : gRetI p l e (rmL 8 0 0) s m args below meth c cX10_addMice (cΩ ca) (cP dC dI cg kA ca) Q r S1) (hf : fX10_addMice_13 M x1 x2 = some (r, S1)) (hP : (cP dC dI cg kA ca) M s H) (hS : va_S (Fr (cΩ ca) s.heap.size) s.heap H locs) (hl : lv_has ls 3 [(0, .ref (ca 0)), (1, .int x1), (2, .int x2)]) : W p l e (rmL 8 0 0) s m args below meth c H locs 0 0 Q (F0 m 13 ls []) := by
  have hx := X.hx
  have hb := X.hb
  have hown := X.hown
  have hts := X.hts
  rw [fX10_addMice_13] at hf
  refine lv_aload_n hx hb dX10_addMice_13 rfl (lv_at hl 0 rfl) ?_
  refine lv_iconst (v := 3) hx hb dX10_addMice_14 (by decide) ?_
  refine lv_iload_n hx hb dX10_addMice_15 rfl (lv_at hl 1 rfl) ?_
  refine lv_iload_n hx hb dX10_addMice_16 rfl (lv_at hl 2 rfl) ?_
  obtain ⟨q, hc, hf⟩ := bd hf
  refine gCallVI X cOK rfl (vX10_change hc) gRX10_X10_change hdX10_change rfl ⟨by decide, by decide⟩ hP hS (cr_rec hP (rfl : kc 0 = 0) rfl cw0 rfl) hl.1 (Nat.le_of_ble_eq_true rfl) ⟨Nat.zero_le _, Nat.zero_le _⟩ dX10_addMice_17 (As := [.int 3, .int x1, .int x2]) (rest := []) rfl (fun H locs hP hS => ?_)
  exact kX10_addMice_20 X hret hf hP hS (lv_sub hl [0] rfl)
set_option maxRecDepth 10000 in
theorem kX10_addMice_5 {r : Int32} {S1 : CS} {M : CS} {z0 : Nat} {x1 : Int32} {x2 : Int32} {H : Heap} {locs : List Loc} {ls : Array Slot} (X : gX p s m args c cX10_addMice 3 RX10 (kR kTab kA)) (hret : gRetI p l e (rmL 8 0 0) s m args below meth c cX10_addMice (cΩ ca) (cP dC dI cg kA ca) Q r S1) (hkz0 : kc z0 = 19) (hf : fX10_addMice_5 M z0 x1 x2 = some (r, S1)) (hP : (cP dC dI cg kA ca) M s H) (hS : va_S (Fr (cΩ ca) s.heap.size) s.heap H locs) (hl : lv_has ls 3 [(0, .ref (ca 0)), (1, .int x1), (2, .int x2)]) : W p l e (rmL 8 0 0) s m args below meth c H locs 0 0 Q (F0 m 5 ls [.ref (ca z0)]) := by
  have hx := X.hx
  have hb := X.hb
  have hown := X.hown
  have hts := X.hts
  rw [fX10_addMice_5] at hf
  refine lv_pop hx hb dX10_addMice_5 rfl ?_
  refine lv_iload_n hx hb dX10_addMice_6 rfl (lv_at hl 2 rfl) ?_
  refine lv_iconst (v := 1) hx hb dX10_addMice_7 (by decide) ?_
  refine lv_bipush (v := 99) hx hb dX10_addMice_8 (by decide) ?_
  obtain ⟨q, hc, hf⟩ := bd hf
  refine gCallSV X cOK rfl (vX10_requireRange hc) gRX10_X10_requireRange hdX10_requireRange rfl ⟨by decide, by decide⟩ hP hS hl.1 (Nat.le_of_ble_eq_true rfl) ⟨Nat.zero_le _, Nat.zero_le _⟩ dX10_addMice_10 (As := [.int x2, .int 1, .int 99]) (rest := []) rfl (fun H locs hP hS => ?_)
  exact kX10_addMice_13 X hret hf hP hS (lv_sub hl [0, 1, 2] rfl)
set_option maxRecDepth 10000 in
theorem kX10_addMice_0 {r : Int32} {S1 : CS} {M : CS} {a1 : Int32} {a2 : Int32} {H : Heap} {locs : List Loc} {ls : Array Slot} (X : gX p s m args c cX10_addMice 3 RX10 (kR kTab kA)) (hret : gRetI p l e (rmL 8 0 0) s m args below meth c cX10_addMice (cΩ ca) (cP dC dI cg kA ca) Q r S1) (hf : fX10_addMice_0 M a1 a2 = some (r, S1)) (hP : (cP dC dI cg kA ca) M s H) (hS : va_S (Fr (cΩ ca) s.heap.size) s.heap H locs) (hl : lv_has ls 3 [(0, .ref (ca 0)), (1, .int a1), (2, .int a2)]) : W p l e (rmL 8 0 0) s m args below meth c H locs 0 0 Q (F0 m 0 ls []) := by
  have hx := X.hx
  have hb := X.hb
  have hown := X.hown
  have hts := X.hts
  rw [fX10_addMice_0] at hf
  refine lv_aload_n hx hb dX10_addMice_0 rfl (lv_at hl 0 rfl) ?_
  refine lv_iload_n hx hb dX10_addMice_1 rfl (lv_at hl 1 rfl) ?_
  obtain ⟨q, hc, hf⟩ := bd hf
  refine gCallVP X rfl (vX10_sackAt hc) gRX10_X10_sackAt hdX10_sackAt rfl ⟨by decide, by decide⟩ (gB_blind cOK) (gB_at cOK X hP) (cr_rec hP (rfl : kc 0 = 0) rfl cw0 rfl) hl.1 (Nat.le_of_ble_eq_true rfl) ⟨Nat.zero_le _, Nat.zero_le _⟩ dX10_addMice_2 (As := [.int a1]) (rest := []) rfl ?_
  exact kX10_addMice_5 X hret (kkX10_sackAt hc) hf hP hS (lv_sub hl [0, 1, 2] rfl)
theorem vX10_addMice {l : Launch} {dC : Nat → ClassId} {dI : Nat → Nat → Nat} {cg : Nat → ClassId} {kA : String → Nat → Nat} {ca : Nat → Nat} {M S1 : CS} {r : Int32} {a1 : Int32} {a2 : Int32} (hf : fX10_addMice M a1 a2 = some (r, S1)) : gMetI l yX10_addMice cX10_addMice 3 (some .int) 8 (cΩ ca) (cP dC dI cg kA ca) (kR kTab kA) [.ref (ca 0), .int a1, .int a2] M r S1 := gEntryI (ty := .int) (by decide) rfl rfl cOK (Nat.le_of_ble_eq_true rfl) (fun p e s m args below meth c Q ls X hP hS hret hl => 
  kX10_addMice_0 X hret hf hP hS (lv_sub hl [0, 1, 2] rfl))
set_option maxRecDepth 10000 in
theorem kX10_addGrain_21 {r : Int32} {S1 : CS} {M : CS} {s0 : Int32} {H : Heap} {locs : List Loc} {ls : Array Slot} (X : gX p s m args c cX10_addGrain 3 RX10 (kR kTab kA)) (hret : gRetI p l e (rmL 8 0 0) s m args below meth c cX10_addGrain (cΩ ca) (cP dC dI cg kA ca) Q r S1) (hf : fX10_addGrain_21 M s0 = some (r, S1)) (hP : (cP dC dI cg kA ca) M s H) (hS : va_S (Fr (cΩ ca) s.heap.size) s.heap H locs) (hl : lv_has ls 3 [(0, .ref (ca 0))]) : W p l e (rmL 8 0 0) s m args below meth c H locs 0 0 Q (F0 m 21 ls [.int s0]) := by
  have hx := X.hx
  have hb := X.hb
  have hown := X.hown
  have hts := X.hts
  rw [fX10_addGrain_21] at hf
  cases hf
  exact hret _ _ _ _ dX10_addGrain_21 hP hS
set_option maxRecDepth 10000 in
theorem kX10_addGrain_14 {r : Int32} {S1 : CS} {M : CS} {x1 : Int32} {x2 : Int32} {H : Heap} {locs : List Loc} {ls : Array Slot} (X : gX p s m args c cX10_addGrain 3 RX10 (kR kTab kA)) (hret : gRetI p l e (rmL 8 0 0) s m args below meth c cX10_addGrain (cΩ ca) (cP dC dI cg kA ca) Q r S1) (hf : fX10_addGrain_14 M x1 x2 = some (r, S1)) (hP : (cP dC dI cg kA ca) M s H) (hS : va_S (Fr (cΩ ca) s.heap.size) s.heap H locs) (hl : lv_has ls 3 [(0, .ref (ca 0)), (1, .int x1), (2, .int x2)]) : W p l e (rmL 8 0 0) s m args below meth c H locs 0 0 Q (F0 m 14 ls []) := by
  have hx := X.hx
  have hb := X.hb
  have hown := X.hown
  have hts := X.hts
  rw [fX10_addGrain_14] at hf
  refine lv_aload_n hx hb dX10_addGrain_14 rfl (lv_at hl 0 rfl) ?_
  refine lv_iconst (v := 4) hx hb dX10_addGrain_15 (by decide) ?_
  refine lv_iload_n hx hb dX10_addGrain_16 rfl (lv_at hl 1 rfl) ?_
  refine lv_iload_n hx hb dX10_addGrain_17 rfl (lv_at hl 2 rfl) ?_
  obtain ⟨q, hc, hf⟩ := bd hf
  refine gCallVI X cOK rfl (vX10_change hc) gRX10_X10_change hdX10_change rfl ⟨by decide, by decide⟩ hP hS (cr_rec hP (rfl : kc 0 = 0) rfl cw0 rfl) hl.1 (Nat.le_of_ble_eq_true rfl) ⟨Nat.zero_le _, Nat.zero_le _⟩ dX10_addGrain_18 (As := [.int 4, .int x1, .int x2]) (rest := []) rfl (fun H locs hP hS => ?_)
  exact kX10_addGrain_21 X hret hf hP hS (lv_sub hl [0] rfl)
set_option maxRecDepth 10000 in
theorem kX10_addGrain_5 {r : Int32} {S1 : CS} {M : CS} {z0 : Nat} {x1 : Int32} {x2 : Int32} {H : Heap} {locs : List Loc} {ls : Array Slot} (X : gX p s m args c cX10_addGrain 3 RX10 (kR kTab kA)) (hret : gRetI p l e (rmL 8 0 0) s m args below meth c cX10_addGrain (cΩ ca) (cP dC dI cg kA ca) Q r S1) (hkz0 : kc z0 = 19) (hf : fX10_addGrain_5 M z0 x1 x2 = some (r, S1)) (hP : (cP dC dI cg kA ca) M s H) (hS : va_S (Fr (cΩ ca) s.heap.size) s.heap H locs) (hl : lv_has ls 3 [(0, .ref (ca 0)), (1, .int x1), (2, .int x2)]) : W p l e (rmL 8 0 0) s m args below meth c H locs 0 0 Q (F0 m 5 ls [.ref (ca z0)]) := by
  have hx := X.hx
  have hb := X.hb
  have hown := X.hown
  have hts := X.hts
  rw [fX10_addGrain_5] at hf
  refine lv_pop hx hb dX10_addGrain_5 rfl ?_
  refine lv_iload_n hx hb dX10_addGrain_6 rfl (lv_at hl 2 rfl) ?_
  refine lv_iconst (v := 1) hx hb dX10_addGrain_7 (by decide) ?_
  refine lv_sipush (v := 999) hx hb dX10_addGrain_8 (by decide) ?_
  obtain ⟨q, hc, hf⟩ := bd hf
  refine gCallSV X cOK rfl (vX10_requireRange hc) gRX10_X10_requireRange hdX10_requireRange rfl ⟨by decide, by decide⟩ hP hS hl.1 (Nat.le_of_ble_eq_true rfl) ⟨Nat.zero_le _, Nat.zero_le _⟩ dX10_addGrain_11 (As := [.int x2, .int 1, .int 999]) (rest := []) rfl (fun H locs hP hS => ?_)
  exact kX10_addGrain_14 X hret hf hP hS (lv_sub hl [0, 1, 2] rfl)
set_option maxRecDepth 10000 in
theorem kX10_addGrain_0 {r : Int32} {S1 : CS} {M : CS} {a1 : Int32} {a2 : Int32} {H : Heap} {locs : List Loc} {ls : Array Slot} (X : gX p s m args c cX10_addGrain 3 RX10 (kR kTab kA)) (hret : gRetI p l e (rmL 8 0 0) s m args below meth c cX10_addGrain (cΩ ca) (cP dC dI cg kA ca) Q r S1) (hf : fX10_addGrain_0 M a1 a2 = some (r, S1)) (hP : (cP dC dI cg kA ca) M s H) (hS : va_S (Fr (cΩ ca) s.heap.size) s.heap H locs) (hl : lv_has ls 3 [(0, .ref (ca 0)), (1, .int a1), (2, .int a2)]) : W p l e (rmL 8 0 0) s m args below meth c H locs 0 0 Q (F0 m 0 ls []) := by
  have hx := X.hx
  have hb := X.hb
  have hown := X.hown
  have hts := X.hts
  rw [fX10_addGrain_0] at hf
  refine lv_aload_n hx hb dX10_addGrain_0 rfl (lv_at hl 0 rfl) ?_
  refine lv_iload_n hx hb dX10_addGrain_1 rfl (lv_at hl 1 rfl) ?_
  obtain ⟨q, hc, hf⟩ := bd hf
  refine gCallVP X rfl (vX10_sackAt hc) gRX10_X10_sackAt hdX10_sackAt rfl ⟨by decide, by decide⟩ (gB_blind cOK) (gB_at cOK X hP) (cr_rec hP (rfl : kc 0 = 0) rfl cw0 rfl) hl.1 (Nat.le_of_ble_eq_true rfl) ⟨Nat.zero_le _, Nat.zero_le _⟩ dX10_addGrain_2 (As := [.int a1]) (rest := []) rfl ?_
  exact kX10_addGrain_5 X hret (kkX10_sackAt hc) hf hP hS (lv_sub hl [0, 1, 2] rfl)
theorem vX10_addGrain {l : Launch} {dC : Nat → ClassId} {dI : Nat → Nat → Nat} {cg : Nat → ClassId} {kA : String → Nat → Nat} {ca : Nat → Nat} {M S1 : CS} {r : Int32} {a1 : Int32} {a2 : Int32} (hf : fX10_addGrain M a1 a2 = some (r, S1)) : gMetI l yX10_addGrain cX10_addGrain 3 (some .int) 8 (cΩ ca) (cP dC dI cg kA ca) (kR kTab kA) [.ref (ca 0), .int a1, .int a2] M r S1 := gEntryI (ty := .int) (by decide) rfl rfl cOK (Nat.le_of_ble_eq_true rfl) (fun p e s m args below meth c Q ls X hP hS hret hl => 
  kX10_addGrain_0 X hret hf hP hS (lv_sub hl [0, 1, 2] rfl))
set_option maxRecDepth 10000 in
theorem kX10_dismiss_7 {r : Int32} {S1 : CS} {M : CS} {s0 : Int32} {H : Heap} {locs : List Loc} {ls : Array Slot} (X : gX p s m args c cX10_dismiss 1 RX10 (kR kTab kA)) (hret : gRetI p l e (rmL 8 0 0) s m args below meth c cX10_dismiss (cΩ ca) (cP dC dI cg kA ca) Q r S1) (hf : fX10_dismiss_7 M s0 = some (r, S1)) (hP : (cP dC dI cg kA ca) M s H) (hS : va_S (Fr (cΩ ca) s.heap.size) s.heap H locs) (hl : lv_has ls 1 [(0, .ref (ca 0))]) : W p l e (rmL 8 0 0) s m args below meth c H locs 0 0 Q (F0 m 7 ls [.int s0]) := by
  have hx := X.hx
  have hb := X.hb
  have hown := X.hown
  have hts := X.hts
  rw [fX10_dismiss_7] at hf
  cases hf
  exact hret _ _ _ _ dX10_dismiss_7 hP hS
set_option maxRecDepth 10000 in
theorem kX10_dismiss_0 {r : Int32} {S1 : CS} {M : CS} {H : Heap} {locs : List Loc} {ls : Array Slot} (X : gX p s m args c cX10_dismiss 1 RX10 (kR kTab kA)) (hret : gRetI p l e (rmL 8 0 0) s m args below meth c cX10_dismiss (cΩ ca) (cP dC dI cg kA ca) Q r S1) (hf : fX10_dismiss_0 M = some (r, S1)) (hP : (cP dC dI cg kA ca) M s H) (hS : va_S (Fr (cΩ ca) s.heap.size) s.heap H locs) (hl : lv_has ls 1 [(0, .ref (ca 0))]) : W p l e (rmL 8 0 0) s m args below meth c H locs 0 0 Q (F0 m 0 ls []) := by
  have hx := X.hx
  have hb := X.hb
  have hown := X.hown
  have hts := X.hts
  rw [fX10_dismiss_0] at hf
  refine lv_aload_n hx hb dX10_dismiss_0 rfl (lv_at hl 0 rfl) ?_
  refine lv_iconst (v := 5) hx hb dX10_dismiss_1 (by decide) ?_
  refine lv_iconst (v := (-1)) hx hb dX10_dismiss_2 (by decide) ?_
  refine lv_iconst (v := 0) hx hb dX10_dismiss_3 (by decide) ?_
  obtain ⟨q, hc, hf⟩ := bd hf
  refine gCallVI X cOK rfl (vX10_change hc) gRX10_X10_change hdX10_change rfl ⟨by decide, by decide⟩ hP hS (cr_rec hP (rfl : kc 0 = 0) rfl cw0 rfl) hl.1 (Nat.le_of_ble_eq_true rfl) ⟨Nat.zero_le _, Nat.zero_le _⟩ dX10_dismiss_4 (As := [.int 5, .int (-1), .int 0]) (rest := []) rfl (fun H locs hP hS => ?_)
  exact kX10_dismiss_7 X hret hf hP hS (lv_sub hl [0] rfl)
theorem vX10_dismiss {l : Launch} {dC : Nat → ClassId} {dI : Nat → Nat → Nat} {cg : Nat → ClassId} {kA : String → Nat → Nat} {ca : Nat → Nat} {M S1 : CS} {r : Int32} (hf : fX10_dismiss M  = some (r, S1)) : gMetI l yX10_dismiss cX10_dismiss 1 (some .int) 8 (cΩ ca) (cP dC dI cg kA ca) (kR kTab kA) [.ref (ca 0)] M r S1 := gEntryI (ty := .int) (by decide) rfl rfl cOK (Nat.le_of_ble_eq_true rfl) (fun p e s m args below meth c Q ls X hP hS hret hl => 
  kX10_dismiss_0 X hret hf hP hS (lv_sub hl [0] rfl))
set_option maxRecDepth 10000 in
theorem kX10_setMilk_15 {r : Int32} {S1 : CS} {M : CS} {s0 : Int32} {H : Heap} {locs : List Loc} {ls : Array Slot} (X : gX p s m args c cX10_setMilk 2 RX10 (kR kTab kA)) (hret : gRetI p l e (rmL 8 0 0) s m args below meth c cX10_setMilk (cΩ ca) (cP dC dI cg kA ca) Q r S1) (hf : fX10_setMilk_15 M s0 = some (r, S1)) (hP : (cP dC dI cg kA ca) M s H) (hS : va_S (Fr (cΩ ca) s.heap.size) s.heap H locs) (hl : lv_has ls 2 [(0, .ref (ca 0))]) : W p l e (rmL 8 0 0) s m args below meth c H locs 0 0 Q (F0 m 15 ls [.int s0]) := by
  have hx := X.hx
  have hb := X.hb
  have hown := X.hown
  have hts := X.hts
  rw [fX10_setMilk_15] at hf
  cases hf
  exact hret _ _ _ _ dX10_setMilk_15 hP hS
set_option maxRecDepth 10000 in
theorem kX10_setMilk_7 {r : Int32} {S1 : CS} {M : CS} {x1 : Int32} {H : Heap} {locs : List Loc} {ls : Array Slot} (X : gX p s m args c cX10_setMilk 2 RX10 (kR kTab kA)) (hret : gRetI p l e (rmL 8 0 0) s m args below meth c cX10_setMilk (cΩ ca) (cP dC dI cg kA ca) Q r S1) (hf : fX10_setMilk_7 M x1 = some (r, S1)) (hP : (cP dC dI cg kA ca) M s H) (hS : va_S (Fr (cΩ ca) s.heap.size) s.heap H locs) (hl : lv_has ls 2 [(0, .ref (ca 0)), (1, .int x1)]) : W p l e (rmL 8 0 0) s m args below meth c H locs 0 0 Q (F0 m 7 ls []) := by
  have hx := X.hx
  have hb := X.hb
  have hown := X.hown
  have hts := X.hts
  rw [fX10_setMilk_7] at hf
  refine lv_aload_n hx hb dX10_setMilk_7 rfl (lv_at hl 0 rfl) ?_
  refine lv_bipush (v := 6) hx hb dX10_setMilk_8 (by decide) ?_
  refine lv_iconst (v := (-1)) hx hb dX10_setMilk_10 (by decide) ?_
  refine lv_iload_n hx hb dX10_setMilk_11 rfl (lv_at hl 1 rfl) ?_
  obtain ⟨q, hc, hf⟩ := bd hf
  refine gCallVI X cOK rfl (vX10_change hc) gRX10_X10_change hdX10_change rfl ⟨by decide, by decide⟩ hP hS (cr_rec hP (rfl : kc 0 = 0) rfl cw0 rfl) hl.1 (Nat.le_of_ble_eq_true rfl) ⟨Nat.zero_le _, Nat.zero_le _⟩ dX10_setMilk_12 (As := [.int 6, .int (-1), .int x1]) (rest := []) rfl (fun H locs hP hS => ?_)
  exact kX10_setMilk_15 X hret hf hP hS (lv_sub hl [0] rfl)
set_option maxRecDepth 10000 in
theorem kX10_setMilk_0 {r : Int32} {S1 : CS} {M : CS} {a1 : Int32} {H : Heap} {locs : List Loc} {ls : Array Slot} (X : gX p s m args c cX10_setMilk 2 RX10 (kR kTab kA)) (hret : gRetI p l e (rmL 8 0 0) s m args below meth c cX10_setMilk (cΩ ca) (cP dC dI cg kA ca) Q r S1) (hf : fX10_setMilk_0 M a1 = some (r, S1)) (hP : (cP dC dI cg kA ca) M s H) (hS : va_S (Fr (cΩ ca) s.heap.size) s.heap H locs) (hl : lv_has ls 2 [(0, .ref (ca 0)), (1, .int a1)]) : W p l e (rmL 8 0 0) s m args below meth c H locs 0 0 Q (F0 m 0 ls []) := by
  have hx := X.hx
  have hb := X.hb
  have hown := X.hown
  have hts := X.hts
  rw [fX10_setMilk_0] at hf
  refine lv_iload_n hx hb dX10_setMilk_0 rfl (lv_at hl 1 rfl) ?_
  refine lv_iconst (v := 0) hx hb dX10_setMilk_1 (by decide) ?_
  refine lv_bipush (v := 9) hx hb dX10_setMilk_2 (by decide) ?_
  obtain ⟨q, hc, hf⟩ := bd hf
  refine gCallSV X cOK rfl (vX10_requireRange hc) gRX10_X10_requireRange hdX10_requireRange rfl ⟨by decide, by decide⟩ hP hS hl.1 (Nat.le_of_ble_eq_true rfl) ⟨Nat.zero_le _, Nat.zero_le _⟩ dX10_setMilk_4 (As := [.int a1, .int 0, .int 9]) (rest := []) rfl (fun H locs hP hS => ?_)
  exact kX10_setMilk_7 X hret hf hP hS (lv_sub hl [0, 1] rfl)
theorem vX10_setMilk {l : Launch} {dC : Nat → ClassId} {dI : Nat → Nat → Nat} {cg : Nat → ClassId} {kA : String → Nat → Nat} {ca : Nat → Nat} {M S1 : CS} {r : Int32} {a1 : Int32} (hf : fX10_setMilk M a1 = some (r, S1)) : gMetI l yX10_setMilk cX10_setMilk 2 (some .int) 8 (cΩ ca) (cP dC dI cg kA ca) (kR kTab kA) [.ref (ca 0), .int a1] M r S1 := gEntryI (ty := .int) (by decide) rfl rfl cOK (Nat.le_of_ble_eq_true rfl) (fun p e s m args below meth c Q ls X hP hS hret hl => 
  kX10_setMilk_0 X hret hf hP hS (lv_sub hl [0, 1] rfl))
set_option maxRecDepth 10000 in
theorem kX5_parse_70 {r : Int32} {S1 : CS} {M : CS} {H : Heap} {locs : List Loc} {ls : Array Slot} (X : gX p s m args c cX5_parse 3 RX5 (kR kTab kA)) (hret : gRetI p l e (rmL 9 0 0) s m args below meth c cX5_parse (cΩ ca) (cP dC dI cg kA ca) Q r S1) (hf : fX5_parse_70 M = some (r, S1)) (hP : (cP dC dI cg kA ca) M s H) (hS : va_S (Fr (cΩ ca) s.heap.size) s.heap H locs) (hl : lv_has ls 3 [(0, .ref (ca 8))]) : W p l e (rmL 9 0 0) s m args below meth c H locs 0 0 Q (F0 m 70 ls []) := by
  have hx := X.hx
  have hb := X.hb
  have hown := X.hown
  have hts := X.hts
  rw [fX5_parse_70] at hf
  refine lv_iconst (v := 1) hx hb dX5_parse_70 (by decide) ?_
  cases hf
  exact hret _ _ _ _ dX5_parse_71 hP hS
set_option maxRecDepth 10000 in
theorem kX5_parse_64 {r : Int32} {S1 : CS} {K14 : CS → Int32 → Option (Int32 × CS)} {M : CS} {x1 : Int32} {H : Heap} {locs : List Loc} {ls : Array Slot} (X : gX p s m args c cX5_parse 3 RX5 (kR kTab kA)) (hret : gRetI p l e (rmL 9 0 0) s m args below meth c cX5_parse (cΩ ca) (cP dC dI cg kA ca) Q r S1) (hK14 : ∀ (M : CS) (x1 : Int32) (H : Heap) (locs : List Loc) (ls : Array Slot), K14 M x1 = some (r, S1) → (cP dC dI cg kA ca) M s H → va_S (Fr (cΩ ca) s.heap.size) s.heap H locs → lv_has ls 3 [(0, .ref (ca 8)), (1, .int x1)] → W p l e (rmL 9 0 0) s m args below meth c H locs 0 0 Q (F0 m 14 ls [])) (hf : fX5_parse_64 K14 M x1 = some (r, S1)) (hP : (cP dC dI cg kA ca) M s H) (hS : va_S (Fr (cΩ ca) s.heap.size) s.heap H locs) (hl : lv_has ls 3 [(0, .ref (ca 8)), (1, .int x1)]) : W p l e (rmL 9 0 0) s m args below meth c H locs 0 0 Q (F0 m 64 ls []) := by
  have hx := X.hx
  have hb := X.hb
  have hown := X.hown
  have hts := X.hts
  rw [fX5_parse_64] at hf
  refine lv_iinc (v := (x1 + 1)) (lv' := [(1, .int (x1 + 1)), (0, .ref (ca 8))]) hx hb dX5_parse_64 hl (k := 1) rfl (by rfl) (by decide) rfl (fun ls hl => ?_)
  refine lv_goto (tgt := 14) hx hb dX5_parse_67 (by decide) ?_
  exact hK14 _ _ _ _ _ hf hP hS (lv_sub hl [1, 0] rfl)
set_option maxRecDepth 10000 in
theorem kX5_parse_62 {r : Int32} {S1 : CS} {M : CS} {H : Heap} {locs : List Loc} {ls : Array Slot} (X : gX p s m args c cX5_parse 3 RX5 (kR kTab kA)) (hret : gRetI p l e (rmL 9 0 0) s m args below meth c cX5_parse (cΩ ca) (cP dC dI cg kA ca) Q r S1) (hf : fX5_parse_62 M = some (r, S1)) (hP : (cP dC dI cg kA ca) M s H) (hS : va_S (Fr (cΩ ca) s.heap.size) s.heap H locs) (hl : lv_has ls 3 [(0, .ref (ca 8))]) : W p l e (rmL 9 0 0) s m args below meth c H locs 0 0 Q (F0 m 62 ls []) := by
  have hx := X.hx
  have hb := X.hb
  have hown := X.hown
  have hts := X.hts
  rw [fX5_parse_62] at hf
  refine lv_iconst (v := 0) hx hb dX5_parse_62 (by decide) ?_
  cases hf
  exact hret _ _ _ _ dX5_parse_63 hP hS
set_option maxRecDepth 10000 in
theorem kX5_parse_59 {r : Int32} {S1 : CS} {K14 : CS → Int32 → Option (Int32 × CS)} {M : CS} {x1 : Int32} {s0 : Int32} {H : Heap} {locs : List Loc} {ls : Array Slot} (X : gX p s m args c cX5_parse 3 RX5 (kR kTab kA)) (hret : gRetI p l e (rmL 9 0 0) s m args below meth c cX5_parse (cΩ ca) (cP dC dI cg kA ca) Q r S1) (hK14 : ∀ (M : CS) (x1 : Int32) (H : Heap) (locs : List Loc) (ls : Array Slot), K14 M x1 = some (r, S1) → (cP dC dI cg kA ca) M s H → va_S (Fr (cΩ ca) s.heap.size) s.heap H locs → lv_has ls 3 [(0, .ref (ca 8)), (1, .int x1)] → W p l e (rmL 9 0 0) s m args below meth c H locs 0 0 Q (F0 m 14 ls [])) (hf : fX5_parse_59 K14 M x1 s0 = some (r, S1)) (hP : (cP dC dI cg kA ca) M s H) (hS : va_S (Fr (cΩ ca) s.heap.size) s.heap H locs) (hl : lv_has ls 3 [(0, .ref (ca 8)), (1, .int x1)]) : W p l e (rmL 9 0 0) s m args below meth c H locs 0 0 Q (F0 m 59 ls [.int s0]) := by
  have hx := X.hx
  have hb := X.hb
  have hown := X.hown
  have hts := X.hts
  rw [fX5_parse_59] at hf
  refine lv_if_ne (tgt := 64) hx hb dX5_parse_59 (by decide) (fun c1 => ?_) (fun c1 => ?_)
  · exact kX5_parse_64 X hret hK14 (ifn c1 hf) hP hS (lv_sub hl [0, 1] rfl)
  · exact kX5_parse_62 X hret (ifp c1 hf) hP hS (lv_sub hl [0] rfl)
set_option maxRecDepth 10000 in
theorem kX5_parse_54 {r : Int32} {S1 : CS} {K14 : CS → Int32 → Option (Int32 × CS)} {M : CS} {x1 : Int32} {x2 : Int32} {H : Heap} {locs : List Loc} {ls : Array Slot} (X : gX p s m args c cX5_parse 3 RX5 (kR kTab kA)) (hret : gRetI p l e (rmL 9 0 0) s m args below meth c cX5_parse (cΩ ca) (cP dC dI cg kA ca) Q r S1) (hK14 : ∀ (M : CS) (x1 : Int32) (H : Heap) (locs : List Loc) (ls : Array Slot), K14 M x1 = some (r, S1) → (cP dC dI cg kA ca) M s H → va_S (Fr (cΩ ca) s.heap.size) s.heap H locs → lv_has ls 3 [(0, .ref (ca 8)), (1, .int x1)] → W p l e (rmL 9 0 0) s m args below meth c H locs 0 0 Q (F0 m 14 ls [])) (hf : fX5_parse_54 K14 M x1 x2 = some (r, S1)) (hP : (cP dC dI cg kA ca) M s H) (hS : va_S (Fr (cΩ ca) s.heap.size) s.heap H locs) (hl : lv_has ls 3 [(0, .ref (ca 8)), (1, .int x1), (2, .int x2)]) : W p l e (rmL 9 0 0) s m args below meth c H locs 0 0 Q (F0 m 54 ls []) := by
  have hx := X.hx
  have hb := X.hb
  have hown := X.hown
  have hts := X.hts
  rw [fX5_parse_54] at hf
  refine lv_aload_n hx hb dX5_parse_54 rfl (lv_at hl 0 rfl) ?_
  refine lv_iload_n hx hb dX5_parse_55 rfl (lv_at hl 2 rfl) ?_
  obtain ⟨q, hc, hf⟩ := bd hf
  refine gCallVI X cOK rfl (vX5_readRest hc) gRX5_X5_readRest hdX5_readRest rfl ⟨by decide, by decide⟩ hP hS (cr_rec hP (rfl : kc 8 = 8) rfl cw8 rfl) hl.1 (Nat.le_of_ble_eq_true rfl) ⟨Nat.zero_le _, Nat.zero_le _⟩ dX5_parse_56 (As := [.int x2]) (rest := []) rfl (fun H locs hP hS => ?_)
  exact kX5_parse_59 X hret hK14 hf hP hS (lv_sub hl [0, 1] rfl)
set_option maxRecDepth 10000 in
theorem kX5_parse_53 {r : Int32} {S1 : CS} {M : CS} {s0 : Int32} {H : Heap} {locs : List Loc} {ls : Array Slot} (X : gX p s m args c cX5_parse 3 RX5 (kR kTab kA)) (hret : gRetI p l e (rmL 9 0 0) s m args below meth c cX5_parse (cΩ ca) (cP dC dI cg kA ca) Q r S1) (hf : fX5_parse_53 M s0 = some (r, S1)) (hP : (cP dC dI cg kA ca) M s H) (hS : va_S (Fr (cΩ ca) s.heap.size) s.heap H locs) (hl : lv_has ls 3 [(0, .ref (ca 8))]) : W p l e (rmL 9 0 0) s m args below meth c H locs 0 0 Q (F0 m 53 ls [.int s0]) := by
  have hx := X.hx
  have hb := X.hb
  have hown := X.hown
  have hts := X.hts
  rw [fX5_parse_53] at hf
  cases hf
  exact hret _ _ _ _ dX5_parse_53 hP hS
set_option maxRecDepth 10000 in
theorem kX5_parse_45 {r : Int32} {S1 : CS} {M : CS} {H : Heap} {locs : List Loc} {ls : Array Slot} (X : gX p s m args c cX5_parse 3 RX5 (kR kTab kA)) (hret : gRetI p l e (rmL 9 0 0) s m args below meth c cX5_parse (cΩ ca) (cP dC dI cg kA ca) Q r S1) (hf : fX5_parse_45 M = some (r, S1)) (hP : (cP dC dI cg kA ca) M s H) (hS : va_S (Fr (cΩ ca) s.heap.size) s.heap H locs) (hl : lv_has ls 3 [(0, .ref (ca 8))]) : W p l e (rmL 9 0 0) s m args below meth c H locs 0 0 Q (F0 m 45 ls []) := by
  have hx := X.hx
  have hb := X.hb
  have hown := X.hown
  have hts := X.hts
  rw [fX5_parse_45] at hf
  refine lv_aload_n hx hb dX5_parse_45 rfl (lv_at hl 0 rfl) ?_
  refine cr_get (k := 0) X hP (rfl : kc 8 = 8) rfl cv8_0 rfl cinX5 (by decide) rfl tw394 dX5_parse_46 ?_
  refine lv_iconst (v := 1) hx hb dX5_parse_49 (by decide) ?_
  obtain ⟨q, hc, hf⟩ := bd hf
  refine gCallVI X cOK rfl (vX8_fail hc) gRX5_X8_fail hdX8_fail rfl ⟨by decide, by decide⟩ hP hS (cr_rec hP (rfl : kc 1 = 1) rfl cw1 rfl) hl.1 (Nat.le_of_ble_eq_true rfl) ⟨Nat.zero_le _, Nat.zero_le _⟩ dX5_parse_50 (As := [.int 1]) (rest := []) rfl (fun H locs hP hS => ?_)
  exact kX5_parse_53 X hret hf hP hS (lv_sub hl [0] rfl)
set_option maxRecDepth 10000 in
theorem kX5_parse_39 {r : Int32} {S1 : CS} {K14 : CS → Int32 → Option (Int32 × CS)} {M : CS} {x1 : Int32} {s0 : Int32} {H : Heap} {locs : List Loc} {ls : Array Slot} (X : gX p s m args c cX5_parse 3 RX5 (kR kTab kA)) (hret : gRetI p l e (rmL 9 0 0) s m args below meth c cX5_parse (cΩ ca) (cP dC dI cg kA ca) Q r S1) (hK14 : ∀ (M : CS) (x1 : Int32) (H : Heap) (locs : List Loc) (ls : Array Slot), K14 M x1 = some (r, S1) → (cP dC dI cg kA ca) M s H → va_S (Fr (cΩ ca) s.heap.size) s.heap H locs → lv_has ls 3 [(0, .ref (ca 8)), (1, .int x1)] → W p l e (rmL 9 0 0) s m args below meth c H locs 0 0 Q (F0 m 14 ls [])) (hf : fX5_parse_39 K14 M x1 s0 = some (r, S1)) (hP : (cP dC dI cg kA ca) M s H) (hS : va_S (Fr (cΩ ca) s.heap.size) s.heap H locs) (hl : lv_has ls 3 [(0, .ref (ca 8)), (1, .int x1)]) : W p l e (rmL 9 0 0) s m args below meth c H locs 0 0 Q (F0 m 39 ls [.int s0]) := by
  have hx := X.hx
  have hb := X.hb
  have hown := X.hown
  have hts := X.hts
  rw [fX5_parse_39] at hf
  refine lv_istore_n (lv' := [(2, .int s0), (0, .ref (ca 8)), (1, .int x1)]) hx hb dX5_parse_39 rfl hl (by decide) rfl (fun ls hl => ?_)
  refine lv_iload_n hx hb dX5_parse_40 rfl (lv_at hl 0 rfl) ?_
  refine lv_iconst (v := (-1)) hx hb dX5_parse_41 (by decide) ?_
  refine lv_icmp_ne (tgt := 54) hx hb dX5_parse_42 (by decide) (fun c1 => ?_) (fun c1 => ?_)
  · exact kX5_parse_54 X hret hK14 (ifn c1 hf) hP hS (lv_sub hl [1, 2, 0] rfl)
  · exact kX5_parse_45 X hret (ifp c1 hf) hP hS (lv_sub hl [1] rfl)
set_option maxRecDepth 10000 in
theorem kX5_parse_35 {r : Int32} {S1 : CS} {K14 : CS → Int32 → Option (Int32 × CS)} {M : CS} {x1 : Int32} {H : Heap} {locs : List Loc} {ls : Array Slot} (X : gX p s m args c cX5_parse 3 RX5 (kR kTab kA)) (hret : gRetI p l e (rmL 9 0 0) s m args below meth c cX5_parse (cΩ ca) (cP dC dI cg kA ca) Q r S1) (hK14 : ∀ (M : CS) (x1 : Int32) (H : Heap) (locs : List Loc) (ls : Array Slot), K14 M x1 = some (r, S1) → (cP dC dI cg kA ca) M s H → va_S (Fr (cΩ ca) s.heap.size) s.heap H locs → lv_has ls 3 [(0, .ref (ca 8)), (1, .int x1)] → W p l e (rmL 9 0 0) s m args below meth c H locs 0 0 Q (F0 m 14 ls [])) (hf : fX5_parse_35 K14 M x1 = some (r, S1)) (hP : (cP dC dI cg kA ca) M s H) (hS : va_S (Fr (cΩ ca) s.heap.size) s.heap H locs) (hl : lv_has ls 3 [(0, .ref (ca 8)), (1, .int x1)]) : W p l e (rmL 9 0 0) s m args below meth c H locs 0 0 Q (F0 m 35 ls []) := by
  have hx := X.hx
  have hb := X.hb
  have hown := X.hown
  have hts := X.hts
  rw [fX5_parse_35] at hf
  refine lv_aload_n hx hb dX5_parse_35 rfl (lv_at hl 0 rfl) ?_
  obtain ⟨q, hc, hf⟩ := bd hf
  refine gCallVR X rfl (vX5_kindOfStatement hc) gRX5_X5_kindOfStatement hdX5_kindOfStatement rfl ⟨by decide, by decide⟩ (gB_blind cOK) (gB_at cOK X hP) (cr_rec hP (rfl : kc 8 = 8) rfl cw8 rfl) hl.1 (Nat.le_of_ble_eq_true rfl) ⟨Nat.zero_le _, Nat.zero_le _⟩ dX5_parse_36 (As := []) (rest := []) rfl ?_
  exact kX5_parse_39 X hret hK14 hf hP hS (lv_sub hl [0, 1] rfl)
set_option maxRecDepth 10000 in
theorem kX5_parse_32 {r : Int32} {S1 : CS} {K14 : CS → Int32 → Option (Int32 × CS)} {M : CS} {x1 : Int32} {s0 : Int32} {H : Heap} {locs : List Loc} {ls : Array Slot} (X : gX p s m args c cX5_parse 3 RX5 (kR kTab kA)) (hret : gRetI p l e (rmL 9 0 0) s m args below meth c cX5_parse (cΩ ca) (cP dC dI cg kA ca) Q r S1) (hK14 : ∀ (M : CS) (x1 : Int32) (H : Heap) (locs : List Loc) (ls : Array Slot), K14 M x1 = some (r, S1) → (cP dC dI cg kA ca) M s H → va_S (Fr (cΩ ca) s.heap.size) s.heap H locs → lv_has ls 3 [(0, .ref (ca 8)), (1, .int x1)] → W p l e (rmL 9 0 0) s m args below meth c H locs 0 0 Q (F0 m 14 ls [])) (hf : fX5_parse_32 K14 M x1 s0 = some (r, S1)) (hP : (cP dC dI cg kA ca) M s H) (hS : va_S (Fr (cΩ ca) s.heap.size) s.heap H locs) (hl : lv_has ls 3 [(0, .ref (ca 8)), (1, .int x1)]) : W p l e (rmL 9 0 0) s m args below meth c H locs 0 0 Q (F0 m 32 ls [.int s0]) := by
  have hx := X.hx
  have hb := X.hb
  have hown := X.hown
  have hts := X.hts
  rw [fX5_parse_32] at hf
  refine lv_if_eq (tgt := 70) hx hb dX5_parse_32 (by decide) (fun c1 => ?_) (fun c1 => ?_)
  · exact kX5_parse_70 X hret (ifp c1 hf) hP hS (lv_sub hl [0] rfl)
  · exact kX5_parse_35 X hret hK14 (ifn c1 hf) hP hS (lv_sub hl [0, 1] rfl)
set_option maxRecDepth 10000 in
theorem kX5_parse_25 {r : Int32} {S1 : CS} {K14 : CS → Int32 → Option (Int32 × CS)} {M : CS} {x1 : Int32} {H : Heap} {locs : List Loc} {ls : Array Slot} (X : gX p s m args c cX5_parse 3 RX5 (kR kTab kA)) (hret : gRetI p l e (rmL 9 0 0) s m args below meth c cX5_parse (cΩ ca) (cP dC dI cg kA ca) Q r S1) (hK14 : ∀ (M : CS) (x1 : Int32) (H : Heap) (locs : List Loc) (ls : Array Slot), K14 M x1 = some (r, S1) → (cP dC dI cg kA ca) M s H → va_S (Fr (cΩ ca) s.heap.size) s.heap H locs → lv_has ls 3 [(0, .ref (ca 8)), (1, .int x1)] → W p l e (rmL 9 0 0) s m args below meth c H locs 0 0 Q (F0 m 14 ls [])) (hf : fX5_parse_25 K14 M x1 = some (r, S1)) (hP : (cP dC dI cg kA ca) M s H) (hS : va_S (Fr (cΩ ca) s.heap.size) s.heap H locs) (hl : lv_has ls 3 [(0, .ref (ca 8)), (1, .int x1)]) : W p l e (rmL 9 0 0) s m args below meth c H locs 0 0 Q (F0 m 25 ls []) := by
  have hx := X.hx
  have hb := X.hb
  have hown := X.hown
  have hts := X.hts
  rw [fX5_parse_25] at hf
  refine lv_aload_n hx hb dX5_parse_25 rfl (lv_at hl 0 rfl) ?_
  refine cr_get (k := 0) X hP (rfl : kc 8 = 8) rfl cv8_0 rfl cinX5 (by decide) rfl tw394 dX5_parse_26 ?_
  obtain ⟨q, hc, hf⟩ := bd hf
  refine gCallVI X cOK rfl (vX8_advance hc) gRX5_X8_advance hdX8_advance rfl ⟨by decide, by decide⟩ hP hS (cr_rec hP (rfl : kc 1 = 1) rfl cw1 rfl) hl.1 (Nat.le_of_ble_eq_true rfl) ⟨Nat.zero_le _, Nat.zero_le _⟩ dX5_parse_29 (As := []) (rest := []) rfl (fun H locs hP hS => ?_)
  exact kX5_parse_32 X hret hK14 hf hP hS (lv_sub hl [0, 1] rfl)
set_option maxRecDepth 10000 in
theorem kX5_parse_14 {r : Int32} {S1 : CS} (X : gX p s m args c cX5_parse 3 RX5 (kR kTab kA)) (hret : gRetI p l e (rmL 9 0 0) s m args below meth c cX5_parse (cΩ ca) (cP dC dI cg kA ca) Q r S1) : ∀ (n : Nat) (M : CS) (x1 : Int32) (H : Heap) (locs : List Loc) (ls : Array Slot), fX5_parse_14 n M x1 = some (r, S1) → (cP dC dI cg kA ca) M s H → va_S (Fr (cΩ ca) s.heap.size) s.heap H locs → lv_has ls 3 [(0, .ref (ca 8)), (1, .int x1)] → W p l e (rmL 9 0 0) s m args below meth c H locs 0 0 Q (F0 m 14 ls []) := by
  intro n
  induction n with
  | zero => intro M x1 H locs ls hf; cases hf
  | succ k ih =>
    intro M x1 H locs ls hf hP hS hl
    have hx := X.hx
    have hb := X.hb
    have hown := X.hown
    have hts := X.hts
    rw [fX5_parse_14] at hf
    try dsimp only at hf
    refine lv_iload_n hx hb dX5_parse_14 rfl (lv_at hl 1 rfl) ?_
    refine lv_aload_n hx hb dX5_parse_15 rfl (lv_at hl 0 rfl) ?_
    refine cr_get (k := 0) X hP (rfl : kc 8 = 8) rfl cv8_0 rfl cinX5 (by decide) rfl tw394 dX5_parse_16 ?_
    refine cr_get (k := 2) X hP (rfl : kc 1 = 1) rfl cv1_2 rfl cinX8 (by decide) rfl tw84 dX5_parse_19 ?_
    refine lv_icmp_gt (tgt := 70) hx hb dX5_parse_22 (by decide) (fun c1 => ?_) (fun c1 => ?_)
    · exact kX5_parse_70 X hret (ifp c1 hf) hP hS (lv_sub hl [0] rfl)
    · exact kX5_parse_25 X hret ih (ifn c1 hf) hP hS (lv_sub hl [0, 1] rfl)
set_option maxRecDepth 10000 in
theorem kX5_parse_12 {r : Int32} {S1 : CS} {M : CS} {H : Heap} {locs : List Loc} {ls : Array Slot} (X : gX p s m args c cX5_parse 3 RX5 (kR kTab kA)) (hret : gRetI p l e (rmL 9 0 0) s m args below meth c cX5_parse (cΩ ca) (cP dC dI cg kA ca) Q r S1) (hf : fX5_parse_12 M = some (r, S1)) (hP : (cP dC dI cg kA ca) M s H) (hS : va_S (Fr (cΩ ca) s.heap.size) s.heap H locs) (hl : lv_has ls 3 [(0, .ref (ca 8))]) : W p l e (rmL 9 0 0) s m args below meth c H locs 0 0 Q (F0 m 12 ls []) := by
  have hx := X.hx
  have hb := X.hb
  have hown := X.hown
  have hts := X.hts
  rw [fX5_parse_12] at hf
  refine lv_iconst (v := 0) hx hb dX5_parse_12 (by decide) ?_
  refine lv_istore_n (lv' := [(1, .int 0), (0, .ref (ca 8))]) hx hb dX5_parse_13 rfl hl (by decide) rfl (fun ls hl => ?_)
  exact kX5_parse_14 X hret FU _ _ _ _ _ hf hP hS (lv_sub hl [1, 0] rfl)
set_option maxRecDepth 10000 in
theorem kX5_parse_7 {r : Int32} {S1 : CS} {M : CS} {H : Heap} {locs : List Loc} {ls : Array Slot} (X : gX p s m args c cX5_parse 3 RX5 (kR kTab kA)) (hret : gRetI p l e (rmL 9 0 0) s m args below meth c cX5_parse (cΩ ca) (cP dC dI cg kA ca) Q r S1) (hf : fX5_parse_7 M = some (r, S1)) (hP : (cP dC dI cg kA ca) M s H) (hS : va_S (Fr (cΩ ca) s.heap.size) s.heap H locs) (hl : lv_has ls 3 [(0, .ref (ca 8))]) : W p l e (rmL 9 0 0) s m args below meth c H locs 0 0 Q (F0 m 7 ls []) := by
  have hx := X.hx
  have hb := X.hb
  have hown := X.hown
  have hts := X.hts
  rw [fX5_parse_7] at hf
  refine lv_aload_n hx hb dX5_parse_7 rfl (lv_at hl 0 rfl) ?_
  refine lv_iconst (v := 0) hx hb dX5_parse_8 (by decide) ?_
  refine cr_put (k := 5) X hP hS (rfl : kc 8 = 8) rfl cs8_5 rfl cinX5 tyX5_ok nmX5 (by decide) rfl rfl rfl rfl tw399 dX5_parse_9 (fun H locs hP hS => ?_)
  exact kX5_parse_12 X hret hf hP hS (lv_sub hl [0] rfl)
set_option maxRecDepth 10000 in
theorem kX5_parse_0 {r : Int32} {S1 : CS} {M : CS} {H : Heap} {locs : List Loc} {ls : Array Slot} (X : gX p s m args c cX5_parse 3 RX5 (kR kTab kA)) (hret : gRetI p l e (rmL 9 0 0) s m args below meth c cX5_parse (cΩ ca) (cP dC dI cg kA ca) Q r S1) (hf : fX5_parse_0 M = some (r, S1)) (hP : (cP dC dI cg kA ca) M s H) (hS : va_S (Fr (cΩ ca) s.heap.size) s.heap H locs) (hl : lv_has ls 3 [(0, .ref (ca 8))]) : W p l e (rmL 9 0 0) s m args below meth c H locs 0 0 Q (F0 m 0 ls []) := by
  have hx := X.hx
  have hb := X.hb
  have hown := X.hown
  have hts := X.hts
  rw [fX5_parse_0] at hf
  refine lv_aload_n hx hb dX5_parse_0 rfl (lv_at hl 0 rfl) ?_
  refine cr_get (k := 0) X hP (rfl : kc 8 = 8) rfl cv8_0 rfl cinX5 (by decide) rfl tw394 dX5_parse_1 ?_
  obtain ⟨q, hc, hf⟩ := bd hf
  refine gCallVV X cOK rfl (vX8_begin hc) gRX5_X8_begin hdX8_begin rfl ⟨by decide, by decide⟩ hP hS (cr_rec hP (rfl : kc 1 = 1) rfl cw1 rfl) hl.1 (Nat.le_of_ble_eq_true rfl) ⟨Nat.zero_le _, Nat.zero_le _⟩ dX5_parse_4 (As := []) (rest := []) rfl (fun H locs hP hS => ?_)
  exact kX5_parse_7 X hret hf hP hS (lv_sub hl [0] rfl)
theorem vX5_parse {l : Launch} {dC : Nat → ClassId} {dI : Nat → Nat → Nat} {cg : Nat → ClassId} {kA : String → Nat → Nat} {ca : Nat → Nat} {M S1 : CS} {r : Int32} (hf : fX5_parse M  = some (r, S1)) : gMetI l yX5_parse cX5_parse 3 (some .boolean) 9 (cΩ ca) (cP dC dI cg kA ca) (kR kTab kA) [.ref (ca 8)] M r S1 := gEntryI (ty := .boolean) (by decide) rfl (bz_n hf) cOK (Nat.le_of_ble_eq_true rfl) (fun p e s m args below meth c Q ls X hP hS hret hl => 
  kX5_parse_0 X hret (bz_f hf) hP hS (lv_sub hl [0] rfl))
set_option maxRecDepth 10000 in
theorem kX10_runScript_33 {r : Int32} {S1 : CS} {M : CS} {s0 : Int32} {H : Heap} {locs : List Loc} {ls : Array Slot} (X : gX p s m args c cX10_runScript 2 RX10 (kR kTab kA)) (hret : gRetI p l e (rmL 10 0 0) s m args below meth c cX10_runScript (cΩ ca) (cP dC dI cg kA ca) Q r S1) (hf : fX10_runScript_33 M s0 = some (r, S1)) (hP : (cP dC dI cg kA ca) M s H) (hS : va_S (Fr (cΩ ca) s.heap.size) s.heap H locs) (hl : lv_has ls 2 [(0, .ref (ca 0))]) : W p l e (rmL 10 0 0) s m args below meth c H locs 0 0 Q (F0 m 33 ls [.int s0]) := by
  have hx := X.hx
  have hb := X.hb
  have hown := X.hown
  have hts := X.hts
  rw [fX10_runScript_33] at hf
  cases hf
  exact hret _ _ _ _ dX10_runScript_33 hP hS
set_option maxRecDepth 10000 in
theorem kX10_runScript_26 {r : Int32} {S1 : CS} {M : CS} {H : Heap} {locs : List Loc} {ls : Array Slot} (X : gX p s m args c cX10_runScript 2 RX10 (kR kTab kA)) (hret : gRetI p l e (rmL 10 0 0) s m args below meth c cX10_runScript (cΩ ca) (cP dC dI cg kA ca) Q r S1) (hf : fX10_runScript_26 M = some (r, S1)) (hP : (cP dC dI cg kA ca) M s H) (hS : va_S (Fr (cΩ ca) s.heap.size) s.heap H locs) (hl : lv_has ls 2 [(0, .ref (ca 0))]) : W p l e (rmL 10 0 0) s m args below meth c H locs 0 0 Q (F0 m 26 ls []) := by
  have hx := X.hx
  have hb := X.hb
  have hown := X.hown
  have hts := X.hts
  rw [fX10_runScript_26] at hf
  refine lv_aload_n hx hb dX10_runScript_26 rfl (lv_at hl 0 rfl) ?_
  refine cr_get (k := 8) X hP (rfl : kc 0 = 0) rfl cv0_8 rfl cinX10 (by decide) rfl tw963 dX10_runScript_27 ?_
  obtain ⟨q, hc, hf⟩ := bd hf
  refine gCallVI X cOK rfl (vX5_execute hc) gRX10_X5_execute hdX5_execute rfl ⟨by decide, by decide⟩ hP hS (cr_rec hP (rfl : kc 8 = 8) rfl cw8 rfl) hl.1 (Nat.le_of_ble_eq_true rfl) ⟨Nat.zero_le _, Nat.zero_le _⟩ dX10_runScript_30 (As := []) (rest := []) rfl (fun H locs hP hS => ?_)
  exact kX10_runScript_33 X hret hf hP hS (lv_sub hl [0] rfl)
set_option maxRecDepth 10000 in
theorem kX10_runScript_22 {r : Int32} {S1 : CS} {M : CS} {H : Heap} {locs : List Loc} {ls : Array Slot} (X : gX p s m args c cX10_runScript 2 RX10 (kR kTab kA)) (hret : gRetI p l e (rmL 10 0 0) s m args below meth c cX10_runScript (cΩ ca) (cP dC dI cg kA ca) Q r S1) (hf : fX10_runScript_22 M = some (r, S1)) (hP : (cP dC dI cg kA ca) M s H) (hS : va_S (Fr (cΩ ca) s.heap.size) s.heap H locs) (hl : lv_has ls 2 [(0, .ref (ca 0))]) : W p l e (rmL 10 0 0) s m args below meth c H locs 0 0 Q (F0 m 22 ls []) := by
  have hx := X.hx
  have hb := X.hb
  have hown := X.hown
  have hts := X.hts
  rw [fX10_runScript_22] at hf
  refine lv_aload_n hx hb dX10_runScript_22 rfl (lv_at hl 0 rfl) ?_
  obtain ⟨q, hc, hf⟩ := bd hf
  refine gCallVV X cOK rfl (vX10_remember hc) gRX10_X10_remember hdX10_remember rfl ⟨by decide, by decide⟩ hP hS (cr_rec hP (rfl : kc 0 = 0) rfl cw0 rfl) hl.1 (Nat.le_of_ble_eq_true rfl) ⟨Nat.zero_le _, Nat.zero_le _⟩ dX10_runScript_23 (As := []) (rest := []) rfl (fun H locs hP hS => ?_)
  exact kX10_runScript_26 X hret hf hP hS (lv_sub hl [0] rfl)
set_option maxRecDepth 10000 in
theorem kX10_runScript_20 {r : Int32} {S1 : CS} {M : CS} {H : Heap} {locs : List Loc} {ls : Array Slot} (X : gX p s m args c cX10_runScript 2 RX10 (kR kTab kA)) (hret : gRetI p l e (rmL 10 0 0) s m args below meth c cX10_runScript (cΩ ca) (cP dC dI cg kA ca) Q r S1) (hf : fX10_runScript_20 M = some (r, S1)) (hP : (cP dC dI cg kA ca) M s H) (hS : va_S (Fr (cΩ ca) s.heap.size) s.heap H locs) (hl : lv_has ls 2 [(0, .ref (ca 0))]) : W p l e (rmL 10 0 0) s m args below meth c H locs 0 0 Q (F0 m 20 ls []) := by
  have hx := X.hx
  have hb := X.hb
  have hown := X.hown
  have hts := X.hts
  rw [fX10_runScript_20] at hf
  refine lv_iconst (v := (-1)) hx hb dX10_runScript_20 (by decide) ?_
  cases hf
  exact hret _ _ _ _ dX10_runScript_21 hP hS
set_option maxRecDepth 10000 in
theorem kX10_runScript_16 {r : Int32} {S1 : CS} {M : CS} {x1 : Int32} {H : Heap} {locs : List Loc} {ls : Array Slot} (X : gX p s m args c cX10_runScript 2 RX10 (kR kTab kA)) (hret : gRetI p l e (rmL 10 0 0) s m args below meth c cX10_runScript (cΩ ca) (cP dC dI cg kA ca) Q r S1) (hf : fX10_runScript_16 M x1 = some (r, S1)) (hP : (cP dC dI cg kA ca) M s H) (hS : va_S (Fr (cΩ ca) s.heap.size) s.heap H locs) (hl : lv_has ls 2 [(0, .ref (ca 0)), (1, .int x1)]) : W p l e (rmL 10 0 0) s m args below meth c H locs 0 0 Q (F0 m 16 ls []) := by
  have hx := X.hx
  have hb := X.hb
  have hown := X.hown
  have hts := X.hts
  rw [fX10_runScript_16] at hf
  refine lv_iload_n hx hb dX10_runScript_16 rfl (lv_at hl 1 rfl) ?_
  refine lv_if_ne (tgt := 22) hx hb dX10_runScript_17 (by decide) (fun c1 => ?_) (fun c1 => ?_)
  · exact kX10_runScript_22 X hret (ifn c1 hf) hP hS (lv_sub hl [0] rfl)
  · exact kX10_runScript_20 X hret (ifp c1 hf) hP hS (lv_sub hl [0] rfl)
set_option maxRecDepth 10000 in
theorem kX10_runScript_7 {r : Int32} {S1 : CS} {M : CS} {s0 : Int32} {H : Heap} {locs : List Loc} {ls : Array Slot} (X : gX p s m args c cX10_runScript 2 RX10 (kR kTab kA)) (hret : gRetI p l e (rmL 10 0 0) s m args below meth c cX10_runScript (cΩ ca) (cP dC dI cg kA ca) Q r S1) (hf : fX10_runScript_7 M s0 = some (r, S1)) (hP : (cP dC dI cg kA ca) M s H) (hS : va_S (Fr (cΩ ca) s.heap.size) s.heap H locs) (hl : lv_has ls 2 [(0, .ref (ca 0))]) : W p l e (rmL 10 0 0) s m args below meth c H locs 0 0 Q (F0 m 7 ls [.int s0]) := by
  have hx := X.hx
  have hb := X.hb
  have hown := X.hown
  have hts := X.hts
  rw [fX10_runScript_7] at hf
  refine lv_istore_n (lv' := [(1, .int s0), (0, .ref (ca 0))]) hx hb dX10_runScript_7 rfl hl (by decide) rfl (fun ls hl => ?_)
  refine lv_aload_n hx hb dX10_runScript_8 rfl (lv_at hl 1 rfl) ?_
  refine cr_get (k := 0) X hP (rfl : kc 0 = 0) rfl cv0_0 rfl cinX10 (by decide) rfl tw955 dX10_runScript_9 ?_
  refine lv_iconst (v := 0) hx hb dX10_runScript_12 (by decide) ?_
  refine cr_put (k := 2) X hP hS (rfl : kc 1 = 1) rfl cs1_2 rfl cinX8 tyX8_ok nmX8 (by decide) rfl rfl rfl rfl tw83 dX10_runScript_13 (fun H locs hP hS => ?_)
  exact kX10_runScript_16 X hret hf hP hS (lv_sub hl [1, 0] rfl)
set_option maxRecDepth 10000 in
theorem kX10_runScript_0 {r : Int32} {S1 : CS} {M : CS} {H : Heap} {locs : List Loc} {ls : Array Slot} (X : gX p s m args c cX10_runScript 2 RX10 (kR kTab kA)) (hret : gRetI p l e (rmL 10 0 0) s m args below meth c cX10_runScript (cΩ ca) (cP dC dI cg kA ca) Q r S1) (hf : fX10_runScript_0 M = some (r, S1)) (hP : (cP dC dI cg kA ca) M s H) (hS : va_S (Fr (cΩ ca) s.heap.size) s.heap H locs) (hl : lv_has ls 2 [(0, .ref (ca 0))]) : W p l e (rmL 10 0 0) s m args below meth c H locs 0 0 Q (F0 m 0 ls []) := by
  have hx := X.hx
  have hb := X.hb
  have hown := X.hown
  have hts := X.hts
  rw [fX10_runScript_0] at hf
  refine lv_aload_n hx hb dX10_runScript_0 rfl (lv_at hl 0 rfl) ?_
  refine cr_get (k := 8) X hP (rfl : kc 0 = 0) rfl cv0_8 rfl cinX10 (by decide) rfl tw963 dX10_runScript_1 ?_
  obtain ⟨q, hc, hf⟩ := bd hf
  refine gCallVI X cOK rfl (vX5_parse hc) gRX10_X5_parse hdX5_parse rfl ⟨by decide, by decide⟩ hP hS (cr_rec hP (rfl : kc 8 = 8) rfl cw8 rfl) hl.1 (Nat.le_of_ble_eq_true rfl) ⟨Nat.zero_le _, Nat.zero_le _⟩ dX10_runScript_4 (As := []) (rest := []) rfl (fun H locs hP hS => ?_)
  exact kX10_runScript_7 X hret hf hP hS (lv_sub hl [0] rfl)
theorem vX10_runScript {l : Launch} {dC : Nat → ClassId} {dI : Nat → Nat → Nat} {cg : Nat → ClassId} {kA : String → Nat → Nat} {ca : Nat → Nat} {M S1 : CS} {r : Int32} (hf : fX10_runScript M  = some (r, S1)) : gMetI l yX10_runScript cX10_runScript 2 (some .int) 10 (cΩ ca) (cP dC dI cg kA ca) (kR kTab kA) [.ref (ca 0)] M r S1 := gEntryI (ty := .int) (by decide) rfl rfl cOK (Nat.le_of_ble_eq_true rfl) (fun p e s m args below meth c Q ls X hP hS hret hl => 
  kX10_runScript_0 X hret hf hP hS (lv_sub hl [0] rfl))
