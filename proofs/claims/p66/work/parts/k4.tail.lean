theorem tw941 : (Jvm.Cond.methodLink "GranaryWatchLaw" (267 : Nat) ({ cls := "GranaryWatchLaw$Granary", name := "swearsIn", desc := "(LGranaryWatchLaw$Cat;)V" } : Jvm.MethodName)) ∈ TBG := tb_t 941 (by decide +kernel) (by decide +kernel)
theorem tw1444 : (Jvm.Cond.methodLink "GranaryWatchLaw" (264 : Nat) ({ cls := "java/lang/Integer", name := "intValue", desc := "()I" } : Jvm.MethodName)) ∈ TBG := tb_t 1444 (by decide +kernel) (by decide +kernel)
theorem tw1512 : (Jvm.Cond.methodLink "GranaryWatchLaw" (275 : Nat) ({ cls := "java/lang/StringBuilder", name := "toString", desc := "()Ljava/lang/String;" } : Jvm.MethodName)) ∈ TBG := tb_t 1512 (by decide +kernel) (by decide +kernel)
theorem tw1579 : (Jvm.Cond.classLink "GranaryWatchLaw" (257 : Nat) "java/lang/Integer") ∈ TBG := tb_t 1579 (by decide +kernel) (by decide +kernel)
/-! from the shifts' end to the told text -/
section KSW
variable {l : Launch} {dC : Nat → ClassId} {dI : Nat → Nat → Nat} {cg : Nat → ClassId} {kA : String → Nat → Nat} {bs n p0 q0 : Nat} {w : Nat → va_E} {sw : Value} {ck ml lf oa v0 v1 v2 v3 v5 v6 ca : Int32}
/-- swearsIn over the growing world -/
theorem vN12_swearsIn (hp : p0 < n ∧ w p0 = .inr (17, grR bs sw ck ml lf oa)) (hq : q0 < n ∧ w q0 = .inr (16, [.int v0, .int v1, .int v2, .int v3, .int ca, .int v5, .int v6])) : gMetVA l yX12_swearsIn cX12_swearsIn 2 0 0 0 (nΩ bs) (nP dC dI cg kA bs) (kR kTab kA) [.ref (bs + p0), .ref (bs + q0)] (n, w) (n, va_up (va_up (va_up w p0 (.inr (17, grR bs (.ref (bs + q0)) ck ml lf oa))) q0 (.inr (16, [.int v0, .int v1, .int v2, .int v3, .int (ca + 1), .int v5, .int v6]))) p0 (.inr (17, grR bs (.ref (bs + q0)) ck ml lf (oa + 1)))) := gEntryVA (by decide) nOK (Nat.le_of_ble_eq_true rfl) (fun p e s m args below meth c Q ls X hP hS hret hl => by
  have hx := X.hx
  have hb := X.hb
  have hP : nP dC dI cg kA bs (n, w) s s.heap := hP
  have hne : q0 ≠ p0 := fun z => by
    subst z
    exact ob_ob (ci := 16) (cj := 17) (by decide) (hq.2.symm.trans hp.2)
  have hA : ∀ i, Fr (nΩ bs) s.heap.size (bs + i) := fun i => Or.inl (Nat.le_add_right _ _)
  refine lv_aload_n hx hb dX12_swearsIn_0 rfl (lv_at hl 0 rfl) ?_
  refine lv_aload_n hx hb dX12_swearsIn_1 rfl (lv_at hl 1 rfl) ?_
  refine nw_putJ (k := 4) X hP hS (hA p0) hp (rfl : vwCl[17]? = some (RX12, TX12, 15)) cinX12 tyX12_ok nmX12 (by decide) rfl rfl rfl (Nat.le_of_ble_eq_true rfl) tw888 dX12_swearsIn_2 (fun H locs hP hS => ?_)
  have hP : nP dC dI cg kA bs (n, va_up w p0 (.inr (17, grR bs (.ref (bs + q0)) ck ml lf oa))) s H := hP
  refine lv_aload_n hx hb dX12_swearsIn_5 rfl (lv_at hl 1 rfl) ?_
  refine lv_dup hx hb dX12_swearsIn_6 rfl ?_
  have hq1 : q0 < n ∧ va_up w p0 (.inr (17, grR bs (.ref (bs + q0)) ck ml lf oa)) q0 = .inr (16, [.int v0, .int v1, .int v2, .int v3, .int ca, .int v5, .int v6]) := ⟨hq.1, (vne hne).trans hq.2⟩
  refine nw_getN (k := 4) X hP hq1 rfl (rfl : vwCl[16]? = some (RX11, TX11, 7)) cinX11 (by decide) rfl xw825 dX12_swearsIn_7 ?_
  refine lv_iconst (v := 1) hx hb dX12_swearsIn_10 (by decide) ?_
  refine lv_iadd hx hb dX12_swearsIn_11 ?_
  refine nw_putN (k := 4) X hP hS (hA q0) hq1 (rfl : vwCl[16]? = some (RX11, TX11, 7)) cinX11 tyX11_ok nmX11 (by decide) rfl rfl rfl rfl (Nat.le_of_ble_eq_true rfl) xw825 dX12_swearsIn_12 (fun H locs hP hS => ?_)
  have hP : nP dC dI cg kA bs (n, va_up (va_up w p0 (.inr (17, grR bs (.ref (bs + q0)) ck ml lf oa))) q0 (.inr (16, [.int v0, .int v1, .int v2, .int v3, .int (ca + 1), .int v5, .int v6]))) s H := hP
  have hp1 : p0 < n ∧ va_up (va_up w p0 (.inr (17, grR bs (.ref (bs + q0)) ck ml lf oa))) q0 (.inr (16, [.int v0, .int v1, .int v2, .int v3, .int (ca + 1), .int v5, .int v6])) p0 = .inr (17, grR bs (.ref (bs + q0)) ck ml lf oa) := ⟨hp.1, (vne (Ne.symm hne)).trans vat⟩
  refine lv_aload_n hx hb dX12_swearsIn_15 rfl (lv_at hl 0 rfl) ?_
  refine lv_dup hx hb dX12_swearsIn_16 rfl ?_
  refine nw_getI (k := 13) X hP hp1 rfl (rfl : vwCl[17]? = some (RX12, TX12, 15)) cinX12 (by decide) tw906 dX12_swearsIn_17 ?_
  refine lv_iconst (v := 1) hx hb dX12_swearsIn_20 (by decide) ?_
  refine lv_iadd hx hb dX12_swearsIn_21 ?_
  refine nw_putJ (k := 13) X hP hS (hA p0) hp1 (rfl : vwCl[17]? = some (RX12, TX12, 15)) cinX12 tyX12_ok nmX12 (by decide) rfl rfl rfl (Nat.le_of_ble_eq_true rfl) tw906 dX12_swearsIn_22 (fun H locs hP hS => ?_)
  exact hret _ _ _ _ _ _ dX12_swearsIn_25 hP hS (Nat.le_refl _) (Nat.le_refl _))
end KSW
section KTAIL
variable {p : Program} {l : Launch} {e : Env} {s : State} {m : MethodId} {below : List Frame} {meth : Method} {c : Code} {H : Heap} {locs : List Loc} {cl sl : Nat} {Q : State → Prop}
variable {pc : Nat} {ls : Array Slot} {rest : List Value} {dC : Nat → ClassId} {dI : Nat → Nat → Nat} {cg : Nat → ClassId} {kA : String → Nat → Nat} {b b1 b2 L n : Nat} {xs : Nat → Int32} {w : Nat → va_E} {S : CS} {cA dO dT eA : Nat} {iA : Nat → Nat}
variable {t : List Int32} {gfs : List Value} {kk ar : Nat → Nat} {el : Nat → Nat → Nat} {kc ks : Nat} {pC pS : Nat → Nat} {cR sR : Nat → List Value}
theorem gs_swear : GoodIn TBG (wsV RL 267 RX12 yX12_swearsIn (wT yX12_swearsIn cX12_swearsIn 2 none)) := gT_V tw941 tw942 tw943 tw22 tw944
theorem hd_swear : yX12_swearsIn.cls = RX12 ∧ yX12_swearsIn.cls ≠ "java/lang/invoke/MethodHandle" ∧ yX12_swearsIn.cls ≠ "java/lang/invoke/VarHandle" ∧ (parseMethodDescriptor yX12_swearsIn.desc).map (fun d => d.parameters.length) = some 1 := ⟨rfl, by decide +kernel, by decide +kernel, by decide +kernel⟩
theorem gs_tos : GoodIn TBG (wsV RL 275 RJ4 yJ4_toString_0e30d (wT yJ4_toString_0e30d cJ4_toString_0e30d 1 (some (.object "java/lang/String")))) := gT_V tw1512 tw612 tw613 tw4 tw614
theorem hd_tos : yJ4_toString_0e30d.cls = RJ4 ∧ yJ4_toString_0e30d.cls ≠ "java/lang/invoke/MethodHandle" ∧ yJ4_toString_0e30d.cls ≠ "java/lang/invoke/VarHandle" ∧ (parseMethodDescriptor yJ4_toString_0e30d.desc).map (fun d => d.parameters.length) = some 0 := ⟨rfl, by decide +kernel, by decide +kernel, by decide +kernel⟩
theorem gs_iv : GoodIn TBG (wsV RL 264 RJ6 yJ6_intValue_8abf5 (wT yJ6_intValue_8abf5 cJ6_intValue_8abf5 1 (some .int))) := gT_V tw1444 tw1416 tw1417 tw28 tw1418
theorem acc_4 {a c d D D2 : List Int32} : ((((((a ++ (c ++ d)) ++ [109, 105, 108, 107, 32]) ++ D) ++ [59, 104, 111, 117, 114, 32]) ++ D2) ++ [59]) = a ++ (c ++ (d ++ (([109, 105, 108, 107, 32] ++ (D ++ [59])) ++ ([104, 111, 117, 114, 32] ++ (D2 ++ [59]))))) := by simp
abbrev setX (L : Nat) (xs : Nat → Int32) : List Int32 := setT (dNc L xs) (dNs L xs) (dNh L xs) (dMl L xs) (dHk L xs) (dSp L xs) (dGr L xs) (dMi L xs) (dCc L xs) (dHr L xs) (dLf L xs) (dOp L xs)
set_option maxRecDepth 100000 in
set_option maxHeartbeats 16000000 in
theorem lw_581 (X : gX p s m #[.ref b] c cL_law 11 RL (kR kTab kA)) (hb1 : s.heap.size ≤ b2) (hL : L ≤ 260) (hXs : va_X b L xs s s.heap) (hbl : b < s.heap.size) (ct : ∀ (H : Heap) (locs : List Loc) (ls : Array Slot) (cl sl : Nat) (X1 : NW) (kk ar : Nat → Nat) (el : Nat → Nat → Nat), LWP dC dI cg kA b1 b2 S cA dO dT eA iA X1 s H → va_S (fun q => s.heap.size ≤ q) s.heap H locs → Inv cg b2 eA (setX L xs) (grR b2 (.ref (b2 + pC (dCc L xs 0))) (nI (dHk L xs)) (nI (dMl L xs)) (nI (dHr L xs 0)) 1) kk ar el (dNc L xs) pC (catF L xs) (dNs L xs) pS (sackR L xs) X1 → kk 1 = dNc L xs → kk 2 = dNh L xs → kk 3 = dNs L xs → kk 4 = dNh L xs → (∀ j, j < dNc L xs → el 1 j = b2 + pC j) → (∀ j, j < dNs L xs → el 3 j = b2 + pS j) → (∀ j, j < dNh L xs → el 2 j = b2 + pC (dCc L xs j) ∧ el 4 j = iA (dHr L xs j)) → lv_has ls 11 [(0, .ref b), (1, .ref (caOf b1 0)), (2, .ref (b2 + 0)), (4, .ref (b2 + 5)), (5, .int (nI (dNc L xs)))] → cl ≤ 45000 → sl ≤ 810000 → W p l e room_1 s m #[.ref b] below meth c H locs cl sl Q (F0 m 581 ls [])) (H : Heap) (locs : List Loc) (ls : Array Slot) (cl sl : Nat) (X1 : NW) (kk ar : Nat → Nat) (el : Nat → Nat → Nat) (hP : LWP dC dI cg kA b1 b2 S cA dO dT eA iA X1 s H) (hV : va_S (fun q => s.heap.size ≤ q) s.heap H locs) (hI : Inv cg b2 eA (accT (catT (dSp L xs) (dLf L xs)) (dNc L xs) ++ (accT (sackT (dGr L xs) (dMi L xs) (dOp L xs)) (dNs L xs) ++ accT (shiftT (dCc L xs) (dHr L xs)) (dNh L xs))) (grR b2 .null 0 0 0 0) kk ar el (dNc L xs) pC (catR L xs) (dNs L xs) pS (sackR L xs) X1) (h1 : kk 1 = dNc L xs) (h2 : kk 2 = dNh L xs) (h3 : kk 3 = dNs L xs) (h4 : kk 4 = dNh L xs) (h5 : ∀ j, j < dNc L xs → el 1 j = b2 + pC j) (h6 : ∀ j, j < dNs L xs → el 3 j = b2 + pS j) (h7 : ∀ j, j < dNh L xs → el 2 j = b2 + pC (dCc L xs j) ∧ el 4 j = iA (dHr L xs j)) (hl : lv_has ls 11 [(0, .ref b), (1, .ref (caOf b1 0)), (2, .ref (b2 + 0)), (3, .int (cellV L xs 0)), (4, .ref (b2 + 5)), (5, .int (nI (dNc L xs)))]) (hc1 : cl ≤ 40000) (hc2 : sl ≤ 800000) : W p l e room_1 s m #[.ref b] below meth c H locs cl sl Q (F0 m 488 ls []) := by
  have hx := X.hx
  have hb := X.hb
  have bc := dNc_b (L := L) (xs := xs)
  have bk := dNs_b (L := L) (xs := xs)
  have bh := dNh_b (L := L) (xs := xs)
  have hlc := lenC (L := L) (xs := xs) (dNc L xs)
  have hlk := lenS (L := L) (xs := xs) (dNs L xs)
  have hlh := lenH (L := L) (xs := xs) (dNh L xs)
  have hml : dMl L xs < 8 := (bN_3 (x := cellV L xs 0) (a := 7)).1
  have hhk : dHk L xs < 16 := (bN_4 (x := cellV L xs 0) (a := 10)).1
  have hd1 := (dgL_len (v := dMl L xs)).2
  have hd2 := (dgL_len (v := dHk L xs)).2
  have hcc := dCc_b (L := L) (xs := xs) (k := 0)
  have hhr := dHr_b (L := L) (xs := xs) (k := 0)
  obtain ⟨n, w⟩ := X1
  refine lv_aload_n hx hb dL_law_488 rfl (lv_at hl 2 rfl) ?_
  refine lv_iload_n hx hb dL_law_489 rfl (lv_at hl 3 rfl) ?_
  refine lv_bipush (v := 7) hx hb dL_law_490 (by decide) ?_
  refine lv_iconst (v := 3) hx hb dL_law_492 (by decide) ?_
  refine lw_bits X hl.1 (Nat.le_of_ble_eq_true rfl) ⟨by omega, by omega⟩ dL_law_493 ?_
  rw [(bN_3 (x := cellV L xs 0) (a := 7)).2]
  refine nF_putN (k := 6) X FF_fs hP hV (show s.heap.size ≤ _ by omega) hI.1 (rfl : vwCl[17]? = some (RX12, TX12, 15)) cinX12 tyX12_ok nmX12 (by decide) rfl rfl rfl rfl (Nat.le_of_ble_eq_true rfl) xw892 dL_law_496 (fun H locs hP hV => ?_)
  have hI := hI.up0 (fs' := grR b2 .null 0 (nI (dMl L xs)) 0 0)
  have hP : LWP dC dI cg kA b1 b2 S cA dO dT eA iA (n, va_up w 0 (.inr (17, grR b2 .null 0 (nI (dMl L xs)) 0 0))) s H := hP
  generalize va_up w 0 (.inr (17, grR b2 .null 0 (nI (dMl L xs)) 0 0)) = w at hP hI
  refine lv_aload_n hx hb dL_law_499 rfl (lv_at hl 2 rfl) ?_
  refine lv_iload_n hx hb dL_law_500 rfl (lv_at hl 3 rfl) ?_
  refine lv_bipush (v := 10) hx hb dL_law_501 (by decide) ?_
  refine lv_iconst (v := 4) hx hb dL_law_503 (by decide) ?_
  refine lw_bits X hl.1 (Nat.le_of_ble_eq_true rfl) ⟨by omega, by omega⟩ dL_law_504 ?_
  rw [(bN_4 (x := cellV L xs 0) (a := 10)).2]
  refine nF_putN (k := 5) X FF_fs hP hV (show s.heap.size ≤ _ by omega) hI.1 (rfl : vwCl[17]? = some (RX12, TX12, 15)) cinX12 tyX12_ok nmX12 (by decide) rfl rfl rfl rfl (Nat.le_of_ble_eq_true rfl) xw890 dL_law_507 (fun H locs hP hV => ?_)
  have hI := hI.up0 (fs' := grR b2 .null (nI (dHk L xs)) (nI (dMl L xs)) 0 0)
  have hP : LWP dC dI cg kA b1 b2 S cA dO dT eA iA (n, va_up w 0 (.inr (17, grR b2 .null (nI (dHk L xs)) (nI (dMl L xs)) 0 0))) s H := hP
  generalize va_up w 0 (.inr (17, grR b2 .null (nI (dHk L xs)) (nI (dMl L xs)) 0 0)) = w at hP hI
  refine lv_aload_n hx hb dL_law_510 rfl (lv_at hl 2 rfl) ?_
  refine lv_aload_n hx hb dL_law_511 rfl (lv_at hl 2 rfl) ?_
  refine nw_getN (k := 3) X hP.1 hI.1 rfl (rfl : vwCl[17]? = some (RX12, TX12, 15)) cinX12 (by decide) rfl xw887 dL_law_512 ?_
  refine lv_iconst (v := 0) hx hb dL_law_515 (by decide) ?_
  refine lw_get (d := 4) (i := 0) X hP hI ⟨by omega, by omega⟩ (by omega) (by omega) hl.1 (Nat.le_of_ble_eq_true rfl) ⟨by omega, by omega⟩ dL_law_516 ?_
  rw [(h7 0 (by omega)).2]
  have hbx := (hP.2.2.1.2.2.2.1 (dHr L xs 0) hhr.2).2
  refine va_castS X.hx X.hb X.hown (X.hts _ tw1579) (hP.1.2.2.1.1 2 _ rfl).2 (ixA.rec hP.1.2.2.1 hbx) dL_law_521 ?_
  refine gCallVRr X (vJ6_intValue (dC := dC) (dI := dI) (cg := cg) (kA := kA) (a := iA (dHr L xs 0)) (n := dHr L xs 0)) gs_iv ⟨rfl, by decide, by decide, by decide +kernel⟩ rfl ⟨(Nat.le_of_ble_eq_true rfl), (Nat.le_of_ble_eq_true rfl)⟩ bxB_blind (fun U hU hW => ⟨⟨by rw [hU]; exact hbx, va_K.moved hW.alike hP.1.2.2.1⟩, kR_ok.2 _ _ hW X.ks⟩) (ixA.rec hP.1.2.2.1 hbx) hl.1 (Nat.le_of_ble_eq_true rfl) ⟨Nat.le_trans (show _ ≤ 200000 by omega) rmC, Nat.le_trans (show _ ≤ 2000000 by omega) rmS⟩ dL_law_524 (As := []) (rest := [.ref (b2 + 0)]) rfl ?_
  refine nF_putN (k := 8) X FF_fs hP hV (show s.heap.size ≤ _ by omega) hI.1 (rfl : vwCl[17]? = some (RX12, TX12, 15)) cinX12 tyX12_ok nmX12 (by decide) rfl rfl rfl rfl (Nat.le_of_ble_eq_true rfl) xw897 dL_law_527 (fun H locs hP hV => ?_)
  have hI := hI.up0 (fs' := grR b2 .null (nI (dHk L xs)) (nI (dMl L xs)) (nI (dHr L xs 0)) 0)
  have hP : LWP dC dI cg kA b1 b2 S cA dO dT eA iA (n, va_up w 0 (.inr (17, grR b2 .null (nI (dHk L xs)) (nI (dMl L xs)) (nI (dHr L xs 0)) 0))) s H := hP
  generalize va_up w 0 (.inr (17, grR b2 .null (nI (dHk L xs)) (nI (dMl L xs)) (nI (dHr L xs 0)) 0)) = w at hP hI
  refine lv_aload_n hx hb dL_law_530 rfl (lv_at hl 2 rfl) ?_
  refine lv_aload_n hx hb dL_law_531 rfl (lv_at hl 2 rfl) ?_
  refine nw_getN (k := 1) X hP.1 hI.1 rfl (rfl : vwCl[17]? = some (RX12, TX12, 15)) cinX12 (by decide) rfl xw883 dL_law_532 ?_
  refine lv_iconst (v := 0) hx hb dL_law_535 (by decide) ?_
  refine lw_get (d := 2) (i := 0) X hP hI ⟨by omega, by omega⟩ (by omega) (by omega) hl.1 (Nat.le_of_ble_eq_true rfl) ⟨by omega, by omega⟩ dL_law_536 ?_
  rw [(h7 0 (by omega)).1]
  have hoc := hI.2.2.2.2.1 (dCc L xs 0) hcc
  refine va_castS X.hx X.hb X.hown (X.hts _ tw811) (hP.1.2.2.1.1 16 _ rfl).2 (va_recv hP.1.2.2.1 (cwo (hP.1.row hoc)) (q0 := 0) (rfl : vwCl[16]? = some (RX11, TX11, 7)) rfl) dL_law_541 ?_
  refine gCallWV X (gF_ok nOK FF_fs) ((vN12_swearsIn (l := l) (dC := dC) (dI := dI) (cg := cg) (kA := kA) (bs := b2) (p0 := 0) (q0 := pC (dCc L xs 0)) hI.1 hoc).lift FF_fs) (cwV 1 X.hts gs_swear rfl rfl rfl hd_swear ⟨(Nat.le_of_ble_eq_true rfl), (Nat.le_of_ble_eq_true rfl)⟩) rfl hP hV (lw_hA hb1 hV.1) (va_recv hP.1.2.2.1 (cwo (hP.1.row hI.1)) (q0 := 0) (rfl : vwCl[17]? = some (RX12, TX12, 15)) rfl) hl.1 (Nat.le_of_ble_eq_true rfl) ⟨Nat.le_trans (show _ ≤ 200000 by omega) rmC, Nat.le_trans (show _ ≤ 2000000 by omega) rmS⟩ dL_law_544 (As := [.ref (b2 + pC (dCc L xs 0))]) (rest := []) rfl (fun H locs hP hV => ?_)
  have hI := ((hI.up0 (fs' := grR b2 (.ref (b2 + pC (dCc L xs 0))) (nI (dHk L xs)) (nI (dMl L xs)) (nI (dHr L xs 0)) 0)).upc (c := dCc L xs 0) (fs' := catF L xs (dCc L xs 0)) hcc (fun j hj hne z => hne ((nI_eq (by omega) (by omega)).mp (Value.int.inj (List.cons.inj z).1)))).up0 (fs' := grR b2 (.ref (b2 + pC (dCc L xs 0))) (nI (dHk L xs)) (nI (dMl L xs)) (nI (dHr L xs 0)) 1)
  have hI := hI.cong (cR' := catF L xs) (fun j hj => by
    by_cases e : j = dCc L xs 0
    · rw [e, vat]
    · rw [vne e]
      unfold catF catR
      rw [if_neg e])
  have ec : ([.int (nI (dCc L xs 0)), .int (nI (dSp L xs (dCc L xs 0))), .int 0, .int 0, .int (0 + 1), .int (dLf L xs (dCc L xs 0)), .int 0] : List Value) = catF L xs (dCc L xs 0) := by
    unfold catF
    rw [if_pos rfl]
    rfl
  rw [ec, show (0 : Int32) + 1 = 1 by decide] at hP
  obtain ⟨w9, hw9⟩ : ∃ w9 : NW, w9 = (n, va_up (va_up (va_up w 0 (.inr (17, grR b2 (.ref (b2 + pC (dCc L xs 0))) (nI (dHk L xs)) (nI (dMl L xs)) (nI (dHr L xs 0)) 0))) (pC (dCc L xs 0)) (.inr (16, catF L xs (dCc L xs 0)))) 0 (.inr (17, grR b2 (.ref (b2 + pC (dCc L xs 0))) (nI (dHk L xs)) (nI (dMl L xs)) (nI (dHr L xs 0)) 1))) := ⟨_, rfl⟩
  have hP : LWP dC dI cg kA b1 b2 S cA dO dT eA iA w9 s H := by rw [hw9]; exact hP
  replace hI : Inv cg b2 eA (accT (catT (dSp L xs) (dLf L xs)) (dNc L xs) ++ (accT (sackT (dGr L xs) (dMi L xs) (dOp L xs)) (dNs L xs) ++ accT (shiftT (dCc L xs) (dHr L xs)) (dNh L xs))) (grR b2 (.ref (b2 + pC (dCc L xs 0))) (nI (dHk L xs)) (nI (dMl L xs)) (nI (dHr L xs 0)) 1) kk ar el (dNc L xs) pC (catF L xs) (dNs L xs) pS (sackR L xs) w9 := by rw [hw9]; exact hI
  clear hw9 hoc hbx
  obtain ⟨n, w⟩ := w9
  refine lv_aload hx hb dL_law_547 (lv_at hl 4 rfl) ?_
  refine lv_ldcwS hx hb X.hown (kRat X.ks 23 rfl) dL_law_549 ?_
  refine lw_appS (i := 23) (q := ("GranaryWatchLaw", 271, "milk ", [109, 105, 108, 107, 32])) X hb1 hP hV hI rfl (by simp only [List.length_append, List.length_cons, List.length_nil]; omega) (Nat.le_of_ble_eq_true rfl) hl.1 (Nat.le_of_ble_eq_true rfl) ⟨by omega, by omega⟩ dL_law_552 (fun H locs X1 hP hV hI => ?_)
  obtain ⟨n, w⟩ := X1
  refine lv_aload_n hx hb dL_law_555 rfl (lv_at hl 2 rfl) ?_
  refine nw_getN (k := 6) X hP.1 hI.1 rfl (rfl : vwCl[17]? = some (RX12, TX12, 15)) cinX12 (by decide) rfl xw892 dL_law_556 ?_
  refine lw_appI X hb1 hP hV hI (by omega) (by simp only [List.length_append, List.length_cons, List.length_nil]; omega) hl.1 (Nat.le_of_ble_eq_true rfl) ⟨by omega, by omega⟩ dL_law_559 (fun H locs X1 hP hV hI => ?_)
  obtain ⟨n, w⟩ := X1
  refine lv_ldcwS hx hb X.hown (kRat X.ks 24 rfl) dL_law_562 ?_
  refine lw_appS (i := 24) (q := ("GranaryWatchLaw", 273, ";hour ", [59, 104, 111, 117, 114, 32])) X hb1 hP hV hI rfl (by simp only [List.length_append, List.length_cons, List.length_nil]; omega) (Nat.le_of_ble_eq_true rfl) hl.1 (Nat.le_of_ble_eq_true rfl) ⟨by omega, by omega⟩ dL_law_565 (fun H locs X1 hP hV hI => ?_)
  obtain ⟨n, w⟩ := X1
  refine lv_aload_n hx hb dL_law_568 rfl (lv_at hl 2 rfl) ?_
  refine nw_getN (k := 5) X hP.1 hI.1 rfl (rfl : vwCl[17]? = some (RX12, TX12, 15)) cinX12 (by decide) rfl xw890 dL_law_569 ?_
  refine lw_appI X hb1 hP hV hI (by omega) (by simp only [List.length_append, List.length_cons, List.length_nil]; omega) hl.1 (Nat.le_of_ble_eq_true rfl) ⟨by omega, by omega⟩ dL_law_572 (fun H locs X1 hP hV hI => ?_)
  obtain ⟨n, w⟩ := X1
  refine lv_bipush (v := 59) hx hb dL_law_575 (by decide) ?_
  refine lw_appC X hb1 hP hV hI ⟨⟨59, by omega⟩, rfl⟩ (by simp only [List.length_append, List.length_cons, List.length_nil]; omega) hl.1 (Nat.le_of_ble_eq_true rfl) ⟨by omega, by omega⟩ dL_law_577 (fun H locs X1 hP hV hI => ?_)
  obtain ⟨n, w⟩ := X1
  refine lv_pop hx hb dL_law_580 rfl ?_
  refine ct H locs ls _ _ (n, w) kk ar el hP hV ?_ h1 h2 h3 h4 h5 h6 h7 (lv_sub hl [0, 1, 2, 4, 5] rfl) (by omega) (by omega)
  show Inv cg b2 eA (setT (dNc L xs) (dNs L xs) (dNh L xs) (dMl L xs) (dHk L xs) (dSp L xs) (dGr L xs) (dMi L xs) (dCc L xs) (dHr L xs) (dLf L xs) (dOp L xs)) _ _ _ _ _ _ _ _ _ _ _
  unfold setT milkT hourT
  rw [← acc_4]
  exact hI
end KTAIL
