theorem tw1424 : (Jvm.Cond.methodLink "GranaryWatchLaw" (256 : Nat) ({ cls := "java/lang/Integer", name := "valueOf", desc := "(I)Ljava/lang/Integer;" } : Jvm.MethodName)) ∈ TBG := tb_t 1424 (by decide +kernel) (by decide +kernel)
theorem tw1425 : (Jvm.Cond.static ({ cls := "java/lang/Integer", name := "valueOf", desc := "(I)Ljava/lang/Integer;" } : Jvm.MethodName)) ∈ TBG := tb_t 1425 (by decide +kernel) (by decide +kernel)
theorem tw1426 : (Jvm.Cond.code ({ cls := "java/lang/Integer", name := "valueOf", desc := "(I)Ljava/lang/Integer;" } : Jvm.MethodName) prog_27_method_22_code (1 : Nat) (Option.some (Jvm.ClassFile.FieldType.object "java/lang/Integer"))) ∈ TBG := tb_t 1426 (by decide +kernel) (by decide +kernel)
theorem xw883 : (Jvm.Cond.fieldLinkNest "GranaryWatchLaw" (250 : Nat) "GranaryWatchLaw$Granary" "shifts" "Ljava/util/List;" "GranaryWatchLaw") ∈ xws := xt 883 (by decide +kernel) rfl
theorem xw887 : (Jvm.Cond.fieldLinkNest "GranaryWatchLaw" (253 : Nat) "GranaryWatchLaw$Granary" "hours" "Ljava/util/List;" "GranaryWatchLaw") ∈ xws := xt 887 (by decide +kernel) rfl
theorem xw1597 : (Jvm.Cond.castable "java/lang/Integer" "java/lang/Object") ∈ xws := xt 1597 (by decide +kernel) rfl
/-! the law writes its shifts -/
section LAWH
variable {p : Program} {l : Launch} {e : Env} {s : State} {m : MethodId} {below : List Frame} {meth : Method} {c : Code} {H : Heap} {locs : List Loc} {cl sl : Nat} {Q : State → Prop}
variable {pc : Nat} {ls : Array Slot} {rest : List Value} {dC : Nat → ClassId} {dI : Nat → Nat → Nat} {cg : Nat → ClassId} {kA : String → Nat → Nat} {b b1 b2 L n : Nat} {xs : Nat → Int32} {w : Nat → va_E} {S : CS} {cA dO dT eA : Nat} {iA : Nat → Nat}
variable {t : List Int32} {gfs : List Value} {kk ar : Nat → Nat} {el : Nat → Nat → Nat} {kc ks : Nat} {pC pS : Nat → Nat} {cR sR : Nat → List Value}
theorem dCc_b {k : Nat} : dCc L xs k < dNc L xs := by
  unfold dCc
  exact Nat.mod_lt _ (by unfold dNc; omega)
theorem dHr_b {k : Nat} : 1 ≤ dHr L xs k ∧ dHr L xs k ≤ 4 := by
  have := (bN_2 (x := cellV L xs (9 + k)) (a := 4)).1
  unfold dHr
  omega
theorem lenH (k : Nat) : (accT (shiftT (dCc L xs) (dHr L xs)) k).length ≤ 10 * k := acc_bd k (fun j _ => by
  have h1 := dgL_1 (v := dHr L xs j) (by have := (dHr_b (L := L) (xs := xs) (k := j)).2; omega)
  unfold shiftT
  rw [List.length_append, List.length_append, h1]
  exact Nat.le_of_ble_eq_true rfl)
theorem acc_3 {y z a : List Int32} {x : Int32} {D : List Int32} : ((((((y ++ (z ++ a)) ++ [115, 104, 105, 102, 116, 32]) ++ [x]) ++ [32]) ++ D) ++ [59]) = y ++ (z ++ (a ++ ([115, 104, 105, 102, 116, 32, x, 32] ++ (D ++ [59])))) := by simp
set_option maxRecDepth 100000 in
set_option maxHeartbeats 16000000 in
theorem lw_shifts (X : gX p s m #[.ref b] c cL_law 11 RL (kR kTab kA)) (hb1 : s.heap.size ≤ b2) (hL : L ≤ 260) (hXs : va_X b L xs s s.heap) (hbl : b < s.heap.size) (ct : ∀ (H : Heap) (locs : List Loc) (ls : Array Slot) (cl sl : Nat) (X1 : NW) (kk ar : Nat → Nat) (el : Nat → Nat → Nat), LWP dC dI cg kA b1 b2 S cA dO dT eA iA X1 s H → va_S (fun q => s.heap.size ≤ q) s.heap H locs → Inv cg b2 eA (accT (catT (dSp L xs) (dLf L xs)) (dNc L xs) ++ (accT (sackT (dGr L xs) (dMi L xs) (dOp L xs)) (dNs L xs) ++ accT (shiftT (dCc L xs) (dHr L xs)) (dNh L xs))) (grR b2 .null 0 0 0 0) kk ar el (dNc L xs) pC (catR L xs) (dNs L xs) pS (sackR L xs) X1 → kk 1 = dNc L xs → kk 2 = (dNh L xs) → kk 3 = dNs L xs → kk 4 = (dNh L xs) → (∀ j, j < dNc L xs → el 1 j = b2 + pC j) → (∀ j, j < dNs L xs → el 3 j = b2 + pS j) → (∀ j, j < (dNh L xs) → el 2 j = b2 + pC (dCc L xs j) ∧ el 4 j = iA (dHr L xs j)) → lv_has ls 11 [(8, .int (nI (dNh L xs))), (7, .int (nI (dNh L xs))), (0, .ref b), (1, .ref (caOf b1 0)), (2, .ref (b2 + 0)), (3, .int (cellV L xs 0)), (4, .ref (b2 + 5)), (5, .int (nI (dNc L xs)))] → cl ≤ 40000 → sl ≤ 800000 → W p l e room_1 s m #[.ref b] below meth c H locs cl sl Q (F0 m 488 ls [])) : ∀ (r k : Nat) (H : Heap) (locs : List Loc) (ls : Array Slot) (cl sl : Nat) (X1 : NW) (kk ar : Nat → Nat) (el : Nat → Nat → Nat), dNh L xs = k + r → LWP dC dI cg kA b1 b2 S cA dO dT eA iA X1 s H → va_S (fun q => s.heap.size ≤ q) s.heap H locs → Inv cg b2 eA (accT (catT (dSp L xs) (dLf L xs)) (dNc L xs) ++ (accT (sackT (dGr L xs) (dMi L xs) (dOp L xs)) (dNs L xs) ++ accT (shiftT (dCc L xs) (dHr L xs)) k)) (grR b2 .null 0 0 0 0) kk ar el (dNc L xs) pC (catR L xs) (dNs L xs) pS (sackR L xs) X1 → kk 1 = dNc L xs → kk 2 = k → kk 3 = dNs L xs → kk 4 = k → (∀ j, j < dNc L xs → el 1 j = b2 + pC j) → (∀ j, j < dNs L xs → el 3 j = b2 + pS j) → (∀ j, j < k → el 2 j = b2 + pC (dCc L xs j) ∧ el 4 j = iA (dHr L xs j)) → lv_has ls 11 [(8, .int (nI k)), (7, .int (nI (dNh L xs))), (0, .ref b), (1, .ref (caOf b1 0)), (2, .ref (b2 + 0)), (3, .int (cellV L xs 0)), (4, .ref (b2 + 5)), (5, .int (nI (dNc L xs)))] → cl + 20 * r ≤ 40000 → sl + 5000 * r ≤ 800000 → W p l e room_1 s m #[.ref b] below meth c H locs cl sl Q (F0 m 363 ls []) := by
  have hx := X.hx
  have hb := X.hb
  have hnc : dNc L xs ≤ 4 := by
    have := (bN_2 (x := cellV L xs 0) (a := 0)).1
    unfold dNc
    omega
  have hns : dNs L xs ≤ 4 := by
    have := (bN_2 (x := cellV L xs 0) (a := 2)).1
    unfold dNs
    omega
  have hnh : dNh L xs ≤ 8 := by
    have := (bN_3 (x := cellV L xs 0) (a := 4)).1
    unfold dNh
    omega
  have hlc := lenC (L := L) (xs := xs) (dNc L xs)
  have hls := lenS (L := L) (xs := xs) (dNs L xs)
  intro r
  induction r with
  | zero =>
    intro k H locs ls cl sl X1 kk ar el hk hP hV hI h1 h2 h3 h4 h5 h6 h7 hl hc1 hc2
    have hk : dNh L xs = k := hk
    subst hk
    refine lv_iload hx hb dL_law_363 (lv_at hl 0 rfl) ?_
    refine lv_iload hx hb dL_law_365 (lv_at hl 1 rfl) ?_
    refine lv_icmp_ge (tgt := 488) hx hb dL_law_367 (by decide) (fun _ => ?_) (fun c1 => absurd (Int32.le_refl _) c1)
    exact ct H locs ls cl sl X1 kk ar el hP hV hI h1 h2 h3 h4 h5 h6 h7 hl (by omega) (by omega)
  | succ r ih =>
    intro k H locs ls cl sl X1 kk ar el hk hP hV hI h1 h2 h3 h4 h5 h6 h7 hl hc1 hc2
    obtain ⟨n, w⟩ := X1
    have hkc : k < dNh L xs := by omega
    have hlen := lenH (L := L) (xs := xs) k
    have hcc := dCc_b (L := L) (xs := xs) (k := k)
    have hhr := dHr_b (L := L) (xs := xs) (k := k)
    have hd1 := dgL_1 (v := dHr L xs k) (by omega)
    have hpc := h5 (dCc L xs k) hcc
    refine lv_iload hx hb dL_law_363 (lv_at hl 0 rfl) ?_
    refine lv_iload hx hb dL_law_365 (lv_at hl 1 rfl) ?_
    refine lv_icmp_ge (tgt := 488) hx hb dL_law_367 (by decide) (fun c1 => absurd c1 (fun z => absurd (nI_lt hkc (by omega)) (lt_le.mpr z))) (fun _ => ?_)
    refine lv_aload_n hx hb dL_law_370 rfl (lv_at hl 2 rfl) ?_
    refine lv_bipush (v := 9) hx hb dL_law_371 (by decide) ?_
    refine lv_iload hx hb dL_law_373 (lv_at hl 0 rfl) ?_
    refine lv_iadd hx hb dL_law_375 ?_
    rw [show (9 + (nI k) : Int32) = nI (9 + k) from nI_add 9 k]
    refine lw_cell (k := 9 + k) X hL hXs hbl hV (by omega) hl.1 (Nat.le_of_ble_eq_true rfl) ⟨by omega, by omega⟩ dL_law_376 ?_
    refine lv_istore (lv' := [(9, .int (cellV L xs (9 + k))), (8, .int (nI k)), (7, .int (nI (dNh L xs))), (0, .ref b), (1, .ref (caOf b1 0)), (2, .ref (b2 + 0)), (3, .int (cellV L xs 0)), (4, .ref (b2 + 5)), (5, .int (nI (dNc L xs)))]) hx hb dL_law_379 hl (by decide) rfl (fun ls hl => ?_)
    refine lv_aload_n hx hb dL_law_381 rfl (lv_at hl 5 rfl) ?_
    refine nw_getN (k := 0) X hP.1 hI.1 rfl (rfl : vwCl[17]? = some (RX12, TX12, 15)) cinX12 (by decide) rfl xw881 dL_law_382 ?_
    refine lv_iload hx hb dL_law_385 (lv_at hl 0 rfl) ?_
    refine lv_iconst (v := 0) hx hb dL_law_387 (by decide) ?_
    refine lv_iconst (v := 4) hx hb dL_law_388 (by decide) ?_
    refine lw_bits X hl.1 (Nat.le_of_ble_eq_true rfl) ⟨by omega, by omega⟩ dL_law_389 ?_
    rw [(bN_4 (x := cellV L xs (9 + k)) (a := 0)).2]
    refine lv_iload hx hb dL_law_392 (lv_at hl 8 rfl) ?_
    refine lv_irem hx hb dL_law_394 (fun z => absurd ((nI_eq (a := dNc L xs) (b := 0) (by omega) (by omega)).mp z) (by unfold dNc; omega)) ?_
    rw [show nI (bN (cellV L xs (9 + k)) 0 4) - nI (bN (cellV L xs (9 + k)) 0 4) / nI (dNc L xs) * nI (dNc L xs) = nI (dCc L xs k) from pk_rem (by have := (bN_4 (x := cellV L xs (9 + k)) (a := 0)).1; omega) (by unfold dNc; omega) (by omega)]
    refine lw_get (d := 1) (i := dCc L xs k) X hP hI ⟨by omega, by omega⟩ (by omega) (by omega) hl.1 (Nat.le_of_ble_eq_true rfl) ⟨by omega, by omega⟩ dL_law_395 ?_
    rw [hpc]
    have hoc := hI.2.2.2.2.1 (dCc L xs k) hcc
    refine va_castS X.hx X.hb X.hown (X.hts _ tw811) (hP.1.2.2.1.1 16 _ rfl).2 (va_recv hP.1.2.2.1 (cwo (hP.1.row hoc)) (q0 := 0) (rfl : vwCl[16]? = some (RX11, TX11, 7)) rfl) dL_law_400 ?_
    refine lv_astore (lv' := [(10, .ref (b2 + pC (dCc L xs k))), (9, .int (cellV L xs (9 + k))), (8, .int (nI k)), (7, .int (nI (dNh L xs))), (0, .ref b), (1, .ref (caOf b1 0)), (2, .ref (b2 + 0)), (3, .int (cellV L xs 0)), (4, .ref (b2 + 5)), (5, .int (nI (dNc L xs)))]) hx hb dL_law_403 hl (by decide) rfl (fun ls hl => ?_)
    refine lv_aload_n hx hb dL_law_405 rfl (lv_at hl 6 rfl) ?_
    refine nw_getN (k := 1) X hP.1 hI.1 rfl (rfl : vwCl[17]? = some (RX12, TX12, 15)) cinX12 (by decide) rfl xw883 dL_law_406 ?_
    refine lv_aload hx hb dL_law_409 (lv_at hl 0 rfl) ?_
    refine lw_add (d := 2) X hb1 hP hV hI ⟨by omega, by omega⟩ (by omega) (rfl : vwCl[16]? = some (RX11, TX11, 7)) xw1609 (lw_elO hI ⟨by omega, by omega⟩ hoc (by decide)) hl.1 (Nat.le_of_ble_eq_true rfl) ⟨by omega, by omega⟩ dL_law_411 (fun H locs X1 a2 hP hV hI => ?_)
    obtain ⟨n, w⟩ := X1
    rw [h2] at hI
    refine lv_pop hx hb dL_law_416 rfl ?_
    refine lv_aload_n hx hb dL_law_417 rfl (lv_at hl 6 rfl) ?_
    refine nw_getN (k := 3) X hP.1 hI.1 rfl (rfl : vwCl[17]? = some (RX12, TX12, 15)) cinX12 (by decide) rfl xw887 dL_law_418 ?_
    refine lv_iconst (v := 1) hx hb dL_law_421 (by decide) ?_
    refine lv_iload hx hb dL_law_422 (lv_at hl 1 rfl) ?_
    refine lv_iconst (v := 4) hx hb dL_law_424 (by decide) ?_
    refine lv_iconst (v := 2) hx hb dL_law_425 (by decide) ?_
    refine lw_bits X hl.1 (Nat.le_of_ble_eq_true rfl) ⟨by omega, by omega⟩ dL_law_426 ?_
    rw [(bN_2 (x := cellV L xs (9 + k)) (a := 4)).2]
    refine lv_iadd hx hb dL_law_429 ?_
    rw [show (1 + (nI (bN (cellV L xs (9 + k)) 4 2)) : Int32) = nI (dHr L xs k) from nI_add 1 _]
    refine gCallTO X (gF_ok nOK FF_fs.no) (fun _ _ _ _ _ h => h) (vJ6_valueOf (dC := dC) (dI := dI) (cg := cg) (kA := kA) (cA := cA) (b1 := b1) (iA := iA) (S := (n, w)) FF_fs (fun U H h => h.2.1) hhr.2) (va_cwS 1 X.hts (gT_S tw1424 tw1425 tw28 tw1426) rfl rfl rfl ⟨by decide, by decide, by decide +kernel⟩ ⟨(Nat.le_of_ble_eq_true rfl), (Nat.le_of_ble_eq_true rfl)⟩) rfl hP hV (lw_hB hV.1) hl.1 (Nat.le_of_ble_eq_true rfl) ⟨Nat.le_trans (show _ ≤ 200000 by omega) rmC, Nat.le_trans (show _ ≤ 2000000 by omega) rmS⟩ dL_law_430 (As := [.int (nI (dHr L xs k))]) (rest := [.ref (b2 + 4)]) rfl (fun H locs a hP hB hV => ?_)
    have hB : a = iA (dHr L xs k) := hB
    subst hB
    refine lw_add (d := 4) X hb1 hP hV hI ⟨by omega, by omega⟩ (by rw [vne (by omega)]; omega) (rfl : vwCl[2]? = some (RJ6, TJ6, 1)) xw1597 (fun X U H _ _ hP => (hP.2.2.1.2.2.2.1 (dHr L xs k) hhr.2).2.toE) hl.1 (Nat.le_of_ble_eq_true rfl) ⟨by omega, by omega⟩ dL_law_433 (fun H locs X1 a4 hP hV hI => ?_)
    obtain ⟨n, w⟩ := X1
    rw [show va_up kk 2 (k + 1) 4 = k from (vne (by omega)).trans h4, show va_up el 2 (va_up (el 2) k (b2 + pC (dCc L xs k))) 4 = el 4 from vne (by omega)] at hI
    refine lv_pop hx hb dL_law_438 rfl ?_
    refine lv_aload hx hb dL_law_439 (lv_at hl 8 rfl) ?_
    refine lv_ldcwS hx hb X.hown (kRat X.ks 22 rfl) dL_law_441 ?_
    refine lw_appS (i := 22) (q := ("GranaryWatchLaw", 262, "shift ", [115, 104, 105, 102, 116, 32])) X hb1 hP hV hI rfl (by simp only [List.length_append, List.length_cons, List.length_nil]; omega) (Nat.le_of_ble_eq_true rfl) hl.1 (Nat.le_of_ble_eq_true rfl) ⟨by omega, by omega⟩ dL_law_444 (fun H locs X1 hP hV hI => ?_)
    obtain ⟨n, w⟩ := X1
    refine lv_bipush (v := 97) hx hb dL_law_447 (by decide) ?_
    refine lv_aload hx hb dL_law_449 (lv_at hl 0 rfl) ?_
    have hoc := hI.2.2.2.2.1 (dCc L xs k) hcc
    refine nw_getN (k := 0) X hP.1 hoc rfl (rfl : vwCl[16]? = some (RX11, TX11, 7)) cinX11 (by decide) rfl xw817 dL_law_451 ?_
    refine lv_iadd hx hb dL_law_454 ?_
    rw [show (97 + (nI (dCc L xs k)) : Int32) = nI (97 + dCc L xs k) from nI_add 97 _]
    refine lv_i2c hx hb dL_law_455 (asc_b ⟨⟨97 + dCc L xs k, by omega⟩, rfl⟩).2.2.2 ?_
    refine lw_appC X hb1 hP hV hI ⟨⟨97 + dCc L xs k, by omega⟩, rfl⟩ (by simp only [List.length_append, List.length_cons, List.length_nil]; omega) hl.1 (Nat.le_of_ble_eq_true rfl) ⟨by omega, by omega⟩ dL_law_456 (fun H locs X1 hP hV hI => ?_)
    obtain ⟨n, w⟩ := X1
    refine lv_bipush (v := 32) hx hb dL_law_459 (by decide) ?_
    refine lw_appC X hb1 hP hV hI ⟨⟨32, by omega⟩, rfl⟩ (by simp only [List.length_append, List.length_cons, List.length_nil]; omega) hl.1 (Nat.le_of_ble_eq_true rfl) ⟨by omega, by omega⟩ dL_law_461 (fun H locs X1 hP hV hI => ?_)
    obtain ⟨n, w⟩ := X1
    refine lv_iconst (v := 1) hx hb dL_law_464 (by decide) ?_
    refine lv_iload hx hb dL_law_465 (lv_at hl 1 rfl) ?_
    refine lv_iconst (v := 4) hx hb dL_law_467 (by decide) ?_
    refine lv_iconst (v := 2) hx hb dL_law_468 (by decide) ?_
    refine lw_bits X hl.1 (Nat.le_of_ble_eq_true rfl) ⟨by omega, by omega⟩ dL_law_469 ?_
    rw [(bN_2 (x := cellV L xs (9 + k)) (a := 4)).2]
    refine lv_iadd hx hb dL_law_472 ?_
    rw [show (1 + (nI (bN (cellV L xs (9 + k)) 4 2)) : Int32) = nI (dHr L xs k) from nI_add 1 _]
    refine lw_appI X hb1 hP hV hI (by omega) (by simp only [List.length_append, List.length_cons, List.length_nil, hd1]; omega) hl.1 (Nat.le_of_ble_eq_true rfl) ⟨by omega, by omega⟩ dL_law_473 (fun H locs X1 hP hV hI => ?_)
    obtain ⟨n, w⟩ := X1
    refine lv_bipush (v := 59) hx hb dL_law_476 (by decide) ?_
    refine lw_appC X hb1 hP hV hI ⟨⟨59, by omega⟩, rfl⟩ (by simp only [List.length_append, List.length_cons, List.length_nil, hd1]; omega) hl.1 (Nat.le_of_ble_eq_true rfl) ⟨by omega, by omega⟩ dL_law_478 (fun H locs X1 hP hV hI => ?_)
    obtain ⟨n, w⟩ := X1
    refine lv_pop hx hb dL_law_481 rfl ?_
    refine lv_iinc (v := (nI k) + 1) (lv' := [(8, .int ((nI k) + 1)), (10, .ref (b2 + pC (dCc L xs k))), (9, .int (cellV L xs (9 + k))), (7, .int (nI (dNh L xs))), (0, .ref b), (1, .ref (caOf b1 0)), (2, .ref (b2 + 0)), (3, .int (cellV L xs 0)), (4, .ref (b2 + 5)), (5, .int (nI (dNc L xs)))]) hx hb dL_law_482 hl (k := 2) rfl (by rfl) (by decide) rfl (fun ls hl => ?_)
    rw [show (nI k : Int32) + 1 = nI (k + 1) from nI_add k 1] at hl
    refine lv_goto (tgt := 363) hx hb dL_law_485 (by decide) ?_
    have hI2 : Inv cg b2 eA (accT (catT (dSp L xs) (dLf L xs)) (dNc L xs) ++ (accT (sackT (dGr L xs) (dMi L xs) (dOp L xs)) (dNs L xs) ++ accT (shiftT (dCc L xs) (dHr L xs)) (k + 1))) (grR b2 .null 0 0 0 0) (va_up (va_up kk 2 (k + 1)) 4 (k + 1)) (va_up (va_up ar 2 a2) 4 a4) (va_up (va_up el 2 (va_up (el 2) k (b2 + pC (dCc L xs k)))) 4 (va_up (el 4) k (iA (dHr L xs k)))) (dNc L xs) pC (catR L xs) (dNs L xs) pS (sackR L xs) (n, w) := by
      show Inv cg b2 eA (accT (catT (dSp L xs) (dLf L xs)) (dNc L xs) ++ (accT (sackT (dGr L xs) (dMi L xs) (dOp L xs)) (dNs L xs) ++ (accT (shiftT (dCc L xs) (dHr L xs)) k ++ shiftT (dCc L xs) (dHr L xs) k))) _ _ _ _ _ _ _ _ _ _ _
      rw [show shiftT (dCc L xs) (dHr L xs) k = [115, 104, 105, 102, 116, 32, nI (97 + dCc L xs k), 32] ++ (dgL (dHr L xs k) ++ [59]) from rfl, ← acc_3]
      exact hI
    refine ih (k + 1) H locs ls _ _ (n, w) _ _ _ (by omega) hP hV hI2 ((vne (by omega)).trans ((vne (by omega)).trans h1)) ((vne (by omega)).trans vat) ((vne (by omega)).trans ((vne (by omega)).trans h3)) vat (fun j hj => ?_) (fun j hj => ?_) (fun j hj => ?_) (lv_sub hl [0, 3, 4, 5, 6, 7, 8, 9] rfl) (by omega) (by omega)
    · rw [vne (by omega), vne (by omega)]; exact h5 j hj
    · rw [vne (by omega), vne (by omega)]; exact h6 j hj
    · rw [vat, vne (by omega), vat]
      by_cases hjk : j = k
      · subst hjk; rw [vat, vat]; exact ⟨rfl, rfl⟩
      · rw [vne hjk, vne hjk]; exact h7 j (by omega)
end LAWH
