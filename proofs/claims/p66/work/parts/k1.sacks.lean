theorem tw29 : (Jvm.Cond.initialized "GranaryWatchLaw$Sack") ∈ TBG := tb_t 29 (by decide +kernel) (by decide +kernel)
theorem tw946 : (Jvm.Cond.instantiable "GranaryWatchLaw$Sack" (5 : Nat)) ∈ TBG := tb_t 946 (by decide +kernel) (by decide +kernel)
theorem tw948 : (Jvm.Cond.instanceMethod ({ cls := "GranaryWatchLaw$Sack", name := "<init>", desc := "()V" } : Jvm.MethodName)) ∈ TBG := tb_t 948 (by decide +kernel) (by decide +kernel)
theorem tw949 : (Jvm.Cond.code ({ cls := "GranaryWatchLaw$Sack", name := "<init>", desc := "()V" } : Jvm.MethodName) prog_15_method_1_code (1 : Nat) (Option.none : Option Jvm.ClassFile.FieldType)) ∈ TBG := tb_t 949 (by decide +kernel) (by decide +kernel)
theorem xw947 : (Jvm.Cond.methodLinkNest "GranaryWatchLaw" (243 : Nat) ({ cls := "GranaryWatchLaw$Sack", name := "<init>", desc := "()V" } : Jvm.MethodName) "GranaryWatchLaw") ∈ xws := xt 947 (by decide +kernel) rfl
theorem xw1610 : (Jvm.Cond.castable "GranaryWatchLaw$Sack" "java/lang/Object") ∈ xws := xt 1610 (by decide +kernel) rfl
/-! the law writes its sacks -/
section LAWS
variable {p : Program} {l : Launch} {e : Env} {s : State} {m : MethodId} {below : List Frame} {meth : Method} {c : Code} {H : Heap} {locs : List Loc} {cl sl : Nat} {Q : State → Prop}
variable {pc : Nat} {ls : Array Slot} {rest : List Value} {dC : Nat → ClassId} {dI : Nat → Nat → Nat} {cg : Nat → ClassId} {kA : String → Nat → Nat} {b b1 b2 L n : Nat} {xs : Nat → Int32} {w : Nat → va_E} {S : CS} {cA dO dT eA : Nat} {iA : Nat → Nat}
variable {t : List Int32} {gfs : List Value} {kk ar : Nat → Nat} {el : Nat → Nat → Nat} {kc ks : Nat} {pC pS : Nat → Nat} {cR sR : Nat → List Value}
def sackR (L : Nat) (xs : Nat → Int32) (j : Nat) : List Value := [.int (nI j), .int (nI (dGr L xs j)), .int (nI (dMi L xs j)), .int 0, .int (dOp L xs j)]
theorem dOp_b {k : Nat} : dOp L xs k = 0 ∨ dOp L xs k = 1 := by
  unfold dOp
  split
  · exact Or.inr rfl
  · exact Or.inl rfl
theorem lenS (k : Nat) : (accT (sackT (dGr L xs) (dMi L xs) (dOp L xs)) k).length ≤ 20 * k := acc_bd k (fun j _ => by
  have h1 := (dgL_len (v := dGr L xs j)).2
  have h2 := (dgL_len (v := dMi L xs j)).2
  unfold sackT
  rw [List.length_append, List.length_append, List.length_append, List.length_append, show (if dOp L xs j = 1 then ([32, 111, 112, 101, 110, 59] : List Int32) else [32, 115, 104, 117, 116, 59]).length = 6 by split <;> rfl, show ([115, 97, 99, 107, 32, nI (97 + j), 32] : List Int32).length = 7 from rfl, show ([32] : List Int32).length = 1 from rfl]
  omega)
theorem acc_2 {z a : List Int32} {x : Int32} {D D2 E : List Int32} : ((((((((z ++ a) ++ [115, 97, 99, 107, 32]) ++ [x]) ++ [32]) ++ D) ++ [32]) ++ D2) ++ E) = z ++ (a ++ ([115, 97, 99, 107, 32, x, 32] ++ (D ++ ([32] ++ (D2 ++ E))))) := by simp
set_option maxRecDepth 100000 in
set_option maxHeartbeats 16000000 in
theorem lw_sacks (X : gX p s m #[.ref b] c cL_law 11 RL (kR kTab kA)) (hb1 : s.heap.size ≤ b2) (hL : L ≤ 260) (hXs : va_X b L xs s s.heap) (hbl : b < s.heap.size) (ct : ∀ (H : Heap) (locs : List Loc) (ls : Array Slot) (cl sl : Nat) (X1 : NW) (kk ar : Nat → Nat) (el : Nat → Nat → Nat) (pS : Nat → Nat), LWP dC dI cg kA b1 b2 S cA dO dT eA iA X1 s H → va_S (fun q => s.heap.size ≤ q) s.heap H locs → Inv cg b2 eA (accT (catT (dSp L xs) (dLf L xs)) (dNc L xs) ++ accT (sackT (dGr L xs) (dMi L xs) (dOp L xs)) (dNs L xs)) (grR b2 .null 0 0 0 0) kk ar el (dNc L xs) pC (catR L xs) (dNs L xs) pS (sackR L xs) X1 → kk 1 = dNc L xs → kk 2 = 0 → kk 3 = (dNs L xs) → kk 4 = 0 → (∀ j, j < dNc L xs → el 1 j = b2 + pC j) → (∀ j, j < (dNs L xs) → el 3 j = b2 + pS j) → lv_has ls 11 [(7, .int (nI (dNs L xs))), (6, .int (nI (dNs L xs))), (0, .ref b), (1, .ref (caOf b1 0)), (2, .ref (b2 + 0)), (3, .int (cellV L xs 0)), (4, .ref (b2 + 5)), (5, .int (nI (dNc L xs)))] → cl ≤ 20000 → sl ≤ 400000 → W p l e room_1 s m #[.ref b] below meth c H locs cl sl Q (F0 m 350 ls [])) : ∀ (r k : Nat) (H : Heap) (locs : List Loc) (ls : Array Slot) (cl sl : Nat) (X1 : NW) (kk ar : Nat → Nat) (el : Nat → Nat → Nat) (pS : Nat → Nat), dNs L xs = k + r → LWP dC dI cg kA b1 b2 S cA dO dT eA iA X1 s H → va_S (fun q => s.heap.size ≤ q) s.heap H locs → Inv cg b2 eA (accT (catT (dSp L xs) (dLf L xs)) (dNc L xs) ++ accT (sackT (dGr L xs) (dMi L xs) (dOp L xs)) k) (grR b2 .null 0 0 0 0) kk ar el (dNc L xs) pC (catR L xs) k pS (sackR L xs) X1 → kk 1 = dNc L xs → kk 2 = 0 → kk 3 = k → kk 4 = 0 → (∀ j, j < dNc L xs → el 1 j = b2 + pC j) → (∀ j, j < k → el 3 j = b2 + pS j) → lv_has ls 11 [(7, .int (nI k)), (6, .int (nI (dNs L xs))), (0, .ref b), (1, .ref (caOf b1 0)), (2, .ref (b2 + 0)), (3, .int (cellV L xs 0)), (4, .ref (b2 + 5)), (5, .int (nI (dNc L xs)))] → cl + 20 * r ≤ 20000 → sl + 5000 * r ≤ 400000 → W p l e room_1 s m #[.ref b] below meth c H locs cl sl Q (F0 m 190 ls []) := by
  have hx := X.hx
  have hb := X.hb
  have hnc : dNc L xs ≤ 4 := by
    have := (bN_2 (x := cellV L xs 0) (a := 0)).1
    unfold dNc
    omega
  have hns : dNs L xs ≤ 4 := by
    have := (bN_2 (x := cellV L xs 0) (a := 2)).1
    unfold dNs
    omega
  have hlc := lenC (L := L) (xs := xs) (dNc L xs)
  intro r
  induction r with
  | zero =>
    intro k H locs ls cl sl X1 kk ar el pS hk hP hV hI h1 h2 h3 h4 h5 h6 hl hc1 hc2
    have hk : dNs L xs = k := hk
    subst hk
    refine lv_iload hx hb dL_law_190 (lv_at hl 0 rfl) ?_
    refine lv_iload hx hb dL_law_192 (lv_at hl 1 rfl) ?_
    refine lv_icmp_ge (tgt := 350) hx hb dL_law_194 (by decide) (fun _ => ?_) (fun c1 => absurd (Int32.le_refl _) c1)
    exact ct H locs ls cl sl X1 kk ar el pS hP hV hI h1 h2 h3 h4 h5 h6 hl (by omega) (by omega)
  | succ r ih =>
    intro k H locs ls cl sl X1 kk ar el pS hk hP hV hI h1 h2 h3 h4 h5 h6 hl hc1 hc2
    obtain ⟨n, w⟩ := X1
    have hkc : k < dNs L xs := by omega
    have hlen := lenS (L := L) (xs := xs) k
    have hd1 := (dgL_len (v := dGr L xs k)).2
    have hd2 := (dgL_len (v := dMi L xs k)).2
    have hn0 : s.heap.size ≤ b2 + n := by omega
    have hlf := dOp_b (L := L) (xs := xs) (k := k)
    refine lv_iload hx hb dL_law_190 (lv_at hl 0 rfl) ?_
    refine lv_iload hx hb dL_law_192 (lv_at hl 1 rfl) ?_
    refine lv_icmp_ge (tgt := 350) hx hb dL_law_194 (by decide) (fun c1 => absurd c1 (fun z => absurd (nI_lt hkc (by omega)) (lt_le.mpr z))) (fun _ => ?_)
    refine lv_aload_n hx hb dL_law_197 rfl (lv_at hl 2 rfl) ?_
    refine lv_iconst (v := 5) hx hb dL_law_198 (by decide) ?_
    refine lv_iload hx hb dL_law_199 (lv_at hl 0 rfl) ?_
    refine lv_iadd hx hb dL_law_201 ?_
    rw [show (5 + (nI k) : Int32) = nI (5 + k) from nI_add 5 k]
    refine lw_cell (k := 5 + k) X hL hXs hbl hV (by omega) hl.1 (Nat.le_of_ble_eq_true rfl) ⟨by omega, by omega⟩ dL_law_202 ?_
    refine lv_istore (lv' := [(8, .int (cellV L xs (5 + k))), (7, .int (nI k)), (6, .int (nI (dNs L xs))), (0, .ref b), (1, .ref (caOf b1 0)), (2, .ref (b2 + 0)), (3, .int (cellV L xs 0)), (4, .ref (b2 + 5)), (5, .int (nI (dNc L xs)))]) hx hb dL_law_205 hl (by decide) rfl (fun ls hl => ?_)
    refine nF_new (ci := 18) (tyT := tyX13) [.int 0, .int 0, .int 0, .int 0, .int 0] X FF_fs hP hV cinX13 tyX13_ok tw945 tw946 tw29 rfl (fun j hj => by rcases (show j = 0 ∨ j = 1 ∨ j = 2 ∨ j = 3 ∨ j = 4 by omega) with rfl | rfl | rfl | rfl | rfl <;> rfl) ⟨Nat.le_trans (show _ ≤ 200000 by omega) rmC, Nat.le_trans (show _ ≤ 2000000 by omega) rmS⟩ dL_law_207 (fun H hP hV => ?_)
    refine lv_dup hx hb dL_law_210 rfl ?_
    refine gCallCN X (gF_ok nOK FF_fs) ((vX13_new (dC := dC) (dI := dI) (cg := cg) (kA := kA) (bs := b2) (a := b2 + n) (S := (n + 1, va_up w n (.inr (18, [.int 0, .int 0, .int 0, .int 0, .int 0]))))).lift FF_fs) ⟨va_cnB 0 X.hts (wT_good tw949) rfl rfl rfl (X.ks.2.1 _ xw947) (X.hts _ tw29) ⟨by decide, by decide, by decide +kernel⟩ ⟨(Nat.le_of_ble_eq_true rfl), (Nat.le_of_ble_eq_true rfl)⟩, rfl, X.hts _ tw948⟩ rfl hP hV (lw_hA hb1 hV.1) hl.1 (Nat.le_of_ble_eq_true rfl) ⟨Nat.le_trans (show _ ≤ 200000 by omega) rmC, Nat.le_trans (show _ ≤ 2000000 by omega) rmS⟩ dL_law_211 (As := []) (rest := [.ref (b2 + n)]) rfl (fun H locs hP hV => ?_)
    refine lv_astore (lv' := [(9, .ref (b2 + n)), (8, .int (cellV L xs (5 + k))), (7, .int (nI k)), (6, .int (nI (dNs L xs))), (0, .ref b), (1, .ref (caOf b1 0)), (2, .ref (b2 + 0)), (3, .int (cellV L xs 0)), (4, .ref (b2 + 5)), (5, .int (nI (dNc L xs)))]) hx hb dL_law_214 hl (by decide) rfl (fun ls hl => ?_)
    refine lv_aload hx hb dL_law_216 (lv_at hl 0 rfl) ?_
    refine lv_iload hx hb dL_law_218 (lv_at hl 2 rfl) ?_
    refine nF_putN (k := 0) (fs := [.int 0, .int 0, .int 0, .int 0, .int 0]) X FF_fs hP hV (show s.heap.size ≤ _ by omega) ⟨Nat.lt_succ_self n, vat⟩ (rfl : vwCl[18]? = some (RX13, TX13, 5)) cinX13 tyX13_ok nmX13 (by decide) rfl rfl rfl rfl (Nat.le_of_ble_eq_true rfl) xw952 dL_law_220 (fun H locs hP hV => ?_)
    rw [up_up] at hP
    refine lv_aload hx hb dL_law_223 (lv_at hl 0 rfl) ?_
    refine lv_iload hx hb dL_law_225 (lv_at hl 1 rfl) ?_
    refine lv_iconst (v := 0) hx hb dL_law_227 (by decide) ?_
    refine lv_bipush (v := 7) hx hb dL_law_228 (by decide) ?_
    refine lw_bits X hl.1 (Nat.le_of_ble_eq_true rfl) ⟨by omega, by omega⟩ dL_law_230 ?_
    rw [(bN_7 (x := cellV L xs (5 + k)) (a := 0)).2]
    refine nF_putN (k := 1) (fs := [.int (nI k), .int 0, .int 0, .int 0, .int 0]) X FF_fs hP hV (show s.heap.size ≤ _ by omega) ⟨Nat.lt_succ_self n, vat⟩ (rfl : vwCl[18]? = some (RX13, TX13, 5)) cinX13 tyX13_ok nmX13 (by decide) rfl rfl rfl rfl (Nat.le_of_ble_eq_true rfl) xw954 dL_law_233 (fun H locs hP hV => ?_)
    rw [up_up] at hP
    refine lv_aload hx hb dL_law_236 (lv_at hl 0 rfl) ?_
    refine lv_iload hx hb dL_law_238 (lv_at hl 1 rfl) ?_
    refine lv_bipush (v := 7) hx hb dL_law_240 (by decide) ?_
    refine lv_bipush (v := 6) hx hb dL_law_242 (by decide) ?_
    refine lw_bits X hl.1 (Nat.le_of_ble_eq_true rfl) ⟨by omega, by omega⟩ dL_law_244 ?_
    rw [(bN_6 (x := cellV L xs (5 + k)) (a := 7)).2]
    refine nF_putN (k := 2) (fs := [.int (nI k), .int (nI (dGr L xs k)), .int 0, .int 0, .int 0]) X FF_fs hP hV (show s.heap.size ≤ _ by omega) ⟨Nat.lt_succ_self n, vat⟩ (rfl : vwCl[18]? = some (RX13, TX13, 5)) cinX13 tyX13_ok nmX13 (by decide) rfl rfl rfl rfl (Nat.le_of_ble_eq_true rfl) xw956 dL_law_247 (fun H locs hP hV => ?_)
    rw [up_up] at hP
    refine lv_aload hx hb dL_law_250 (lv_at hl 0 rfl) ?_
    refine lv_iload hx hb dL_law_252 (lv_at hl 1 rfl) ?_
    refine lv_bipush (v := 13) hx hb dL_law_254 (by decide) ?_
    refine lv_iconst (v := 2) hx hb dL_law_256 (by decide) ?_
    refine lw_bits X hl.1 (Nat.le_of_ble_eq_true rfl) ⟨by omega, by omega⟩ dL_law_257 ?_
    rw [(bN_2 (x := cellV L xs (5 + k)) (a := 13)).2]
    have last : W p l e room_1 s m #[.ref b] below meth c H locs (cl + 1 + 0) (sl + 5 + 0) Q (F0 m 268 ls (.int (dOp L xs k) :: .ref (b2 + n) :: [])) := by
      refine nF_putN (k := 4) (fs := [.int (nI k), .int (nI (dGr L xs k)), .int (nI (dMi L xs k)), .int 0, .int 0]) X FF_fs hP hV (show s.heap.size ≤ _ by omega) ⟨Nat.lt_succ_self n, vat⟩ (rfl : vwCl[18]? = some (RX13, TX13, 5)) cinX13 tyX13_ok nmX13 (by decide) rfl rfl (by rcases hlf with e | e <;> rw [e] <;> decide +kernel) (by rcases hlf with e | e <;> rw [e] <;> decide +kernel) (Nat.le_of_ble_eq_true rfl) xw960 dL_law_268 (fun H locs hP hV => ?_)
      rw [up_up] at hP
      have hP : LWP dC dI cg kA b1 b2 S cA dO dT eA iA (n + 1, va_up w n (.inr (18, sackR L xs k))) s H := hP
      have hI := hI.sack (r := sackR L xs k) rfl
      have hI : Inv cg b2 eA (accT (catT (dSp L xs) (dLf L xs)) (dNc L xs) ++ accT (sackT (dGr L xs) (dMi L xs) (dOp L xs)) k) (grR b2 .null 0 0 0 0) kk ar el (dNc L xs) pC (catR L xs) (k + 1) (va_up pS k n) (sackR L xs) (n + 1, va_up w n (.inr (18, sackR L xs k))) := hI
      have hoc : At (n + 1, va_up w n (.inr (18, sackR L xs k))) n (.inr (18, sackR L xs k)) := ⟨Nat.lt_succ_self n, vat⟩
      refine lv_aload_n hx hb dL_law_271 rfl (lv_at hl 6 rfl) ?_
      refine nw_getN (k := 2) X hP.1 hI.1 rfl (rfl : vwCl[17]? = some (RX12, TX12, 15)) cinX12 (by decide) rfl xw885 dL_law_272 ?_
      refine lv_aload hx hb dL_law_275 (lv_at hl 0 rfl) ?_
      refine lw_add (d := 3) X hb1 hP hV hI ⟨by omega, by omega⟩ (by omega) (rfl : vwCl[18]? = some (RX13, TX13, 5)) xw1610 (lw_elO hI ⟨by omega, by omega⟩ hoc (by decide)) hl.1 (Nat.le_of_ble_eq_true rfl) ⟨by omega, by omega⟩ dL_law_277 (fun H locs X1 a1 hP hV hI => ?_)
      rw [h3] at hI
      clear hoc
      obtain ⟨n2, w2⟩ := X1
      refine lv_pop hx hb dL_law_282 rfl ?_
      refine lv_aload hx hb dL_law_283 (lv_at hl 8 rfl) ?_
      refine va_ldcS hx hb X.hown (kRat X.ks 19 rfl) dL_law_285 ?_
      refine lw_appS (i := 19) (q := ("GranaryWatchLaw", 244, "sack ", [115, 97, 99, 107, 32])) X hb1 hP hV hI rfl (by simp only [List.length_append, List.length_cons, List.length_nil]; omega) (Nat.le_of_ble_eq_true rfl) hl.1 (Nat.le_of_ble_eq_true rfl) ⟨by omega, by omega⟩ dL_law_287 (fun H locs X1 hP hV hI => ?_)
      obtain ⟨n2, w2⟩ := X1
      refine lv_bipush (v := 97) hx hb dL_law_290 (by decide) ?_
      refine lv_iload hx hb dL_law_292 (lv_at hl 2 rfl) ?_
      refine lv_iadd hx hb dL_law_294 ?_
      rw [show (97 + (nI k) : Int32) = nI (97 + k) from nI_add 97 k]
      refine lv_i2c hx hb dL_law_295 (asc_b ⟨⟨97 + k, by omega⟩, rfl⟩).2.2.2 ?_
      refine lw_appC X hb1 hP hV hI ⟨⟨97 + k, by omega⟩, rfl⟩ (by simp only [List.length_append, List.length_cons, List.length_nil]; omega) hl.1 (Nat.le_of_ble_eq_true rfl) ⟨by omega, by omega⟩ dL_law_296 (fun H locs X1 hP hV hI => ?_)
      obtain ⟨n2, w2⟩ := X1
      refine lv_bipush (v := 32) hx hb dL_law_299 (by decide) ?_
      refine lw_appC X hb1 hP hV hI ⟨⟨32, by omega⟩, rfl⟩ (by simp only [List.length_append, List.length_cons, List.length_nil]; omega) hl.1 (Nat.le_of_ble_eq_true rfl) ⟨by omega, by omega⟩ dL_law_301 (fun H locs X1 hP hV hI => ?_)
      obtain ⟨n2, w2⟩ := X1
      refine lv_aload hx hb dL_law_304 (lv_at hl 0 rfl) ?_
      have hc := hI.2.2.2.2.2 k (by omega)
      rw [vat] at hc
      refine nw_getN (k := 1) X hP.1 hc rfl (rfl : vwCl[18]? = some (RX13, TX13, 5)) cinX13 (by decide) rfl xw954 dL_law_306 ?_
      refine lw_appI X hb1 hP hV hI (show bN (cellV L xs (5 + k)) 0 7 < 128 from (bN_7 (x := cellV L xs (5 + k)) (a := 0)).1) (by simp only [List.length_append, List.length_cons, List.length_nil]; omega) hl.1 (Nat.le_of_ble_eq_true rfl) ⟨by omega, by omega⟩ dL_law_309 (fun H locs X1 hP hV hI => ?_)
      obtain ⟨n2, w2⟩ := X1
      refine lv_bipush (v := 32) hx hb dL_law_312 (by decide) ?_
      refine lw_appC X hb1 hP hV hI ⟨⟨32, by omega⟩, rfl⟩ (by simp only [List.length_append, List.length_cons, List.length_nil]; omega) hl.1 (Nat.le_of_ble_eq_true rfl) ⟨by omega, by omega⟩ dL_law_314 (fun H locs X1 hP hV hI => ?_)
      obtain ⟨n2, w2⟩ := X1
      refine lv_aload hx hb dL_law_317 (lv_at hl 0 rfl) ?_
      have hc := hI.2.2.2.2.2 k (by omega)
      rw [vat] at hc
      refine nw_getN (k := 2) X hP.1 hc rfl (rfl : vwCl[18]? = some (RX13, TX13, 5)) cinX13 (by decide) rfl xw956 dL_law_319 ?_
      refine lw_appI X hb1 hP hV hI (show bN (cellV L xs (5 + k)) 7 6 < 128 from Nat.lt_trans (bN_6 (x := cellV L xs (5 + k)) (a := 7)).1 (by omega)) (by simp only [List.length_append, List.length_cons, List.length_nil]; omega) hl.1 (Nat.le_of_ble_eq_true rfl) ⟨by omega, by omega⟩ dL_law_322 (fun H locs X1 hP hV hI => ?_)
      obtain ⟨n2, w2⟩ := X1
      refine lv_aload hx hb dL_law_325 (lv_at hl 0 rfl) ?_
      have hc := hI.2.2.2.2.2 k (by omega)
      rw [vat] at hc
      refine nw_getN (k := 4) X hP.1 hc rfl (rfl : vwCl[18]? = some (RX13, TX13, 5)) cinX13 (by decide) rfl xw960 dL_law_327 ?_
      rcases hlf with e | e
      · refine lv_if_eq (tgt := 338) hx hb dL_law_330 (by decide) (fun _ => ?_) (fun c1 => absurd (e) c1)
        refine va_ldcS hx hb X.hown (kRat X.ks 21 rfl) dL_law_338 ?_
        refine lw_appS (i := 21) (q := ("GranaryWatchLaw", 248, " shut;", [32, 115, 104, 117, 116, 59])) X hb1 hP hV hI rfl (by simp only [List.length_append, List.length_cons, List.length_nil]; omega) (Nat.le_of_ble_eq_true rfl) hl.1 (Nat.le_of_ble_eq_true rfl) ⟨by omega, by omega⟩ dL_law_340 (fun H locs X1 hP hV hI => ?_)
        obtain ⟨n2, w2⟩ := X1
        refine lv_pop hx hb dL_law_343 rfl ?_
        refine lv_iinc (v := (nI k) + 1) (lv' := [(7, .int ((nI k) + 1)), (9, .ref (b2 + n)), (8, .int (cellV L xs (5 + k))), (6, .int (nI (dNs L xs))), (0, .ref b), (1, .ref (caOf b1 0)), (2, .ref (b2 + 0)), (3, .int (cellV L xs 0)), (4, .ref (b2 + 5)), (5, .int (nI (dNc L xs)))]) hx hb dL_law_344 hl (k := 2) rfl (by rfl) (by decide) rfl (fun ls hl => ?_)
        rw [show (nI k : Int32) + 1 = nI (k + 1) from nI_add k 1] at hl
        refine lv_goto (tgt := 190) hx hb dL_law_347 (by decide) ?_
        have e2 : sackT (dGr L xs) (dMi L xs) (dOp L xs) k = [115, 97, 99, 107, 32, nI (97 + k), 32] ++ (dgL (dGr L xs k) ++ ([32] ++ (dgL (dMi L xs k) ++ [32, 115, 104, 117, 116, 59]))) := by
          unfold sackT
          rw [if_neg (by rw [e]; decide)]
        have hI2 : Inv cg b2 eA (accT (catT (dSp L xs) (dLf L xs)) (dNc L xs) ++ accT (sackT (dGr L xs) (dMi L xs) (dOp L xs)) (k + 1)) (grR b2 .null 0 0 0 0) (va_up kk 3 (k + 1)) (va_up ar 3 a1) (va_up el 3 (va_up (el 3) k (b2 + n))) (dNc L xs) pC (catR L xs) (k + 1) (va_up pS k n) (sackR L xs) (n2, w2) := by
          show Inv cg b2 eA (accT (catT (dSp L xs) (dLf L xs)) (dNc L xs) ++ (accT (sackT (dGr L xs) (dMi L xs) (dOp L xs)) k ++ sackT (dGr L xs) (dMi L xs) (dOp L xs) k)) _ _ _ _ _ _ _ _ _ _ _
          rw [e2, ← acc_2]
          exact hI
        refine ih (k + 1) H locs ls _ _ (n2, w2) _ _ _ _ (by omega) hP hV hI2 ((vne (by omega)).trans h1) ((vne (by omega)).trans h2) vat ((vne (by omega)).trans h4) (fun j hj => ?_) (fun j hj => ?_) (lv_sub hl [0, 3, 4, 5, 6, 7, 8, 9] rfl) (by omega) (by omega)
        · rw [vne (by omega)]; exact h5 j hj
        · rw [vat]
          by_cases hjk : j = k
          · subst hjk; rw [vat, vat]
          · rw [vne hjk, vne hjk]; exact h6 j (by omega)
      · refine lv_if_eq (tgt := 338) hx hb dL_law_330 (by decide) (fun c1 => absurd c1 (fun z => absurd (e.symm.trans z) (by decide))) (fun _ => ?_)
        refine va_ldcS hx hb X.hown (kRat X.ks 20 rfl) dL_law_333 ?_
        refine lv_goto (tgt := 340) hx hb dL_law_335 (by decide) ?_
        refine lw_appS (i := 20) (q := ("GranaryWatchLaw", 246, " open;", [32, 111, 112, 101, 110, 59])) X hb1 hP hV hI rfl (by simp only [List.length_append, List.length_cons, List.length_nil]; omega) (Nat.le_of_ble_eq_true rfl) hl.1 (Nat.le_of_ble_eq_true rfl) ⟨by omega, by omega⟩ dL_law_340 (fun H locs X1 hP hV hI => ?_)
        obtain ⟨n2, w2⟩ := X1
        refine lv_pop hx hb dL_law_343 rfl ?_
        refine lv_iinc (v := (nI k) + 1) (lv' := [(7, .int ((nI k) + 1)), (9, .ref (b2 + n)), (8, .int (cellV L xs (5 + k))), (6, .int (nI (dNs L xs))), (0, .ref b), (1, .ref (caOf b1 0)), (2, .ref (b2 + 0)), (3, .int (cellV L xs 0)), (4, .ref (b2 + 5)), (5, .int (nI (dNc L xs)))]) hx hb dL_law_344 hl (k := 2) rfl (by rfl) (by decide) rfl (fun ls hl => ?_)
        rw [show (nI k : Int32) + 1 = nI (k + 1) from nI_add k 1] at hl
        refine lv_goto (tgt := 190) hx hb dL_law_347 (by decide) ?_
        have e2 : sackT (dGr L xs) (dMi L xs) (dOp L xs) k = [115, 97, 99, 107, 32, nI (97 + k), 32] ++ (dgL (dGr L xs k) ++ ([32] ++ (dgL (dMi L xs k) ++ [32, 111, 112, 101, 110, 59]))) := by
          unfold sackT
          rw [if_pos e]
        have hI2 : Inv cg b2 eA (accT (catT (dSp L xs) (dLf L xs)) (dNc L xs) ++ accT (sackT (dGr L xs) (dMi L xs) (dOp L xs)) (k + 1)) (grR b2 .null 0 0 0 0) (va_up kk 3 (k + 1)) (va_up ar 3 a1) (va_up el 3 (va_up (el 3) k (b2 + n))) (dNc L xs) pC (catR L xs) (k + 1) (va_up pS k n) (sackR L xs) (n2, w2) := by
          show Inv cg b2 eA (accT (catT (dSp L xs) (dLf L xs)) (dNc L xs) ++ (accT (sackT (dGr L xs) (dMi L xs) (dOp L xs)) k ++ sackT (dGr L xs) (dMi L xs) (dOp L xs) k)) _ _ _ _ _ _ _ _ _ _ _
          rw [e2, ← acc_2]
          exact hI
        refine ih (k + 1) H locs ls _ _ (n2, w2) _ _ _ _ (by omega) hP hV hI2 ((vne (by omega)).trans h1) ((vne (by omega)).trans h2) vat ((vne (by omega)).trans h4) (fun j hj => ?_) (fun j hj => ?_) (lv_sub hl [0, 3, 4, 5, 6, 7, 8, 9] rfl) (by omega) (by omega)
        · rw [vne (by omega)]; exact h5 j hj
        · rw [vat]
          by_cases hjk : j = k
          · subst hjk; rw [vat, vat]
          · rw [vne hjk, vne hjk]; exact h6 j (by omega)
    refine lv_if_le (tgt := 267) hx hb dL_law_260 (by decide) (fun c1 => ?_) (fun c1 => ?_)
    · have e : dOp L xs k = 0 := by
        unfold dOp
        exact if_neg (fun z => lt_le.mpr c1 (nI_lt (a := 0) z (by have := (bN_2 (x := cellV L xs (5 + k)) (a := 13)).1; omega)))
      refine lv_iconst (v := 0) hx hb dL_law_267 (by decide) ?_
      rw [e] at last
      exact last
    · have e : dOp L xs k = 1 := by
        unfold dOp
        refine if_pos (Nat.pos_of_ne_zero (fun z => c1 ?_))
        rw [z]
        exact Int32.le_refl _
      refine lv_iconst (v := 1) hx hb dL_law_263 (by decide) ?_
      refine lv_goto (tgt := 268) hx hb dL_law_264 (by decide) ?_
      rw [e] at last
      exact last
end LAWS
