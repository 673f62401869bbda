theorem tw978 : (Jvm.Cond.methodLink "GranaryWatchLaw" (279 : Nat) ({ cls := "GranaryWatchLaw", name := "told", desc := "(LGranaryWatch;Ljava/lang/String;)V" } : Jvm.MethodName)) ∈ TBG := tb_t 978 (by decide +kernel) (by decide +kernel)
theorem tw979 : (Jvm.Cond.static ({ cls := "GranaryWatchLaw", name := "told", desc := "(LGranaryWatch;Ljava/lang/String;)V" } : Jvm.MethodName)) ∈ TBG := tb_t 979 (by decide +kernel) (by decide +kernel)
theorem tw980 : (Jvm.Cond.code ({ cls := "GranaryWatchLaw", name := "told", desc := "(LGranaryWatch;Ljava/lang/String;)V" } : Jvm.MethodName) method_4_code (5 : Nat) (Option.none : Option Jvm.ClassFile.FieldType)) ∈ TBG := tb_t 980 (by decide +kernel) (by decide +kernel)
/-! the text told; from there law_590 -/
section KTOLD
variable {p : Program} {l : Launch} {e : Env} {s : State} {m : MethodId} {below : List Frame} {meth : Method} {c : Code} {H : Heap} {locs : List Loc} {cl sl : Nat} {Q : State → Prop}
variable {pc : Nat} {ls : Array Slot} {rest : List Value} {dC : Nat → ClassId} {dI : Nat → Nat → Nat} {cg : Nat → ClassId} {kA : String → Nat → Nat} {b b1 b2 L n : Nat} {xs : Nat → Int32} {w : Nat → va_E} {S : CS} {cA dO dT eA : Nat} {iA : Nat → Nat}
variable {t : List Int32} {gfs : List Value} {kk ar : Nat → Nat} {el : Nat → Nat → Nat} {kc ks : Nat} {pC pS : Nat → Nat} {cR sR : Nat → List Value}
variable {M : MS} {X : NW}
theorem Inv.mono {bs : Nat} {X' : NW} (h : Inv cg bs eA t gfs kk ar el kc pC cR ks pS sR X) (hz : X.1 ≤ X'.1) (hk : ∀ q, q < X.1 → X'.2 q = X.2 q) : Inv cg bs eA t gfs kk ar el kc pC cR ks pS sR X' := by
  have m : ∀ {p r'}, At X p r' → At X' p r' := fun {p r'} z => ⟨Nat.lt_of_lt_of_le z.1 hz, (hk p z.1).trans z.2⟩
  obtain ⟨h0, h1, h2, h3, h4, h5⟩ := h
  exact ⟨m h0, h1.mv (fun _ _ _ => m) (fun _ _ _ => m), fun d d1 d2 => (h2 d d1 d2).mv (fun _ => m) (fun _ _ => m), h3, fun j hj => m (h4 j hj), fun j hj => m (h5 j hj)⟩
theorem gs_told : GoodIn TBG (va_wsS RL 279 yL_told (wT yL_told cL_told 5 none)) := gT_S tw978 tw979 tw0 tw980
theorem hd_told : yL_told.cls = RL ∧ yL_told.cls ≠ "java/lang/invoke/MethodHandle" ∧ yL_told.cls ≠ "java/lang/invoke/VarHandle" ∧ (parseMethodDescriptor yL_told.desc).map (fun d => d.parameters.length) = some 2 := ⟨rfl, by decide +kernel, by decide +kernel, by decide +kernel⟩
theorem asc_n {x : Int32} (h : ∃ q : Fin 128, x = Int32.ofNat q.val) : x.toNatClampNeg < 128 ∧ x = nI x.toNatClampNeg := by
  obtain ⟨q, rfl⟩ := h
  have e : (Int32.ofNat q.val).toNatClampNeg = q.val := nI_c (by omega)
  rw [e]
  exact ⟨q.isLt, rfl⟩
set_option maxRecDepth 100000 in
set_option maxHeartbeats 16000000 in
theorem lw_last (X : gX p s m #[.ref b] c cL_law 11 RL (kR kTab kA)) (hb1 : s.heap.size ≤ b2) (hL : L ≤ 260) (hXs : va_X b L xs s s.heap) (hbl : b < s.heap.size) (h12 : b1 + 433 ≤ b2) (hs1 : s.heap.size ≤ b1) (hr' : meth.sig.returnType = ret) (hlocks : meth.locks = false) (rel : Rel S M) (h9 : M.1 9 = nI 0) (H : Heap) (locs : List Loc) (ls : Array Slot) (cl sl : Nat) (X1 : NW) (kk ar : Nat → Nat) (el : Nat → Nat → Nat) (hP : LWP dC dI cg kA b1 b2 S cA dO dT eA iA X1 s H) (hV : va_S (fun q => s.heap.size ≤ q) s.heap H locs) (hI : Inv cg b2 eA (setX L xs) (grR b2 (.ref (b2 + pC (dCc L xs 0))) (nI (dHk L xs)) (nI (dMl L xs)) (nI (dHr L xs 0)) 1) kk ar el (dNc L xs) pC (catF L xs) (dNs L xs) pS (sackR L xs) X1) (h1 : kk 1 = dNc L xs) (h2 : kk 2 = dNh L xs) (h3 : kk 3 = dNs L xs) (h4 : kk 4 = dNh L xs) (h5 : ∀ j, j < dNc L xs → el 1 j = b2 + pC j) (h6 : ∀ j, j < dNs L xs → el 3 j = b2 + pS j) (h7 : ∀ j, j < dNh L xs → el 2 j = b2 + pC (dCc L xs j) ∧ el 4 j = iA (dHr L xs j)) (hl : lv_has ls 11 [(0, .ref b), (1, .ref (caOf b1 0)), (2, .ref (b2 + 0)), (4, .ref (b2 + 5)), (5, .int (nI (dNc L xs)))]) (hc1 : cl ≤ 45000) (hc2 : sl ≤ 810000) : W p l e room_1 s m #[.ref b] below meth c H locs cl sl (lw_Z below #[.ref b] s) (F0 m 581 ls []) := by
  have hx := X.hx
  have hb := X.hb
  obtain ⟨n, w⟩ := X1
  obtain ⟨k0, NN, ff, mm, -, -, -, hNN, -⟩ := id hI.2.1
  have hlen : (setX L xs).length ≤ 500 := by omega
  obtain ⟨g, X2, e1, e2, e3, e4, e5, hM⟩ := vN4_toString (l := l) (dC := dC) (dI := dI) (kA := kA) hI.2.1
  obtain ⟨n2, w2⟩ := X2
  have e1 : n2 = n + 2 := e1
  subst e1
  obtain ⟨a1, m1, c1, hrow⟩ := hI.2.1.row
  refine lv_aload_n hx hb dL_law_581 rfl (lv_at hl 1 rfl) ?_
  refine lv_aload hx hb dL_law_582 (lv_at hl 3 rfl) ?_
  refine gCallWO X (gF_ok nOK FF_fs) (fun _ _ _ _ _ h => h) (hM.lift (FF_fs (b1 := b1) (dC := dC) (dI := dI) (cg := cg) (kA := kA) (S := S) (cA := cA) (dO := dO) (dT := dT) (eA := eA) (iA := iA))) (cwV 0 X.hts gs_tos rfl rfl rfl hd_tos ⟨(Nat.le_of_ble_eq_true rfl), (Nat.le_of_ble_eq_true rfl)⟩) rfl hP hV (lw_hA hb1 hV.1) (va_recv hP.1.2.2.1 (cwo (hP.1.row hrow)) (q0 := 0) (rfl : vwCl[1]? = some (RJ4, TJ4, 4)) rfl) hl.1 (Nat.le_of_ble_eq_true rfl) ⟨Nat.le_trans (show _ ≤ 200000 by omega) rmC, Nat.le_trans (show _ ≤ 2000000 by omega) rmS⟩ dL_law_584 (As := []) (rest := [.ref (caOf b1 0)]) rfl (fun H locs a hP hB hV => ?_)
  have hB : a = b2 + n := hB
  subst hB
  have hI2 := hI.mono (X' := (n + 2, w2)) (by show n ≤ n + 2; omega) e2
  have nc : ∀ q, b2 ≤ q → ¬ cΩ (caOf b1) q := fun q hq z => by
    have := cΩ_in z
    omega
  have hst : strAt (b2 + n) (setX L xs) (cΩ (caOf b1)) s H := nP.str X.hts hP.1 (a := n) (v := n + 1) ⟨by omega, e3⟩ ⟨by omega, e4⟩ hI.2.1.ascT (by omega) e5 (nc _ (by omega)) (nc _ (by omega))
  have hkE : kE kTab kA (fun q => b1 ≤ q) s H := hP.2.1.1.2.2.2
  have hW : tW dC dI cg kA b1 (b2 + n) (setX L xs) S s H := ⟨cB_to hP.2.1.1, hst, hkE⟩
  have hLP := hI2.toL (iA := iA) h12 hP.1 hkE hP.2.2.1.2.2.2.1 h1 h2 h3 h4 h5 h6 h7
  have hs : lS b1 (laP b2 ar pC pS) (drC (dNc L xs) (dNs L xs) (dNh L xs) (dCc L xs) (dHr L xs)) := fun p hp => by
    show b1 + 433 ≤ b2 + _
    omega
  have hasc := asc_T hI.2.1.ascT
  obtain ⟨S1, ans, S', M', htd, htr, rel', h9', hb'⟩ := f_told (t := fun j => ((setX L xs).getD j 0).toNatClampNeg) (N := (setX L xs).length) (fun j => (asc_n (hasc j)).1) (by omega) rel h9
  have hA : ∀ q, Fr (cΩ (caOf b1)) H.size q → s.heap.size ≤ q := fun q z => z.elim (fun z => Nat.le_trans hs1 (cΩ_in z).1) (fun z => Nat.le_trans hV.1 z)
  refine gCallTV X (gF_ok tW_ok (lP_fsC hs)) ((vL_told (l := l) (dC := dC) (dI := dI) (cg := cg) (kA := kA) (b1 := b1) (a := b2 + n) (T := setX L xs) rfl (by omega) (fun j => (asc_n (hasc j)).1) (fun j _ => (asc_n (hasc j)).2) htd htr).lift (lP_fsC hs)) (va_cwS 2 X.hts gs_told rfl rfl rfl hd_told.2 ⟨(Nat.le_of_ble_eq_true rfl), (Nat.le_of_ble_eq_true rfl)⟩) rfl ⟨hW, hLP⟩ hV hA hl.1 (Nat.le_of_ble_eq_true rfl) ⟨Nat.le_trans (show _ ≤ 200000 by omega) rmC, Nat.le_trans (show _ ≤ 2000000 by omega) rmS⟩ dL_law_587 (As := [.ref (caOf b1 0), .ref (b2 + n)]) (rest := []) rfl (fun H locs hP hV => ?_)
  have la0 : laP b2 ar pC pS 0 = b2 + 0 := laP_l (by omega)
  rw [← la0] at hl
  exact law_590 hL X hr' hlocks hXs hbl hs1 dDR hs rel' h9' (fun i hi => by rw [Nat.zero_add, hb' i hi]; exact (asc_n (hasc i)).2.symm) vL_WL (fun j hj => (if_neg (by omega)).trans (by rw [Nat.add_sub_cancel_left])) ⟨hP.1.1, hP.2⟩ hV (lv_sub hl [4, 0, 1, 2] rfl) (by omega) (by omega)
theorem ini_9 {M : MS} (eM : fX11_ini iZ = some M) : M.1 9 = 0 := by
  have ec := ini_c
  rw [eM] at ec
  have ec := Option.some.inj ec
  simp only [List.cons.injEq, and_true] at ec
  obtain ⟨m5, m6, m7, m9, m10, m11, m24, w1⟩ := ec
  exact m9
end KTOLD
