theorem tw39 : (Jvm.Cond.classLink "GranaryWatchLaw" (18 : Nat) "GranaryWatch") ∈ TBG := tb_t 39 (by decide +kernel) (by decide +kernel)
theorem tw40 : (Jvm.Cond.instantiable "GranaryWatch" (12 : Nat)) ∈ TBG := tb_t 40 (by decide +kernel) (by decide +kernel)
theorem tw41 : (Jvm.Cond.methodLink "GranaryWatchLaw" (207 : Nat) ({ cls := "GranaryWatch", name := "<init>", desc := "()V" } : Jvm.MethodName)) ∈ TBG := tb_t 41 (by decide +kernel) (by decide +kernel)
theorem tw42 : (Jvm.Cond.instanceMethod ({ cls := "GranaryWatch", name := "<init>", desc := "()V" } : Jvm.MethodName)) ∈ TBG := tb_t 42 (by decide +kernel) (by decide +kernel)
theorem tw43 : (Jvm.Cond.code ({ cls := "GranaryWatch", name := "<init>", desc := "()V" } : Jvm.MethodName) prog_1_method_1_code (2 : Nat) (Option.none : Option Jvm.ClassFile.FieldType)) ∈ TBG := tb_t 43 (by decide +kernel) (by decide +kernel)
theorem tw845 : (Jvm.Cond.classLink "GranaryWatchLaw" (31 : Nat) "GranaryWatchLaw$Granary") ∈ TBG := tb_t 845 (by decide +kernel) (by decide +kernel)
theorem tw846 : (Jvm.Cond.instantiable "GranaryWatchLaw$Granary" (15 : Nat)) ∈ TBG := tb_t 846 (by decide +kernel) (by decide +kernel)
theorem tw848 : (Jvm.Cond.instanceMethod ({ cls := "GranaryWatchLaw$Granary", name := "<init>", desc := "()V" } : Jvm.MethodName)) ∈ TBG := tb_t 848 (by decide +kernel) (by decide +kernel)
theorem tw849 : (Jvm.Cond.code ({ cls := "GranaryWatchLaw$Granary", name := "<init>", desc := "()V" } : Jvm.MethodName) prog_14_method_1_code (1 : Nat) (Option.none : Option Jvm.ClassFile.FieldType)) ∈ TBG := tb_t 849 (by decide +kernel) (by decide +kernel)
theorem tw1445 : (Jvm.Cond.classLink "GranaryWatchLaw" (213 : Nat) "java/lang/StringBuilder") ∈ TBG := tb_t 1445 (by decide +kernel) (by decide +kernel)
theorem tw1446 : (Jvm.Cond.methodLink "GranaryWatchLaw" (215 : Nat) ({ cls := "java/lang/StringBuilder", name := "<init>", desc := "()V" } : Jvm.MethodName)) ∈ TBG := tb_t 1446 (by decide +kernel) (by decide +kernel)
theorem xw847 : (Jvm.Cond.methodLinkNest "GranaryWatchLaw" (208 : Nat) ({ cls := "GranaryWatchLaw$Granary", name := "<init>", desc := "()V" } : Jvm.MethodName) "GranaryWatchLaw") ∈ xws := xt 847 (by decide +kernel) rfl
/-! the law from its entry -/
section BEGIN2
set_option maxRecDepth 100000 in
set_option maxHeartbeats 16000000 in
theorem whole_start0 {p : Program} {e : Env} {s : State} {m : MethodId} {below : List Frame} {meth : Method} {c : Code} (l : Launch) {b L : Nat} {xs : Nat → Int32} (hL : L ≤ 260) (C0 : lw_At p s m meth c b L xs) : W p l e room_1 s m #[Value.ref b] below meth c s.heap [] 0 0 (lw_Z below #[Value.ref b] s) (entryFrame m ([Value.ref b] : List Value).toArray 11) := by
  obtain ⟨hx, hb, hr, hml, hown, hts, hXs, hbl, hlocks, hgv⟩ := id C0
  have hF : ∀ w ∈ FLT, w.before #[Value.ref b] s = true := flat_of_before _ hgv
  obtain ⟨dC, dI, cg, hK⟩ := s_K hts
  obtain ⟨kA, ekA⟩ : ∃ kA, kA = kAt #[Value.ref b] s := ⟨_, rfl⟩
  have hE0 : kE kTab kA (fun q => s.heap.size ≤ q) s s.heap := by
    rw [ekA]
    exact s_kE hF hts (fun a h z => absurd h (Nat.not_lt.mpr z))
  have hKR : kR kTab kA s := by
    rw [ekA]
    exact s_kR hF hts
  have X : gX p s m #[.ref b] c cL_law 11 RL (kR kTab kA) := ⟨hx, hb, hml, hown, fun w hw => hts w (List.mem_filter.mp hw).1, hKR⟩
  obtain ⟨S1, M1, i1, i2, rr, -⟩ := s_ini (S := S0) rfl rfl rfl rfl rfl
  have m9 := ini_9 i2
  have hV : va_S (fun q : Nat => s.heap.size ≤ q) s.heap s.heap [] := va_S.rf
  have hl := lv_entry ([.ref b]) (n := 11) (Nat.le_of_ble_eq_true rfl)
  rw [lg_entry_eq]
  generalize (lg_sl ([.ref b]) ++ List.replicate (11 - (lg_sl ([.ref b])).length) Slot.unset).toArray = ls at hl ⊢
  have hl : lv_has ls 11 [(0, .ref b)] := hl
  obtain ⟨b1, eb1⟩ : ∃ b1, b1 = s.heap.size := ⟨_, rfl⟩
  have hP : nP dC dI cg kA b1 (0, fun _ => .inr (0, [])) s s.heap := ⟨by rw [eb1]; rfl, fun i hi => absurd hi (Nat.not_lt_zero i), hK, by rw [eb1]; exact hE0, s_aOK hts⟩
  refine nw_new (ci := 15) (tyT := tyX10) [.null, .null, .null, .null, .null, .null, .null, .null, .null, .int 0, .int 0, .int 0] X hP hV cinX10 tyX10_ok tw39 tw40 tw1 rfl (fun j hj => by rcases (show j = 0 ∨ j = 1 ∨ j = 2 ∨ j = 3 ∨ j = 4 ∨ j = 5 ∨ j = 6 ∨ j = 7 ∨ j = 8 ∨ j = 9 ∨ j = 10 ∨ j = 11 by omega) with rfl | rfl | rfl | rfl | rfl | rfl | rfl | rfl | rfl | rfl | rfl | rfl <;> rfl) ⟨Nat.le_of_ble_eq_true rfl, Nat.le_of_ble_eq_true rfl⟩ dL_law_0 (fun H hP hV => ?_)
  refine lv_dup hx hb dL_law_3 rfl ?_
  have hA1 : ∀ {H : Heap}, s.heap.size ≤ H.size → ∀ q, Fr (nΩ b1) H.size q → s.heap.size ≤ q := fun hz q z => z.elim (fun z => by rw [← eb1]; exact z) (fun z => Nat.le_trans hz z)
  refine gCallCI X tOK (vX10_init (dC := dC) (dI := dI) (cg := cg) (kA := kA) (bs := b1) i1 vat) (cwI 0 X.hts (wT_good tw43) rfl rfl rfl (X.hts _ tw1) (X.hts _ tw41) (X.hts _ tw42) rfl ⟨by decide, by decide, by decide +kernel⟩ ⟨(Nat.le_of_ble_eq_true rfl), (Nat.le_of_ble_eq_true rfl)⟩) rfl hP hV (hA1 hV.1) hl.1 (Nat.le_of_ble_eq_true rfl) ⟨Nat.le_of_ble_eq_true rfl, Nat.le_of_ble_eq_true rfl⟩ dL_law_4 (As := []) (rest := [.ref (b1 + 0)]) rfl (fun H locs hP hV => ?_)
  have hP : cP dC dI cg kA (caOf b1) S1 s H := hP
  refine lv_astore_n (lv' := [(1, .ref (caOf b1 0)), (0, .ref b)]) hx hb dL_law_7 rfl hl (by decide) rfl (fun ls hl => ?_)
  obtain ⟨b2, eb2⟩ : ∃ b2, b2 = H.size := ⟨_, rfl⟩
  have hE1 : kE kTab kA (fun q => b1 ≤ q) s H := by
    rw [eb1]
    exact hE0.kept (fun a ha na => hV.2.1 a ha na)
  have hz1 : s.heap.size ≤ H.size := hV.1
  have hC : cB dC dI cg kA b1 b2 S1 s H := cB_of eb2.symm hP hE1
  have h12 : b1 + 433 ≤ b2 := hC.2.1
  have hb1 : s.heap.size ≤ b2 := by omega
  have hN : nP dC dI cg kA b2 (0, fun _ => .inr (0, [])) s H := ⟨by rw [eb2]; rfl, fun i hi => absurd hi (Nat.not_lt_zero i), hK, hE1.narrow (fun q z => by have z : b2 ≤ q := z; show b1 ≤ q; omega), s_aOK hts⟩
  have hA2 : ∀ a : Nat, a < s.heap.size → ¬ nΩ b2 a := fun a h z => by
    have z : b2 ≤ a := z
    omega
  have hkp : ∀ a : Nat, a < s.heap.size → ¬ nΩ b2 a → H[a]? = s.heap[a]? := fun a ha _ => hV.2.1 a ha (fun z => absurd ha (Nat.not_lt.mpr z))
  obtain ⟨dO, dT, g1, g2, g3, g4⟩ := s_dg hF hts hA2
  obtain ⟨eA, j1, j2⟩ := s_je hF hts hA2
  obtain ⟨cA, iA, c1, c2, ⟨cf, c3, c4⟩, c5⟩ := s_ic hF hts hA2 hK
  have hFF : FF dC dI cg kA b1 b2 S1 cA dO dT eA iA s H := ⟨⟨hC, va_Z.kept j1 hkp, j2.kept hkp, s_aob hts⟩, ⟨va_Z.kept c1 hkp, va_Z.kept c2 hkp, ⟨cf, c3.kept hkp, c4⟩, fun n hn => ⟨by rw [eb1]; exact (c5 n hn).1, (c5 n hn).2.kept (hkp _ (c5 n hn).1 (hA2 _ (c5 n hn).1))⟩, by omega⟩, ⟨va_Z.kept g1 hkp, va_Z.kept g2 hkp, g3.kept hkp, g4.kept hkp⟩⟩
  have hP : LWP dC dI cg kA b1 b2 S1 cA dO dT eA iA (0, fun _ => .inr (0, [])) s H := ⟨hN, hFF⟩
  clear hFF hN hC hE1
  generalize hcl : 0 + 1 + 834 = cl
  generalize hsl : 0 + 12 + 7080 = sl
  refine nF_new (ci := 17) (tyT := tyX12) [.null, .null, .null, .null, .null, .int 0, .int 0, .int 0, .int 0, .int 0, .int 0, .int 0, .int 0, .int 0, .int 0] X FF_fs hP hV cinX12 tyX12_ok tw845 tw846 tw22 rfl (fun j hj => by rcases (show j = 0 ∨ j = 1 ∨ j = 2 ∨ j = 3 ∨ j = 4 ∨ j = 5 ∨ j = 6 ∨ j = 7 ∨ j = 8 ∨ j = 9 ∨ j = 10 ∨ j = 11 ∨ j = 12 ∨ j = 13 ∨ j = 14 by omega) with rfl | rfl | rfl | rfl | rfl | rfl | rfl | rfl | rfl | rfl | rfl | rfl | rfl | rfl | rfl <;> rfl) ⟨Nat.le_trans (show _ ≤ 200000 by omega) rmC, Nat.le_trans (show _ ≤ 2000000 by omega) rmS⟩ dL_law_8 (fun H hP hV => ?_)
  refine lv_dup hx hb dL_law_11 rfl ?_
  have hct := (vX12_new (l := l) (dC := dC) (dI := dI) (cg := cg) (kA := kA) (bs := b2) (eA := eA) (i := 0) (w := va_up (fun _ => .inr (0, [])) 0 (.inr (17, [.null, .null, .null, .null, .null, .int 0, .int 0, .int 0, .int 0, .int 0, .int 0, .int 0, .int 0, .int 0, .int 0]))) vat).lift (FF_fs (b1 := b1) (dC := dC) (dI := dI) (cg := cg) (kA := kA) (S := S1) (cA := cA) (dO := dO) (dT := dT) (eA := eA) (iA := iA))
  rw [nF_eq (fun U H h => h.1.2)] at hct
  refine gCallCN X (gF_ok nOK FF_fs) hct ⟨va_cnB 0 X.hts (wT_good tw849) rfl rfl rfl (X.ks.2.1 _ xw847) (X.hts _ tw22) ⟨by decide, by decide, by decide +kernel⟩ ⟨Nat.le_of_ble_eq_true rfl, Nat.le_of_ble_eq_true rfl⟩, rfl, X.hts _ tw848⟩ rfl hP hV (lw_hA hb1 hV.1) hl.1 (Nat.le_of_ble_eq_true rfl) ⟨Nat.le_trans (show _ ≤ 200000 by omega) rmC, Nat.le_trans (show _ ≤ 2000000 by omega) rmS⟩ dL_law_12 (As := []) (rest := [.ref (b2 + 0)]) rfl (fun H locs hP hV => ?_)
  clear hct
  obtain ⟨w5, hw5⟩ : ∃ w5, w5 = gW b2 eA 0 (va_up (fun _ => .inr (0, [])) 0 (.inr (17, [.null, .null, .null, .null, .null, .int 0, .int 0, .int 0, .int 0, .int 0, .int 0, .int 0, .int 0, .int 0, .int 0]))) (grR b2 .null 0 0 0 0) 4 := ⟨_, rfl⟩
  have hP : LWP dC dI cg kA b1 b2 S1 cA dO dT eA iA (5, w5) s H := by
    rw [hw5]
    exact hP
  refine lv_astore_n (lv' := [(2, .ref (b2 + 0)), (1, .ref (caOf b1 0)), (0, .ref b)]) hx hb dL_law_15 rfl hl (by decide) rfl (fun ls hl => ?_)
  refine lv_aload_n hx hb dL_law_16 rfl (lv_at hl 2 rfl) ?_
  refine lv_iconst (v := 0) hx hb dL_law_17 (by decide) ?_
  refine lw_cell (k := 0) X hL hXs hbl hV (by omega) hl.1 (Nat.le_of_ble_eq_true rfl) ⟨by omega, by omega⟩ dL_law_18 ?_
  refine lv_istore_n (lv' := [(3, .int (cellV L xs 0)), (2, .ref (b2 + 0)), (1, .ref (caOf b1 0)), (0, .ref b)]) hx hb dL_law_21 rfl hl (by decide) rfl (fun ls hl => ?_)
  refine nF_new (ci := 1) (tyT := tyJ4) [.null, .int 0, .int 0, .int 0] X FF_fs hP hV cinJ4 tyJ4_ok tw1445 tw54 tw4 rfl (fun j hj => by rcases (show j = 0 ∨ j = 1 ∨ j = 2 ∨ j = 3 by omega) with rfl | rfl | rfl | rfl <;> rfl) ⟨Nat.le_trans (show _ ≤ 200000 by omega) rmC, Nat.le_trans (show _ ≤ 2000000 by omega) rmS⟩ dL_law_22 (fun H hP hV => ?_)
  refine lv_dup hx hb dL_law_25 rfl ?_
  refine gCallCI X (gF_ok nOK FF_fs) ((vJ4_init (dC := dC) (dI := dI) (cg := cg) (kA := kA) (bs := b2) (i := 5) (w := va_up w5 5 (.inr (1, [.null, .int 0, .int 0, .int 0]))) vat).lift FF_fs) (cwI 0 X.hts (wT_good tw57) rfl rfl rfl (X.hts _ tw4) (X.hts _ tw1446) (X.hts _ tw56) rfl ⟨by decide, by decide, by decide +kernel⟩ ⟨(Nat.le_of_ble_eq_true rfl), (Nat.le_of_ble_eq_true rfl)⟩) rfl hP hV (lw_hA hb1 hV.1) hl.1 (Nat.le_of_ble_eq_true rfl) ⟨Nat.le_trans (show _ ≤ 200000 by omega) rmC, Nat.le_trans (show _ ≤ 2000000 by omega) rmS⟩ dL_law_26 (As := []) (rest := [.ref (b2 + 5)]) rfl (fun H locs hP hV => ?_)
  obtain ⟨w7, hw7⟩ : ∃ w7, w7 = po (rJ4 b2 cg kA 5) 5 (va_up w5 5 (.inr (1, [.null, .int 0, .int 0, .int 0]))) := ⟨_, rfl⟩
  have hP : LWP dC dI cg kA b1 b2 S1 cA dO dT eA iA (7, w7) s H := by
    rw [hw7]
    exact hP
  have r0 : ∀ q, q < 5 → w7 q = w5 q := fun q hq => by
    rw [hw7]
    unfold po
    rw [if_neg (by omega), vne (by omega)]
  have hI : Inv cg b2 eA (accT (catT (dSp L xs) (dLf L xs)) 0) (grR b2 .null 0 0 0 0) (fun _ => 0) (fun _ => 0) (fun _ _ => 0) 0 (fun _ => 0) (catR L xs) 0 (fun _ => 0) (sackR L xs) (7, w7) := by
    refine ⟨⟨by show 0 < 7; omega, (r0 0 (by omega)).trans (by rw [hw5]; exact gW_i)⟩, ⟨6, 16, fun _ => 0, 0, ⟨by show 5 < 7; omega, ?_⟩, ⟨by show 6 < 7; omega, ?_⟩, asc_0, ⟨Nat.zero_le _, by omega, by omega⟩, fun j hj => absurd hj (Nat.not_lt_zero j)⟩, fun d d1 d2 => ⟨by show d < 7; omega, Or.inl ⟨rfl, (r0 d (by omega)).trans (by rw [hw5]; exact gW_l ⟨by omega, by omega⟩)⟩⟩, fun d d' _ _ _ _ z _ _ => absurd z (Nat.lt_irrefl 0), fun j hj => absurd hj (Nat.not_lt_zero j), fun j hj => absurd hj (Nat.not_lt_zero j)⟩
    · show w7 5 = _
      rw [hw7]
      unfold po
      rw [if_pos (by omega)]
      rfl
    · show w7 6 = _
      rw [hw7]
      unfold po
      rw [if_pos (by omega)]
      rfl
  clear r0 hw7 hw5
  refine lv_astore (lv' := [(4, .ref (b2 + 5)), (3, .int (cellV L xs 0)), (2, .ref (b2 + 0)), (1, .ref (caOf b1 0)), (0, .ref b)]) hx hb dL_law_29 hl (by decide) rfl (fun ls hl => ?_)
  refine lv_iconst (v := 1) hx hb dL_law_31 (by decide) ?_
  refine lv_iload_n hx hb dL_law_32 rfl (lv_at hl 1 rfl) ?_
  refine lv_iconst (v := 0) hx hb dL_law_33 (by decide) ?_
  refine lv_iconst (v := 2) hx hb dL_law_34 (by decide) ?_
  refine lw_bits X hl.1 (Nat.le_of_ble_eq_true rfl) ⟨by omega, by omega⟩ dL_law_35 ?_
  rw [(bN_2 (x := cellV L xs 0) (a := 0)).2]
  refine lv_iadd hx hb dL_law_38 ?_
  rw [show (1 + (nI (bN (cellV L xs 0) 0 2)) : Int32) = nI (dNc L xs) from nI_add 1 _]
  refine lv_istore (lv' := [(5, .int (nI (dNc L xs))), (4, .ref (b2 + 5)), (3, .int (cellV L xs 0)), (2, .ref (b2 + 0)), (1, .ref (caOf b1 0)), (0, .ref b)]) hx hb dL_law_39 hl (by decide) rfl (fun ls hl => ?_)
  refine lv_iconst (v := 0) hx hb dL_law_41 (by decide) ?_
  refine lv_istore (lv' := [(6, .int 0), (5, .int (nI (dNc L xs))), (4, .ref (b2 + 5)), (3, .int (cellV L xs 0)), (2, .ref (b2 + 0)), (1, .ref (caOf b1 0)), (0, .ref b)]) hx hb dL_law_42 hl (by decide) rfl (fun ls hl => ?_)
  have bc := dNc_b (L := L) (xs := xs)
  have bk := dNs_b (L := L) (xs := xs)
  have bh := dNh_b (L := L) (xs := xs)
  refine lw_cats X hb1 hL hXs hbl (pS := fun _ => 0) (sR := sackR L xs) (fun H locs ls cl sl X1 kk ar el pC hP hV hI h1 h2 h5 hl hc1 hc2 => ?_) (dNc L xs) 0 H locs ls _ _ (7, w7) (fun _ => 0) (fun _ => 0) (fun _ _ => 0) (fun _ => 0) (by omega) hP hV hI rfl (fun _ _ => rfl) (fun j hj => absurd hj (Nat.not_lt_zero j)) (lv_sub hl [0, 6, 5, 4, 3, 2, 1] rfl) (by omega) (by omega)
  refine lv_iconst (v := 1) hx hb dL_law_177 (by decide) ?_
  refine lv_iload_n hx hb dL_law_178 rfl (lv_at hl 4 rfl) ?_
  refine lv_iconst (v := 2) hx hb dL_law_179 (by decide) ?_
  refine lv_iconst (v := 2) hx hb dL_law_180 (by decide) ?_
  refine lw_bits X hl.1 (Nat.le_of_ble_eq_true rfl) ⟨by omega, by omega⟩ dL_law_181 ?_
  rw [(bN_2 (x := cellV L xs 0) (a := 2)).2]
  refine lv_iadd hx hb dL_law_184 ?_
  rw [show (1 + (nI (bN (cellV L xs 0) 2 2)) : Int32) = nI (dNs L xs) from nI_add 1 _]
  refine lv_istore (lv' := [(6, .int (nI (dNs L xs))), (0, .ref b), (1, .ref (caOf b1 0)), (2, .ref (b2 + 0)), (3, .int (cellV L xs 0)), (4, .ref (b2 + 5)), (5, .int (nI (dNc L xs)))]) hx hb dL_law_185 hl (by decide) rfl (fun ls hl => ?_)
  refine lv_iconst (v := 0) hx hb dL_law_187 (by decide) ?_
  refine lv_istore (lv' := [(7, .int 0), (6, .int (nI (dNs L xs))), (0, .ref b), (1, .ref (caOf b1 0)), (2, .ref (b2 + 0)), (3, .int (cellV L xs 0)), (4, .ref (b2 + 5)), (5, .int (nI (dNc L xs)))]) hx hb dL_law_188 hl (by decide) rfl (fun ls hl => ?_)
  refine lw_sacks X hb1 hL hXs hbl (fun H locs ls cl sl X1 kk ar el pS hP hV hI h1 h2 h3 h4 h5 h6 hl hc1 hc2 => ?_) (dNs L xs) 0 H locs ls _ _ X1 kk ar el (fun _ => 0) (by omega) hP hV (by rw [show accT (sackT (dGr L xs) (dMi L xs) (dOp L xs)) 0 = [] from rfl, List.append_nil]; exact hI) h1 (h2 2 (by omega)) (h2 3 (by omega)) (h2 4 (by omega)) h5 (fun j hj => absurd hj (Nat.not_lt_zero j)) (lv_sub hl [0, 1, 2, 3, 4, 5, 6, 7] rfl) (by omega) (by omega)
  refine lv_iconst (v := 1) hx hb dL_law_350 (by decide) ?_
  refine lv_iload_n hx hb dL_law_351 rfl (lv_at hl 5 rfl) ?_
  refine lv_iconst (v := 4) hx hb dL_law_352 (by decide) ?_
  refine lv_iconst (v := 3) hx hb dL_law_353 (by decide) ?_
  refine lw_bits X hl.1 (Nat.le_of_ble_eq_true rfl) ⟨by omega, by omega⟩ dL_law_354 ?_
  rw [(bN_3 (x := cellV L xs 0) (a := 4)).2]
  refine lv_iadd hx hb dL_law_357 ?_
  rw [show (1 + (nI (bN (cellV L xs 0) 4 3)) : Int32) = nI (dNh L xs) from nI_add 1 _]
  refine lv_istore (lv' := [(7, .int (nI (dNh L xs))), (6, .int (nI (dNs L xs))), (0, .ref b), (1, .ref (caOf b1 0)), (2, .ref (b2 + 0)), (3, .int (cellV L xs 0)), (4, .ref (b2 + 5)), (5, .int (nI (dNc L xs)))]) hx hb dL_law_358 hl (by decide) rfl (fun ls hl => ?_)
  refine lv_iconst (v := 0) hx hb dL_law_360 (by decide) ?_
  refine lv_istore (lv' := [(8, .int 0), (7, .int (nI (dNh L xs))), (6, .int (nI (dNs L xs))), (0, .ref b), (1, .ref (caOf b1 0)), (2, .ref (b2 + 0)), (3, .int (cellV L xs 0)), (4, .ref (b2 + 5)), (5, .int (nI (dNc L xs)))]) hx hb dL_law_361 hl (by decide) rfl (fun ls hl => ?_)
  refine lw_shifts X hb1 hL hXs hbl (fun H locs ls cl sl X1 kk ar el hP hV hI h1 h2 h3 h4 h5 h6 h7 hl hc1 hc2 => ?_) (dNh L xs) 0 H locs ls _ _ X1 kk ar el (by omega) hP hV (by rw [show accT (shiftT (dCc L xs) (dHr L xs)) 0 = [] from rfl, List.append_nil]; exact hI) h1 h2 h3 h4 h5 h6 (fun j hj => absurd hj (Nat.not_lt_zero j)) (lv_sub hl [0, 1, 3, 4, 5, 6, 7, 8] rfl) (by omega) (by omega)
  refine lw_581 X hb1 hL hXs hbl (fun H locs ls cl sl X1 kk ar el hP hV hI h1 h2 h3 h4 h5 h6 h7 hl hc1 hc2 => ?_) H locs ls _ _ X1 kk ar el hP hV hI h1 h2 h3 h4 h5 h6 h7 (lv_sub hl [2, 3, 4, 5, 6, 7] rfl) hc1 hc2
  exact lw_last X hb1 hL hXs hbl h12 (by omega) hr hlocks rr (m9.trans nI_0.symm) H locs ls _ _ X1 kk ar el hP hV hI h1 h2 h3 h4 h5 h6 h7 hl hc1 hc2
end BEGIN2
