theorem tw812 : (Jvm.Cond.instantiable "GranaryWatchLaw$Cat" (7 : Nat)) ∈ TBG := tb_t 812 (by decide +kernel) (by decide +kernel)
theorem tw814 : (Jvm.Cond.instanceMethod ({ cls := "GranaryWatchLaw$Cat", name := "<init>", desc := "()V" } : Jvm.MethodName)) ∈ TBG := tb_t 814 (by decide +kernel) (by decide +kernel)
theorem tw815 : (Jvm.Cond.code ({ cls := "GranaryWatchLaw$Cat", name := "<init>", desc := "()V" } : Jvm.MethodName) prog_13_method_1_code (1 : Nat) (Option.none : Option Jvm.ClassFile.FieldType)) ∈ TBG := tb_t 815 (by decide +kernel) (by decide +kernel)
theorem xw813 : (Jvm.Cond.methodLinkNest "GranaryWatchLaw" (216 : Nat) ({ cls := "GranaryWatchLaw$Cat", name := "<init>", desc := "()V" } : Jvm.MethodName) "GranaryWatchLaw") ∈ xws := xt 813 (by decide +kernel) rfl
theorem xw819 : (Jvm.Cond.fieldLinkNest "GranaryWatchLaw" (217 : Nat) "GranaryWatchLaw$Cat" "speed" "I" "GranaryWatchLaw") ∈ xws := xt 819 (by decide +kernel) rfl
theorem xw828 : (Jvm.Cond.fieldLinkNest "GranaryWatchLaw" (220 : Nat) "GranaryWatchLaw$Cat" "isLeft" "Z" "GranaryWatchLaw") ∈ xws := xt 828 (by decide +kernel) rfl
theorem xw1609 : (Jvm.Cond.castable "GranaryWatchLaw$Cat" "java/lang/Object") ∈ xws := xt 1609 (by decide +kernel) rfl
/-! the law writes its cats -/
section LAWC
variable {p : Program} {l : Launch} {e : Env} {s : State} {m : MethodId} {below : List Frame} {meth : Method} {c : Code} {H : Heap} {locs : List Loc} {cl sl : Nat} {Q : State → Prop}
variable {pc : Nat} {ls : Array Slot} {rest : List Value} {dC : Nat → ClassId} {dI : Nat → Nat → Nat} {cg : Nat → ClassId} {kA : String → Nat → Nat} {b b1 b2 L n : Nat} {xs : Nat → Int32} {w : Nat → va_E} {S : CS} {cA dO dT eA : Nat} {iA : Nat → Nat}
variable {t : List Int32} {gfs : List Value} {kk ar : Nat → Nat} {el : Nat → Nat → Nat} {kc ks : Nat} {pC pS : Nat → Nat} {cR sR : Nat → List Value}
def grR (bs : Nat) (sw : Value) (ck ml lf oa : Int32) : List Value := [.ref (bs + 1), .ref (bs + 2), .ref (bs + 3), .ref (bs + 4), sw, .int ck, .int ml, .int 0, .int lf, .int 0, .int 0, .int 0, .int 0, .int oa, .int 0]
def catR (L : Nat) (xs : Nat → Int32) (j : Nat) : List Value := [.int (nI j), .int (nI (dSp L xs j)), .int 0, .int 0, .int 0, .int (dLf L xs j), .int 0]
theorem dSp_b {k : Nat} : 1 ≤ dSp L xs k ∧ dSp L xs k ≤ 8 := by
  have := (bN_3 (x := cellV L xs (1 + k)) (a := 0)).1
  unfold dSp
  omega
theorem dLf_b {k : Nat} : dLf L xs k = 0 ∨ dLf L xs k = 1 := by
  unfold dLf
  split
  · exact Or.inr rfl
  · exact Or.inl rfl
theorem lenC (k : Nat) : (accT (catT (dSp L xs) (dLf L xs)) k).length ≤ 14 * k := acc_bd k (fun j _ => by
  have h1 := dgL_1 (v := dSp L xs j) (by have := (dSp_b (L := L) (xs := xs) (k := j)).2; omega)
  unfold catT
  rw [List.length_append, List.length_append, h1]
  split <;> exact Nat.le_of_ble_eq_true rfl)
theorem acc_1 {a : List Int32} {x : Int32} {D E : List Int32} : ((((a ++ [99, 97, 116, 32]) ++ [x]) ++ [32]) ++ D) ++ E = a ++ ([99, 97, 116, 32, x, 32] ++ (D ++ E)) := by simp
set_option maxRecDepth 100000 in
set_option maxHeartbeats 16000000 in
theorem lw_cats (X : gX p s m #[.ref b] c cL_law 11 RL (kR kTab kA)) (hb1 : s.heap.size ≤ b2) (hL : L ≤ 260) (hXs : va_X b L xs s s.heap) (hbl : b < s.heap.size) (ct : ∀ (H : Heap) (locs : List Loc) (ls : Array Slot) (cl sl : Nat) (X1 : NW) (kk ar : Nat → Nat) (el : Nat → Nat → Nat) (pC : Nat → Nat), LWP dC dI cg kA b1 b2 S cA dO dT eA iA X1 s H → va_S (fun q => s.heap.size ≤ q) s.heap H locs → Inv cg b2 eA (accT (catT (dSp L xs) (dLf L xs)) (dNc L xs)) (grR b2 .null 0 0 0 0) kk ar el (dNc L xs) pC (catR L xs) 0 pS sR X1 → kk 1 = dNc L xs → (∀ d, 2 ≤ d → kk d = 0) → (∀ j, j < dNc L xs → el 1 j = b2 + pC j) → lv_has ls 11 [(6, .int (nI (dNc L xs))), (0, .ref b), (1, .ref (caOf b1 0)), (2, .ref (b2 + 0)), (3, .int (cellV L xs 0)), (4, .ref (b2 + 5)), (5, .int (nI (dNc L xs)))] → cl ≤ 10000 → sl ≤ 200000 → W p l e room_1 s m #[.ref b] below meth c H locs cl sl Q (F0 m 177 ls [])) : ∀ (r k : Nat) (H : Heap) (locs : List Loc) (ls : Array Slot) (cl sl : Nat) (X1 : NW) (kk ar : Nat → Nat) (el : Nat → Nat → Nat) (pC : Nat → Nat), dNc L xs = k + r → LWP dC dI cg kA b1 b2 S cA dO dT eA iA X1 s H → va_S (fun q => s.heap.size ≤ q) s.heap H locs → Inv cg b2 eA (accT (catT (dSp L xs) (dLf L xs)) k) (grR b2 .null 0 0 0 0) kk ar el k pC (catR L xs) 0 pS sR X1 → kk 1 = k → (∀ d, 2 ≤ d → kk d = 0) → (∀ j, j < k → el 1 j = b2 + pC j) → lv_has ls 11 [(6, .int (nI k)), (0, .ref b), (1, .ref (caOf b1 0)), (2, .ref (b2 + 0)), (3, .int (cellV L xs 0)), (4, .ref (b2 + 5)), (5, .int (nI (dNc L xs)))] → cl + 10 * r ≤ 10000 → sl + 3000 * r ≤ 200000 → W p l e room_1 s m #[.ref b] below meth c H locs cl sl Q (F0 m 44 ls []) := by
  have hx := X.hx
  have hb := X.hb
  have hnc : dNc L xs ≤ 4 := by
    have := (bN_2 (x := cellV L xs 0) (a := 0)).1
    unfold dNc
    omega
  intro r
  induction r with
  | zero =>
    intro k H locs ls cl sl X1 kk ar el pC hk hP hV hI h1 h2 h3 hl hc1 hc2
    have hk : dNc L xs = k := hk
    subst hk
    refine lv_iload hx hb dL_law_44 (lv_at hl 0 rfl) ?_
    refine lv_iload hx hb dL_law_46 (lv_at hl 6 rfl) ?_
    refine lv_icmp_ge (tgt := 177) hx hb dL_law_48 (by decide) (fun _ => ?_) (fun c1 => absurd (Int32.le_refl _) c1)
    exact ct H locs ls cl sl X1 kk ar el pC hP hV hI h1 h2 h3 hl (by omega) (by omega)
  | succ r ih =>
    intro k H locs ls cl sl X1 kk ar el pC hk hP hV hI h1 h2 h3 hl hc1 hc2
    obtain ⟨n, w⟩ := X1
    have hkc : k < dNc L xs := by omega
    have hlen := lenC (L := L) (xs := xs) k
    have hd1 := dgL_1 (v := dSp L xs k) (by have := (dSp_b (L := L) (xs := xs) (k := k)).2; omega)
    have hn0 : s.heap.size ≤ b2 + n := by omega
    have hlf := dLf_b (L := L) (xs := xs) (k := k)
    refine lv_iload hx hb dL_law_44 (lv_at hl 0 rfl) ?_
    refine lv_iload hx hb dL_law_46 (lv_at hl 6 rfl) ?_
    refine lv_icmp_ge (tgt := 177) hx hb dL_law_48 (by decide) (fun c1 => absurd c1 (fun z => absurd (nI_lt hkc (by omega)) (lt_le.mpr z))) (fun _ => ?_)
    refine lv_aload_n hx hb dL_law_51 rfl (lv_at hl 1 rfl) ?_
    refine lv_iconst (v := 1) hx hb dL_law_52 (by decide) ?_
    refine lv_iload hx hb dL_law_53 (lv_at hl 0 rfl) ?_
    refine lv_iadd hx hb dL_law_55 ?_
    rw [show (1 + (nI k) : Int32) = nI (1 + k) from nI_add 1 k]
    refine lw_cell (k := 1 + k) X hL hXs hbl hV (by omega) hl.1 (Nat.le_of_ble_eq_true rfl) ⟨by omega, by omega⟩ dL_law_56 ?_
    refine lv_istore (lv' := [(7, .int (cellV L xs (1 + k))), (6, .int (nI k)), (0, .ref b), (1, .ref (caOf b1 0)), (2, .ref (b2 + 0)), (3, .int (cellV L xs 0)), (4, .ref (b2 + 5)), (5, .int (nI (dNc L xs)))]) hx hb dL_law_59 hl (by decide) rfl (fun ls hl => ?_)
    refine nF_new (ci := 16) (tyT := tyX11) [.int 0, .int 0, .int 0, .int 0, .int 0, .int 0, .int 0] X FF_fs hP hV cinX11 tyX11_ok tw811 tw812 tw26 rfl (fun j hj => by rcases (show j = 0 ∨ j = 1 ∨ j = 2 ∨ j = 3 ∨ j = 4 ∨ j = 5 ∨ j = 6 by omega) with rfl | rfl | rfl | rfl | rfl | rfl | rfl <;> rfl) ⟨Nat.le_trans (show _ ≤ 200000 by omega) rmC, Nat.le_trans (show _ ≤ 2000000 by omega) rmS⟩ dL_law_61 (fun H hP hV => ?_)
    refine lv_dup hx hb dL_law_64 rfl ?_
    refine gCallCN X (gF_ok nOK FF_fs) ((vX11_new (dC := dC) (dI := dI) (cg := cg) (kA := kA) (bs := b2) (a := b2 + n) (S := (n + 1, va_up w n (.inr (16, [.int 0, .int 0, .int 0, .int 0, .int 0, .int 0, .int 0]))))).lift FF_fs) ⟨va_cnB 0 X.hts (wT_good tw815) rfl rfl rfl (X.ks.2.1 _ xw813) (X.hts _ tw26) ⟨by decide, by decide, by decide +kernel⟩ ⟨(Nat.le_of_ble_eq_true rfl), (Nat.le_of_ble_eq_true rfl)⟩, rfl, X.hts _ tw814⟩ rfl hP hV (lw_hA hb1 hV.1) hl.1 (Nat.le_of_ble_eq_true rfl) ⟨Nat.le_trans (show _ ≤ 200000 by omega) rmC, Nat.le_trans (show _ ≤ 2000000 by omega) rmS⟩ dL_law_65 (As := []) (rest := [.ref (b2 + n)]) rfl (fun H locs hP hV => ?_)
    refine lv_astore (lv' := [(8, .ref (b2 + n)), (7, .int (cellV L xs (1 + k))), (6, .int (nI k)), (0, .ref b), (1, .ref (caOf b1 0)), (2, .ref (b2 + 0)), (3, .int (cellV L xs 0)), (4, .ref (b2 + 5)), (5, .int (nI (dNc L xs)))]) hx hb dL_law_68 hl (by decide) rfl (fun ls hl => ?_)
    refine lv_aload hx hb dL_law_70 (lv_at hl 0 rfl) ?_
    refine lv_iload hx hb dL_law_72 (lv_at hl 2 rfl) ?_
    refine nF_putN (k := 0) (fs := [.int 0, .int 0, .int 0, .int 0, .int 0, .int 0, .int 0]) X FF_fs hP hV (show s.heap.size ≤ _ by omega) ⟨Nat.lt_succ_self n, vat⟩ (rfl : vwCl[16]? = some (RX11, TX11, 7)) cinX11 tyX11_ok nmX11 (by decide) rfl rfl rfl rfl (Nat.le_of_ble_eq_true rfl) xw817 dL_law_74 (fun H locs hP hV => ?_)
    rw [up_up] at hP
    refine lv_aload hx hb dL_law_77 (lv_at hl 0 rfl) ?_
    refine lv_iconst (v := 1) hx hb dL_law_79 (by decide) ?_
    refine lv_iload hx hb dL_law_80 (lv_at hl 1 rfl) ?_
    refine lv_iconst (v := 0) hx hb dL_law_82 (by decide) ?_
    refine lv_iconst (v := 3) hx hb dL_law_83 (by decide) ?_
    refine lw_bits X hl.1 (Nat.le_of_ble_eq_true rfl) ⟨by omega, by omega⟩ dL_law_84 ?_
    rw [(bN_3 (x := cellV L xs (1 + k)) (a := 0)).2]
    refine lv_iadd hx hb dL_law_87 ?_
    rw [show (1 + (nI (bN (cellV L xs (1 + k)) 0 3)) : Int32) = nI (dSp L xs k) from nI_add 1 _]
    refine nF_putN (k := 1) (fs := [.int (nI k), .int 0, .int 0, .int 0, .int 0, .int 0, .int 0]) X FF_fs hP hV (show s.heap.size ≤ _ by omega) ⟨Nat.lt_succ_self n, vat⟩ (rfl : vwCl[16]? = some (RX11, TX11, 7)) cinX11 tyX11_ok nmX11 (by decide) rfl rfl rfl rfl (Nat.le_of_ble_eq_true rfl) xw819 dL_law_88 (fun H locs hP hV => ?_)
    rw [up_up] at hP
    refine lv_aload hx hb dL_law_91 (lv_at hl 0 rfl) ?_
    refine lv_iload hx hb dL_law_93 (lv_at hl 1 rfl) ?_
    refine lv_iconst (v := 3) hx hb dL_law_95 (by decide) ?_
    refine lv_iconst (v := 1) hx hb dL_law_96 (by decide) ?_
    refine lw_bits X hl.1 (Nat.le_of_ble_eq_true rfl) ⟨by omega, by omega⟩ dL_law_97 ?_
    rw [(bN_1 (x := cellV L xs (1 + k)) (a := 3)).2]
    have last : W p l e room_1 s m #[.ref b] below meth c H locs (cl + 1 + 0) (sl + 7 + 0) Q (F0 m 108 ls (.int (dLf L xs k) :: .ref (b2 + n) :: [])) := by
      refine nF_putN (k := 5) (fs := [.int (nI k), .int (nI (dSp L xs k)), .int 0, .int 0, .int 0, .int 0, .int 0]) X FF_fs hP hV (show s.heap.size ≤ _ by omega) ⟨Nat.lt_succ_self n, vat⟩ (rfl : vwCl[16]? = some (RX11, TX11, 7)) cinX11 tyX11_ok nmX11 (by decide) rfl rfl (by rcases hlf with e | e <;> rw [e] <;> decide +kernel) (by rcases hlf with e | e <;> rw [e] <;> decide +kernel) (Nat.le_of_ble_eq_true rfl) xw828 dL_law_108 (fun H locs hP hV => ?_)
      rw [up_up] at hP
      have hP : LWP dC dI cg kA b1 b2 S cA dO dT eA iA (n + 1, va_up w n (.inr (16, catR L xs k))) s H := hP
      have hI := hI.cat (r := catR L xs k) rfl
      have hI : Inv cg b2 eA (accT (catT (dSp L xs) (dLf L xs)) k) (grR b2 .null 0 0 0 0) kk ar el (k + 1) (va_up pC k n) (catR L xs) 0 pS sR (n + 1, va_up w n (.inr (16, catR L xs k))) := hI
      have hoc : At (n + 1, va_up w n (.inr (16, catR L xs k))) n (.inr (16, catR L xs k)) := ⟨Nat.lt_succ_self n, vat⟩
      refine lv_aload_n hx hb dL_law_111 rfl (lv_at hl 5 rfl) ?_
      refine nw_getN (k := 0) X hP.1 hI.1 rfl (rfl : vwCl[17]? = some (RX12, TX12, 15)) cinX12 (by decide) rfl xw881 dL_law_112 ?_
      refine lv_aload hx hb dL_law_115 (lv_at hl 0 rfl) ?_
      refine lw_add (d := 1) X hb1 hP hV hI ⟨by omega, by omega⟩ (by omega) (rfl : vwCl[16]? = some (RX11, TX11, 7)) xw1609 (lw_elO hI ⟨by omega, by omega⟩ hoc (by decide)) hl.1 (Nat.le_of_ble_eq_true rfl) ⟨by omega, by omega⟩ dL_law_117 (fun H locs X1 a1 hP hV hI => ?_)
      rw [h1] at hI
      clear hoc
      obtain ⟨n2, w2⟩ := X1
      refine lv_pop hx hb dL_law_122 rfl ?_
      refine lv_aload hx hb dL_law_123 (lv_at hl 7 rfl) ?_
      refine va_ldcS hx hb X.hown (kRat X.ks 16 rfl) dL_law_125 ?_
      refine lw_appS (i := 16) (q := ("GranaryWatchLaw", 227, "cat ", [99, 97, 116, 32])) X hb1 hP hV hI rfl (by simp only [List.length_append, List.length_cons, List.length_nil]; omega) (Nat.le_of_ble_eq_true rfl) hl.1 (Nat.le_of_ble_eq_true rfl) ⟨by omega, by omega⟩ dL_law_127 (fun H locs X1 hP hV hI => ?_)
      obtain ⟨n2, w2⟩ := X1
      refine lv_bipush (v := 97) hx hb dL_law_130 (by decide) ?_
      refine lv_iload hx hb dL_law_132 (lv_at hl 2 rfl) ?_
      refine lv_iadd hx hb dL_law_134 ?_
      rw [show (97 + (nI k) : Int32) = nI (97 + k) from nI_add 97 k]
      refine lv_i2c hx hb dL_law_135 (asc_b ⟨⟨97 + k, by omega⟩, rfl⟩).2.2.2 ?_
      refine lw_appC X hb1 hP hV hI ⟨⟨97 + k, by omega⟩, rfl⟩ (by simp only [List.length_append, List.length_cons, List.length_nil]; omega) hl.1 (Nat.le_of_ble_eq_true rfl) ⟨by omega, by omega⟩ dL_law_136 (fun H locs X1 hP hV hI => ?_)
      obtain ⟨n2, w2⟩ := X1
      refine lv_bipush (v := 32) hx hb dL_law_139 (by decide) ?_
      refine lw_appC X hb1 hP hV hI ⟨⟨32, by omega⟩, rfl⟩ (by simp only [List.length_append, List.length_cons, List.length_nil]; omega) hl.1 (Nat.le_of_ble_eq_true rfl) ⟨by omega, by omega⟩ dL_law_141 (fun H locs X1 hP hV hI => ?_)
      obtain ⟨n2, w2⟩ := X1
      refine lv_aload hx hb dL_law_144 (lv_at hl 0 rfl) ?_
      have hc := hI.2.2.2.2.1 k (by omega)
      rw [vat] at hc
      refine nw_getN (k := 1) X hP.1 hc rfl (rfl : vwCl[16]? = some (RX11, TX11, 7)) cinX11 (by decide) rfl xw819 dL_law_146 ?_
      refine lw_appI X hb1 hP hV hI (by have := (dSp_b (L := L) (xs := xs) (k := k)).2; omega) (by simp only [List.length_append, List.length_cons, List.length_nil, hd1]; omega) hl.1 (Nat.le_of_ble_eq_true rfl) ⟨by omega, by omega⟩ dL_law_149 (fun H locs X1 hP hV hI => ?_)
      obtain ⟨n2, w2⟩ := X1
      refine lv_aload hx hb dL_law_152 (lv_at hl 0 rfl) ?_
      have hc := hI.2.2.2.2.1 k (by omega)
      rw [vat] at hc
      refine nw_getN (k := 5) X hP.1 hc rfl (rfl : vwCl[16]? = some (RX11, TX11, 7)) cinX11 (by decide) rfl xw828 dL_law_154 ?_
      rcases hlf with e | e
      · refine lv_if_eq (tgt := 165) hx hb dL_law_157 (by decide) (fun _ => ?_) (fun c1 => absurd (e) c1)
        refine va_ldcS hx hb X.hown (kRat X.ks 18 rfl) dL_law_165 ?_
        refine lw_appS (i := 18) (q := ("GranaryWatchLaw", 241, " right;", [32, 114, 105, 103, 104, 116, 59])) X hb1 hP hV hI rfl (by simp only [List.length_append, List.length_cons, List.length_nil, hd1]; omega) (Nat.le_of_ble_eq_true rfl) hl.1 (Nat.le_of_ble_eq_true rfl) ⟨by omega, by omega⟩ dL_law_167 (fun H locs X1 hP hV hI => ?_)
        obtain ⟨n2, w2⟩ := X1
        refine lv_pop hx hb dL_law_170 rfl ?_
        refine lv_iinc (v := (nI k) + 1) (lv' := [(6, .int ((nI k) + 1)), (8, .ref (b2 + n)), (7, .int (cellV L xs (1 + k))), (0, .ref b), (1, .ref (caOf b1 0)), (2, .ref (b2 + 0)), (3, .int (cellV L xs 0)), (4, .ref (b2 + 5)), (5, .int (nI (dNc L xs)))]) hx hb dL_law_171 hl (k := 2) rfl (by rfl) (by decide) rfl (fun ls hl => ?_)
        rw [show (nI k : Int32) + 1 = nI (k + 1) from nI_add k 1] at hl
        refine lv_goto (tgt := 44) hx hb dL_law_174 (by decide) ?_
        have e2 : catT (dSp L xs) (dLf L xs) k = [99, 97, 116, 32, nI (97 + k), 32] ++ (dgL (dSp L xs k) ++ [32, 114, 105, 103, 104, 116, 59]) := by
          unfold catT
          rw [if_neg (by rw [e]; decide)]
        have hI2 : Inv cg b2 eA (accT (catT (dSp L xs) (dLf L xs)) (k + 1)) (grR b2 .null 0 0 0 0) (va_up kk 1 (k + 1)) (va_up ar 1 a1) (va_up el 1 (va_up (el 1) k (b2 + n))) (k + 1) (va_up pC k n) (catR L xs) 0 pS sR (n2, w2) := by
          show Inv cg b2 eA (accT (catT (dSp L xs) (dLf L xs)) k ++ catT (dSp L xs) (dLf L xs) k) _ _ _ _ _ _ _ _ _ _ _
          rw [e2, ← acc_1]
          exact hI
        refine ih (k + 1) H locs ls _ _ (n2, w2) _ _ _ _ (by omega) hP hV hI2 vat (fun d hd => (vne (by omega)).trans (h2 d hd)) (fun j hj => ?_) (lv_sub hl [0, 3, 4, 5, 6, 7, 8] rfl) (by omega) (by omega)
        rw [vat]
        by_cases hjk : j = k
        · subst hjk; rw [vat, vat]
        · rw [vne hjk, vne hjk]; exact h3 j (by omega)
      · refine lv_if_eq (tgt := 165) hx hb dL_law_157 (by decide) (fun c1 => absurd c1 (fun z => absurd (e.symm.trans z) (by decide))) (fun _ => ?_)
        refine va_ldcS hx hb X.hown (kRat X.ks 17 rfl) dL_law_160 ?_
        refine lv_goto (tgt := 167) hx hb dL_law_162 (by decide) ?_
        refine lw_appS (i := 17) (q := ("GranaryWatchLaw", 239, " left;", [32, 108, 101, 102, 116, 59])) X hb1 hP hV hI rfl (by simp only [List.length_append, List.length_cons, List.length_nil, hd1]; omega) (Nat.le_of_ble_eq_true rfl) hl.1 (Nat.le_of_ble_eq_true rfl) ⟨by omega, by omega⟩ dL_law_167 (fun H locs X1 hP hV hI => ?_)
        obtain ⟨n2, w2⟩ := X1
        refine lv_pop hx hb dL_law_170 rfl ?_
        refine lv_iinc (v := (nI k) + 1) (lv' := [(6, .int ((nI k) + 1)), (8, .ref (b2 + n)), (7, .int (cellV L xs (1 + k))), (0, .ref b), (1, .ref (caOf b1 0)), (2, .ref (b2 + 0)), (3, .int (cellV L xs 0)), (4, .ref (b2 + 5)), (5, .int (nI (dNc L xs)))]) hx hb dL_law_171 hl (k := 2) rfl (by rfl) (by decide) rfl (fun ls hl => ?_)
        rw [show (nI k : Int32) + 1 = nI (k + 1) from nI_add k 1] at hl
        refine lv_goto (tgt := 44) hx hb dL_law_174 (by decide) ?_
        have e2 : catT (dSp L xs) (dLf L xs) k = [99, 97, 116, 32, nI (97 + k), 32] ++ (dgL (dSp L xs k) ++ [32, 108, 101, 102, 116, 59]) := by
          unfold catT
          rw [if_pos e]
        have hI2 : Inv cg b2 eA (accT (catT (dSp L xs) (dLf L xs)) (k + 1)) (grR b2 .null 0 0 0 0) (va_up kk 1 (k + 1)) (va_up ar 1 a1) (va_up el 1 (va_up (el 1) k (b2 + n))) (k + 1) (va_up pC k n) (catR L xs) 0 pS sR (n2, w2) := by
          show Inv cg b2 eA (accT (catT (dSp L xs) (dLf L xs)) k ++ catT (dSp L xs) (dLf L xs) k) _ _ _ _ _ _ _ _ _ _ _
          rw [e2, ← acc_1]
          exact hI
        refine ih (k + 1) H locs ls _ _ (n2, w2) _ _ _ _ (by omega) hP hV hI2 vat (fun d hd => (vne (by omega)).trans (h2 d hd)) (fun j hj => ?_) (lv_sub hl [0, 3, 4, 5, 6, 7, 8] rfl) (by omega) (by omega)
        rw [vat]
        by_cases hjk : j = k
        · subst hjk; rw [vat, vat]
        · rw [vne hjk, vne hjk]; exact h3 j (by omega)
    refine lv_if_ne (tgt := 107) hx hb dL_law_100 (by decide) (fun c1 => ?_) (fun c1 => ?_)
    · have e : dLf L xs k = 0 := by
        unfold dLf
        exact if_neg (fun z => c1 (by rw [z]; rfl))
      refine lv_iconst (v := 0) hx hb dL_law_107 (by decide) ?_
      rw [e] at last
      exact last
    · have e : dLf L xs k = 1 := by
        unfold dLf
        exact if_pos ((nI_eq (b := 0) (by have := (bN_1 (x := cellV L xs (1 + k)) (a := 3)).1; omega) (by omega)).mp c1)
      refine lv_iconst (v := 1) hx hb dL_law_103 (by decide) ?_
      refine lv_goto (tgt := 108) hx hb dL_law_104 (by decide) ?_
      rw [e] at last
      exact last
end LAWC
