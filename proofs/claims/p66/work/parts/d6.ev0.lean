theorem tw1215 : (Jvm.Cond.methodLink "GranaryWatchLaw" (175 : Nat) ({ cls := "java/util/List", name := "size", desc := "()I" } : Jvm.MethodName)) ∈ TBG := tb_t 1215 (by decide +kernel) (by decide +kernel)
theorem tw1224 : (Jvm.Cond.methodLink "GranaryWatchLaw" (178 : Nat) ({ cls := "java/util/List", name := "get", desc := "(I)Ljava/lang/Object;" } : Jvm.MethodName)) ∈ TBG := tb_t 1224 (by decide +kernel) (by decide +kernel)
/-! the law's events: d6.ev0 -/
section EVT
variable {p : Program} {l : Launch} {e : Env} {R : Room} {s : State} {m : MethodId} {args : Array Value} {below : List Frame} {meth : Method} {c : Code} {H : Heap} {locs : List Loc} {cells slots : Nat} {Q : State → Prop}
variable {pc nL : Nat} {ls : Array Slot} {rest : List Value} {dC : Nat → ClassId} {dI : Nat → Nat → Nat} {cg : Nat → ClassId} {kA : String → Nat → Nat} {la iA : Nat → Nat} {C : LC} {b1 z : Nat} {S S' : CS} {M M' : MS} {h : Nat → Int32}
variable {t b y k : Nat} {x : Int32} {h' : Nat → Int32}
set_option maxRecDepth 10000 in
theorem kLev_0 (X : gX p s m args c cL_event 8 RL (kR kTab kA)) (hC : lC C) (hs : lS b1 la C) (hbz : b1 + 433 ≤ s.heap.size) {k0 v0 tg : Nat} (ek : bitV x 4 4 = nI k0) (ev : bitV x 8 4 = nI v0) (et : bitV x 0 4 = nI tg) (hk0 : k0 < 16) (hv0 : v0 < 16) (hkk : k = k0 % C.1.2.1) (hyy : y = v0 + 1) (K : ∀ ls, lv_has ls 8 [(4, .int (nI y)), (3, .ref (la (13 + k))), (0, .ref (caOf b1 0)), (1, .ref (la 0))] → W p l e (rmL 9 48 192) s m args below meth c H locs 0 0 Q (F0 m 46 ls [.int (nI tg)])) (hP : gF (lP dC dI cg kA la iA C b1) (cZ dC dI cg kA b1 la C s.heap.size S) ((M.2 0), h) s H) (hS : va_S (Fr (qΩ b1 la C) s.heap.size) s.heap H locs) (hl : lv_has ls 8 [(0, .ref (caOf b1 0)), (1, .ref (la 0)), (2, .int x)]) : W p l e (rmL 9 48 192) s m args below meth c H locs 0 0 Q (F0 m 0 ls []) := by
  have hx := X.hx
  have hb := X.hb
  have hcf : gFs (lΩ la C) (cZ dC dI cg kA b1 la C s.heap.size S) := cZ_fs hs
  have hn5 := hC.2.1.2
  have hn1 := hC.2.1.1
  have hk : k < C.1.2.1 := by rw [hkk]; exact Nat.mod_lt _ (by omega)
  refine lv_aload_n hx hb dL_event_0 rfl (lv_at hl 1 rfl) ?_
  refine lr_getN (k := 2) (fs := (lF0 la ((M.2 0), h))) (v := .ref (la 3)) X hP (lEx_l (by decide)) lR_0 (rfl : vwCl[17]? = some (RX12, TX12, 15)) cinX12 (by decide) rfl rfl xw885 dL_event_1 ?_
  refine lv_iload_n hx hb dL_event_4 rfl (lv_at hl 2 rfl) ?_
  refine lv_iconst (v := 4) hx hb dL_event_5 (by decide) ?_
  refine lv_iconst (v := 4) hx hb dL_event_6 (by decide) ?_
  refine gCallSR X rfl (vL_bits (kA := kA)) gsL_bits hdL_bits rfl ⟨by decide, by decide⟩ kR_blind (fun U hU hW => kR_ok.2 _ _ hW X.ks) hl.1 (Nat.le_of_ble_eq_true rfl) ⟨by omega, by omega⟩ dL_event_7 (As := [.int x, .int 4, .int 4]) (rest := [.ref (la 3)]) rfl ?_
  rw [ek]
  refine lv_aload_n hx hb dL_event_10 rfl (lv_at hl 1 rfl) ?_
  refine lr_getN (k := 2) (fs := (lF0 la ((M.2 0), h))) (v := .ref (la 3)) X hP (lEx_l (by decide)) lR_0 (rfl : vwCl[17]? = some (RX12, TX12, 15)) cinX12 (by decide) rfl rfl xw885 dL_event_11 ?_
  refine lr_size (b := 3) X rfl hP (by decide) tw1215 (by decide) hl.1 (Nat.le_of_ble_eq_true rfl) ⟨by omega, by omega⟩ dL_event_14 ?_
  rw [show nI (lNum C 3) = nI C.1.2.1 from rfl]
  refine lv_irem hx hb dL_event_19 (nI_ne0 (show 0 < C.1.2.1 by omega) (by omega)) ?_
  rw [pk_rem (by omega) (by omega) (by omega), ← hkk]
  refine lr_lget (b := 3) (q := la (13 + k)) X rfl hC hP (by decide) (show gIn (nI k) (lNum C 3) from nI_in hk (show C.1.2.1 < 2 ^ 31 by omega)) (by rw [nI_clamp (by omega)]; exact lFa_3 hk) tw1224 (by decide) hl.1 (Nat.le_of_ble_eq_true rfl) ⟨by omega, by omega⟩ dL_event_20 ?_
  refine lr_cast X hP (lEx_s hk) lR_s (rfl : vwCl[18]? = some (RX13, TX13, 5)) tw945 dL_event_25 ?_
  refine lv_astore_n (lv' := [(3, .ref (la (13 + k))), (0, .ref (caOf b1 0)), (1, .ref (la 0)), (2, .int x)]) hx hb dL_event_28 rfl hl (by decide) rfl (fun ls hl => ?_)
  refine lv_iconst (v := 1) hx hb dL_event_29 (by decide) ?_
  refine lv_iload_n hx hb dL_event_30 rfl (lv_at hl 3 rfl) ?_
  refine lv_bipush (v := 8) hx hb dL_event_31 (by decide) ?_
  refine lv_iconst (v := 4) hx hb dL_event_33 (by decide) ?_
  refine gCallSR X rfl (vL_bits (kA := kA)) gsL_bits hdL_bits rfl ⟨by decide, by decide⟩ kR_blind (fun U hU hW => kR_ok.2 _ _ hW X.ks) hl.1 (Nat.le_of_ble_eq_true rfl) ⟨by omega, by omega⟩ dL_event_34 (As := [.int x, .int 8, .int 4]) (rest := [.int 1]) rfl ?_
  rw [ev]
  refine lv_iadd hx hb dL_event_37 ?_
  rw [show (1 : Int32) + nI v0 = nI y from by rw [hyy, Nat.add_comm]; exact nI_add 1 v0]
  refine lv_istore (lv' := [(4, .int (nI y)), (3, .ref (la (13 + k))), (0, .ref (caOf b1 0)), (1, .ref (la 0)), (2, .int x)]) hx hb dL_event_38 hl (by decide) rfl (fun ls hl => ?_)
  refine lv_iload_n hx hb dL_event_40 rfl (lv_at hl 4 rfl) ?_
  refine lv_iconst (v := 0) hx hb dL_event_41 (by decide) ?_
  refine lv_iconst (v := 4) hx hb dL_event_42 (by decide) ?_
  refine gCallSR X rfl (vL_bits (kA := kA)) gsL_bits hdL_bits rfl ⟨by decide, by decide⟩ kR_blind (fun U hU hW => kR_ok.2 _ _ hW X.ks) hl.1 (Nat.le_of_ble_eq_true rfl) ⟨by omega, by omega⟩ dL_event_43 (As := [.int x, .int 0, .int 4]) (rest := []) rfl ?_
  rw [et]
  exact K ls (lv_sub hl [0, 1, 2, 3] rfl)
end EVT
