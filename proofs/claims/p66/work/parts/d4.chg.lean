
/-! the law's events: d4.chg -/
section EVT
variable {p : Program} {l : Launch} {e : Env} {R : Room} {s : State} {m : MethodId} {args : Array Value} {below : List Frame} {meth : Method} {c : Code} {H : Heap} {locs : List Loc} {cells slots : Nat} {Q : State → Prop}
variable {pc nL : Nat} {ls : Array Slot} {rest : List Value} {dC : Nat → ClassId} {dI : Nat → Nat → Nat} {cg : Nat → ClassId} {kA : String → Nat → Nat} {la iA : Nat → Nat} {C : LC} {b1 z : Nat} {S S' : CS} {M M' : MS} {h : Nat → Int32}
variable {t b y k : Nat} {x : Int32} {h' : Nat → Int32}
set_option maxRecDepth 10000 in
theorem kLev_many (X : gX p s m args c cL_event 8 RL (kR kTab kA)) (hC : lC C) (hs : lS b1 la C) (hbz : b1 + 433 ≤ s.heap.size) (hk : k < C.1.2.1) (r : RN S M) (hns : nS (M.2 0) = C.1.2.1) {z : Nat} (hz : M.2 0 (161 + 12 * k + 8) = nI z) (hz9 : z ≤ 99) (hy : y ≤ 16) (c9 : ¬ z + y ≤ 99) (hh : S = S' ∧ M'.2 0 = M.2 0 ∧ h = h') (hret : gRetIA p l e (rmL 9 48 192) s m args below meth c cL_event 48 192 (qΩ b1 la C) (qP dC dI cg kA la iA C b1) Q 1 (S', (M'.2 0, h'))) (hP : gF (lP dC dI cg kA la iA C b1) (cZ dC dI cg kA b1 la C s.heap.size S) ((M.2 0), h) s H) (hS : va_S (Fr (qΩ b1 la C) s.heap.size) s.heap H locs) (hl : lv_has ls 8 [(4, .int (nI y)), (3, .ref (la (13 + k))), (0, .ref (caOf b1 0)), (1, .ref (la 0))]) (hcs : cells ≤ 48 ∧ slots ≤ 192) : W p l e (rmL 9 48 192) s m args below meth c H locs cells slots Q (F0 m 191 ls []) := by
  have hx := X.hx
  have hb := X.hb
  have hcf : gFs (lΩ la C) (cZ dC dI cg kA b1 la C s.heap.size S) := cZ_fs hs
  have hn5 := hC.2.1.2
  obtain ⟨rfl, e0, rfl⟩ := hh
  rw [e0] at hret
  refine lv_aload_n hx hb dL_event_191 rfl (lv_at hl 1 rfl) ?_
  refine lr_getN (k := 2) (fs := (lFs k ((M.2 0), h))) (v := .int ((M.2 0) (161 + 12 * k + 8))) X hP (lEx_s hk) lR_s (rfl : vwCl[18]? = some (RX13, TX13, 5)) cinX13 (by decide) rfl rfl xw956 dL_event_192 ?_
  refine lv_iload hx hb dL_event_195 (lv_at hl 0 rfl) ?_
  refine lv_iadd hx hb dL_event_197 ?_
  refine lv_bipush (v := 99) hx hb dL_event_198 (by decide) ?_
  rw [hz, nI_add]
  refine lv_icmp_le (tgt := 224) hx hb dL_event_200 (by decide) (fun c1 => absurd c1 (nI_ge (a := 99) (by omega) (by omega))) (fun c1 => ?_)
  refine lv_aload_n hx hb dL_event_203 rfl (lv_at hl 2 rfl) ?_
  refine lv_aload_n hx hb dL_event_204 rfl (lv_at hl 1 rfl) ?_
  refine lr_getN (k := 0) (fs := (lFs k ((M.2 0), h))) (v := .int (nI k)) X hP (lEx_s hk) lR_s (rfl : vwCl[18]? = some (RX13, TX13, 5)) cinX13 (by decide) rfl rfl xw952 dL_event_205 ?_
  refine gCallVR X rfl (vX10_miceIn (x_miceIn r (by rw [hns]; exact hk))) gsL_miceIn hdL_miceIn rfl ⟨by decide, by decide⟩ (gB_blind cOK) (gB_at cOK X (cZ_cP hP.2)) (cr_rec (cZ_cP hP.2) (rfl : kc 0 = 0) rfl cw0 rfl) hl.1 (Nat.le_of_ble_eq_true rfl) ⟨by omega, by omega⟩ dL_event_208 (As := [.int (nI k)]) (rest := []) rfl ?_
  refine lv_aload_n hx hb dL_event_211 rfl (lv_at hl 1 rfl) ?_
  refine lr_getN (k := 2) (fs := (lFs k ((M.2 0), h))) (v := .int ((M.2 0) (161 + 12 * k + 8))) X hP (lEx_s hk) lR_s (rfl : vwCl[18]? = some (RX13, TX13, 5)) cinX13 (by decide) rfl rfl xw956 dL_event_212 ?_
  refine lv_icmp_ne (tgt := 222) hx hb dL_event_215 (by decide) (fun c1 => absurd c1 (fun c2 => c2 rfl)) (fun c1 => ?_)
  refine lv_iconst (v := 1) hx hb dL_event_218 (by decide) ?_
  refine lv_goto (tgt := 223) hx hb dL_event_219 (by decide) ?_
  exact hret _ _ _ _ _ _ dL_event_223 ⟨cZ_cP hP.2, hP.1⟩ hS (by omega) (by omega)
set_option maxRecDepth 10000 in
theorem kLev_mice (X : gX p s m args c cL_event 8 RL (kR kTab kA)) (hC : lC C) (hs : lS b1 la C) (hbz : b1 + 433 ≤ s.heap.size) (hk : k < C.1.2.1) {z : Nat} (hz : M.2 0 (161 + 12 * k + 8) = nI z) (c9 : z + y ≤ 99) (f1 : fX10_addMice S (nI k) (nI y) = some (nI (z + y), S')) (f3 : M'.2 0 = upd (upd (M.2 0) (161 + 12 * k + 8) (nI (z + y))) 14 (M.2 0 14 + nI y)) (hh : h = h') (hret : gRetIA p l e (rmL 9 48 192) s m args below meth c cL_event 48 192 (qΩ b1 la C) (qP dC dI cg kA la iA C b1) Q 1 (S', (M'.2 0, h'))) (hP : gF (lP dC dI cg kA la iA C b1) (cZ dC dI cg kA b1 la C s.heap.size S) ((M.2 0), h) s H) (hS : va_S (Fr (qΩ b1 la C) s.heap.size) s.heap H locs) (hl : lv_has ls 8 [(4, .int (nI y)), (3, .ref (la (13 + k))), (0, .ref (caOf b1 0)), (1, .ref (la 0))]) (hcs : cells ≤ 48 ∧ slots ≤ 192) : W p l e (rmL 9 48 192) s m args below meth c H locs cells slots Q (F0 m 191 ls []) := by
  have hx := X.hx
  have hb := X.hb
  have hcf : gFs (lΩ la C) (cZ dC dI cg kA b1 la C s.heap.size S) := cZ_fs hs
  have hn5 := hC.2.1.2
  subst hh
  rw [f3] at hret
  refine lv_aload_n hx hb dL_event_191 rfl (lv_at hl 1 rfl) ?_
  refine lr_getN (k := 2) (fs := (lFs k ((M.2 0), h))) (v := .int ((M.2 0) (161 + 12 * k + 8))) X hP (lEx_s hk) lR_s (rfl : vwCl[18]? = some (RX13, TX13, 5)) cinX13 (by decide) rfl rfl xw956 dL_event_192 ?_
  refine lv_iload hx hb dL_event_195 (lv_at hl 0 rfl) ?_
  refine lv_iadd hx hb dL_event_197 ?_
  refine lv_bipush (v := 99) hx hb dL_event_198 (by decide) ?_
  rw [hz, nI_add]
  refine lv_icmp_le (tgt := 224) hx hb dL_event_200 (by decide) (fun c1 => ?_) (fun c1 => absurd (show nI (z + y) ≤ (99 : Int32) from nI_le (b := 99) c9 (by omega)) c1)
  refine lv_aload_n hx hb dL_event_224 rfl (lv_at hl 1 rfl) ?_
  refine lv_dup hx hb dL_event_225 rfl ?_
  refine lr_getN (k := 2) (fs := (lFs k ((M.2 0), h))) (v := .int ((M.2 0) (161 + 12 * k + 8))) X hP (lEx_s hk) lR_s (rfl : vwCl[18]? = some (RX13, TX13, 5)) cinX13 (by decide) rfl rfl xw956 dL_event_226 ?_
  refine lv_iload hx hb dL_event_229 (lv_at hl 0 rfl) ?_
  refine lv_iadd hx hb dL_event_231 ?_
  rw [hz, nI_add]
  refine lr_putNA (k := 2) (fs := (lFs k ((M.2 0), h))) (tyT := tyX13) ((upd (M.2 0) (161 + 12 * k + 8) (nI (z + y))), h) X hcf hP hS (Or.inl (Or.inr ⟨_, (lEx_s hk), rfl⟩)) (lEx_s hk) lR_s ls_2 (fun p hp => lus (by decide) hp) (rfl : vwCl[18]? = some (RX13, TX13, 5)) cinX13 tyX13_ok nmX13 (by decide) rfl rfl rfl rfl (Nat.le_of_ble_eq_true rfl) xw956 dL_event_232 (fun H locs hP hS => ?_)
  refine lv_aload_n hx hb dL_event_235 rfl (lv_at hl 2 rfl) ?_
  refine lv_aload_n hx hb dL_event_236 rfl (lv_at hl 1 rfl) ?_
  refine lr_getN (k := 0) (fs := (lFs k ((upd (M.2 0) (161 + 12 * k + 8) (nI (z + y))), h))) (v := .int (nI k)) X hP (lEx_s hk) lR_s (rfl : vwCl[18]? = some (RX13, TX13, 5)) cinX13 (by decide) rfl rfl xw952 dL_event_237 ?_
  refine lv_iload hx hb dL_event_240 (lv_at hl 0 rfl) ?_
  refine gCallWI X (gF_ok cOK (lP_fsC hs)) ((gMetI.A (vX10_addMice f1)).lift (lP_fsC hs)) (cw_V 2 X gsL_addMice hdL_addMice ⟨by decide, by decide⟩) rfl ⟨cZ_cP hP.2, hP.1⟩ hS (cq_fr hS.1) (cr_rec (cZ_cP hP.2) (rfl : kc 0 = 0) rfl cw0 rfl) hl.1 (Nat.le_of_ble_eq_true rfl) ⟨by show _ + 0 ≤ 48; omega, by show _ + 0 ≤ 192; omega⟩ dL_event_242 (As := [.int (nI k), .int (nI y)]) (rest := []) rfl (fun H locs hP hS => ?_)
  have hP0 := hP
  replace hP : gF (lP dC dI cg kA la iA C b1) T0 (upd (M.2 0) (161 + 12 * k + 8) (nI (z + y)), h) s H := ⟨hP0.2, trivial⟩
  refine lv_aload_n hx hb dL_event_245 rfl (lv_at hl 1 rfl) ?_
  refine lr_getN (k := 2) (fs := (lFs k ((upd (M.2 0) (161 + 12 * k + 8) (nI (z + y))), h))) (v := .int ((upd (M.2 0) (161 + 12 * k + 8) (nI (z + y))) (161 + 12 * k + 8))) X hP (lEx_s hk) lR_s (rfl : vwCl[18]? = some (RX13, TX13, 5)) cinX13 (by decide) rfl rfl xw956 dL_event_246 ?_
  refine lv_icmp_ne (tgt := 256) hx hb dL_event_249 (by decide) (fun c1 => absurd c1 (fun c2 => c2 pk_us.symm)) (fun c1 => ?_)
  refine lv_iconst (v := 1) hx hb dL_event_252 (by decide) ?_
  refine lv_goto (tgt := 257) hx hb dL_event_253 (by decide) ?_
  exact hret _ _ _ _ _ _ dL_event_257 ⟨hP0.1, lP_cong (fun q hq => by rw [pk_un (by omega)]) hP0.2⟩ hS (by omega) (by omega)
set_option maxRecDepth 10000 in
theorem kLev_grain (X : gX p s m args c cL_event 8 RL (kR kTab kA)) (hC : lC C) (hs : lS b1 la C) (hbz : b1 + 433 ≤ s.heap.size) (hk : k < C.1.2.1) {z : Nat} (hz : M.2 0 (161 + 12 * k + 7) = nI z) (f1 : fX10_addGrain S (nI k) (nI (5 * y)) = some (nI (z + 5 * y), S')) (f3 : M'.2 0 = upd (upd (M.2 0) (161 + 12 * k + 7) (nI (z + 5 * y))) 15 (M.2 0 15 + nI (5 * y))) (hh : h = h') (hret : gRetIA p l e (rmL 9 48 192) s m args below meth c cL_event 48 192 (qΩ b1 la C) (qP dC dI cg kA la iA C b1) Q 1 (S', (M'.2 0, h'))) (hP : gF (lP dC dI cg kA la iA C b1) (cZ dC dI cg kA b1 la C s.heap.size S) ((M.2 0), h) s H) (hS : va_S (Fr (qΩ b1 la C) s.heap.size) s.heap H locs) (hl : lv_has ls 8 [(4, .int (nI y)), (3, .ref (la (13 + k))), (0, .ref (caOf b1 0)), (1, .ref (la 0))]) (hcs : cells ≤ 48 ∧ slots ≤ 192) : W p l e (rmL 9 48 192) s m args below meth c H locs cells slots Q (F0 m 258 ls []) := by
  have hx := X.hx
  have hb := X.hb
  have hcf : gFs (lΩ la C) (cZ dC dI cg kA b1 la C s.heap.size S) := cZ_fs hs
  have hn5 := hC.2.1.2
  subst hh
  rw [f3] at hret
  have e5 : (5 : Int32) * nI y = nI (5 * y) := pk_mul 5 y
  refine lv_aload_n hx hb dL_event_258 rfl (lv_at hl 1 rfl) ?_
  refine lv_dup hx hb dL_event_259 rfl ?_
  refine lr_getN (k := 1) (fs := (lFs k ((M.2 0), h))) (v := .int ((M.2 0) (161 + 12 * k + 7))) X hP (lEx_s hk) lR_s (rfl : vwCl[18]? = some (RX13, TX13, 5)) cinX13 (by decide) rfl rfl xw954 dL_event_260 ?_
  refine lv_iconst (v := 5) hx hb dL_event_263 (by decide) ?_
  refine lv_iload hx hb dL_event_264 (lv_at hl 0 rfl) ?_
  refine lv_imul hx hb dL_event_266 ?_
  refine lv_iadd hx hb dL_event_267 ?_
  rw [e5, hz, nI_add]
  refine lr_putNA (k := 1) (fs := (lFs k ((M.2 0), h))) (tyT := tyX13) ((upd (M.2 0) (161 + 12 * k + 7) (nI (z + 5 * y))), h) X hcf hP hS (Or.inl (Or.inr ⟨_, (lEx_s hk), rfl⟩)) (lEx_s hk) lR_s ls_1 (fun p hp => lus (by decide) hp) (rfl : vwCl[18]? = some (RX13, TX13, 5)) cinX13 tyX13_ok nmX13 (by decide) rfl rfl rfl rfl (Nat.le_of_ble_eq_true rfl) xw954 dL_event_268 (fun H locs hP hS => ?_)
  refine lv_aload_n hx hb dL_event_271 rfl (lv_at hl 2 rfl) ?_
  refine lv_aload_n hx hb dL_event_272 rfl (lv_at hl 1 rfl) ?_
  refine lr_getN (k := 0) (fs := (lFs k ((upd (M.2 0) (161 + 12 * k + 7) (nI (z + 5 * y))), h))) (v := .int (nI k)) X hP (lEx_s hk) lR_s (rfl : vwCl[18]? = some (RX13, TX13, 5)) cinX13 (by decide) rfl rfl xw952 dL_event_273 ?_
  refine lv_iconst (v := 5) hx hb dL_event_276 (by decide) ?_
  refine lv_iload hx hb dL_event_277 (lv_at hl 0 rfl) ?_
  refine lv_imul hx hb dL_event_279 ?_
  rw [e5]
  refine gCallWI X (gF_ok cOK (lP_fsC hs)) ((gMetI.A (vX10_addGrain f1)).lift (lP_fsC hs)) (cw_V 2 X gsL_addGrain hdL_addGrain ⟨by decide, by decide⟩) rfl ⟨cZ_cP hP.2, hP.1⟩ hS (cq_fr hS.1) (cr_rec (cZ_cP hP.2) (rfl : kc 0 = 0) rfl cw0 rfl) hl.1 (Nat.le_of_ble_eq_true rfl) ⟨by show _ + 0 ≤ 48; omega, by show _ + 0 ≤ 192; omega⟩ dL_event_280 (As := [.int (nI k), .int (nI (5 * y))]) (rest := []) rfl (fun H locs hP hS => ?_)
  have hP0 := hP
  replace hP : gF (lP dC dI cg kA la iA C b1) T0 (upd (M.2 0) (161 + 12 * k + 7) (nI (z + 5 * y)), h) s H := ⟨hP0.2, trivial⟩
  refine lv_aload_n hx hb dL_event_283 rfl (lv_at hl 1 rfl) ?_
  refine lr_getN (k := 1) (fs := (lFs k ((upd (M.2 0) (161 + 12 * k + 7) (nI (z + 5 * y))), h))) (v := .int ((upd (M.2 0) (161 + 12 * k + 7) (nI (z + 5 * y))) (161 + 12 * k + 7))) X hP (lEx_s hk) lR_s (rfl : vwCl[18]? = some (RX13, TX13, 5)) cinX13 (by decide) rfl rfl xw954 dL_event_284 ?_
  refine lv_icmp_ne (tgt := 294) hx hb dL_event_287 (by decide) (fun c1 => absurd c1 (fun c2 => c2 pk_us.symm)) (fun c1 => ?_)
  refine lv_iconst (v := 1) hx hb dL_event_290 (by decide) ?_
  refine lv_goto (tgt := 295) hx hb dL_event_291 (by decide) ?_
  exact hret _ _ _ _ _ _ dL_event_295 ⟨hP0.1, lP_cong (fun q hq => by rw [pk_un (by omega)]) hP0.2⟩ hS (by omega) (by omega)
set_option maxRecDepth 10000 in
theorem kLev_none (X : gX p s m args c cL_event 8 RL (kR kTab kA)) (hC : lC C) (hs : lS b1 la C) (hbz : b1 + 433 ≤ s.heap.size) (hk : k < C.1.2.1) (r : RN S M) (h5 : M.2 0 5 = -1) (hh : S = S' ∧ M'.2 0 = M.2 0 ∧ h = h') (hret : gRetIA p l e (rmL 9 48 192) s m args below meth c cL_event 48 192 (qΩ b1 la C) (qP dC dI cg kA la iA C b1) Q 1 (S', (M'.2 0, h'))) (hP : gF (lP dC dI cg kA la iA C b1) (cZ dC dI cg kA b1 la C s.heap.size S) ((M.2 0), h) s H) (hS : va_S (Fr (qΩ b1 la C) s.heap.size) s.heap H locs) (hl : lv_has ls 8 [(4, .int (nI y)), (3, .ref (la (13 + k))), (0, .ref (caOf b1 0)), (1, .ref (la 0))]) (hcs : cells ≤ 48 ∧ slots ≤ 192) : W p l e (rmL 9 48 192) s m args below meth c H locs cells slots Q (F0 m 296 ls []) := by
  have hx := X.hx
  have hb := X.hb
  have hcf : gFs (lΩ la C) (cZ dC dI cg kA b1 la C s.heap.size S) := cZ_fs hs
  have hn5 := hC.2.1.2
  obtain ⟨rfl, e0, rfl⟩ := hh
  rw [e0] at hret
  refine lv_aload_n hx hb dL_event_296 rfl (lv_at hl 3 rfl) ?_
  refine lr_getN (k := 4) (fs := (lF0 la ((M.2 0), h))) (v := va_rf (swA la ((M.2 0) 5))) X hP (lEx_l (by decide)) lR_0 (rfl : vwCl[17]? = some (RX12, TX12, 15)) cinX12 (by decide) rfl rfl xw889 dL_event_297 ?_
  rw [sw_null h5]
  refine lv_ifnonnullN hx hb dL_event_300 ?_
  refine lv_aload_n hx hb dL_event_303 rfl (lv_at hl 2 rfl) ?_
  refine gCallVR X rfl (vX10_swornCat (x_swornCat r)) gsL_swornCat hdL_swornCat rfl ⟨by decide, by decide⟩ (gB_blind cOK) (gB_at cOK X (cZ_cP hP.2)) (cr_rec (cZ_cP hP.2) (rfl : kc 0 = 0) rfl cw0 rfl) hl.1 (Nat.le_of_ble_eq_true rfl) ⟨by omega, by omega⟩ dL_event_304 (As := []) (rest := []) rfl ?_
  refine lv_iconst (v := (-1)) hx hb dL_event_307 (by decide) ?_
  refine lv_icmp_ne (tgt := 315) hx hb dL_event_308 (by decide) (fun c1 => absurd c1 (fun c2 => c2 h5)) (fun c1 => ?_)
  refine lv_iconst (v := 1) hx hb dL_event_311 (by decide) ?_
  refine lv_goto (tgt := 316) hx hb dL_event_312 (by decide) ?_
  exact hret _ _ _ _ _ _ dL_event_316 ⟨cZ_cP hP.2, hP.1⟩ hS (by omega) (by omega)
set_option maxRecDepth 10000 in
theorem kLev_dis (X : gX p s m args c cL_event 8 RL (kR kTab kA)) (hC : lC C) (hs : lS b1 la C) (hbz : b1 + 433 ≤ s.heap.size) (hk : k < C.1.2.1) {d : Nat} (hd : d < C.1.1) (h5 : M.2 0 5 = nI d) (f1 : fX10_dismiss S = some (M.2 0 5, S')) (f3 : M'.2 0 = upd (M.2 0) 5 (-1)) (hh : h = h') (hret : gRetIA p l e (rmL 9 48 192) s m args below meth c cL_event 48 192 (qΩ b1 la C) (qP dC dI cg kA la iA C b1) Q 1 (S', (M'.2 0, h'))) (hP : gF (lP dC dI cg kA la iA C b1) (cZ dC dI cg kA b1 la C s.heap.size S) ((M.2 0), h) s H) (hS : va_S (Fr (qΩ b1 la C) s.heap.size) s.heap H locs) (hl : lv_has ls 8 [(4, .int (nI y)), (3, .ref (la (13 + k))), (0, .ref (caOf b1 0)), (1, .ref (la 0))]) (hcs : cells ≤ 48 ∧ slots ≤ 192) : W p l e (rmL 9 48 192) s m args below meth c H locs cells slots Q (F0 m 296 ls []) := by
  have hx := X.hx
  have hb := X.hb
  have hcf : gFs (lΩ la C) (cZ dC dI cg kA b1 la C s.heap.size S) := cZ_fs hs
  have hn5 := hC.2.1.2
  subst hh
  rw [f3] at hret
  have hd4 : d < 4 := lC_c hC hd
  refine lv_aload_n hx hb dL_event_296 rfl (lv_at hl 3 rfl) ?_
  refine lr_getN (k := 4) (fs := (lF0 la ((M.2 0), h))) (v := va_rf (swA la ((M.2 0) 5))) X hP (lEx_l (by decide)) lR_0 (rfl : vwCl[17]? = some (RX12, TX12, 15)) cinX12 (by decide) rfl rfl xw889 dL_event_297 ?_
  rw [sw_at h5 hd4]
  refine lv_ifnonnull (tgt := 317) hx hb dL_event_300 (by decide) ?_
  refine lv_aload_n hx hb dL_event_317 rfl (lv_at hl 3 rfl) ?_
  refine lr_getN (k := 4) (fs := (lF0 la ((M.2 0), h))) (v := va_rf (swA la ((M.2 0) 5))) X hP (lEx_l (by decide)) lR_0 (rfl : vwCl[17]? = some (RX12, TX12, 15)) cinX12 (by decide) rfl rfl xw889 dL_event_318 ?_
  rw [sw_at h5 hd4]
  refine lr_getN (k := 0) (fs := (lFc d ((M.2 0), h))) (v := .int (nI d)) X hP (lEx_c hC hd) (lR_c (lC_c hC hd)) (rfl : vwCl[16]? = some (RX11, TX11, 7)) cinX11 (by decide) rfl rfl xw817 dL_event_321 ?_
  refine lv_istore (lv' := [(5, .int (nI d)), (4, .int (nI y)), (3, .ref (la (13 + k))), (0, .ref (caOf b1 0)), (1, .ref (la 0))]) hx hb dL_event_324 hl (by decide) rfl (fun ls hl => ?_)
  refine lv_aload_n hx hb dL_event_326 rfl (lv_at hl 4 rfl) ?_
  refine lv_null hx hb dL_event_327 ?_
  refine lr_putNA (k := 4) (fs := (lF0 la ((M.2 0), h))) (tyT := tyX12) ((upd (M.2 0) 5 (-1)), h) X hcf hP hS (Or.inl (Or.inr ⟨_, (lEx_l (by decide)), rfl⟩)) (lEx_l (by decide)) lR_0 l0_sn (fun p hp => lu0 (by decide) hp) (rfl : vwCl[17]? = some (RX12, TX12, 15)) cinX12 tyX12_ok nmX12 (by decide) rfl rfl rfl rfl (Nat.le_of_ble_eq_true rfl) xw889 dL_event_328 (fun H locs hP hS => ?_)
  refine lv_aload_n hx hb dL_event_331 rfl (lv_at hl 3 rfl) ?_
  refine gCallWI X (gF_ok cOK (lP_fsC hs)) ((gMetI.A (vX10_dismiss f1)).lift (lP_fsC hs)) (cw_V 0 X gsL_dismiss hdL_dismiss ⟨by decide, by decide⟩) rfl ⟨cZ_cP hP.2, hP.1⟩ hS (cq_fr hS.1) (cr_rec (cZ_cP hP.2) (rfl : kc 0 = 0) rfl cw0 rfl) hl.1 (Nat.le_of_ble_eq_true rfl) ⟨by show _ + 0 ≤ 48; omega, by show _ + 0 ≤ 192; omega⟩ dL_event_332 (As := []) (rest := []) rfl (fun H locs hP hS => ?_)
  refine lv_iload hx hb dL_event_335 (lv_at hl 0 rfl) ?_
  refine lv_icmp_ne (tgt := 344) hx hb dL_event_337 (by decide) (fun c1 => absurd c1 (fun c2 => c2 h5)) (fun c1 => ?_)
  refine lv_iconst (v := 1) hx hb dL_event_340 (by decide) ?_
  refine lv_goto (tgt := 345) hx hb dL_event_341 (by decide) ?_
  exact hret _ _ _ _ _ _ dL_event_345 ⟨hP.1, hP.2⟩ hS (by omega) (by omega)
set_option maxRecDepth 10000 in
theorem kLev_milk (X : gX p s m args c cL_event 8 RL (kR kTab kA)) (hC : lC C) (hs : lS b1 la C) (hbz : b1 + 433 ≤ s.heap.size) (hk : k < C.1.2.1) (hy : y ≤ 16) (f1 : fX10_setMilk S (nI (y % 10)) = some (M.2 0 4, S')) (f3 : M'.2 0 = upd (M.2 0) 4 (nI (y % 10))) (hh : h = h') (hret : gRetIA p l e (rmL 9 48 192) s m args below meth c cL_event 48 192 (qΩ b1 la C) (qP dC dI cg kA la iA C b1) Q 1 (S', (M'.2 0, h'))) (hP : gF (lP dC dI cg kA la iA C b1) (cZ dC dI cg kA b1 la C s.heap.size S) ((M.2 0), h) s H) (hS : va_S (Fr (qΩ b1 la C) s.heap.size) s.heap H locs) (hl : lv_has ls 8 [(4, .int (nI y)), (3, .ref (la (13 + k))), (0, .ref (caOf b1 0)), (1, .ref (la 0))]) (hcs : cells ≤ 48 ∧ slots ≤ 192) : W p l e (rmL 9 48 192) s m args below meth c H locs cells slots Q (F0 m 346 ls []) := by
  have hx := X.hx
  have hb := X.hb
  have hcf : gFs (lΩ la C) (cZ dC dI cg kA b1 la C s.heap.size S) := cZ_fs hs
  have hn5 := hC.2.1.2
  subst hh
  rw [f3] at hret
  have e10 : nI y - nI y / 10 * 10 = nI (y % 10) := pk_rem (d := 10) (by omega) (by omega) (by omega)
  refine lv_aload_n hx hb dL_event_346 rfl (lv_at hl 3 rfl) ?_
  refine lr_getN (k := 6) (fs := (lF0 la ((M.2 0), h))) (v := .int ((M.2 0) 4)) X hP (lEx_l (by decide)) lR_0 (rfl : vwCl[17]? = some (RX12, TX12, 15)) cinX12 (by decide) rfl rfl xw892 dL_event_347 ?_
  refine lv_istore (lv' := [(5, .int ((M.2 0) 4)), (4, .int (nI y)), (3, .ref (la (13 + k))), (0, .ref (caOf b1 0)), (1, .ref (la 0))]) hx hb dL_event_350 hl (by decide) rfl (fun ls hl => ?_)
  refine lv_aload_n hx hb dL_event_352 rfl (lv_at hl 4 rfl) ?_
  refine lv_iload hx hb dL_event_353 (lv_at hl 1 rfl) ?_
  refine lv_bipush (v := 10) hx hb dL_event_355 (by decide) ?_
  refine lv_irem hx hb dL_event_357 (by decide) ?_
  rw [e10]
  refine lr_putNA (k := 6) (fs := (lF0 la ((M.2 0), h))) (tyT := tyX12) ((upd (M.2 0) 4 (nI (y % 10))), h) X hcf hP hS (Or.inl (Or.inr ⟨_, (lEx_l (by decide)), rfl⟩)) (lEx_l (by decide)) lR_0 rfl (fun p hp => lu0 (by decide) hp) (rfl : vwCl[17]? = some (RX12, TX12, 15)) cinX12 tyX12_ok nmX12 (by decide) rfl rfl rfl rfl (Nat.le_of_ble_eq_true rfl) xw892 dL_event_358 (fun H locs hP hS => ?_)
  refine lv_aload_n hx hb dL_event_361 rfl (lv_at hl 3 rfl) ?_
  refine lv_aload_n hx hb dL_event_362 rfl (lv_at hl 4 rfl) ?_
  refine lr_getN (k := 6) (fs := (lF0 la ((upd (M.2 0) 4 (nI (y % 10))), h))) (v := .int ((upd (M.2 0) 4 (nI (y % 10))) 4)) X hP (lEx_l (by decide)) lR_0 (rfl : vwCl[17]? = some (RX12, TX12, 15)) cinX12 (by decide) rfl rfl xw892 dL_event_363 ?_
  rw [show upd (M.2 0) 4 (nI (y % 10)) 4 = nI (y % 10) from pk_us]
  refine gCallWI X (gF_ok cOK (lP_fsC hs)) ((gMetI.A (vX10_setMilk f1)).lift (lP_fsC hs)) (cw_V 1 X gsL_setMilk hdL_setMilk ⟨by decide, by decide⟩) rfl ⟨cZ_cP hP.2, hP.1⟩ hS (cq_fr hS.1) (cr_rec (cZ_cP hP.2) (rfl : kc 0 = 0) rfl cw0 rfl) hl.1 (Nat.le_of_ble_eq_true rfl) ⟨by show _ + 0 ≤ 48; omega, by show _ + 0 ≤ 192; omega⟩ dL_event_366 (As := [.int (nI (y % 10))]) (rest := []) rfl (fun H locs hP hS => ?_)
  refine lv_iload hx hb dL_event_369 (lv_at hl 0 rfl) ?_
  refine lv_icmp_ne (tgt := 378) hx hb dL_event_371 (by decide) (fun c1 => absurd c1 (fun c2 => c2 rfl)) (fun c1 => ?_)
  refine lv_iconst (v := 1) hx hb dL_event_374 (by decide) ?_
  refine lv_goto (tgt := 379) hx hb dL_event_375 (by decide) ?_
  exact hret _ _ _ _ _ _ dL_event_379 ⟨hP.1, hP.2⟩ hS (by omega) (by omega)
end EVT
