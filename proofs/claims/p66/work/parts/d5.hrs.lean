
/-! the law's events: d5.hrs -/
section EVT
variable {p : Program} {l : Launch} {e : Env} {R : Room} {s : State} {m : MethodId} {args : Array Value} {below : List Frame} {meth : Method} {c : Code} {H : Heap} {locs : List Loc} {cells slots : Nat} {Q : State → Prop}
variable {pc nL : Nat} {ls : Array Slot} {rest : List Value} {dC : Nat → ClassId} {dI : Nat → Nat → Nat} {cg : Nat → ClassId} {kA : String → Nat → Nat} {la iA : Nat → Nat} {C : LC} {b1 z : Nat} {S S' : CS} {M M' : MS} {h : Nat → Int32}
variable {t b y k : Nat} {x : Int32} {h' : Nat → Int32}
set_option maxRecDepth 10000 in
theorem kLev_hl (X : gX p s m args c cL_event 8 RL (kR kTab kA)) (hC : lC C) (hs : lS b1 la C) (hbz : b1 + 433 ≤ s.heap.size) {n : Nat} {x5 : Int32} {wf : Wd} {hf : Nat → Int32} (hn8 : n ≤ 8) (K : ∀ (H : Heap) (locs : List Loc) (ls : Array Slot) (cells slots : Nat), cells ≤ 48 → slots ≤ 192 → gF (lP dC dI cg kA la iA C b1) (cZ dC dI cg kA b1 la C s.heap.size S) (wf, hf) s H → va_S (Fr (qΩ b1 la C) s.heap.size) s.heap H locs → lv_has ls 8 [(6, .int (nI n)), (5, .int x5), (0, .ref (caOf b1 0)), (1, .ref (la 0))] → W p l e (rmL 9 48 192) s m args below meth c H locs cells slots Q (F0 m 424 ls [])) : ∀ r' i (w : Wd) (h : Nat → Int32), n = i + r' → hoursW r' w = wf → LHs C r' w h hf → ∀ (H : Heap) (locs : List Loc) (ls : Array Slot) (cells slots : Nat), cells + 6 * r' ≤ 48 → slots + 24 * r' ≤ 192 → gF (lP dC dI cg kA la iA C b1) (cZ dC dI cg kA b1 la C s.heap.size S) (w, h) s H → va_S (Fr (qΩ b1 la C) s.heap.size) s.heap H locs → lv_has ls 8 [(7, .int (nI i)), (6, .int (nI n)), (5, .int x5), (0, .ref (caOf b1 0)), (1, .ref (la 0))] → W p l e (rmL 9 48 192) s m args below meth c H locs cells slots Q (F0 m 407 ls []) := by
  have hx := X.hx
  have hb := X.hb
  have hcf : gFs (lΩ la C) (cZ dC dI cg kA b1 la C s.heap.size S) := cZ_fs hs
  have hn5 := hC.2.1.2
  intro r'
  induction r' with
  | zero =>
    intro i w h hi hw hh H locs ls cells slots hc1 hc2 hP hS hl
    refine lv_iload hx hb dL_event_407 (lv_at hl 0 rfl) ?_
    refine lv_iload hx hb dL_event_409 (lv_at hl 1 rfl) ?_
    refine lv_icmp_ge (tgt := 424) hx hb dL_event_411 (by decide) (fun c1 => ?_) (fun c1 => absurd (show nI n ≤ nI i from nI_le (by omega) (by omega)) c1)
    have hw : w = wf := hw
    have hh : hf = h := hh
    subst hw; subst hh
    exact K H locs ls cells slots (by omega) (by omega) hP hS (lv_sub hl [1, 2, 3, 4] rfl)
  | succ r' ih =>
    intro i w h hi hw hh H locs ls cells slots hc1 hc2 hP hS hl
    obtain ⟨g, g1, g2, g3⟩ := hh
    refine lv_iload hx hb dL_event_407 (lv_at hl 0 rfl) ?_
    refine lv_iload hx hb dL_event_409 (lv_at hl 1 rfl) ?_
    refine lv_icmp_ge (tgt := 424) hx hb dL_event_411 (by decide) (fun c1 => absurd c1 (nI_ge (show i < n by omega) (by omega))) (fun c1 => ?_)
    refine lv_aload_n hx hb dL_event_414 rfl (lv_at hl 4 rfl) ?_
    refine gCallWV X (lOK hcf) ((vZ12_hour hC g1).lift hcf) (cw_V 0 X gsL_hour hdL_hour ⟨by decide, by decide⟩) rfl hP hS (lq_fr hS.1) (lr_rec hP (lEx_l (by decide)) lR_0 (rfl : vwCl[17]? = some (RX12, TX12, 15))) hl.1 (Nat.le_of_ble_eq_true rfl) ⟨by show _ + 6 ≤ 48; omega, by show _ + 24 ≤ 192; omega⟩ dL_event_415 (As := []) (rest := []) rfl (fun H locs hP hS => ?_)
    replace hP : gF (lP dC dI cg kA la iA C b1) (cZ dC dI cg kA b1 la C s.heap.size S) (hourW w, g) s H := ⟨lP_cong (fun q hq => (g2 q (by unfold WG; omega)).symm) hP.1, hP.2⟩
    refine lv_iinc (v := (nI i) + 1) (lv' := [(7, .int ((nI i) + 1)), (6, .int (nI n)), (5, .int x5), (0, .ref (caOf b1 0)), (1, .ref (la 0))]) hx hb dL_event_418 hl (k := 0) rfl (by rfl) (by decide) rfl (fun ls hl => ?_)
    rw [← nI_succ] at hl
    refine lv_goto (tgt := 407) hx hb dL_event_421 (by decide) ?_
    exact ih (i + 1) _ _ (by omega) ((hoursW_s _ _).symm.trans hw) g3 H locs ls _ _ (by omega) (by omega) hP hS (lv_sub hl [0, 1, 2, 3, 4] rfl)
set_option maxRecDepth 10000 in
theorem kLev_hours (X : gX p s m args c cL_event 8 RL (kR kTab kA)) (hC : lC C) (hs : lS b1 la C) (hbz : b1 + 433 ≤ s.heap.size) {n : Nat} (hn : n = if y < 11 then 1 else y - 8) (hy : 1 ≤ y) (hy16 : y ≤ 16) (g1 : LHs C n (M.2 0) h h') (f1 : fX10_letPass S (nI n) = some (hoursW n (M.2 0) 8 - M.2 0 8, S')) (f3 : M'.2 0 = hoursW n (M.2 0)) (hret : gRetIA p l e (rmL 9 48 192) s m args below meth c cL_event 48 192 (qΩ b1 la C) (qP dC dI cg kA la iA C b1) Q 1 (S', (M'.2 0, h'))) (hP : gF (lP dC dI cg kA la iA C b1) (cZ dC dI cg kA b1 la C s.heap.size S) ((M.2 0), h) s H) (hS : va_S (Fr (qΩ b1 la C) s.heap.size) s.heap H locs) (hl : lv_has ls 8 [(4, .int (nI y)), (3, .ref (la (13 + k))), (0, .ref (caOf b1 0)), (1, .ref (la 0))]) (hcs : cells = 0 ∧ slots = 0) : W p l e (rmL 9 48 192) s m args below meth c H locs cells slots Q (F0 m 380 ls []) := by
  have hx := X.hx
  have hb := X.hb
  have hcf : gFs (lΩ la C) (cZ dC dI cg kA b1 la C s.heap.size S) := cZ_fs hs
  have hn5 := hC.2.1.2
  rw [f3] at hret
  obtain ⟨rfl, rfl⟩ := hcs
  have hn8 : n ≤ 8 := by subst hn; split <;> omega
  have K1 : ∀ ls, lv_has ls 8 [(5, .int (M.2 0 8)), (0, .ref (caOf b1 0)), (1, .ref (la 0))] → W p l e (rmL 9 48 192) s m args below meth c H locs 0 0 Q (F0 m 402 ls [.int (nI n)]) := by
    intro ls hl
    refine lv_istore (lv' := [(6, .int (nI n)), (5, .int (M.2 0 8)), (0, .ref (caOf b1 0)), (1, .ref (la 0))]) hx hb dL_event_402 hl (by decide) rfl (fun ls hl => ?_)
    refine lv_iconst (v := 0) hx hb dL_event_404 (by decide) ?_
    refine lv_istore (lv' := [(7, .int 0), (6, .int (nI n)), (5, .int (M.2 0 8)), (0, .ref (caOf b1 0)), (1, .ref (la 0))]) hx hb dL_event_405 hl (by decide) rfl (fun ls hl => ?_)
    refine kLev_hl X hC hs hbz hn8 (fun H locs ls cells slots hc1 hc2 hP hS hl => ?_) n 0 (M.2 0) h (by omega) rfl g1 H locs ls 0 0 (by omega) (by omega) hP hS (lv_sub hl [0, 1, 2, 3, 4] rfl)
    refine lv_aload_n hx hb dL_event_424 rfl (lv_at hl 2 rfl) ?_
    refine lv_iload hx hb dL_event_425 (lv_at hl 0 rfl) ?_
    refine gCallWI X (gF_ok cOK (lP_fsC hs)) ((gMetI.A (vX10_letPass f1)).lift (lP_fsC hs)) (cw_V 1 X gsL_letPass hdL_letPass ⟨by decide, by decide⟩) rfl ⟨cZ_cP hP.2, hP.1⟩ hS (cq_fr hS.1) (cr_rec (cZ_cP hP.2) (rfl : kc 0 = 0) rfl cw0 rfl) hl.1 (Nat.le_of_ble_eq_true rfl) ⟨by show _ + 0 ≤ 48; omega, by show _ + 0 ≤ 192; omega⟩ dL_event_427 (As := [.int (nI n)]) (rest := []) rfl (fun H locs hP hS => ?_)
    have hP0 := hP
    replace hP : gF (lP dC dI cg kA la iA C b1) T0 (hoursW n (M.2 0), h') s H := ⟨hP0.2, trivial⟩
    refine lv_aload_n hx hb dL_event_430 rfl (lv_at hl 3 rfl) ?_
    refine lr_getN (k := 9) (fs := (lF0 la ((hoursW n (M.2 0)), h'))) (v := .int ((hoursW n (M.2 0)) 8)) X hP (lEx_l (by decide)) lR_0 (rfl : vwCl[17]? = some (RX12, TX12, 15)) cinX12 (by decide) rfl rfl xw899 dL_event_431 ?_
    refine lv_iload hx hb dL_event_434 (lv_at hl 1 rfl) ?_
    refine lv_isub hx hb dL_event_436 ?_
    refine lv_icmp_ne (tgt := 444) hx hb dL_event_437 (by decide) (fun c1 => absurd c1 (fun c2 => c2 rfl)) (fun c1 => ?_)
    refine lv_iconst (v := 1) hx hb dL_event_440 (by decide) ?_
    refine lv_goto (tgt := 445) hx hb dL_event_441 (by decide) ?_
    exact hret _ _ _ _ _ _ dL_event_445 ⟨hP0.1, hP0.2⟩ hS (by omega) (by omega)
  refine lv_aload_n hx hb dL_event_380 rfl (lv_at hl 3 rfl) ?_
  refine lr_getN (k := 9) (fs := (lF0 la ((M.2 0), h))) (v := .int ((M.2 0) 8)) X hP (lEx_l (by decide)) lR_0 (rfl : vwCl[17]? = some (RX12, TX12, 15)) cinX12 (by decide) rfl rfl xw899 dL_event_381 ?_
  refine lv_istore (lv' := [(5, .int ((M.2 0) 8)), (4, .int (nI y)), (3, .ref (la (13 + k))), (0, .ref (caOf b1 0)), (1, .ref (la 0))]) hx hb dL_event_384 hl (by decide) rfl (fun ls hl => ?_)
  refine lv_iload hx hb dL_event_386 (lv_at hl 1 rfl) ?_
  refine lv_bipush (v := 11) hx hb dL_event_388 (by decide) ?_
  refine lv_icmp_ge (tgt := 397) hx hb dL_event_390 (by decide) (fun c1 => ?_) (fun c1 => ?_)
  · have c11 : ¬ y < 11 := fun q => absurd c1 (nI_ge (a := y) (b := 11) q (by omega))
    refine lv_iload hx hb dL_event_397 (lv_at hl 1 rfl) ?_
    refine lv_bipush (v := 8) hx hb dL_event_399 (by decide) ?_
    refine lv_isub hx hb dL_event_401 ?_
    rw [show nI y - 8 = nI n from by rw [hn, if_neg c11]; exact pk_sub (b := 8) (by omega)]
    exact K1 ls (lv_sub hl [0, 3, 4] rfl)
  · have c11 : y < 11 := Nat.lt_of_not_le (fun q => c1 (nI_le (a := 11) (b := y) q (by omega)))
    refine lv_iconst (v := 1) hx hb dL_event_393 (by decide) ?_
    refine lv_goto (tgt := 402) hx hb dL_event_394 (by decide) ?_
    rw [show (1 : Int32) = nI n from by rw [hn, if_pos c11]; rfl]
    exact K1 ls (lv_sub hl [0, 3, 4] rfl)
end EVT
