theorem tw33 : (Jvm.Cond.initialized "java/util/NoSuchElementException") ∈ TBG := tb_t 33 (by decide +kernel) (by decide +kernel)
theorem tw1582 : (Jvm.Cond.classLink "GranaryWatch" (277 : Nat) "java/util/NoSuchElementException") ∈ TBG := tb_t 1582 (by decide +kernel) (by decide +kernel)
/-! NoSuchElementException: where there is nothing to undo, nothing saved -/
theorem xat3t : ∀ w ∈ (nx_atS RX10 281 "java/util/NoSuchElementException" xNM).filter goodWord, w ∈ lw_tbl := by decide +kernel
theorem xat3v : ∀ w ∈ (nx_atS RX10 281 "java/util/NoSuchElementException" xNM).filter (fun w => !goodWord w), w ∈ lw_tbl ∧ xKind w = true := by decide +kernel
theorem xat3g : ∀ w ∈ (nx_atS RX10 281 "java/util/NoSuchElementException" xNM).filter goodWord, w ∈ TBG := xat_g xat3t
theorem xat3w : ∀ w ∈ (nx_atS RX10 281 "java/util/NoSuchElementException" xNM).filter (fun w => !goodWord w), w ∈ xws := xat_w xat3v
theorem xat3o : ∀ w ∈ Cond.classLink RX10 277 "java/util/NoSuchElementException" :: Cond.initialized "java/util/NoSuchElementException" :: nx_atS RX10 281 "java/util/NoSuchElementException" xNM, vx_ot w = true := by decide +kernel
section NSE
variable {X : Type}
variable {p : Program} {l : Launch} {e : Env} {R : Room} {s : State} {m : MethodId} {args : Array Value} {below : List Frame} {meth : Method} {c : Code} {H : Heap} {locs : List Loc} {cells slots : Nat} {Q : State → Prop}
variable {cc : ByteArray} {pc nL : Nat} {ls : Array Slot} {rest : List Value} {own : String} {Ω : Nat → Prop} {P : X → State → Heap → Prop} {KS : State → Prop}
theorem gThrowNX {q : String × Nat × String × List Int32} {cls : String} {ik ic lev sa : Nat} {kA : String → Nat → Nat} {S1 : X} (hX : gX p s m args c cc nL q.1 (kR kTab kA)) (hT : ∀ x ∈ c.exceptionTable.toList, False) (hlk : meth.locks = false) (hl0 : l.stackTraces = false) (hZ : cmpS Ω s s.heap) (hE : gExt P) (hA : gOK P (kR kTab kA))
    (hstr : vk_R q.1 q.2.1 q.2.2.1 sa s) (hk : Cond.classLink q.1 ik cls ∈ TBG) (hi : Cond.initialized cls ∈ TBG) (hw : ∀ w ∈ (nx_atS q.1 ic cls xNM).filter (fun w => !goodWord w), w ∈ xws) (ho : ∀ w ∈ Cond.classLink q.1 ik cls :: Cond.initialized cls :: nx_atS q.1 ic cls xNM, vx_ot w = true) (hg : ∀ w ∈ (nx_atS q.1 ic cls xNM).filter goodWord, w ∈ TBG) (hfit : Bundle.fit cls = true)
    (hP : P S1 s H) (hS : va_S (Fr Ω s.heap.size) s.heap H locs) (hls : ls.size = nL)
    (d0 : decode cc pc = .ok (.new ik, 3)) (d3 : decode cc (pc + 3) = .ok (.dup, 1)) (d4 : decode cc (pc + 4) = .ok (.ldc_w q.2.1, 3)) (d7 : decode cc (pc + 7) = .ok (.invokespecial ic, 3)) (d10 : decode cc (pc + 10) = .ok (.athrow, 1)) (hnm : ∀ n ∈ xNM, Bundle.fit n = true) (hlev : 3 ≤ lev) :
    W p l e (rmL lev 1 6) s m args below meth c H locs 0 0 (gTQ below Ω P cls S1 args s) (F0 m pc ls []) := by
  have hxw : ∀ w ∈ xws, va_Nw w s := hX.ks.2.1
  have hat : ∀ w ∈ nx_atS q.1 ic cls xNM, w.before args s = true := vx_hat (B := xws) (fun w h => hX.hts w (hg w h)) hw (fun w h => xw_use (List.mem_filter.mp h).2 (hxw w h))
  refine nx_throwSW (A := Fr Ω s.heap.size) (names := xNM) hX.hx hX.hb hl0 hX.hown hfit hnm (hX.hts _ hk) (hX.hts _ hi) hstr hat ho (zq_fr hZ.2.2.1) (zq_fr hZ.2.2.2) hS (hls.trans hX.hml.symm) d0 d3 d4 d7 d10 (fun x hx => (hT x hx).elim) (by show 2 + 3 < 2 * lev; omega) (by show 0 + (13 * (2 + 1) + 43) ≤ 60 * lev; omega) (Nat.le_refl _) (Nat.le_refl _) hlk ?_ hS.2.2 (Nat.le_refl _) (Nat.le_refl _)
  intro t hvm hsz hq
  exact ⟨rfl, hA.1 _ _ _ _ hvm (hE _ _ _ _ hsz hq hP), by
    refine ⟨Nat.le_trans hS.1 hsz, fun q h1 h2 => ?_⟩
    rw [hq q (Nat.lt_of_lt_of_le h1 hS.1)]
    exact hS.2.1 q h1 h2⟩
end NSE
section NSE2
variable {l : Launch} {dC : Nat → ClassId} {dI : Nat → Nat → Nat} {cg : Nat → ClassId} {kA : String → Nat → Nat} {ca : Nat → Nat} {S : CS}
theorem wX10_undo (hl0 : l.stackTraces = false) (h0 : S.1 0 11 = 0) : gThr l yX10_undo cX10_undo 1 (some .int) 4 (cΩ ca) (cP dC dI cg kA ca) (kR kTab kA) [.ref (ca 0)] S "java/util/NoSuchElementException" S := gEntryT (by decide) cOK (Nat.le_of_ble_eq_true rfl) (fun p e s m args below meth c ls X hT hlk hP hS hl => by
  have hx := X.hx
  have hb := X.hb
  refine lv_aload_n hx hb dX10_undo_0 rfl (lv_at hl 0 rfl) ?_
  refine cr_get (k := 11) X hP (rfl : kc 0 = 0) rfl cv0_11 rfl cinX10 (by decide) rfl tw966 dX10_undo_1 ?_
  rw [h0]
  refine lv_if_ne (tgt := 18) hx hb dX10_undo_4 (by decide) (fun c => absurd rfl c) (fun _ => ?_)
  exact gThrowNX (q := ("GranaryWatch", 279, "there is no change to undo", [116, 104, 101, 114, 101, 32, 105, 115, 32, 110, 111, 32, 99, 104, 97, 110, 103, 101, 32, 116, 111, 32, 117, 110, 100, 111])) (ik := 277) (ic := 281) X hT hlk hl0 (ccmp hP) cExt cOK (kRat (q := ("GranaryWatch", 279, "there is no change to undo", [116, 104, 101, 114, 101, 32, 105, 115, 32, 110, 111, 32, 99, 104, 97, 110, 103, 101, 32, 116, 111, 32, 117, 110, 100, 111])) X.ks 1 rfl) tw1582 tw33 xat3w xat3o xat3g (by decide) hP hS hl.1 dX10_undo_7 dX10_undo_10 dX10_undo_11 dX10_undo_14 dX10_undo_17 (by decide) (by decide))
theorem wX10_restoreState (hl0 : l.stackTraces = false) (h0 : S.1 0 9 = 0) : gThr l yX10_restoreState cX10_restoreState 1 (some .int) 4 (cΩ ca) (cP dC dI cg kA ca) (kR kTab kA) [.ref (ca 0)] S "java/util/NoSuchElementException" S := gEntryT (by decide) cOK (Nat.le_of_ble_eq_true rfl) (fun p e s m args below meth c ls X hT hlk hP hS hl => by
  have hx := X.hx
  have hb := X.hb
  refine lv_aload_n hx hb dX10_restoreState_0 rfl (lv_at hl 0 rfl) ?_
  refine cr_get (k := 9) X hP (rfl : kc 0 = 0) rfl cv0_9 rfl cinX10 (by decide) rfl tw964 dX10_restoreState_1 ?_
  rw [h0]
  refine lv_if_ne (tgt := 18) hx hb dX10_restoreState_4 (by decide) (fun c => absurd rfl c) (fun _ => ?_)
  exact gThrowNX (q := ("GranaryWatch", 303, "no state is saved", [110, 111, 32, 115, 116, 97, 116, 101, 32, 105, 115, 32, 115, 97, 118, 101, 100])) (ik := 277) (ic := 281) X hT hlk hl0 (ccmp hP) cExt cOK (kRat (q := ("GranaryWatch", 303, "no state is saved", [110, 111, 32, 115, 116, 97, 116, 101, 32, 105, 115, 32, 115, 97, 118, 101, 100])) X.ks 2 rfl) tw1582 tw33 xat3w xat3o xat3g (by decide) hP hS hl.1 dX10_restoreState_7 dX10_restoreState_10 dX10_restoreState_11 dX10_restoreState_14 dX10_restoreState_17 (by decide) (by decide))
end NSE2
