/-! THE CLAIM OUT OF ONE WALK OF THE LAW'S BODY. Your part is whole_start (and what it stands on); all else here is the same for every law, but numbers. -/
def R_law : String := "GranaryWatchLaw"
def lw_P (b : Addr) (xs : List Int32) (args : Array Value) (s : State) : Prop := args = #[.ref b] ∧ s.IntsAt b xs ∧ xs.length ≤ 3072 ∧ (Jvm.Cond.and given_1 narrow_1).before args s = true
/-- what a walk over the start with the record d0 says of its end, said of the start itself -/
theorem lw_closed {s t : State} {o : Outcome} {d0 : Drawn} {L : List Loc} {k n : Nat} (hd0 : s.drawn.sameBut d0 lw_cs) (hv : ∃ v, o = .returned v) (hW : (s.setDrawn d0).WarmedH t.vm) (hs : (s.setDrawn d0).sameButNew ({ t with vm := s.vm } : State) L k n) : State.butDraws s t lw_cs (fun t1 => Framed s o t1 L k n) := by
  have h2 : t.drawn = d0 := congrArg State.drawn hs.1
  refine ⟨⟨hv, hW, State.sameButNew.setDrawn hs s.drawn⟩, ?_, by decide⟩
  rw [h2]
  exact hd0
def lw_Q (_ : Array Value) (s : State) (o : Outcome) (t : State) : Prop := o = .returned (some (.int 1)) ∧ State.butDraws s t lw_cs (fun t1 => Framed s o t1 [] 601024 7293034)
def lw_Z (below : List Frame) (a : Array Value) (s : State) : State → Prop := fun t => ∃ o, t.status = .running ∧ Ended t below o ∧ lw_Q a s o t
/-- the law's own end, with 1 on the stack, nothing written that was there before, its room as the claim has it; d0: the record of draws at this point (at the entry s.drawn: begin with 'refine W.base ?_' and 'have hd0 := Drawn.sameBut.refl s.drawn lw_cs') -/
theorem lw_ret {p : Program} {l : Launch} {e : Env} {s : State} {m : MethodId} {below : List Frame} {meth : Method} {c : Code} {b : Nat} {d0 : Drawn} (hd0 : s.drawn.sameBut d0 lw_cs) (hx : p.tables.exec = Jvm.exec) (hb : c.code = code) (hr : meth.sig.returnType = ret) (hlocks : meth.locks = false) {pc : Nat} {H : Heap} {ls : Array Slot} (hdg : decode code pc = .ok (.ireturn, 1)) : W p l e room_1 (s.setDrawn d0) m #[Value.ref b] below meth c H [] 601024 7293034 (lw_Z below #[Value.ref b] s) (F0 m pc ls [.int 1]) := by
  intro T hT X
  obtain ⟨fs, hret, hrun, hended, hW, hframe⟩ := X.leave (v := some (.int 1)) (hlocks := hlocks) (fun h => by rw [hr] at h; cases h)
  have hmeth' : T.vm.method? m = some meth := X.method'
  refine ⟨T.setFrames fs, ?_, .returned (some (.int 1)), hrun, hended, rfl, lw_closed hd0 ⟨_, rfl⟩ hW hframe⟩
  jvm_step X.here [X.here.top, hx, hb, hdg, hmeth', hr, ret, narrow_b1]
  (try refine ⟨rfl, ?_⟩); (try refine ⟨rfl, ?_⟩)
  first | (intro acts; rw [hret _ acts rfl rfl rfl]) | rw [hret _ _ rfl rfl rfl]
  exact Steps.refl _
/-- what holds at the law's entry: the machine, the code, the tables' words (any of lw_tbl by 'hts w (by decide +kernel)'), the script of L ints xs at the cell b, what the Statement gives of the start (any of its parts by flat_of_before) -/
def lw_At (p : Program) (s : State) (m : MethodId) (meth : Method) (c : Code) (b L : Nat) (xs : Nat → Int32) : Prop :=
  p.tables.exec = Jvm.exec ∧ c.code = code ∧ meth.sig.returnType = ret ∧ c.maxLocals = 10 ∧ s.vm.findClass R_law = some m.cls ∧ (∀ w ∈ lw_tbl, w.before #[Value.ref b] s = true) ∧ va_X b L xs s s.heap ∧ b < s.heap.size ∧ meth.locks = false ∧ (Jvm.Cond.and given_1 narrow_1).before #[Value.ref b] s = true
theorem cmp_go {L n : Nat} (h : 6 * n + 6 ≤ L) (hL : L ≤ 3072) : ¬ nI L - (6 : Int32) < nI (6 * n) := by
  rw [show nI L - (6 : Int32) = nI (L - 6) from pk_sub (b := 6) (by omega)]
  exact nI_nlt (by omega) (by omega)
theorem cmp_exit {L n : Nat} (h : ¬ 6 * n + 6 ≤ L) (hL : L ≤ 3072) (hn : 6 * n ≤ 3078) : nI L - (6 : Int32) < nI (6 * n) := by
  by_cases h6 : 6 ≤ L
  · rw [show nI L - (6 : Int32) = nI (L - 6) from pk_sub (b := 6) h6]
    exact nI_lt (by omega) (by omega)
  · rw [Int32.lt_iff_toInt_lt]
    have h1 := (by decide : ∀ k : Fin 6, (nI k.val - (6 : Int32)).toInt < 0) ⟨L, by omega⟩
    have h1 : (nI L - (6 : Int32)).toInt < 0 := h1
    have h2 := nI_toInt (n := 6 * n) (by omega)
    omega
theorem lwc1 {a b n : Nat} (h : a ≤ 848 + 403 * n) (h' : b ≤ a + 403) : b ≤ 848 + 403 * (n + 1) := Nat.le_trans h' (Nat.le_trans (Nat.add_le_add_right h 403) (Nat.le_of_eq (by rw [Nat.mul_add_one, Nat.add_assoc])))
theorem lwc2 {a b n : Nat} (h : a ≤ 11100 + 3826 * n) (h' : b ≤ a + 3826) : b ≤ 11100 + 3826 * (n + 1) := Nat.le_trans h' (Nat.le_trans (Nat.add_le_add_right h 3826) (Nat.le_of_eq (by rw [Nat.mul_add_one, Nat.add_assoc])))
section LOOP
variable {p : Program} {l : Launch} {e : Env} {s : State} {m : MethodId} {below : List Frame} {meth : Method} {c : Code}
variable {dC : Nat → ClassId} {dI : Nat → Nat → Nat} {cg : Nat → ClassId} {kA : String → Nat → Nat} {b b1 b2 o1 o2 L : Nat} {xs : Nat → Int32} {cL cD : ClassId}
theorem law_exit (hL : L ≤ 3072) (X : gX p s m #[.ref b] c cL_law 10 "GranaryWatchLaw" (kR kTab kA)) (hr : meth.sig.returnType = ret) (hlocks : meth.locks = false) (hXs : va_X b L xs s s.heap) (hbl : b < s.heap.size) {n : Nat} {ls : Array Slot} {H : Heap} {locs : List Loc} {cl sl : Nat} (hg : ¬ 6 * n + 6 ≤ L) (hn : 6 * n ≤ 3078) (hS : va_S (fun q => s.heap.size ≤ q) s.heap H locs) (hl : lv_has ls 10 [(5, .int (nI (6 * n))), (0, .ref b), (1, .ref (caOf b1 0)), (2, .ref (adOf b2 25)), (3, .ref o1), (4, .ref o2)]) (hc : cl ≤ 601024) (hs : sl ≤ 7293034) : W p l e room_1 s m #[.ref b] below meth c H locs cl sl (lw_Z below #[.ref b] s) (F0 m 28 ls []) := by
  have hx := X.hx
  have hb := X.hb
  refine lv_iload hx hb dL_law_28 (lv_at hl 0 rfl) ?_
  refine lv_aload_n hx hb dL_law_30 rfl (lv_at hl 1 rfl) ?_
  refine va_slen hx hb hXs hbl (Nat.not_le.mpr hbl) hS dL_law_31 ?_
  refine lv_bipush (v := 6) hx hb dL_law_32 (by decide) ?_
  refine lv_isub hx hb dL_law_34 ?_
  refine lv_icmp_gt (tgt := 2690) hx hb dL_law_35 (by decide) (fun _ => ?_) (fun c => absurd (cmp_exit hg hL hn) c)
  refine lv_iconst (v := 1) hx hb dL_law_2690 (by decide) ?_
  refine va_forget (fun q hq => hS.2.2 q hq) ?_
  refine W.widen (k := 601024) (n := 7293034) hc hs ?_
  exact lw_ret (Drawn.sameBut.refl s.drawn lw_cs) hx hb hr hlocks dL_law_2691
theorem law_loop (hL : L ≤ 3072) (X : gX p s m #[.ref b] c cL_law 10 "GranaryWatchLaw" (kR kTab kA)) (hr : meth.sig.returnType = ret) (hlocks : meth.locks = false) (hXs : va_X b L xs s s.heap) (hbl : b < s.heap.size) (hb1 : s.heap.size ≤ b1) (hap : APJ b1 b2 o1 o2) (hl0 : l.stackTraces = false) (hnn : NNAN) (hn2 : NN2) : ∀ (r n : Nat) (S : CS) (M : MS) (x : Int64) (d : UInt64) (ls : Array Slot) (H : Heap) (locs : List Loc) (cl sl : Nat), L < 6 * n + 6 * r + 6 → 6 * n ≤ 3078 → Rel S M → jP dC dI cg kA b1 b2 o1 o2 cL cD (S, M, x, d) s H → va_S (fun q => s.heap.size ≤ q) s.heap H locs → lv_has ls 10 [(5, .int (nI (6 * n))), (0, .ref b), (1, .ref (caOf b1 0)), (2, .ref (adOf b2 25)), (3, .ref o1), (4, .ref o2)] → cl ≤ 848 + 403 * n → sl ≤ 11100 + 3826 * n → W p l e room_1 s m #[.ref b] below meth c H locs cl sl (lw_Z below #[.ref b] s) (F0 m 28 ls []) := by
  have hx := X.hx
  have hb := X.hb
  intro r
  induction r with
  | zero =>
    intro n S M x d ls H locs cl sl hm hn rr hP hS hl hc hs
    exact law_exit hL X hr hlocks hXs hbl (by omega) hn hS hl (by omega) (by omega)
  | succ r ih =>
    intro n S M x d ls H locs cl sl hm hn rr hP hS hl hc hs
    by_cases hg : 6 * n + 6 ≤ L
    · refine lv_iload hx hb dL_law_28 (lv_at hl 0 rfl) ?_
      refine lv_aload_n hx hb dL_law_30 rfl (lv_at hl 1 rfl) ?_
      refine va_slen hx hb hXs hbl (Nat.not_le.mpr hbl) hS dL_law_31 ?_
      refine lv_bipush (v := 6) hx hb dL_law_32 (by decide) ?_
      refine lv_isub hx hb dL_law_34 ?_
      refine lv_icmp_gt (tgt := 2690) hx hb dL_law_35 (by decide) (fun c => absurd c (cmp_go hg hL)) (fun _ => ?_)
      refine lv_aload_n hx hb dL_law_38 rfl (lv_at hl 1 rfl) ?_
      refine lv_iload hx hb dL_law_39 (lv_at hl 0 rfl) ?_
      refine va_sld hx hb hXs hbl (Nat.not_le.mpr hbl) hS (show vp_in (nI (6 * n)) L from nI_in (by omega) (by omega)) dL_law_41 ?_
      refine lv_bipush (v := 63) hx hb dL_law_42 (by decide) ?_
      refine lv_iand hx hb dL_law_44 ?_
      have K : LK p l e s m below meth c (lw_Z below #[.ref b] s) dC dI cg kA b b1 b2 o1 o2 n cL cD cl sl := by
        intro S M x d ls H locs cl' sl' rr hP hS hl hc' hs'
        refine lv_iinc (v := nI (6 * n) + 6) (lv' := [(5, .int (nI (6 * n) + 6)), (0, .ref b), (1, .ref (caOf b1 0)), (2, .ref (adOf b2 25)), (3, .ref o1), (4, .ref o2)]) hx hb dL_law_2684 hl (k := 0) rfl (by rfl) (by decide) rfl (fun ls hl => ?_)
        rw [show nI (6 * n) + 6 = nI (6 * (n + 1)) from (nI_add (6 * n) 6).trans (congrArg nI (by omega))] at hl
        refine lv_goto (tgt := 28) hx hb dL_law_2687 (by decide) ?_
        exact ih (n + 1) S M x d ls H locs cl' sl' (by omega) (by omega) rr hP hS hl (lwc1 hc hc') (lwc2 hs hs')
      obtain ⟨k, hk, ek⟩ := pk_andE (xs (nI (6 * n)).toNatClampNeg) (m := 63) 6 (by decide)
      rw [ek]
      rcases (show k = 0 ∨ k = 1 ∨ k = 2 ∨ k = 3 ∨ k = 4 ∨ k = 5 ∨ k = 6 ∨ k = 7 ∨ k = 8 ∨ k = 9 ∨ k = 10 ∨ k = 11 ∨ k = 12 ∨ k = 13 ∨ k = 14 ∨ k = 15 ∨ k = 16 ∨ k = 17 ∨ k = 18 ∨ k = 19 ∨ k = 20 ∨ k = 21 ∨ k = 22 ∨ k = 23 ∨ k = 24 ∨ k = 25 ∨ k = 26 ∨ k = 27 ∨ k = 28 ∨ k = 29 ∨ k = 30 ∨ k = 31 ∨ k = 32 ∨ k = 33 ∨ k = 34 ∨ k = 35 ∨ k = 36 ∨ k = 37 ∨ k = 38 ∨ k = 39 ∨ k = 40 ∨ k = 41 ∨ k = 42 ∨ k = 43 ∨ k = 44 ∨ k = 45 ∨ k = 46 ∨ k = 47 ∨ k = 48 ∨ k = 49 ∨ k = 50 ∨ k = 51 ∨ k = 52 ∨ k = 53 ∨ k = 54 ∨ k = 55 ∨ k = 56 ∨ k = 57 ∨ k = 58 ∨ k = 59 ∨ k = 60 ∨ k = 61 ∨ k = 62 ∨ k = 63 by omega) with e | e | e | e | e | e | e | e | e | e | e | e | e | e | e | e | e | e | e | e | e | e | e | e | e | e | e | e | e | e | e | e | e | e | e | e | e | e | e | e | e | e | e | e | e | e | e | e | e | e | e | e | e | e | e | e | e | e | e | e | e | e | e | e <;> subst e
      · exact lv_tableIn (off := 267) (tgt := 312) hx hb dL_law_45 (by decide) (by decide) (by decide) (by decide) (lc_0 X hXs hbl hb1 hap hl0 hnn hn2 hg hL rr hP hS hl (by omega) (by omega) K)
      · exact lv_tableIn (off := 340) (tgt := 385) hx hb dL_law_45 (by decide) (by decide) (by decide) (by decide) (lc_1 X hXs hbl hb1 hap hl0 hnn hn2 hg hL rr hP hS hl (by omega) (by omega) K)
      · exact lv_tableIn (off := 365) (tgt := 410) hx hb dL_law_45 (by decide) (by decide) (by decide) (by decide) (lc_2 X hXs hbl hb1 hap hl0 hnn hn2 hg hL rr hP hS hl (by omega) (by omega) K)
      · exact lv_tableIn (off := 378) (tgt := 423) hx hb dL_law_45 (by decide) (by decide) (by decide) (by decide) (lc_3 X hXs hbl hb1 hap hl0 hnn hn2 hg hL rr hP hS hl (by omega) (by omega) K)
      · exact lv_tableIn (off := 391) (tgt := 436) hx hb dL_law_45 (by decide) (by decide) (by decide) (by decide) (lc_4 X hXs hbl hb1 hap hl0 hnn hn2 hg hL rr hP hS hl (by omega) (by omega) K)
      · exact lv_tableIn (off := 404) (tgt := 449) hx hb dL_law_45 (by decide) (by decide) (by decide) (by decide) (lc_5 X hXs hbl hb1 hap hl0 hnn hn2 hg hL rr hP hS hl (by omega) (by omega) K)
      · exact lv_tableIn (off := 417) (tgt := 462) hx hb dL_law_45 (by decide) (by decide) (by decide) (by decide) (lc_6 X hXs hbl hb1 hap hl0 hnn hn2 hg hL rr hP hS hl (by omega) (by omega) K)
      · exact lv_tableIn (off := 430) (tgt := 475) hx hb dL_law_45 (by decide) (by decide) (by decide) (by decide) (lc_7 X hXs hbl hb1 hap hl0 hnn hn2 hg hL rr hP hS hl (by omega) (by omega) K)
      · exact lv_tableIn (off := 443) (tgt := 488) hx hb dL_law_45 (by decide) (by decide) (by decide) (by decide) (lc_8 X hXs hbl hb1 hap hl0 hnn hn2 hg hL rr hP hS hl (by omega) (by omega) K)
      · exact lv_tableIn (off := 456) (tgt := 501) hx hb dL_law_45 (by decide) (by decide) (by decide) (by decide) (lc_9 X hXs hbl hb1 hap hl0 hnn hn2 hg hL rr hP hS hl (by omega) (by omega) K)
      · exact lv_tableIn (off := 469) (tgt := 514) hx hb dL_law_45 (by decide) (by decide) (by decide) (by decide) (lc_10 X hXs hbl hb1 hap hl0 hnn hn2 hg hL rr hP hS hl (by omega) (by omega) K)
      · exact lv_tableIn (off := 482) (tgt := 527) hx hb dL_law_45 (by decide) (by decide) (by decide) (by decide) (lc_11 X hXs hbl hb1 hap hl0 hnn hn2 hg hL rr hP hS hl (by omega) (by omega) K)
      · exact lv_tableIn (off := 550) (tgt := 595) hx hb dL_law_45 (by decide) (by decide) (by decide) (by decide) (lc_12 X hXs hbl hb1 hap hl0 hnn hn2 hg hL rr hP hS hl (by omega) (by omega) K)
      · exact lv_tableIn (off := 618) (tgt := 663) hx hb dL_law_45 (by decide) (by decide) (by decide) (by decide) (lc_13 X hXs hbl hb1 hap hl0 hnn hn2 hg hL rr hP hS hl (by omega) (by omega) K)
      · exact lv_tableIn (off := 674) (tgt := 719) hx hb dL_law_45 (by decide) (by decide) (by decide) (by decide) (lc_14 X hXs hbl hb1 hap hl0 hnn hn2 hg hL rr hP hS hl (by omega) (by omega) K)
      · exact lv_tableIn (off := 737) (tgt := 782) hx hb dL_law_45 (by decide) (by decide) (by decide) (by decide) (lc_15 X hXs hbl hb1 hap hl0 hnn hn2 hg hL rr hP hS hl (by omega) (by omega) K)
      · exact lv_tableIn (off := 793) (tgt := 838) hx hb dL_law_45 (by decide) (by decide) (by decide) (by decide) (lc_16 X hXs hbl hb1 hap hl0 hnn hn2 hg hL rr hP hS hl (by omega) (by omega) K)
      · exact lv_tableIn (off := 849) (tgt := 894) hx hb dL_law_45 (by decide) (by decide) (by decide) (by decide) (lc_17 X hXs hbl hb1 hap hl0 hnn hn2 hg hL rr hP hS hl (by omega) (by omega) K)
      · exact lv_tableIn (off := 905) (tgt := 950) hx hb dL_law_45 (by decide) (by decide) (by decide) (by decide) (lc_18 X hXs hbl hb1 hap hl0 hnn hn2 hg hL rr hP hS hl (by omega) (by omega) K)
      · exact lv_tableIn (off := 961) (tgt := 1006) hx hb dL_law_45 (by decide) (by decide) (by decide) (by decide) (lc_19 X hXs hbl hb1 hap hl0 hnn hn2 hg hL rr hP hS hl (by omega) (by omega) K)
      · exact lv_tableIn (off := 1017) (tgt := 1062) hx hb dL_law_45 (by decide) (by decide) (by decide) (by decide) (lc_20 X hXs hbl hb1 hap hl0 hnn hn2 hg hL rr hP hS hl (by omega) (by omega) K)
      · exact lv_tableIn (off := 1073) (tgt := 1118) hx hb dL_law_45 (by decide) (by decide) (by decide) (by decide) (lc_21 X hXs hbl hb1 hap hl0 hnn hn2 hg hL rr hP hS hl (by omega) (by omega) K)
      · exact lv_tableIn (off := 1136) (tgt := 1181) hx hb dL_law_45 (by decide) (by decide) (by decide) (by decide) (lc_22 X hXs hbl hb1 hap hl0 hnn hn2 hg hL rr hP hS hl (by omega) (by omega) K)
      · exact lv_tableIn (off := 1192) (tgt := 1237) hx hb dL_law_45 (by decide) (by decide) (by decide) (by decide) (lc_23 X hXs hbl hb1 hap hl0 hnn hn2 hg hL rr hP hS hl (by omega) (by omega) K)
      · exact lv_tableIn (off := 1205) (tgt := 1250) hx hb dL_law_45 (by decide) (by decide) (by decide) (by decide) (lc_24 X hXs hbl hb1 hap hl0 hnn hn2 hg hL rr hP hS hl (by omega) (by omega) K)
      · exact lv_tableIn (off := 1218) (tgt := 1263) hx hb dL_law_45 (by decide) (by decide) (by decide) (by decide) (lc_25 X hXs hbl hb1 hap hl0 hnn hn2 hg hL rr hP hS hl (by omega) (by omega) K)
      · exact lv_tableIn (off := 1231) (tgt := 1276) hx hb dL_law_45 (by decide) (by decide) (by decide) (by decide) (lc_26 X hXs hbl hb1 hap hl0 hnn hn2 hg hL rr hP hS hl (by omega) (by omega) K)
      · exact lv_tableIn (off := 1287) (tgt := 1332) hx hb dL_law_45 (by decide) (by decide) (by decide) (by decide) (lc_27 X hXs hbl hb1 hap hl0 hnn hn2 hg hL rr hP hS hl (by omega) (by omega) K)
      · exact lv_tableIn (off := 1343) (tgt := 1388) hx hb dL_law_45 (by decide) (by decide) (by decide) (by decide) (lc_28 X hXs hbl hb1 hap hl0 hnn hn2 hg hL rr hP hS hl (by omega) (by omega) K)
      · exact lv_tableIn (off := 1399) (tgt := 1444) hx hb dL_law_45 (by decide) (by decide) (by decide) (by decide) (lc_29 X hXs hbl hb1 hap hl0 hnn hn2 hg hL rr hP hS hl (by omega) (by omega) K)
      · exact lv_tableIn (off := 1412) (tgt := 1457) hx hb dL_law_45 (by decide) (by decide) (by decide) (by decide) (lc_30 X hXs hbl hb1 hap hl0 hnn hn2 hg hL rr hP hS hl (by omega) (by omega) K)
      · exact lv_tableIn (off := 1425) (tgt := 1470) hx hb dL_law_45 (by decide) (by decide) (by decide) (by decide) (lc_31 X hXs hbl hb1 hap hl0 hnn hn2 hg hL rr hP hS hl (by omega) (by omega) K)
      · exact lv_tableIn (off := 1450) (tgt := 1495) hx hb dL_law_45 (by decide) (by decide) (by decide) (by decide) (lc_32 X hXs hbl hb1 hap hl0 hnn hn2 hg hL rr hP hS hl (by omega) (by omega) K)
      · exact lv_tableIn (off := 1475) (tgt := 1520) hx hb dL_law_45 (by decide) (by decide) (by decide) (by decide) (lc_33 X hXs hbl hb1 hap hl0 hnn hn2 hg hL rr hP hS hl (by omega) (by omega) K)
      · exact lv_tableIn (off := 1500) (tgt := 1545) hx hb dL_law_45 (by decide) (by decide) (by decide) (by decide) (lc_34 X hXs hbl hb1 hap hl0 hnn hn2 hg hL rr hP hS hl (by omega) (by omega) K)
      · exact lv_tableIn (off := 1513) (tgt := 1558) hx hb dL_law_45 (by decide) (by decide) (by decide) (by decide) (lc_35 X hXs hbl hb1 hap hl0 hnn hn2 hg hL rr hP hS hl (by omega) (by omega) K)
      · exact lv_tableIn (off := 1581) (tgt := 1626) hx hb dL_law_45 (by decide) (by decide) (by decide) (by decide) (lc_36 X hXs hbl hb1 hap hl0 hnn hn2 hg hL rr hP hS hl (by omega) (by omega) K)
      · exact lv_tableIn (off := 1649) (tgt := 1694) hx hb dL_law_45 (by decide) (by decide) (by decide) (by decide) (lc_37 X hXs hbl hb1 hap hl0 hnn hn2 hg hL rr hP hS hl (by omega) (by omega) K)
      · exact lv_tableIn (off := 1705) (tgt := 1750) hx hb dL_law_45 (by decide) (by decide) (by decide) (by decide) (lc_38 X hXs hbl hb1 hap hl0 hnn hn2 hg hL rr hP hS hl (by omega) (by omega) K)
      · exact lv_tableIn (off := 1718) (tgt := 1763) hx hb dL_law_45 (by decide) (by decide) (by decide) (by decide) (lc_39 X hXs hbl hb1 hap hl0 hnn hn2 hg hL rr hP hS hl (by omega) (by omega) K)
      · exact lv_tableIn (off := 1774) (tgt := 1819) hx hb dL_law_45 (by decide) (by decide) (by decide) (by decide) (lc_40 X hXs hbl hb1 hap hl0 hnn hn2 hg hL rr hP hS hl (by omega) (by omega) K)
      · exact lv_tableIn (off := 1830) (tgt := 1875) hx hb dL_law_45 (by decide) (by decide) (by decide) (by decide) (lc_41 X hXs hbl hb1 hap hl0 hnn hn2 hg hL rr hP hS hl (by omega) (by omega) K)
      · exact lv_tableIn (off := 1886) (tgt := 1931) hx hb dL_law_45 (by decide) (by decide) (by decide) (by decide) (lc_42 X hXs hbl hb1 hap hl0 hnn hn2 hg hL rr hP hS hl (by omega) (by omega) K)
      · exact lv_tableIn (off := 1899) (tgt := 1944) hx hb dL_law_45 (by decide) (by decide) (by decide) (by decide) (lc_43 X hXs hbl hb1 hap hl0 hnn hn2 hg hL rr hP hS hl (by omega) (by omega) K)
      · exact lv_tableIn (off := 1912) (tgt := 1957) hx hb dL_law_45 (by decide) (by decide) (by decide) (by decide) (lc_44 X hXs hbl hb1 hap hl0 hnn hn2 hg hL rr hP hS hl (by omega) (by omega) K)
      · exact lv_tableIn (off := 1925) (tgt := 1970) hx hb dL_law_45 (by decide) (by decide) (by decide) (by decide) (lc_45 X hXs hbl hb1 hap hl0 hnn hn2 hg hL rr hP hS hl (by omega) (by omega) K)
      · exact lv_tableIn (off := 1938) (tgt := 1983) hx hb dL_law_45 (by decide) (by decide) (by decide) (by decide) (lc_46 X hXs hbl hb1 hap hl0 hnn hn2 hg hL rr hP hS hl (by omega) (by omega) K)
      · exact lv_tableIn (off := 1951) (tgt := 1996) hx hb dL_law_45 (by decide) (by decide) (by decide) (by decide) (lc_47 X hXs hbl hb1 hap hl0 hnn hn2 hg hL rr hP hS hl (by omega) (by omega) K)
      · exact lv_tableIn (off := 1964) (tgt := 2009) hx hb dL_law_45 (by decide) (by decide) (by decide) (by decide) (lc_48 X hXs hbl hb1 hap hl0 hnn hn2 hg hL rr hP hS hl (by omega) (by omega) K)
      · exact lv_tableIn (off := 1977) (tgt := 2022) hx hb dL_law_45 (by decide) (by decide) (by decide) (by decide) (lc_49 X hXs hbl hb1 hap hl0 hnn hn2 hg hL rr hP hS hl (by omega) (by omega) K)
      · exact lv_tableIn (off := 2018) (tgt := 2063) hx hb dL_law_45 (by decide) (by decide) (by decide) (by decide) (lc_50 X hXs hbl hb1 hap hl0 hnn hn2 hg hL rr hP hS hl (by omega) (by omega) K)
      · exact lv_tableIn (off := 2096) (tgt := 2141) hx hb dL_law_45 (by decide) (by decide) (by decide) (by decide) (lc_51 X hXs hbl hb1 hap hl0 hnn hn2 hg hL rr hP hS hl (by omega) (by omega) K)
      · exact lv_tableIn (off := 2152) (tgt := 2197) hx hb dL_law_45 (by decide) (by decide) (by decide) (by decide) (lc_52 X hXs hbl hb1 hap hl0 hnn hn2 hg hL rr hP hS hl (by omega) (by omega) K)
      · exact lv_tableIn (off := 2208) (tgt := 2253) hx hb dL_law_45 (by decide) (by decide) (by decide) (by decide) (lc_53 X hXs hbl hb1 hap hl0 hnn hn2 hg hL rr hP hS hl (by omega) (by omega) K)
      · exact lv_tableIn (off := 2264) (tgt := 2309) hx hb dL_law_45 (by decide) (by decide) (by decide) (by decide) (lc_54 X hXs hbl hb1 hap hl0 hnn hn2 hg hL rr hP hS hl (by omega) (by omega) K)
      · exact lv_tableIn (off := 2332) (tgt := 2377) hx hb dL_law_45 (by decide) (by decide) (by decide) (by decide) (lc_55 X hXs hbl hb1 hap hl0 hnn hn2 hg hL rr hP hS hl (by omega) (by omega) K)
      · exact lv_tableIn (off := 2400) (tgt := 2445) hx hb dL_law_45 (by decide) (by decide) (by decide) (by decide) (lc_56 X hXs hbl hb1 hap hl0 hnn hn2 hg hL rr hP hS hl (by omega) (by omega) K)
      · exact lv_tableIn (off := 2444) (tgt := 2489) hx hb dL_law_45 (by decide) (by decide) (by decide) (by decide) (lc_57 X hXs hbl hb1 hap hl0 hnn hn2 hg hL rr hP hS hl (by omega) (by omega) K)
      · exact lv_tableIn (off := 2500) (tgt := 2545) hx hb dL_law_45 (by decide) (by decide) (by decide) (by decide) (lc_58 X hXs hbl hb1 hap hl0 hnn hn2 hg hL rr hP hS hl (by omega) (by omega) K)
      · exact lv_tableIn (off := 2544) (tgt := 2589) hx hb dL_law_45 (by decide) (by decide) (by decide) (by decide) (lc_59 X hXs hbl hb1 hap hl0 hnn hn2 hg hL rr hP hS hl (by omega) (by omega) K)
      · exact lv_tableIn (off := 2557) (tgt := 2602) hx hb dL_law_45 (by decide) (by decide) (by decide) (by decide) (lc_60 X hXs hbl hb1 hap hl0 hnn hn2 hg hL rr hP hS hl (by omega) (by omega) K)
      · exact lv_tableIn (off := 2582) (tgt := 2627) hx hb dL_law_45 (by decide) (by decide) (by decide) (by decide) (lc_61 X hXs hbl hb1 hap hl0 hnn hn2 hg hL rr hP hS hl (by omega) (by omega) K)
      · exact lv_tableIn (off := 2595) (tgt := 2640) hx hb dL_law_45 (by decide) (by decide) (by decide) (by decide) (lc_62 X hXs hbl hb1 hap hl0 hnn hn2 hg hL rr hP hS hl (by omega) (by omega) K)
      · exact lv_tableOut (tgt := 2684) hx hb dL_law_45 (by decide) (by decide) (K S M x d ls H locs cl sl rr hP hS hl (by omega) (by omega))
    · exact law_exit hL X hr hlocks hXs hbl hg hn hS hl (by omega) (by omega)
end LOOP
