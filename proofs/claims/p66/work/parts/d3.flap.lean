
/-! the law's events: d3.flap -/
section EVT
variable {p : Program} {l : Launch} {e : Env} {R : Room} {s : State} {m : MethodId} {args : Array Value} {below : List Frame} {meth : Method} {c : Code} {H : Heap} {locs : List Loc} {cells slots : Nat} {Q : State → Prop}
variable {pc nL : Nat} {ls : Array Slot} {rest : List Value} {dC : Nat → ClassId} {dI : Nat → Nat → Nat} {cg : Nat → ClassId} {kA : String → Nat → Nat} {la iA : Nat → Nat} {C : LC} {b1 z : Nat} {S S' : CS} {M M' : MS} {h : Nat → Int32}
variable {t b y k : Nat} {x : Int32} {h' : Nat → Int32}
set_option maxRecDepth 10000 in
theorem kLev_fl (X : gX p s m args c cL_event 8 RL (kR kTab kA)) (hC : lC C) (hs : lS b1 la C) (hbz : b1 + 433 ≤ s.heap.size) {w : Wd} {tot : Int32} (hf : ∀ j, j < C.1.2.1 → w (161 + 12 * j + 9) = 0 ∨ w (161 + 12 * j + 9) = 1) (K : ∀ (H : Heap) (locs : List Loc) (ls : Array Slot), gF (lP dC dI cg kA la iA C b1) (cZ dC dI cg kA b1 la C s.heap.size S) (w, h) s H → va_S (Fr (qΩ b1 la C) s.heap.size) s.heap H locs → lv_has ls 8 [(5, .int tot), (3, .ref (la (13 + k))), (0, .ref (caOf b1 0))] → W p l e (rmL 9 48 192) s m args below meth c H locs cells slots Q (F0 m 154 ls [])) (hcs : cells ≤ 48 ∧ slots ≤ 192) {a : Nat} (hai : itOK la C b1 s.heap.size a) : ∀ r' i (y : Int32), C.1.2.1 = i + r' → sumA (fun j => w (161 + 12 * j + 9)) r' i y = tot → ∀ (H : Heap) (locs : List Loc) (ls : Array Slot), gF (lP dC dI cg kA la iA C b1) (itG dC dI a (la 3) (lNum C 3) i (cZ dC dI cg kA b1 la C s.heap.size S)) (w, h) s H → va_S (Fr (qΩ b1 la C) s.heap.size) s.heap H locs → lv_has ls 8 [(6, .ref a), (5, .int y), (3, .ref (la (13 + k))), (0, .ref (caOf b1 0))] → W p l e (rmL 9 48 192) s m args below meth c H locs cells slots Q (F0 m 118 ls []) := by
  have hx := X.hx
  have hb := X.hb
  have hcf : gFs (lΩ la C) (cZ dC dI cg kA b1 la C s.heap.size S) := cZ_fs hs
  have hn5 := hC.2.1.2
  have hz0 := hai.2.1
  have hfa : gFs (fun q => q = a) (cZ dC dI cg kA b1 la C s.heap.size S) := cZ_fa (by omega) hz0
  intro r'
  induction r' with
  | zero =>
    intro i y hi hy H locs ls hP hS hl
    refine lv_aload hx hb dL_event_118 (lv_at hl 0 rfl) ?_
    refine lr_hasNextF (b := 3) X rfl hC hP (by decide) (show i ≤ lNum C 3 from by show i ≤ C.1.2.1; omega) tw1072 (by decide) hl.1 (Nat.le_of_ble_eq_true rfl) ⟨by omega, by omega⟩ dL_event_120 ?_
    rw [if_pos (show i = lNum C 3 from by show i = C.1.2.1; omega)]
    refine lv_if_eq (tgt := 154) hx hb dL_event_125 (by decide) (fun c1 => ?_) (fun c1 => absurd rfl c1)
    have hy : y = tot := hy
    subst hy
    exact K H locs ls ⟨hP.1, hP.2.2⟩ hS (lv_sub hl [1, 2, 3] rfl)
  | succ r' ih =>
    intro i y hi hy H locs ls hP hS hl
    have hlt : i < C.1.2.1 := by omega
    have hy : sumA (fun j => w (161 + 12 * j + 9)) r' (i + 1) (y + w (161 + 12 * i + 9)) = tot := hy
    refine lv_aload hx hb dL_event_118 (lv_at hl 0 rfl) ?_
    refine lr_hasNextF (b := 3) X rfl hC hP (by decide) (show i ≤ lNum C 3 from by show i ≤ C.1.2.1; omega) tw1072 (by decide) hl.1 (Nat.le_of_ble_eq_true rfl) ⟨by omega, by omega⟩ dL_event_120 ?_
    rw [if_neg (show ¬ i = lNum C 3 from by show ¬ i = C.1.2.1; omega)]
    refine lv_if_eq (tgt := 154) hx hb dL_event_125 (by decide) (fun c1 => absurd c1 (by decide)) (fun c1 => ?_)
    refine lv_aload hx hb dL_event_128 (lv_at hl 0 rfl) ?_
    refine lr_nextF (b := 3) (q := la (13 + i)) X hfa hC hai hP hS (fun q z => Or.inr z) (by decide) (show i < lNum C 3 from hlt) (lFa_3 hlt) tw1082 ⟨by decide, by decide⟩ hl.1 (Nat.le_of_ble_eq_true rfl) ⟨hcs.1, hcs.2⟩ dL_event_130 (fun H locs hP hS => ?_)
    refine lr_cast X hP (lEx_s hlt) lR_s (rfl : vwCl[18]? = some (RX13, TX13, 5)) tw945 dL_event_135 ?_
    refine lv_astore (lv' := [(7, .ref (la (13 + i))), (6, .ref a), (5, .int y), (3, .ref (la (13 + k))), (0, .ref (caOf b1 0))]) hx hb dL_event_138 hl (by decide) rfl (fun ls hl => ?_)
    refine lv_aload hx hb dL_event_140 (lv_at hl 0 rfl) ?_
    refine lr_getN (k := 4) (fs := (lFs i (w, h))) (v := .int (w (161 + 12 * i + 9))) X hP (lEx_s hlt) lR_s (rfl : vwCl[18]? = some (RX13, TX13, 5)) cinX13 (by decide) rfl rfl xw960 dL_event_142 ?_
    rcases hf i hlt with z0 | z0
    · refine lv_if_eq (tgt := 151) hx hb dL_event_145 (by decide) (fun c1 => ?_) (fun c1 => absurd z0 c1)
      refine lv_goto (tgt := 118) hx hb dL_event_151 (by decide) ?_
      rw [z0, Int32.add_zero] at hy
      exact ih (i + 1) y (by omega) hy H locs ls hP hS (lv_sub hl [1, 2, 3, 4] rfl)
    · refine lv_if_eq (tgt := 151) hx hb dL_event_145 (by decide) (fun c1 => absurd c1 (by rw [z0]; decide)) (fun c1 => ?_)
      refine lv_iinc (v := y + 1) (lv' := [(5, .int (y + 1)), (7, .ref (la (13 + i))), (6, .ref a), (3, .ref (la (13 + k))), (0, .ref (caOf b1 0))]) hx hb dL_event_148 hl (k := 2) rfl (by rfl) (by decide) rfl (fun ls hl => ?_)
      refine lv_goto (tgt := 118) hx hb dL_event_151 (by decide) ?_
      rw [z0] at hy
      exact ih (i + 1) (y + 1) (by omega) hy H locs ls hP hS (lv_sub hl [2, 0, 3, 4] rfl)
set_option maxRecDepth 10000 in
theorem kLev_open (X : gX p s m args c cL_event 8 RL (kR kTab kA)) (hC : lC C) (hs : lS b1 la C) (hbz : b1 + 433 ≤ s.heap.size) (hk : k < C.1.2.1) (hz : M.2 0 (161 + 12 * k + 9) = 0) (hns : nS (M.2 0) = C.1.2.1) (hfl : ∀ j, j < C.1.2.1 → M.2 0 (161 + 12 * j + 9) = 0 ∨ M.2 0 (161 + 12 * j + 9) = 1) (f1 : fX10_openFlap S (nI k) = some (sumK 9 (upd (M.2 0) (161 + 12 * k + 9) 1), S')) (f3 : M'.2 0 = (upd (M.2 0) (161 + 12 * k + 9) 1)) (hh : h = h') (hret : gRetIA p l e (rmL 9 48 192) s m args below meth c cL_event 48 192 (qΩ b1 la C) (qP dC dI cg kA la iA C b1) Q 1 (S', (M'.2 0, h'))) (hP : gF (lP dC dI cg kA la iA C b1) (cZ dC dI cg kA b1 la C s.heap.size S) ((M.2 0), h) s H) (hS : va_S (Fr (qΩ b1 la C) s.heap.size) s.heap H locs) (hl : lv_has ls 8 [(4, .int (nI y)), (3, .ref (la (13 + k))), (0, .ref (caOf b1 0)), (1, .ref (la 0))]) (hcs : cells + 1 ≤ 48 ∧ slots + 4 ≤ 192) : W p l e (rmL 9 48 192) s m args below meth c H locs cells slots Q (F0 m 88 ls []) := by
  have hx := X.hx
  have hb := X.hb
  have hcf : gFs (lΩ la C) (cZ dC dI cg kA b1 la C s.heap.size S) := cZ_fs hs
  have hn5 := hC.2.1.2
  subst hh
  rw [f3] at hret
  have hk6 : k < 4 := by omega
  have hf2 : ∀ j, j < C.1.2.1 → (upd (M.2 0) (161 + 12 * k + 9) 1) (161 + 12 * j + 9) = 0 ∨ (upd (M.2 0) (161 + 12 * k + 9) 1) (161 + 12 * j + 9) = 1 := fun j hj => by
    by_cases q : j = k
    · subst q; rw [pk_us]; exact (by decide : (1 : Int32) = 0 ∨ (1 : Int32) = 1)
    · rw [pk_un (by omega)]; exact hfl j hj
  have hw : (upd (M.2 0) (161 + 12 * k + 9) 1) (161 + 12 * k + 9) = 1 := pk_us
  have htot : sumA (fun j => (upd (M.2 0) (161 + 12 * k + 9) 1) (161 + 12 * j + 9)) C.1.2.1 0 0 = sumK 9 (upd (M.2 0) (161 + 12 * k + 9) 1) := by
    unfold sumK
    rw [show nS (upd (M.2 0) (161 + 12 * k + 9) 1) = C.1.2.1 by rw [← hns]; unfold nS; rw [pk_un (by omega)]]
  refine lv_iconst (v := 0) hx hb dL_event_88 (by decide) ?_
  refine lv_istore (lv' := [(5, .int 0), (4, .int (nI y)), (3, .ref (la (13 + k))), (0, .ref (caOf b1 0)), (1, .ref (la 0))]) hx hb dL_event_89 hl (by decide) rfl (fun ls hl => ?_)
  refine lv_aload_n hx hb dL_event_91 rfl (lv_at hl 2 rfl) ?_
  refine lv_aload_n hx hb dL_event_92 rfl (lv_at hl 2 rfl) ?_
  refine lr_getN (k := 4) (fs := (lFs k ((M.2 0), h))) (v := .int ((M.2 0) (161 + 12 * k + 9))) X hP (lEx_s hk) lR_s (rfl : vwCl[18]? = some (RX13, TX13, 5)) cinX13 (by decide) rfl rfl xw960 dL_event_93 ?_
  refine lv_if_ne (tgt := 103) hx hb dL_event_96 (by decide) (fun c1 => absurd c1 (fun c2 => c2 hz)) (fun c1 => ?_)
  refine lv_iconst (v := 1) hx hb dL_event_99 (by decide) ?_
  refine lv_goto (tgt := 104) hx hb dL_event_100 (by decide) ?_
  refine lr_putNA (k := 4) (fs := (lFs k ((M.2 0), h))) (tyT := tyX13) ((upd (M.2 0) (161 + 12 * k + 9) 1), h) X hcf hP hS (Or.inl (Or.inr ⟨_, (lEx_s hk), rfl⟩)) (lEx_s hk) lR_s ls_4 (fun p hp => lus (by decide) hp) (rfl : vwCl[18]? = some (RX13, TX13, 5)) cinX13 tyX13_ok nmX13 (by decide) rfl rfl (by decide +kernel) (by decide +kernel) (Nat.le_of_ble_eq_true rfl) xw960 dL_event_104 (fun H locs hP hS => ?_)
  generalize hW : (upd (M.2 0) (161 + 12 * k + 9) 1) = w1 at hP hf2 hw htot hret f1
  refine lv_aload_n hx hb dL_event_107 rfl (lv_at hl 4 rfl) ?_
  refine lr_getN (k := 2) (fs := (lF0 la (w1, h))) (v := .ref (la 3)) X hP (lEx_l (by decide)) lR_0 (rfl : vwCl[17]? = some (RX12, TX12, 15)) cinX12 (by decide) rfl rfl xw885 dL_event_108 ?_
  refine lr_iterF (b := 3) (F := cZ dC dI cg kA b1 la C s.heap.size S) X (hcf.mono (fun q z => z.elim)) hP hS (fun q z => Or.inr z) (by decide) tw1043 ⟨by decide, by decide⟩ hl.1 (Nat.le_of_ble_eq_true rfl) ⟨hcs.1, hcs.2⟩ dL_event_111 (fun H locs a hai hP hS => ?_)
  refine lv_astore (lv' := [(6, .ref a), (5, .int 0), (4, .int (nI y)), (3, .ref (la (13 + k))), (0, .ref (caOf b1 0)), (1, .ref (la 0))]) hx hb dL_event_116 hl (by decide) rfl (fun ls hl => ?_)
  refine kLev_fl X hC hs hbz hf2 (fun H locs ls hP hS hl => ?_) ⟨by omega, by omega⟩ hai C.1.2.1 0 0 (by omega) htot H locs ls hP hS (lv_sub hl [0, 1, 3, 4] rfl)
  refine lv_aload_n hx hb dL_event_154 rfl (lv_at hl 1 rfl) ?_
  refine lr_getN (k := 4) (fs := (lFs k (w1, h))) (v := .int (w1 (161 + 12 * k + 9))) X hP (lEx_s hk) lR_s (rfl : vwCl[18]? = some (RX13, TX13, 5)) cinX13 (by decide) rfl rfl xw960 dL_event_155 ?_
  refine lv_if_eq (tgt := 172) hx hb dL_event_158 (by decide) (fun c1 => absurd c1 (by rw [hw]; decide)) (fun c1 => ?_)
  refine lv_aload_n hx hb dL_event_161 rfl (lv_at hl 2 rfl) ?_
  refine lv_aload_n hx hb dL_event_162 rfl (lv_at hl 1 rfl) ?_
  refine lr_getN (k := 0) (fs := (lFs k (w1, h))) (v := .int (nI k)) X hP (lEx_s hk) lR_s (rfl : vwCl[18]? = some (RX13, TX13, 5)) cinX13 (by decide) rfl rfl xw952 dL_event_163 ?_
  refine gCallWI X (gF_ok cOK (lP_fsC hs)) ((gMetI.A (vX10_openFlap f1)).lift (lP_fsC hs)) (cw_V 1 X gsL_openFlap hdL_openFlap ⟨by decide, by decide⟩) rfl ⟨cZ_cP hP.2, hP.1⟩ hS (cq_fr hS.1) (cr_rec (cZ_cP hP.2) (rfl : kc 0 = 0) rfl cw0 rfl) hl.1 (Nat.le_of_ble_eq_true rfl) ⟨by show _ + 0 ≤ 48; omega, by show _ + 0 ≤ 192; omega⟩ dL_event_166 (As := [.int (nI k)]) (rest := []) rfl (fun H locs hP hS => ?_)
  refine lv_goto (tgt := 180) hx hb dL_event_169 (by decide) ?_
  refine lv_iload hx hb dL_event_180 (lv_at hl 0 rfl) ?_
  refine lv_icmp_ne (tgt := 189) hx hb dL_event_182 (by decide) (fun c1 => absurd c1 (fun c2 => c2 rfl)) (fun c1 => ?_)
  refine lv_iconst (v := 1) hx hb dL_event_185 (by decide) ?_
  refine lv_goto (tgt := 190) hx hb dL_event_186 (by decide) ?_
  exact hret _ _ _ _ _ _ dL_event_190 ⟨hP.1, hP.2⟩ hS (by omega) (by omega)
set_option maxRecDepth 10000 in
theorem kLev_shut (X : gX p s m args c cL_event 8 RL (kR kTab kA)) (hC : lC C) (hs : lS b1 la C) (hbz : b1 + 433 ≤ s.heap.size) (hk : k < C.1.2.1) (hz : M.2 0 (161 + 12 * k + 9) = 1) (hns : nS (M.2 0) = C.1.2.1) (hfl : ∀ j, j < C.1.2.1 → M.2 0 (161 + 12 * j + 9) = 0 ∨ M.2 0 (161 + 12 * j + 9) = 1) (f1 : fX10_shutFlap S (nI k) = some (sumK 9 (upd (M.2 0) (161 + 12 * k + 9) 0), S')) (f3 : M'.2 0 = (upd (M.2 0) (161 + 12 * k + 9) 0)) (hh : h = h') (hret : gRetIA p l e (rmL 9 48 192) s m args below meth c cL_event 48 192 (qΩ b1 la C) (qP dC dI cg kA la iA C b1) Q 1 (S', (M'.2 0, h'))) (hP : gF (lP dC dI cg kA la iA C b1) (cZ dC dI cg kA b1 la C s.heap.size S) ((M.2 0), h) s H) (hS : va_S (Fr (qΩ b1 la C) s.heap.size) s.heap H locs) (hl : lv_has ls 8 [(4, .int (nI y)), (3, .ref (la (13 + k))), (0, .ref (caOf b1 0)), (1, .ref (la 0))]) (hcs : cells + 1 ≤ 48 ∧ slots + 4 ≤ 192) : W p l e (rmL 9 48 192) s m args below meth c H locs cells slots Q (F0 m 88 ls []) := by
  have hx := X.hx
  have hb := X.hb
  have hcf : gFs (lΩ la C) (cZ dC dI cg kA b1 la C s.heap.size S) := cZ_fs hs
  have hn5 := hC.2.1.2
  subst hh
  rw [f3] at hret
  have hk6 : k < 4 := by omega
  have hf2 : ∀ j, j < C.1.2.1 → (upd (M.2 0) (161 + 12 * k + 9) 0) (161 + 12 * j + 9) = 0 ∨ (upd (M.2 0) (161 + 12 * k + 9) 0) (161 + 12 * j + 9) = 1 := fun j hj => by
    by_cases q : j = k
    · subst q; rw [pk_us]; exact (by decide : (0 : Int32) = 0 ∨ (0 : Int32) = 1)
    · rw [pk_un (by omega)]; exact hfl j hj
  have hw : (upd (M.2 0) (161 + 12 * k + 9) 0) (161 + 12 * k + 9) = 0 := pk_us
  have htot : sumA (fun j => (upd (M.2 0) (161 + 12 * k + 9) 0) (161 + 12 * j + 9)) C.1.2.1 0 0 = sumK 9 (upd (M.2 0) (161 + 12 * k + 9) 0) := by
    unfold sumK
    rw [show nS (upd (M.2 0) (161 + 12 * k + 9) 0) = C.1.2.1 by rw [← hns]; unfold nS; rw [pk_un (by omega)]]
  refine lv_iconst (v := 0) hx hb dL_event_88 (by decide) ?_
  refine lv_istore (lv' := [(5, .int 0), (4, .int (nI y)), (3, .ref (la (13 + k))), (0, .ref (caOf b1 0)), (1, .ref (la 0))]) hx hb dL_event_89 hl (by decide) rfl (fun ls hl => ?_)
  refine lv_aload_n hx hb dL_event_91 rfl (lv_at hl 2 rfl) ?_
  refine lv_aload_n hx hb dL_event_92 rfl (lv_at hl 2 rfl) ?_
  refine lr_getN (k := 4) (fs := (lFs k ((M.2 0), h))) (v := .int ((M.2 0) (161 + 12 * k + 9))) X hP (lEx_s hk) lR_s (rfl : vwCl[18]? = some (RX13, TX13, 5)) cinX13 (by decide) rfl rfl xw960 dL_event_93 ?_
  refine lv_if_ne (tgt := 103) hx hb dL_event_96 (by decide) (fun c1 => ?_) (fun c1 => absurd c1 (by rw [hz]; decide))
  refine lv_iconst (v := 0) hx hb dL_event_103 (by decide) ?_
  refine lr_putNA (k := 4) (fs := (lFs k ((M.2 0), h))) (tyT := tyX13) ((upd (M.2 0) (161 + 12 * k + 9) 0), h) X hcf hP hS (Or.inl (Or.inr ⟨_, (lEx_s hk), rfl⟩)) (lEx_s hk) lR_s ls_4 (fun p hp => lus (by decide) hp) (rfl : vwCl[18]? = some (RX13, TX13, 5)) cinX13 tyX13_ok nmX13 (by decide) rfl rfl (by decide +kernel) (by decide +kernel) (Nat.le_of_ble_eq_true rfl) xw960 dL_event_104 (fun H locs hP hS => ?_)
  generalize hW : (upd (M.2 0) (161 + 12 * k + 9) 0) = w1 at hP hf2 hw htot hret f1
  refine lv_aload_n hx hb dL_event_107 rfl (lv_at hl 4 rfl) ?_
  refine lr_getN (k := 2) (fs := (lF0 la (w1, h))) (v := .ref (la 3)) X hP (lEx_l (by decide)) lR_0 (rfl : vwCl[17]? = some (RX12, TX12, 15)) cinX12 (by decide) rfl rfl xw885 dL_event_108 ?_
  refine lr_iterF (b := 3) (F := cZ dC dI cg kA b1 la C s.heap.size S) X (hcf.mono (fun q z => z.elim)) hP hS (fun q z => Or.inr z) (by decide) tw1043 ⟨by decide, by decide⟩ hl.1 (Nat.le_of_ble_eq_true rfl) ⟨hcs.1, hcs.2⟩ dL_event_111 (fun H locs a hai hP hS => ?_)
  refine lv_astore (lv' := [(6, .ref a), (5, .int 0), (4, .int (nI y)), (3, .ref (la (13 + k))), (0, .ref (caOf b1 0)), (1, .ref (la 0))]) hx hb dL_event_116 hl (by decide) rfl (fun ls hl => ?_)
  refine kLev_fl X hC hs hbz hf2 (fun H locs ls hP hS hl => ?_) ⟨by omega, by omega⟩ hai C.1.2.1 0 0 (by omega) htot H locs ls hP hS (lv_sub hl [0, 1, 3, 4] rfl)
  refine lv_aload_n hx hb dL_event_154 rfl (lv_at hl 1 rfl) ?_
  refine lr_getN (k := 4) (fs := (lFs k (w1, h))) (v := .int (w1 (161 + 12 * k + 9))) X hP (lEx_s hk) lR_s (rfl : vwCl[18]? = some (RX13, TX13, 5)) cinX13 (by decide) rfl rfl xw960 dL_event_155 ?_
  refine lv_if_eq (tgt := 172) hx hb dL_event_158 (by decide) (fun c1 => ?_) (fun c1 => absurd (by rw [hw]) c1)
  refine lv_aload_n hx hb dL_event_172 rfl (lv_at hl 2 rfl) ?_
  refine lv_aload_n hx hb dL_event_173 rfl (lv_at hl 1 rfl) ?_
  refine lr_getN (k := 0) (fs := (lFs k (w1, h))) (v := .int (nI k)) X hP (lEx_s hk) lR_s (rfl : vwCl[18]? = some (RX13, TX13, 5)) cinX13 (by decide) rfl rfl xw952 dL_event_174 ?_
  refine gCallWI X (gF_ok cOK (lP_fsC hs)) ((gMetI.A (vX10_shutFlap f1)).lift (lP_fsC hs)) (cw_V 1 X gsL_shutFlap hdL_shutFlap ⟨by decide, by decide⟩) rfl ⟨cZ_cP hP.2, hP.1⟩ hS (cq_fr hS.1) (cr_rec (cZ_cP hP.2) (rfl : kc 0 = 0) rfl cw0 rfl) hl.1 (Nat.le_of_ble_eq_true rfl) ⟨by show _ + 0 ≤ 48; omega, by show _ + 0 ≤ 192; omega⟩ dL_event_177 (As := [.int (nI k)]) (rest := []) rfl (fun H locs hP hS => ?_)
  refine lv_iload hx hb dL_event_180 (lv_at hl 0 rfl) ?_
  refine lv_icmp_ne (tgt := 189) hx hb dL_event_182 (by decide) (fun c1 => absurd c1 (fun c2 => c2 rfl)) (fun c1 => ?_)
  refine lv_iconst (v := 1) hx hb dL_event_185 (by decide) ?_
  refine lv_goto (tgt := 190) hx hb dL_event_186 (by decide) ?_
  exact hret _ _ _ _ _ _ dL_event_190 ⟨hP.1, hP.2⟩ hS (by omega) (by omega)
end EVT
