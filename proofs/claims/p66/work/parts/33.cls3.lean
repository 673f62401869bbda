/-! bounds through an hour; the class's dawn, hour, hours -/
section CLS3
variable {S : CS} {t nc ns nh k n : Nat} {w : Wd} {E : Nat → Nat → Int32}
theorem Bd.up8 {m : Nat} (h : Bd n w) (hm : m ≤ 99) : Bd n (upd w (161 + 12 * k + 8) (nI m)) := fun j hj => by
  refine ⟨?_, ?_⟩
  · by_cases e : (161 + 12 * j + 8) = (161 + 12 * k + 8)
    · rw [e, pk_us]; exact ⟨m, hm, rfl⟩
    · rw [pk_un e]; exact (h j hj).1
  · rw [pk_un (by omega)]; exact (h j hj).2
theorem Bd.up7 {g : Nat} (h : Bd n w) (hg : g ≤ 9999) : Bd n (upd w (161 + 12 * k + 7) (nI g)) := fun j hj => by
  refine ⟨?_, ?_⟩
  · rw [pk_un (by omega)]; exact (h j hj).1
  · by_cases e : (161 + 12 * j + 7) = (161 + 12 * k + 7)
    · rw [e, pk_us]; exact ⟨g, hg, rfl⟩
    · rw [pk_un e]; exact (h j hj).2
theorem Bd.only {v : Wd} {A : Nat → Prop} (h : Bd n w) (o : Only A w v) (hA : ∀ q, A q → q < 161 ∨ ((q - 161) % 12 ≠ 7 ∧ (q - 161) % 12 ≠ 8)) : Bd n v := fun j hj => by
  rw [o (161 + 12 * j + 8) (fun z => by have := hA _ z; omega), o (161 + 12 * j + 7) (fun z => by have := hA _ z; omega)]
  exact h j hj
theorem Bd.upo {q : Nat} {x : Int32} (h : Bd n w) (hq : q < 161 ∨ ((q - 161) % 12 ≠ 7 ∧ (q - 161) % 12 ≠ 8)) : Bd n (upd w q x) := h.only (A := fun p => p = q) (Only.rf.up rfl) (fun p z => by subst z; exact hq)
theorem Fl.only {v : Wd} {A : Nat → Prop} (h : Fl n w) (o : Only A w v) (hA : ∀ q, A q → q < 161 ∨ (q - 161) % 12 ≠ 9) : Fl n v := fun j hj => by
  rw [o (161 + 12 * j + 9) (fun z => by have := hA _ z; omega)]
  exact h j hj
theorem starve_bd {m x : Nat} (h : Bd n w) (e : w (161 + 12 * k + 8) = nI m) (hx : x ≤ m) (hm : m - x ≤ 99) : Bd n (starveW w k (nI x)) := by
  unfold starveW
  rw [e, pk_sub hx]
  exact (h.up8 hm).upo (by omega)
theorem moves_bd {j : Nat} (h : Bd n w) (hk : k < n) (hj : j < n) (hne : j ≠ k) : Bd n (movesW w k j) := by
  obtain ⟨a, ha, ea⟩ := (h j hj).1
  obtain ⟨b, hb, eb⟩ := (h k hk).1
  unfold movesW
  dsimp only
  rw [ea, eb, nI_add]
  by_cases q : a + b ≤ 99
  · rw [if_pos (show nI (a + b) ≤ (99 : Int32) from nI_le (b := 99) q (by omega))]
    exact (h.up8 q).up8 (m := 0) (by omega)
  · rw [if_neg (show ¬ nI (a + b) ≤ (99 : Int32) from nI_ge (a := 99) (by omega) (by omega)), show nI (a + b) - 99 = nI (a + b - 99) from pk_sub (b := 99) (by omega)]
    unfold starveW
    rw [pk_un (by omega), pk_us, pk_sub (by omega), show a + b - (a + b - 99) = 99 by omega]
    have e : upd (upd (upd w (161 + 12 * j + 8) (nI (a + b))) (161 + 12 * k + 8) 0) (161 + 12 * j + 8) (nI 99) = upd (upd w (161 + 12 * k + 8) (nI 0)) (161 + 12 * j + 8) (nI 99) := wd_ext fun p => by
      unfold upd
      repeat' split
      all_goals rfl
    rw [e]
    exact ((h.up8 (by omega)).up8 (by omega)).upo (by omega)
theorem eats_bd (hw : w 1 = nI n) (hn : n ≤ 6) (hk : k < n) (h : Bd n w) : Bd n (eatsW w k) := by
  obtain ⟨m, hm, em⟩ := (h k hk).1
  obtain ⟨g, hg, eg⟩ := (h k hk).2
  have hk6 : k < 6 := by omega
  obtain ⟨x, hx, hxm, ex⟩ : ∃ x, x ≤ g ∧ x ≤ m ∧ (if w (161 + 12 * k + 7) < w (161 + 12 * k + 8) then w (161 + 12 * k + 7) else w (161 + 12 * k + 8)) = nI x := by
    rw [em, eg]
    by_cases q : g < m
    · rw [if_pos (nI_lt q (by omega))]; exact ⟨g, by omega, by omega, rfl⟩
    · rw [if_neg (nI_nlt (by omega) (by omega))]; exact ⟨m, by omega, by omega, rfl⟩
  unfold eatsW
  dsimp only
  rw [ex]
  have h3 : Bd n (eatW w k (nI x)) := by
    unfold eatW
    rw [eg, pk_sub hx]
    exact ((h.up7 (by omega)).upo (by omega)).upo (by omega)
  have e8 : eatW w k (nI x) (161 + 12 * k + 8) = nI m := by unfold eatW; simp (disch := omega) only [pk_un]; exact em
  have e1 : eatW w k (nI x) 1 = nI n := (eatW_only hk6 1 (by unfold WE; omega)).trans hw
  have hs : Bd n (starveW (eatW w k (nI x)) k ((w (161 + 12 * k + 8) + 1) / 2)) := by
    rw [em, nI_1, show (nI (m + 1) / 2 : Int32) = nI ((m + 1) / 2) from pk_div (d := 2) (by omega) (by omega) (by omega)]
    by_cases z : m = 0
    · subst z
      have := starve_bd (k := k) (x := 0) h3 e8 (by omega) (by omega)
      exact this
    · exact starve_bd h3 e8 (by omega) (by omega)
  split
  · exact h3
  · split
    · split
      · unfold tailW
        rcases nextW_in e1 hn hk with q | ⟨i, i1, i2, i3, -⟩
        · rw [if_pos q]; exact hs
        · rw [i3, if_neg (nI_nem (by omega)), nI_c (by omega)]; exact moves_bd h3 hk i1 i2
      · unfold tailW; rw [if_pos rfl]; exact hs
    · exact h3
theorem breeds_bd (hk : k < n) (h : Bd n w) : Bd n (breedsW w k) := by
  obtain ⟨m, hm, em⟩ := (h k hk).1
  unfold breedsW
  dsimp only
  rw [em, show (99 - nI m : Int32) = nI (99 - m) from pk_sub (a := 99) (by omega), show (nI m / 2 : Int32) = nI (m / 2) from pk_div (d := 2) (by omega) (by omega) (by omega)]
  by_cases q : 99 - m < m / 2
  · rw [if_pos (nI_lt q (by omega)), nI_add]; exact (h.up8 (by omega)).upo (by omega)
  · rw [if_neg (nI_nlt (by omega) (by omega)), nI_add]; exact (h.up8 (by omega)).upo (by omega)
theorem strengthW_pos {c : Nat} : ¬ strengthW w c < 0 := by
  unfold strengthW
  split
  · rename_i z; intro q; rw [Int32.lt_iff_toInt_lt] at z q; omega
  · decide
theorem huntX_in {c m : Nat} (e : w (161 + 12 * k + 8) = nI m) (hm : m ≤ 99) : ∃ x, x ≤ m ∧ huntX w c k = nI x := by
  unfold huntX
  split
  · exact ⟨m, by omega, e⟩
  · rename_i z
    obtain ⟨j, hj, ej⟩ := nI_of (strengthW_pos (w := w) (c := c))
    rw [e, ej] at z
    refine ⟨j, ?_, ej⟩
    apply Classical.byContradiction
    intro q
    exact z (nI_lt (by omega) (by omega))
theorem hunts_bd (hw : w 1 = nI n) (hn : n ≤ 6) (hl : ∃ e, e ≤ 16 ∧ w 16 = nI e) (hs : w 5 = -1 ∨ ∃ c, c < 8 ∧ w 5 = nI c) (h : Bd n w) : Bd n (huntsW w).2 ∧ ∃ x, x ≤ 99 ∧ (huntsW w).2 8 = w 8 + nI x := by
  have z0 : w 8 = w 8 + nI 0 := by rw [nI_0, Int32.add_zero]
  unfold huntsW
  rcases hs with q | ⟨s, s1, q⟩
  · rw [if_pos q]; exact ⟨h, 0, by omega, z0⟩
  rw [q, if_neg (nI_nem (by omega))]
  rcases huntedW_in hw hn with h2 | ⟨j, j1, h2, -, -⟩
  · rw [if_pos h2]; exact ⟨h, 0, by omega, z0⟩
  rw [h2, if_neg (nI_nem (by omega)), nI_c (by omega), nI_c (by omega)]
  obtain ⟨m, hm, em⟩ := (h j j1).1
  obtain ⟨x, hx, ex⟩ := huntX_in (c := s) em hm
  have l : ∃ e, e ≤ 16 ∧ huntU w s j (huntX w s j) 16 = nI e := by unfold huntU; simp (disch := omega) only [pk_un]; exact hl
  have b : Bd n (huntU w s j (huntX w s j)) := by
    rw [ex]
    unfold huntU
    rw [em, pk_sub hx]
    exact (((h.up8 (by omega)).upo (by omega)).upo (by omega)).upo (by omega)
  refine ⟨b.only (logsW_only l) (fun q h => by unfold WG at h; omega), x, by omega, ?_⟩
  show logsW (huntU w s j (huntX w s j)) 1 (nI s) (huntX w s j) 8 = _
  rw [logsW_only l 8 (by unfold WG; omega), ex]
  unfold huntU
  rw [pk_un (by omega), pk_us]
/-- all that the hour asks -/
def Ok (w : Wd) : Prop := Hd w ∧ Lv w ∧ Fl (nS w) w ∧ Bd (nS w) w
theorem hourE_ok (h : Ok w) : Ok (hourE w) := by
  obtain ⟨hd, lv, fl, bd⟩ := h
  have o := hourE_only hd
  have e1 : nS (hourE w) = nS w := by unfold nS; rw [o 1 (by unfold WE; omega)]
  refine ⟨hourE_hd hd, hourE_lv hd lv, by rw [e1]; exact fl.only o (fun q h => by unfold WE at h; omega), ?_⟩
  rw [e1]
  obtain ⟨-, ⟨n, n1, n6, hn⟩, -, -⟩ := hd
  rw [nS_of hn n6] at bd ⊢
  unfold hourE
  rw [nS_of hn n6]
  exact (itr_keep (P := fun v => v 1 = nI n ∧ Bd n v) (N := n) ⟨by rw [pk_un (by omega)]; exact hn, bd.upo (by omega)⟩ (fun i v hi ⟨a, b⟩ => ⟨(eatsW_only a n6 hi 1 (by unfold WE; omega)).trans a, eats_bd a n6 hi b⟩) n (Nat.le_refl _)).2
theorem hourB_ok (h : Ok w) : Ok (hourB w) := by
  obtain ⟨hd, lv, fl, bd⟩ := h
  have o := hourB_only hd
  have e1 : nS (hourB w) = nS w := by unfold nS; rw [o 1 (by unfold WE; omega)]
  refine ⟨hourB_hd hd, hourB_lv hd lv, by rw [e1]; exact fl.only o (fun q h => by unfold WE at h; omega), ?_⟩
  rw [e1]
  unfold hourB
  split
  · exact itr_keep (P := fun v => Bd (nS w) v) (N := nS w) bd (fun i v hi b => breeds_bd hi b) _ (Nat.le_refl _)
  · exact bd
theorem Lv.s8 (hd : Hd w) (lv : Lv w) : w 5 = -1 ∨ ∃ c, c < 8 ∧ w 5 = nI c := by
  obtain ⟨⟨c, c1, c8, hc⟩, -, -, -⟩ := hd
  rcases lv.1 with h | ⟨q, q1, q2⟩
  · exact Or.inl h
  · rw [nC_of hc c8] at q1; exact Or.inr ⟨q, by omega, q2⟩
theorem hourH_ok (h : Ok w) : Ok (hourH w) ∧ ∃ x, x ≤ 99 ∧ hourH w 8 = w 8 + nI x := by
  obtain ⟨hd, lv, fl, bd⟩ := h
  have o := hourH_only hd lv
  have e1 : nS (hourH w) = nS w := by unfold nS; rw [o 1 (by unfold WH WG WR; omega)]
  have hd' : Hd (huntsW w).2 := Hd.only (huntsW_only hd lv) (fun q h => by unfold WH WG at h; omega) hd
  have r := hourR_only (w := (huntsW w).2) (h := (huntsW w).1) hd'
  have b : Bd (nS w) (huntsW w).2 ∧ ∃ x, x ≤ 99 ∧ (huntsW w).2 8 = w 8 + nI x := by
    obtain ⟨-, ⟨n, n1, n6, hn⟩, -, -⟩ := id hd
    rw [nS_of hn n6] at bd ⊢
    exact hunts_bd hn n6 lv.2.2 (Lv.s8 hd lv) bd
  refine ⟨⟨hourH_hd hd lv, hourH_lv hd lv, by rw [e1]; exact fl.only o (fun q h => by unfold WH WG WR at h; omega), ?_⟩, ?_⟩
  · rw [e1]; exact b.1.only r (fun q h => by unfold WR at h; omega)
  · obtain ⟨x, hx, ex⟩ := b.2
    exact ⟨x, hx, (r 8 (by unfold WR; omega)).trans ex⟩
theorem shiftW_ok (h : Ok w) : Ok (shiftW w) := by
  obtain ⟨hd, lv, fl, bd⟩ := h
  have o := shiftW_only hd lv
  have e1 : nS (shiftW w) = nS w := by unfold nS; rw [o 1 (by unfold WO WG; omega)]
  exact ⟨shiftW_hd hd lv, shiftW_lv hd lv, by rw [e1]; exact fl.only o (fun q h => by unfold WO WG at h; omega), by rw [e1]; exact bd.only o (fun q h => by unfold WO WG at h; omega)⟩
theorem hourD_ok (h : Ok w) : Ok (hourD w) := by
  obtain ⟨hd, lv, fl, bd⟩ := h
  have o := hourD_only hd lv
  have e1 : nS (hourD w) = nS w := by unfold nS; rw [o 1 (by unfold WR WO WG; omega)]
  exact ⟨hourD_hd hd lv, hourD_lv hd lv, by rw [e1]; exact fl.only o (fun q h => by unfold WR WO WG at h; omega), by rw [e1]; exact bd.only o (fun q h => by unfold WR WO WG at h; omega)⟩
theorem hourW_ok (h : Ok w) : Ok (hourW w) := hourD_ok (shiftW_ok (hourH_ok (hourB_ok (hourE_ok h))).1)
theorem hourW_8 (h : Ok w) : ∃ x, x ≤ 99 ∧ hourW w 8 = w 8 + nI x := by
  have h1 := hourE_ok h
  have h2 := hourB_ok h1
  obtain ⟨h3, x, hx, ex⟩ := hourH_ok h2
  have h4 := shiftW_ok h3
  refine ⟨x, hx, ?_⟩
  unfold hourW
  rw [hourD_only h4.1 h4.2.1 8 (by unfold WR WO WG; omega), shiftW_only h3.1 h3.2.1 8 (by unfold WO WG; omega), ex, hourB_only h1.1 8 (by unfold WE; omega), hourE_only h.1 8 (by unfold WE; omega)]
theorem c_dawn_l {y : Int32} (hn : nc ≤ 8) : ∀ r i f (v : Wd), nc = i + r → r < f → v 0 = nI nc → v 4 = y → v = itr (fun k v => restW v k y) i w → fX2_greetDawn_2 t f (cw S t nc ns nh v E) (nI i) = fX2_greetDawn_29 t (cw S t nc ns nh (itr (fun k v => restW v k y) nc w) E) := by
  intro r
  induction r with
  | zero =>
    intro i f v hi hf h0 h4 hv
    obtain ⟨f, rfl⟩ : ∃ g, f = g + 1 := ⟨f - 1, by omega⟩
    obtain rfl : nc = i := by omega
    rw [fX2_greetDawn_2]
    dsimp only
    rw [ch5, h0, if_pos (nI_le (Nat.le_refl nc) (by omega)), hv]
  | succ r ih =>
    intro i f v hi hf h0 h4 hv
    obtain ⟨f, rfl⟩ : ∃ g, f = g + 1 := ⟨f - 1, by omega⟩
    rw [fX2_greetDawn_2]
    dsimp only
    rw [ch5, h0, if_neg (nI_ge (show i < nc by omega) (by omega)), fX2_greetDawn_10, gi_m (by omega) (by omega), nI_c (by omega), ch11, c_recover (by omega) (by omega), Option.bind_some, fX2_greetDawn_23, nI_1, h4]
    have o := restW_only (w := v) (k := i) (y := y) (by omega)
    exact ih (i + 1) f _ (by omega) (by omega) ((o 0 (by unfold WR; omega)).trans h0) ((o 4 (by unfold WR; omega)).trans h4) (by rw [hv]; rfl)
theorem c_dawn_t {v : Wd} {j c : Nat} (h6 : v 6 = nI j) (hj : j < nh) (hh : nh ≤ 12) (hc : v (233 + 2 * j) = nI c) (hc1 : c < nc) (hc8 : nc ≤ 8) (hE : EvRel E v) : ∃ E', fX2_greetDawn_29 t (cw S t nc ns nh v E) = some (cw S t nc ns nh (dawnE v c) E') ∧ EvRel E' (dawnE v c) := by
  have no : ∃ E', fX2_greetDawn_85 t (cw S t nc ns nh v E) = some (cw S t nc ns nh (logsW v 4 (-1) (v 3)) E') ∧ EvRel E' (logsW v 4 (-1) (v 3)) := by
    obtain ⟨nx, n, n1, -, n3, -, -, -⟩ := id hE
    refine ⟨_, ?_, hE.add⟩
    rw [cw_log hE.e16]
    simp only [fX2_greetDawn_85, ch12, c_add n3 n1, Option.bind_some, fX2_greetDawn_98]
  have yes : ∃ E', fX2_greetDawn_64 t (cw S t nc ns nh v E) (nI c) = some (cw S t nc ns nh (logsW (swearsInW v c) 4 (nI c) (v 3)) E') ∧ EvRel E' (logsW (swearsInW v c) 4 (nI c) (v 3)) := by
    have o := swearsInW_only (w := v) (k := c) (by omega)
    have hE2 : EvRel E (swearsInW v c) := hE.only o (fun q h => by unfold WO at h; omega)
    obtain ⟨nx, n, n1, -, n3, -, -, -⟩ := id hE2
    refine ⟨_, ?_, hE2.add⟩
    rw [cw_log hE2.e16]
    simp only [fX2_greetDawn_64, c_swearIn hc1 hc8, Option.bind_some, fX2_greetDawn_69, ch12, o 3 (by unfold WO; omega), c_add n3 n1, fX2_greetDawn_82, fX2_greetDawn_98]
  rw [fX2_greetDawn_29, ch9, h6, gi_m (by omega) (by omega), ch8, nI_c (by omega), cp0 hj (by omega), hc]
  unfold dawnE
  by_cases h1 : v 5 = -1
  · rw [if_pos h1, if_pos h1, fX2_greetDawn_50, gi_m (by omega) (by omega), nI_c (by omega), cc3 hc1 (by omega)]
    by_cases h2 : 12 ≤ v (65 + 12 * c + 9)
    · rw [if_pos h2, if_pos h2]; exact no
    · rw [if_neg h2, if_neg h2]; exact yes
  · rw [if_neg h1, if_neg h1]; exact no
/-- the counts -/
def Sz (nc ns nh : Nat) (w : Wd) : Prop := (1 ≤ nc ∧ nc ≤ 8 ∧ w 0 = nI nc) ∧ (1 ≤ ns ∧ ns ≤ 6 ∧ w 1 = nI ns) ∧ (1 ≤ nh ∧ nh ≤ 12 ∧ w 2 = nI nh)
theorem Sz.nC (z : Sz nc ns nh w) : nC w = nc := nC_of z.1.2.2 z.1.2.1
theorem Sz.nS (z : Sz nc ns nh w) : nS w = ns := nS_of z.2.1.2.2 z.2.1.2.1
theorem Sz.nH (z : Sz nc ns nh w) : nH w = nh := nH_of z.2.2.2.2 z.2.2.2.1
theorem Hd.sz (hd : Hd w) : Sz (nC w) (nS w) (nH w) w := by
  obtain ⟨⟨c, c1, c8, hc⟩, ⟨n, n1, n6, hn⟩, ⟨m, m1, m12, hm⟩, -⟩ := hd
  rw [nC_of hc c8, nS_of hn n6, nH_of hm m12]
  exact ⟨⟨c1, c8, hc⟩, ⟨n1, n6, hn⟩, ⟨m1, m12, hm⟩⟩
theorem Sz.only {v : Wd} {A : Nat → Prop} (z : Sz nc ns nh w) (o : Only A w v) (hA : ∀ q, A q → 3 ≤ q) : Sz nc ns nh v := by
  unfold Sz
  rw [o 0 (fun y => by have := hA _ y; omega), o 1 (fun y => by have := hA _ y; omega), o 2 (fun y => by have := hA _ y; omega)]
  exact z
theorem c_dawn (z : Sz nc ns nh w) (hd : Hd w) (lv : Lv w) (hE : EvRel E w) : ∃ E', fX2_greetDawn (cw S t nc ns nh w E) t = some (cw S t nc ns nh (dawnW w) E') ∧ EvRel E' (dawnW w) := by
  have r := dawnR_only hd
  have hcat := dawn_cat hd lv
  obtain ⟨j, hj, h6⟩ := lv.2.1
  obtain ⟨p, hp1, hp2⟩ := hd.2.2.2 j hj
  rw [z.nC] at hp1
  rw [z.nH] at hj
  have z1 := z.1
  have z3 := z.2.2
  have h0 : (0 : Int32) = nI 0 := nI_0.symm
  unfold fX2_greetDawn fX2_greetDawn_0 dawnW
  rw [z.nC] at r ⊢
  rw [h0, c_dawn_l (w := w) (y := w 4) z1.2.1 nc 0 FU w (by omega) (by rw [FU_eq]; omega) z1.2.2 rfl rfl, h6, nI_c (by omega), hp2, nI_c (by omega)]
  exact c_dawn_t (j := j) ((r 6 (by unfold WR; omega)).trans h6) hj z3.2.1 ((r _ (by unfold WR; omega)).trans hp2) hp1 z1.2.1 (hE.only r (fun q h => by unfold WR at h; omega))
theorem c_hp12 {w0 : Wd} (hn : ns ≤ 6) : ∀ r i f (v : Wd), ns = i + r → r < f → v 1 = nI ns → Fl ns v → Bd ns v → v = itr (fun k v => eatsW v k) i w0 → fX2_passHour_12 t f (cw S t nc ns nh v E) (nI i) = fX2_passHour_31 t (cw S t nc ns nh (itr (fun k v => eatsW v k) ns w0) E) := by
  intro r
  induction r with
  | zero =>
    intro i f v hi hf h1 _ _ hv
    obtain ⟨f, rfl⟩ : ∃ g, f = g + 1 := ⟨f - 1, by omega⟩
    obtain rfl : ns = i := by omega
    rw [fX2_passHour_12]
    dsimp only
    rw [ch6, h1, if_pos (nI_le (Nat.le_refl ns) (by omega)), hv]
  | succ r ih =>
    intro i f v hi hf h1 hF hB hv
    obtain ⟨f, rfl⟩ : ∃ g, f = g + 1 := ⟨f - 1, by omega⟩
    have hi1 : i < ns := by omega
    have o := eatsW_only h1 hn hi1
    rw [fX2_passHour_12]
    dsimp only
    rw [ch6, h1, if_neg (nI_ge hi1 (by omega)), fX2_passHour_20, c_feedMice h1 hn hF hi1 (fun j hj => (hB j hj).1), Option.bind_some, fX2_passHour_25, nI_1]
    exact ih (i + 1) f _ (by omega) (by omega) ((o 1 (by unfold WE; omega)).trans h1) (hF.only o (fun q h => by unfold WE at h; omega)) (eats_bd h1 hn hi1 hB) (by rw [hv]; rfl)
theorem pos_le (x : Int32) : (0 < x) ↔ ¬ (x ≤ 0) := by rw [Int32.lt_iff_toInt_lt, Int32.le_iff_toInt_le]; omega
theorem c_hour (z : Sz nc ns nh w) (h : Ok w) (hE : EvRel E w) : ∃ E', fX2_passHour (cw S t nc ns nh w E) t = some (cw S t nc ns nh (hourW w) E') ∧ EvRel E' (hourW w) := by
  have h1 := hourE_ok h
  have h2 := hourB_ok h1
  have h3 := (hourH_ok h2).1
  have h4 := shiftW_ok h3
  have o1 := hourE_only h.1
  have z1 : Sz nc ns nh (hourE w) := z.only o1 (fun q h => by unfold WE at h; omega)
  have o2 := hourB_only h1.1
  have z2 : Sz nc ns nh (hourB (hourE w)) := z1.only o2 (fun q h => by unfold WE at h; omega)
  have o3 := hourH_only h2.1 h2.2.1
  have z3 : Sz nc ns nh (hourH (hourB (hourE w))) := z2.only o3 (fun q h => by unfold WH WG WR at h; omega)
  have o4 := shiftW_only h3.1 h3.2.1
  have z4 : Sz nc ns nh (shiftW (hourH (hourB (hourE w)))) := z3.only o4 (fun q h => by unfold WO WG at h; omega)
  have F : ∀ r, r ≤ 8 → r < FU := fun r h => by rw [FU_eq]; omega
  have y : (0 : Int32) = nI 0 := nI_0.symm
  have zc := z.1.2.1
  have zs := z.2.1.2.1
  have zh := z.2.2.2.1
  have a1 : fX2_passHour (cw S t nc ns nh w E) t = fX2_passHour_31 t (cw S t nc ns nh (hourE w) E) := by
    unfold fX2_passHour fX2_passHour_0 fX2_passHour_10
    have h' := h.2.2
    rw [z.nS] at h'
    rw [ch12, wh12, cw_2, cw_p, y, c_hp12 (w0 := upd w 3 (w 3 + 1)) zs ns 0 FU (upd w 3 (w 3 + 1)) (by omega) (F ns (by omega)) (by rw [pk_un (by omega)]; exact z.2.1.2.2) (h'.1.only (A := fun q => q = 3) (Only.rf.up rfl) (fun q h => by omega)) (h'.2.upo (by omega)) rfl]
    unfold hourE
    rw [z.nS]
  have a2 : fX2_passHour_31 t (cw S t nc ns nh (hourE w) E) = fX2_passHour_45 t (cw S t nc ns nh (hourB (hourE w)) E) := by
    rw [fX2_passHour_31, ch12]
    unfold hourB
    split
    · rw [fX2_passHour_41, z1.nS]
      unfold fX2_growMice fX2_growMice_0
      rw [y, c_grow_l (w0 := hourE w) zs ns 0 FU (hourE w) (by omega) (F ns (by omega)) z1.2.1.2.2 rfl]
      rfl
    · rfl
  rw [a1, a2]
  obtain ⟨hd2, lv2, fl2, bd2⟩ := h2
  rw [z2.nS] at fl2 bd2
  have s2 := lv2.1
  rw [z2.nC] at s2
  have hE2 : EvRel E (hourB (hourE w)) := (hE.only o1 (fun q h => by unfold WE at h; omega)).only o2 (fun q h => by unfold WE at h; omega)
  obtain ⟨E3, e3, r3⟩ := c_hunt (S := S) (t := t) (nh := nh) z2.1.2.2 zc z2.2.1.2.2 zs fl2 (fun j hj => (bd2 j hj).1) s2 hE2
  have ou := huntsW_only hd2 lv2
  have zu : Sz nc ns nh (huntsW (hourB (hourE w))).2 := z2.only ou (fun q h => by unfold WH WG at h; omega)
  have a3 : fX2_passHour_45 t (cw S t nc ns nh (hourB (hourE w)) E) = fX2_passHour_55 t (cw S t nc ns nh (hourH (hourB (hourE w))) E3) := by
    rw [fX2_passHour_45, e3, Option.bind_some, fX2_passHour_49]
    unfold fX2_restAllBut fX2_restAllBut_0
    rw [y, c_rest_l (w0 := (huntsW (hourB (hourE w))).2) zc nc 0 FU (huntsW (hourB (hourE w))).2 (by omega) (F nc (by omega)) zu.1.2.2 rfl]
    unfold hourH hourR
    rw [zu.nC]
    rfl
  rw [a3]
  have hdu : Hd (huntsW (hourB (hourE w))).2 := Hd.only ou (fun q h => by unfold WH WG at h; omega) hd2
  have r3' : EvRel E3 (hourH (hourB (hourE w))) := r3.only (hourR_only hdu) (fun q h => by unfold WR at h; omega)
  have e0 : hourW w = hourD (shiftW (hourH (hourB (hourE w)))) := rfl
  generalize hourH (hourB (hourE w)) = v at *
  have a4 : ∃ E4, fX2_passHour_55 t (cw S t nc ns nh v E3) = fX2_passHour_76 t (cw S t nc ns nh (shiftW v) E4) ∧ EvRel E4 (shiftW v) := by
    rw [fX2_passHour_55, ch10, wh10, cw_2, cw_p, fX2_passHour_65, ch10, pk_us]
    by_cases q : v 7 - 1 ≤ 0
    · rw [if_neg (fun g => (pos_le _).mp g q), fX2_passHour_72]
      have hs := h3.2.1.1
      have h6 := h3.2.1.2.1
      have hp := h3.1.2.2.2
      rw [z3.nC] at hs hp
      rw [z3.nH] at h6 hp
      obtain ⟨E4, e4, r4⟩ := c_changeShift (S := S) (t := t) (ns := ns) (w := upd v 7 (v 7 - 1)) (v := v) (nc := nc) (nh := nh) (E := E3) (by rw [pk_un (by omega)]; exact z3.1.2.2) zc (by rw [pk_un (by omega)]; exact z3.2.2.2.2) zh (fun j hj => by rw [pk_un (by omega)]; exact hp j hj) (by rw [pk_un (by omega)]; exact hs) (by rw [pk_un (by omega)]; exact h6) (r3'.only (A := fun q => q = 7) (Only.rf.up rfl) (fun q h => by omega)) (by rw [pk_us]; exact q) rfl
      exact ⟨E4, by rw [e4]; rfl, r4⟩
    · rw [if_pos ((pos_le _).mpr q)]
      have e : shiftW v = upd v 7 (v 7 - 1) := by unfold shiftW; rw [if_neg q]
      rw [e]
      exact ⟨E3, rfl, r3'.only (A := fun q => q = 7) (Only.rf.up rfl) (fun q h => by omega)⟩
  obtain ⟨E4, e4, r4⟩ := a4
  rw [e4, fX2_passHour_76, ch12, e0]
  unfold hourD
  split
  · obtain ⟨E5, e5, r5⟩ := c_dawn (S := S) (t := t) z4 h4.1 h4.2.1 r4
    exact ⟨E5, by rw [fX2_passHour_88, e5]; rfl, r5⟩
  · exact ⟨E4, rfl, r4⟩
/-- hours -/
def hoursW : Nat → Wd → Wd
  | 0, w => w
  | n + 1, w => hoursW n (hourW w)
theorem hoursW_ok : ∀ n (w : Wd), Ok w → Ok (hoursW n w)
  | 0, _, h => h
  | n + 1, _, h => hoursW_ok n _ (hourW_ok h)
theorem hoursW_only : ∀ n (w : Wd), Ok w → Only WN w (hoursW n w)
  | 0, _, _ => Only.rf
  | n + 1, _, h => (hourW_only h.1 h.2.1).tr (hoursW_only n _ (hourW_ok h))
theorem hoursW_8 : ∀ n (w : Wd), Ok w → ∃ x, x ≤ 99 * n ∧ hoursW n w 8 = w 8 + nI x
  | 0, w, _ => ⟨0, by omega, by rw [nI_0, Int32.add_zero]; rfl⟩
  | n + 1, w, h => by
    obtain ⟨x, hx, ex⟩ := hourW_8 h
    obtain ⟨y, hy, ey⟩ := hoursW_8 n _ (hourW_ok h)
    exact ⟨x + y, by omega, by rw [hoursW, ey, ex, Int32.add_assoc, nI_add]⟩
theorem c_hours_l {x2 : Int32} {H : Nat} (hH : H < 2 ^ 31) : ∀ r i f (v : Wd) (E : Nat → Nat → Int32), H = i + r → r < f → Sz nc ns nh v → Ok v → EvRel E v → ∃ E', fX2_passHours_10 t f (cw S t nc ns nh v E) (nI H) x2 (nI i) = some (hoursW r v 8 - x2, cw S t nc ns nh (hoursW r v) E') ∧ EvRel E' (hoursW r v) := by
  intro r
  induction r with
  | zero =>
    intro i f v E hi hf z h hE
    obtain ⟨f, rfl⟩ : ∃ g, f = g + 1 := ⟨f - 1, by omega⟩
    refine ⟨E, ?_, hE⟩
    rw [fX2_passHours_10]
    dsimp only
    rw [if_pos (nI_le (show H ≤ i by omega) (by omega)), fX2_passHours_25, cg0]
    rfl
  | succ r ih =>
    intro i f v E hi hf z h hE
    obtain ⟨f, rfl⟩ : ∃ g, f = g + 1 := ⟨f - 1, by omega⟩
    obtain ⟨E', e', hE'⟩ := c_hour (S := S) (t := t) z h hE
    rw [fX2_passHours_10]
    dsimp only
    rw [if_neg (nI_ge (show i < H by omega) (by omega)), fX2_passHours_15, e', Option.bind_some, fX2_passHours_19, nI_1]
    exact ih (i + 1) f _ E' (by omega) (by omega) (z.only (hourW_only h.1 h.2.1) (fun q h => by unfold WN at h; omega)) (hourW_ok h) hE'
theorem c_hours {H : Nat} (hH : H < 3000) (z : Sz nc ns nh w) (h : Ok w) (hE : EvRel E w) : ∃ E', fX2_passHours (cw S t nc ns nh w E) t (nI H) = some (hoursW H w 8 - w 8, cw S t nc ns nh (hoursW H w) E') ∧ EvRel E' (hoursW H w) := by
  unfold fX2_passHours fX2_passHours_0
  rw [cg0, show (0 : Int32) = nI 0 from nI_0.symm]
  exact c_hours_l (by omega) H 0 FU w E (by omega) (by rw [FU_eq]; omega) z h hE
theorem r_hours_l {M : MS} {x2 : Int32} {H : Nat} (hH : H < 2 ^ 31) : ∀ r i f (v : Wd), H = i + r → r < f → Ok v → fX11_passes_10 f (mw M v) (nI H) x2 (nI i) = some (hoursW r v 8 - x2, mw M (hoursW r v)) := by
  intro r
  induction r with
  | zero =>
    intro i f v hi hf h
    obtain ⟨f, rfl⟩ : ∃ g, f = g + 1 := ⟨f - 1, by omega⟩
    rw [fX11_passes_10]
    dsimp only
    rw [if_pos (nI_le (show H ≤ i by omega) (by omega)), fX11_passes_25, gi8, mw_w, tn8]
    rfl
  | succ r ih =>
    intro i f v hi hf h
    obtain ⟨f, rfl⟩ : ∃ g, f = g + 1 := ⟨f - 1, by omega⟩
    rw [fX11_passes_10]
    dsimp only
    rw [if_neg (nI_ge (show i < H by omega) (by omega)), fX11_passes_15, r_hour h.1 h.2.1, Option.bind_some, fX11_passes_19, nI_1]
    exact ih (i + 1) f _ (by omega) (by omega) (hourW_ok h)
theorem r_hours {M : MS} {H : Nat} (hH : H < 3000) (h : Ok w) : fX11_passes (mw M w) (nI H) = some (hoursW H w 8 - w 8, mw M (hoursW H w)) := by
  unfold fX11_passes fX11_passes_0
  rw [gi8, mw_w, tn8, show (0 : Int32) = nI 0 from nI_0.symm]
  exact r_hours_l (by omega) H 0 FU w (by omega) (by rw [FU_eq]; omega) h
end CLS3
