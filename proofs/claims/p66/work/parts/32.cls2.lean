/-! growing, hunting, resting, shifts, dawn, the hour of the class -/
section CLS2
variable {S : CS} {t nc ns nh k : Nat} {w : Wd} {E : Nat → Nat → Int32}
theorem cm_rng {o f : Nat} (hn : cm nc ns nh o f ≠ 999) : cm nc ns nh o f < 16 ∨ 65 ≤ cm nc ns nh o f := by
  unfold cm at hn ⊢
  repeat' split
  all_goals omega
theorem cw_cong {v : Wd} (h : ∀ q, q < 16 ∨ 65 ≤ q → v q = w q) : cw S t nc ns nh v E = cw S t nc ns nh w E := by
  unfold cw
  refine congrArg (fun z => (z, S.2)) (funext fun p => funext fun f => ?_)
  by_cases hr : t ≤ p ∧ p < t + 35
  · rw [if_pos hr, if_pos hr]
    unfold gv
    by_cases h5 : 4 ≤ p - t ∧ p - t < 8
    · rw [if_pos h5, if_pos h5]
    · rw [if_neg h5, if_neg h5]
      by_cases hc : cm nc ns nh (p - t) f = 999
      · rw [if_pos hc, if_pos hc]
      · rw [if_neg hc, if_neg hc, h _ (cm_rng hc)]
  · rw [if_neg hr, if_neg hr]
theorem cw_log {a b c : Int32} (h : ∃ e, e ≤ 16 ∧ w 16 = nI e) : cw S t nc ns nh (logsW w a b c) E = cw S t nc ns nh w E := cw_cong (fun q hq => logsW_only h q (by unfold WG; omega))
theorem c_grow_l {w0 : Wd} (hn : ns ≤ 6) : ∀ r i f (v : Wd), ns = i + r → r < f → v 1 = nI ns → v = itr (fun k v => breedsW v k) i w0 → fX2_growMice_2 t f (cw S t nc ns nh v E) (nI i) = some (cw S t nc ns nh (itr (fun k v => breedsW v k) ns w0) E) := by
  intro r
  induction r with
  | zero =>
    intro i f v hi hf h1 hv
    obtain ⟨f, rfl⟩ : ∃ g, f = g + 1 := ⟨f - 1, by omega⟩
    obtain rfl : ns = i := by omega
    rw [fX2_growMice_2]
    dsimp only
    rw [ch6, h1, if_pos (nI_le (Nat.le_refl ns) (by omega)), hv]
    rfl
  | succ r ih =>
    intro i f v hi hf h1 hv
    obtain ⟨f, rfl⟩ : ∃ g, f = g + 1 := ⟨f - 1, by omega⟩
    have o := breedsW_only (w := v) (show i < 6 by omega)
    have e := ih (i + 1) f (breedsW v i) (by omega) (by omega) ((o 1 (by unfold WE; omega)).trans h1) (by rw [hv]; rfl)
    rw [fX2_growMice_2]
    dsimp only
    rw [ch6, h1, if_neg (nI_ge (show i < ns by omega) (by omega))]
    simp (disch := omega) only [fX2_growMice_10, gi_m, nI_c, cs2, wsk2, cg2, wg2, cw_2, cw_p, pk_un, fX2_growMice_52, fX2_growMice_65, nI_1]
    exact e
theorem c_busy_l (hw : w 1 = nI ns) (hn : ns ≤ 6) (hf : Fl ns w) (hb : ∀ j, j < ns → ∃ m, m ≤ 99 ∧ w (161 + 12 * j + 8) = nI m) : ∀ r i f (b m : Int32), ns = i + r → r < f → ((b = -1 ∧ m = 0) ∨ ∃ j, j < ns ∧ b = nI j ∧ m = w (161 + 12 * j + 8)) → fX2_busiestOpenSack_6 t f (cw S t nc ns nh w E) b m (nI i) = some (hntL w r i b) := by
  intro r
  induction r with
  | zero =>
    intro i f b m hi hf' _
    obtain ⟨f, rfl⟩ : ∃ g, f = g + 1 := ⟨f - 1, by omega⟩
    rw [fX2_busiestOpenSack_6]
    dsimp only
    rw [ch6, hw, if_pos (nI_le (show ns ≤ i by omega) (by omega))]
    rfl
  | succ r ih =>
    intro i f b m hi hf' hbm
    obtain ⟨f, rfl⟩ : ∃ g, f = g + 1 := ⟨f - 1, by omega⟩
    have hi1 : i < ns := by omega
    have hi6 : i < 6 := by omega
    obtain ⟨a, ha, ea⟩ := hb i hi1
    rw [fX2_busiestOpenSack_6]
    dsimp only
    rw [ch6, hw, if_neg (nI_ge hi1 (by omega)), hntL]
    simp (disch := omega) only [fX2_busiestOpenSack_14, gi_m, nI_c, cs3, fX2_busiestOpenSack_51, fX2_busiestOpenSack_26, cs2, fX2_busiestOpenSack_39, nI_1]
    rcases hf i hi1 with h1 | h1
    · rw [if_pos h1, if_neg (fun z => absurd (h1.symm.trans z.1) (by decide))]
      exact ih (i + 1) f b m (by omega) (by omega) hbm
    · rw [if_neg (by rw [h1]; decide)]
      rcases hbm with ⟨rfl, rfl⟩ | ⟨j, j1, rfl, rfl⟩
      · by_cases h2 : w (161 + 12 * i + 8) = 0
        · rw [if_pos (by rw [h2]; decide), if_neg (fun z => z.2.1 h2)]
          exact ih (i + 1) f _ _ (by omega) (by omega) (Or.inl ⟨rfl, rfl⟩)
        · rw [if_neg (fun z => h2 (by
            rw [ea] at z ⊢
            rcases Nat.eq_zero_or_pos a with q | q
            · rw [q, nI_0]
            · exact absurd z (nI_nle q (by omega)))), if_pos ⟨h1, h2, Or.inl rfl⟩]
          exact ih (i + 1) f _ _ (by omega) (by omega) (Or.inr ⟨i, hi1, rfl, rfl⟩)
      · obtain ⟨c, hc, ec⟩ := hb j j1
        by_cases h4 : w (161 + 12 * i + 8) ≤ w (161 + 12 * j + 8)
        · rw [if_pos h4, if_neg (fun z => z.2.2.elim (nI_nem (by omega)) (fun z => z (by rw [nI_c (by omega)]; exact h4)))]
          exact ih (i + 1) f _ _ (by omega) (by omega) (Or.inr ⟨j, j1, rfl, rfl⟩)
        · have h2 : ¬ w (161 + 12 * i + 8) = 0 := fun z => h4 (by rw [z, ec]; exact nI_pos' (by omega))
          rw [if_neg h4, if_pos ⟨h1, h2, Or.inr (by rw [nI_c (by omega)]; exact h4)⟩]
          exact ih (i + 1) f _ _ (by omega) (by omega) (Or.inr ⟨i, hi1, rfl, rfl⟩)
theorem c_busy (hw : w 1 = nI ns) (hn : ns ≤ 6) (hf : Fl ns w) (hb : ∀ j, j < ns → ∃ m, m ≤ 99 ∧ w (161 + 12 * j + 8) = nI m) : fX2_busiestOpenSack (cw S t nc ns nh w E) t = some (huntedW w) := by
  unfold fX2_busiestOpenSack fX2_busiestOpenSack_0 huntedW
  rw [nS_of hw hn]
  exact c_busy_l hw hn hf hb ns 0 FU (-1) 0 (by omega) (by rw [FU_eq]; omega) (Or.inl ⟨rfl, rfl⟩)
theorem c_strength (hk : k < nc) (h8 : k < 8) : fX0_strength (cw S t nc ns nh w E) (t + 1 + 8 + k) = some (strengthW w k) := by
  simp (disch := omega) only [fX0_strength_0, fX0_strength, cc1, cc3, strengthW, mx0]
theorem c_tire (hk : k < nc) (h8 : k < 8) : fX0_tire (cw S t nc ns nh w E) (t + 1 + 8 + k) = some (cw S t nc ns nh (upd w (65 + 12 * k + 9) (if w (65 + 12 * k + 9) + 1 < 20 then w (65 + 12 * k + 9) + 1 else 20)) E) := by
  simp (disch := omega) only [fX0_tire_15, fX0_tire_0, fX0_tire, cc3, wc3, cw_2, cw_p]
  rw [mn2]
theorem c_recover (hk : k < nc) (h8 : k < 8) {y : Int32} : fX0_recover (cw S t nc ns nh w E) (t + 1 + 8 + k) y = some (cw S t nc ns nh (restW w k y) E) := by
  simp (disch := omega) only [fX0_recover_14, fX0_recover_0, fX0_recover, cc3, wc3, cw_2, cw_p, mx0, restW]
theorem c_hunt (h0 : w 0 = nI nc) (hc8 : nc ≤ 8) (hw : w 1 = nI ns) (hn : ns ≤ 6) (hf : Fl ns w) (hb : ∀ j, j < ns → ∃ m, m ≤ 99 ∧ w (161 + 12 * j + 8) = nI m) (hs : w 5 = -1 ∨ ∃ c, c < nc ∧ w 5 = nI c) (hE : EvRel E w) : ∃ E', fX2_hunt (cw S t nc ns nh w E) t = some ((huntsW w).1, cw S t nc ns nh (huntsW w).2 E') ∧ EvRel E' (huntsW w).2 := by
  unfold fX2_hunt fX2_hunt_0 huntsW
  rw [c_busy hw hn hf hb, Option.bind_some, fX2_hunt_4, ch8]
  rcases hs with h | ⟨c, hc, h⟩
  · rw [if_pos h, if_pos h]; exact ⟨E, rfl, hE⟩
  have hc8' : c < 8 := by omega
  rw [h, if_neg (nI_nem (by omega)), if_neg (nI_nem (by omega)), fX2_hunt_13]
  rcases huntedW_in hw hn with h2 | ⟨j, j1, h2, -, -⟩
  · rw [if_pos h2, if_pos h2]; exact ⟨E, rfl, hE⟩
  have hj : j < 6 := by omega
  rw [h2, if_neg (nI_nem (by omega)), if_neg (nI_nem (by omega)), nI_c (by omega), nI_c (by omega)]
  have hE2 : EvRel E (huntU w c j (huntX w c j)) := hE.only (A := fun q => q < 16 ∨ 65 ≤ q) ((((Only.rf.up (by omega)).up (by omega)).up (by omega)).up (by omega)) (fun q h => h)
  obtain ⟨nx, n, n1, -, n3, -, -, -⟩ := id hE2
  refine ⟨_, ?_, hE2.add⟩
  have a := c_add (S := S) (t := t) (nc := nc) (ns := ns) (nh := nh) (w := huntU w c j (huntX w c j)) (E := E) (a := 1) (b := nI c) (c := huntX w c j) n3 n1
  simp (disch := omega) only [fX2_hunt_20, ch8, h, gi_m, nI_c, c_strength, Option.bind_some, fX2_hunt_41, cs2, wsk2, cw_2, cw_p, fX2_hunt_61, cc4, wc4, fX2_hunt_72, cg0, wg0, fX2_hunt_86, c_tire, pk_un, fX2_hunt_90]
  have e5 : huntU w c j (huntX w c j) 5 = nI c := by unfold huntU; simp (disch := omega) only [pk_un]; exact h
  refine (congrArg (fun z => z.bind fun q => fX2_hunt_104 t q) a).trans ?_
  rw [Option.bind_some, fX2_hunt_104, ch8]
  have e5' : logsW (huntU w c j (huntX w c j)) 1 (nI c) (huntX w c j) 5 = nI c := (logsW_5 hE2.e16).trans e5
  rw [e5, cw_log hE2.e16]
theorem c_rest_l {w0 : Wd} {h : Int32} (hn : nc ≤ 8) : ∀ r i f (v : Wd), nc = i + r → r < f → v 0 = nI nc → v = itr (fun k v => if nI k = h then v else restW v k 1) i w0 → fX2_restAllBut_2 t f (cw S t nc ns nh v E) h (nI i) = some (cw S t nc ns nh (itr (fun k v => if nI k = h then v else restW v k 1) nc w0) E) := by
  intro r
  induction r with
  | zero =>
    intro i f v hi hf h1 hv
    obtain ⟨f, rfl⟩ : ∃ g, f = g + 1 := ⟨f - 1, by omega⟩
    obtain rfl : nc = i := by omega
    rw [fX2_restAllBut_2]
    dsimp only
    rw [ch5, h1, if_pos (nI_le (Nat.le_refl nc) (by omega)), hv]
    rfl
  | succ r ih =>
    intro i f v hi hf h1 hv
    obtain ⟨f, rfl⟩ : ∃ g, f = g + 1 := ⟨f - 1, by omega⟩
    have hI : itr (fun k v => if nI k = h then v else restW v k 1) (i + 1) w0 = if nI i = h then v else restW v i 1 := by rw [hv]; rfl
    rw [fX2_restAllBut_2]
    dsimp only
    rw [ch5, h1, if_neg (nI_ge (show i < nc by omega) (by omega)), fX2_restAllBut_10]
    by_cases q : nI i = h
    · rw [if_pos q, fX2_restAllBut_25, nI_1]
      rw [if_pos q] at hI
      exact ih (i + 1) f _ (by omega) (by omega) h1 hI.symm
    · rw [if_neg q, fX2_restAllBut_15, gi_m (by omega) (by omega), nI_c (by omega), c_recover (by omega) (by omega), Option.bind_some, fX2_restAllBut_25, nI_1]
      rw [if_neg q] at hI
      exact ih (i + 1) f _ (by omega) (by omega) ((restW_only (show i < 8 by omega) 0 (by unfold WR; omega)).trans h1) hI.symm
theorem c_reason (hk : k < nc) (h8 : nc ≤ 8) {s : Nat} (hs : w 5 = nI s) (hs8 : s < nc) : fX2_reasonAgainst (cw S t nc ns nh w E) t (nI k) = some (if w (65 + 12 * k + 9) < 12 then (if nI k = nI s then 0 else if w (65 + 12 * k + 8) = w (65 + 12 * s + 8) then 3 else 0) else 2) := by
  simp (disch := omega) only [fX2_reasonAgainst_63, fX2_reasonAgainst_62, fX2_reasonAgainst_58, fX2_reasonAgainst_34, fX2_reasonAgainst_26, fX2_reasonAgainst_24, fX2_reasonAgainst_10, fX2_reasonAgainst_8, fX2_reasonAgainst_0, fX2_reasonAgainst, ch8, hs, if_neg (nI_nem (show s < 2 ^ 31 by omega)), gi_m, nI_c, cc3, cc2]
  repeat' split
  all_goals rfl
theorem c_swearIn (hk : k < nc) (h8 : nc ≤ 8) : fX2_swearIn (cw S t nc ns nh w E) t (nI k) = some (cw S t nc ns nh (swearsInW w k) E) := by
  have e : swearsInW w k = upd (upd (upd w 5 (nI k)) (65 + 12 * k + 11) (w (65 + 12 * k + 11) + 1)) 12 (w 12 + 1) := by
    unfold swearsInW
    refine wd_ext fun q => ?_
    by_cases q1 : q = 12
    · subst q1; simp (disch := omega) only [pk_us, pk_un]
    · by_cases q2 : q = (65 + 12 * k + 11)
      · subst q2; simp (disch := omega) only [pk_us, pk_un]
      · rw [pk_un q2, pk_un q1, pk_un q1, pk_un q2]
  rw [e]
  simp (disch := omega) only [fX2_swearIn_33, fX2_swearIn_20, fX2_swearIn_5, fX2_swearIn_0, fX2_swearIn, wh8, gi_m, nI_c, cc5, wc5, cg4, wg4, cw_2, cw_p, pk_un]
theorem lt12 (x : Int32) : (x < 12) ↔ ¬ (12 ≤ x) := by
  rw [Int32.lt_iff_toInt_lt, Int32.le_iff_toInt_le]; omega
/-- the oath of a shift's change -/
theorem c_oath (hk : k < nc) (h8 : nc ≤ 8) {s : Nat} (hs : w 5 = nI s) (hs8 : s < nc) (hE : EvRel E w) : ∃ E', (fX2_reasonAgainst (cw S t nc ns nh w E) t (nI k)).bind (fun q => fX2_changeShift_75 t (cw S t nc ns nh w E) (nI s) (nI k) q) = some (cw S t nc ns nh (swearsW w k) E') ∧ EvRel E' (swearsW w k) := by
  have yes : ∃ E', fX2_changeShift_78 t (cw S t nc ns nh w E) (nI s) (nI k) = some (cw S t nc ns nh (logsW (swearsInW w k) 2 (nI k) (nI s)) E') ∧ EvRel E' (logsW (swearsInW w k) 2 (nI k) (nI s)) := by
    have hE2 : EvRel E (swearsInW w k) := hE.only (swearsInW_only (by omega)) (fun q h => by unfold WO at h; omega)
    obtain ⟨nx, n, n1, -, n3, -, -, -⟩ := id hE2
    refine ⟨_, ?_, hE2.add⟩
    rw [cw_log hE2.e16]
    simp only [fX2_changeShift_78, c_swearIn hk h8, Option.bind_some, fX2_changeShift_83, c_add n3 n1, fX2_changeShift_93, fX2_changeShift_124]
  have no : ∃ E', fX2_changeShift_96 t (cw S t nc ns nh w E) (nI s) (nI k) = some (cw S t nc ns nh (logsW (upd (upd w 5 (-1)) 13 (w 13 + 1)) 3 (nI k) (nI s)) E') ∧ EvRel E' (logsW (upd (upd w 5 (-1)) 13 (w 13 + 1)) 3 (nI k) (nI s)) := by
    have hE2 : EvRel E (upd (upd w 5 (-1)) 13 (w 13 + 1)) := hE.only (A := fun q => q < 16) ((Only.rf.up (by omega)).up (by omega)) (fun q h => Or.inl h)
    obtain ⟨nx, n, n1, -, n3, -, -, -⟩ := id hE2
    refine ⟨_, ?_, hE2.add⟩
    rw [cw_log hE2.e16]
    simp (disch := omega) only [fX2_changeShift_96, wh8, fX2_changeShift_101, cg5, wg5, cw_2, cw_p, pk_un, fX2_changeShift_114, c_add n3 n1, Option.bind_some, fX2_changeShift_124]
  rw [c_reason hk h8 hs hs8, Option.bind_some, fX2_changeShift_75]
  unfold swearsW
  rw [hs, if_neg (nI_nem (show s < 2 ^ 31 by omega)), nI_c (by omega)]
  by_cases h1 : 12 ≤ w (65 + 12 * k + 9)
  · rw [if_pos h1, if_neg (fun z => (lt12 _).mp z h1), if_neg (by decide)]; exact no
  rw [if_neg h1, if_pos ((lt12 _).mpr h1)]
  by_cases h2 : nI k = nI s
  · rw [if_pos h2, if_pos h2, if_pos rfl]; exact yes
  rw [if_neg h2, if_neg h2]
  by_cases h3 : w (65 + 12 * k + 8) = w (65 + 12 * s + 8)
  · rw [if_pos h3, if_pos h3, if_neg (by decide)]; exact no
  · rw [if_neg h3, if_neg h3, if_pos rfl]; exact yes
theorem c_next {n j : Nat} (hj : j < n) (hn : n ≤ 12) : (if nI n ≤ nI j + 1 then (0 : Int32) else nI j + 1) = nI ((j + 1) % n) := by
  rw [nI_1]
  by_cases h : n ≤ j + 1
  · rw [if_pos (nI_le h (by omega)), show j + 1 = n by omega, Nat.mod_self, nI_0]
  · rw [if_neg (nI_ge (by omega) (by omega)), Nat.mod_eq_of_lt (by omega)]
theorem c_changeShift (h0 : w 0 = nI nc) (hc8 : nc ≤ 8) (h2 : w 2 = nI nh) (hh : nh ≤ 12) (hp : ∀ j, j < nh → ∃ c, c < nc ∧ w (233 + 2 * j) = nI c) (hs : w 5 = -1 ∨ ∃ c, c < nc ∧ w 5 = nI c) (h6 : ∃ j, j < nh ∧ w 6 = nI j) (hE : EvRel E w) (h7 : w 7 ≤ 0) {v : Wd} (hv : w = upd v 7 (v 7 - 1)) : ∃ E', fX2_changeShift (cw S t nc ns nh w E) t = some (cw S t nc ns nh (shiftW v) E') ∧ EvRel E' (shiftW v) := by
  obtain ⟨j, hj, h6⟩ := h6
  have v6 : v 6 = nI j := by rw [← h6, hv, pk_un (by omega)]
  have v2 : v 2 = nI nh := by rw [← h2, hv, pk_un (by omega)]
  have eN : nextSh v = (j + 1) % nh := by unfold nextSh; rw [v6, nI_c (by omega), nH_of v2 hh]
  have hN : nextSh v < nh := by rw [eN]; exact Nat.mod_lt _ (by omega)
  obtain ⟨p, hp1, hp2⟩ := hp (nextSh v) hN
  have vp : v (233 + 2 * nextSh v) = nI p := by rw [← hp2, hv, pk_un (by omega)]
  have vh : v (233 + 2 * nextSh v + 1) = w (233 + 2 * nextSh v + 1) := by rw [hv, pk_un (by omega)]
  have e7 : v 7 - 1 ≤ 0 := by rw [hv, pk_us] at h7; exact h7
  have eS : shiftW v = swearsW (upd (upd w 6 (nI (nextSh v))) 7 (w (233 + 2 * nextSh v + 1))) p := by
    unfold shiftW
    rw [if_pos e7, vp, nI_c (by omega), vh, ← hv]
  rw [eS]
  have a : fX2_changeShift (cw S t nc ns nh w E) t = fX2_changeShift_24 t (cw S t nc ns nh w E) (nI (nextSh v)) := by
    rw [eN, ← c_next hj hh]
    unfold fX2_changeShift fX2_changeShift_0 fX2_changeShift_23 fX2_changeShift_14
    rw [ch7, ch9, h2, h6]
    split <;> rfl
  rw [a]
  have b : fX2_changeShift_24 t (cw S t nc ns nh w E) (nI (nextSh v)) = fX2_changeShift_43 t (cw S t nc ns nh (upd (upd w 6 (nI (nextSh v))) 7 (w (233 + 2 * nextSh v + 1))) E) := by
    simp (disch := omega) only [fX2_changeShift_24, wh9, fX2_changeShift_27, ch9, gi_m, nI_c, cp1, wh10, cw_2, cw_p, pk_us, pk_un]
  rw [b, fX2_changeShift_43, ch8]
  have hE2 : EvRel E (upd (upd w 6 (nI (nextSh v))) 7 (w (233 + 2 * nextSh v + 1))) := hE.only (A := fun q => q < 16) ((Only.rf.up (by omega)).up (by omega)) (fun q h => Or.inl h)
  rw [pk_un (by omega), pk_un (by omega)]
  rcases hs with h | ⟨s, s1, h⟩
  · rw [if_pos h]
    refine ⟨E, ?_, ?_⟩
    · unfold swearsW; rw [pk_un (by omega), pk_un (by omega), if_pos h]; rfl
    · unfold swearsW; rw [pk_un (by omega), pk_un (by omega), if_pos h]; exact hE2
  · rw [h, if_neg (nI_nem (by omega)), fX2_changeShift_52, ch9, pk_un (by omega), pk_us, gi_m (show nextSh v < 12 by omega) (by omega), nI_c (by omega), cp0 hN (by omega), ch8, pk_un (by omega), pk_un (by omega), pk_un (by omega), pk_un (by omega), hp2, h]
    exact c_oath (w := upd (upd w 6 (nI (nextSh v))) 7 (w (233 + 2 * nextSh v + 1))) hp1 hc8 (by rw [pk_un (by omega), pk_un (by omega), h]) s1 hE2
end CLS2
