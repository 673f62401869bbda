/-! the reference's hour -/
section REF3
variable {M : MS} {w : Wd} {k n : Nat}
theorem r_dawns (hd : Hd w) (lv : Lv w) : fX11_dawns (mw M w) = some (mw M (dawnW w)) := by
  obtain ⟨⟨c, c1, c8, hc⟩, -, ⟨n, n1, n12, hn⟩, hp⟩ := hd
  obtain ⟨hs, ⟨j, hj, h6⟩, hl⟩ := lv
  have eH := nH_of hn n12
  have eC := nC_of hc c8
  obtain ⟨p, hp1, hp2⟩ := hp j hj
  have un : ∀ q, (∀ k, k < c → q ≠ (65 + 12 * k + 9)) → itr (fun k v => restW v k (w 4)) c w q = w q := fun q h => itr_rest (y := w 4) (P := fun _ => True) (fun k v => Or.inr rfl) c q h
  unfold fX11_dawns fX11_dawns_0 dawnW
  rw [h6, nI_clamp (by omega), hp2, nI_clamp (by omega), eC]
  rw [show (0 : Int32) = nI 0 from nI_0.symm, r_dawns_l (w := w) (y := w 4) c8 c 0 FU w (by omega) (by rw [FU_eq]; omega) hc rfl (fun q hq => un q (fun k _ => by omega)) rfl]
  refine r_dawns_t (j := j) ?_ (by omega) ?_ (by omega) ?_
  · rw [un 6 (fun k _ => by omega)]; exact h6
  · rw [un (233 + 2 * j) (fun k _ => by omega)]; exact hp2
  · rw [un 16 (fun k _ => by omega)]; exact hl
theorem r_hp12 {w0 : Wd} (hn : n ≤ 6) : ∀ r i f (v : Wd), n = i + r → r < f → v 1 = nI n → v = itr (fun k v => eatsW v k) i w0 → fX11_hourPasses_12 f (mw M v) (nI i) = fX11_hourPasses_33 (mw M (itr (fun k v => eatsW v k) n w0)) := by
  intro r
  induction r with
  | zero =>
    intro i f v hi hf h1 hv
    obtain ⟨f, rfl⟩ : ∃ g, f = g + 1 := ⟨f - 1, by omega⟩
    obtain rfl : n = i := by omega
    rw [fX11_hourPasses_12]
    dsimp only
    rw [gi1, tn1, mw_w, h1, if_pos (nI_le (Nat.le_refl n) (by omega)), hv]
  | succ r ih =>
    intro i f v hi hf h1 hv
    obtain ⟨f, rfl⟩ : ∃ g, f = g + 1 := ⟨f - 1, by omega⟩
    rw [fX11_hourPasses_12]
    dsimp only
    rw [gi1, tn1, mw_w, h1, if_neg (nI_ge (show i < n by omega) (by omega)), fX11_hourPasses_22, r_eats h1 hn (by omega), Option.bind_some, fX11_hourPasses_27, nI_1]
    exact ih (i + 1) f _ (by omega) (by omega) ((eatsW_only h1 hn (show i < n by omega) 1 (by unfold WE; omega)).trans h1) (by rw [hv]; rfl)
theorem r_hp35 {w0 : Wd} {q3 : Int32} (hn : n ≤ 6) (h24 : q3 - q3 / 24 * 24 = 0) : ∀ r i f (v : Wd), n = i + r → r < f → v 1 = nI n → v 3 = q3 → v = itr (fun k v => breedsW v k) i w0 → fX11_hourPasses_35 f (mw M v) (nI i) = fX11_hourPasses_68 (mw M (itr (fun k v => breedsW v k) n w0)) := by
  intro r
  induction r with
  | zero =>
    intro i f v hi hf h1 h3 hv
    obtain ⟨f, rfl⟩ : ∃ g, f = g + 1 := ⟨f - 1, by omega⟩
    obtain rfl : n = i := by omega
    rw [fX11_hourPasses_35]
    dsimp only
    rw [gi1, tn1, mw_w, h1, if_pos (nI_le (Nat.le_refl n) (by omega)), hv]
  | succ r ih =>
    intro i f v hi hf h1 h3 hv
    obtain ⟨f, rfl⟩ : ∃ g, f = g + 1 := ⟨f - 1, by omega⟩
    rw [fX11_hourPasses_35]
    dsimp only
    rw [gi1, tn1, mw_w, h1, if_neg (nI_ge (show i < n by omega) (by omega)), fX11_hourPasses_45, gi3, tn3, mw_w, h3, if_pos h24, fX11_hourPasses_57, r_breeds (show i < 6 by omega), Option.bind_some, fX11_hourPasses_62, nI_1]
    have o := breedsW_only (w := v) (show i < 6 by omega)
    exact ih (i + 1) f _ (by omega) (by omega) ((o 1 (by unfold WE; omega)).trans h1) ((o 3 (by unfold WE; omega)).trans h3) (by rw [hv]; rfl)
theorem r_hp75 {w0 : Wd} {h : Int32} (hn : n ≤ 8) : ∀ r i f (v : Wd), n = i + r → r < f → v 0 = nI n → v = itr (fun k v => if nI k = h then v else restW v k 1) i w0 → fX11_hourPasses_75 f (mw M v) h (nI i) = fX11_hourPasses_102 (mw M (itr (fun k v => if nI k = h then v else restW v k 1) n w0)) := by
  intro r
  induction r with
  | zero =>
    intro i f v hi hf h1 hv
    obtain ⟨f, rfl⟩ : ∃ g, f = g + 1 := ⟨f - 1, by omega⟩
    obtain rfl : n = i := by omega
    rw [fX11_hourPasses_75]
    dsimp only
    rw [gi0, tn0, mw_w, h1, if_pos (nI_le (Nat.le_refl n) (by omega)), hv]
  | succ r ih =>
    intro i f v hi hf h1 hv
    obtain ⟨f, rfl⟩ : ∃ g, f = g + 1 := ⟨f - 1, by omega⟩
    have hI : itr (fun k v => if nI k = h then v else restW v k 1) (i + 1) w0 = if nI i = h then v else restW v i 1 := by rw [hv]; rfl
    rw [fX11_hourPasses_75]
    dsimp only
    rw [gi0, tn0, mw_w, h1, if_neg (nI_ge (show i < n by omega) (by omega)), fX11_hourPasses_85]
    by_cases q : nI i = h
    · rw [if_pos q, fX11_hourPasses_96, nI_1]
      rw [if_pos q] at hI
      exact ih (i + 1) f _ (by omega) (by omega) h1 hI.symm
    · rw [if_neg q, fX11_hourPasses_90, r_rests (show i < 8 by omega), Option.bind_some, fX11_hourPasses_96, nI_1]
      rw [if_neg q] at hI
      exact ih (i + 1) f _ (by omega) (by omega) ((restW_only (show i < 8 by omega) 0 (by unfold WR; omega)).trans h1) hI.symm
/-- what an hour leaves of the heads -/
theorem Hd.only {w v : Wd} {A : Nat → Prop} (o : Only A w v) (hA : ∀ q, A q → 3 ≤ q ∧ q < 233) (h : Hd w) : Hd v := by
  have e : ∀ q, q < 3 ∨ 233 ≤ q → v q = w q := fun q hq => o q (fun z => by have := hA q z; omega)
  obtain ⟨a, b, c, d⟩ := h
  refine ⟨by rw [e 0 (by omega)]; exact a, by rw [e 1 (by omega)]; exact b, by rw [e 2 (by omega)]; exact c, ?_⟩
  unfold nH nC
  rw [e 0 (by omega), e 2 (by omega)]
  intro j hj
  rw [e _ (by omega)]
  exact d j hj
theorem Lv.only {w v : Wd} {A : Nat → Prop} (o : Only A w v) (hA : ∀ q, A q → 3 ≤ q ∧ q ≠ 5 ∧ q ≠ 6 ∧ q ≠ 16) (h : Lv w) : Lv v := by
  have e : ∀ q, q < 3 ∨ q = 5 ∨ q = 6 ∨ q = 16 → v q = w q := fun q hq => o q (fun z => by have := hA q z; omega)
  unfold Lv nH nC
  rw [e 0 (by omega), e 2 (by omega), e 5 (by omega), e 6 (by omega), e 16 (by omega)]
  exact h
theorem hourE_only (hd : Hd w) : Only (fun q => q = 3 ∨ WE q) w (hourE w) := by
  obtain ⟨-, ⟨n, n1, n6, hn⟩, -, -⟩ := hd
  unfold hourE
  rw [nS_of hn n6]
  have o : Only (fun q => q = 3 ∨ WE q) w (upd w 3 (w 3 + 1)) := Only.rf.up (Or.inl rfl)
  refine o.tr (itr_only (N := n) (fun i v hi h => ?_) n (Nat.le_refl _))
  have h1 : v 1 = nI n := by rw [h 1 (by unfold WE; omega), o 1 (by unfold WE; omega), hn]
  exact (eatsW_only h1 n6 hi).mono (fun q h => Or.inr h)
theorem hourB_only (hd : Hd w) : Only WE w (hourB w) := by
  obtain ⟨-, ⟨n, n1, n6, hn⟩, -, -⟩ := hd
  unfold hourB
  rw [nS_of hn n6]
  split
  · exact itr_only (N := n) (fun i v hi h => breedsW_only (by omega)) n (Nat.le_refl _)
  · exact Only.rf
theorem huntU_only {c k : Nat} {x : Int32} (hc : c < 8) (hk : k < 6) : Only (fun q => WH q ∨ WG q) w (huntU w c k x) := (((Only.rf.up (Or.inl (by unfold WH; omega))).up (Or.inl (by unfold WH; omega))).up (Or.inl (by unfold WH; omega))).up (Or.inl (by unfold WH; omega))
theorem huntsW_only (hd : Hd w) (lv : Lv w) : Only (fun q => WH q ∨ WG q) w (huntsW w).2 := by
  obtain ⟨⟨c, c1, c8, hc⟩, ⟨n, n1, n6, hn⟩, -, -⟩ := hd
  obtain ⟨hs, -, hl⟩ := lv
  rw [nC_of hc c8] at hs
  unfold huntsW
  rcases hs with h | ⟨s, s1, h⟩
  · rw [if_pos h]; exact Only.rf
  rw [h, if_neg (nI_nem (by omega))]
  rcases huntedW_in hn n6 with h2 | ⟨j, j1, h2, -, -⟩
  · rw [if_pos h2]; exact Only.rf
  rw [h2, if_neg (nI_nem (by omega)), nI_clamp (by omega), nI_clamp (by omega)]
  refine (huntU_only (by omega) (by omega)).tr ((logsW_only ?_).mono (fun q h => Or.inr h))
  unfold huntU
  simp (disch := omega) only [pk_un]
  exact hl
theorem huntsW_16 (hd : Hd w) (lv : Lv w) : ∃ e, e ≤ 16 ∧ (huntsW w).2 16 = nI e := by
  obtain ⟨⟨c, c1, c8, hc⟩, ⟨n, n1, n6, hn⟩, -, -⟩ := hd
  obtain ⟨hs, -, hl⟩ := lv
  rw [nC_of hc c8] at hs
  unfold huntsW
  rcases hs with h | ⟨s, s1, h⟩
  · rw [if_pos h]; exact hl
  rw [h, if_neg (nI_nem (by omega))]
  rcases huntedW_in hn n6 with h2 | ⟨j, j1, h2, -, -⟩
  · rw [if_pos h2]; exact hl
  rw [h2, if_neg (nI_nem (by omega)), nI_clamp (by omega), nI_clamp (by omega)]
  exact logsW_16 (w := huntU w s j (huntX w s j)) (a := 1) (b := nI s) (c := huntX w s j) (by unfold huntU; simp (disch := omega) only [pk_un]; exact hl)
theorem hourR_only {h : Int32} (hd : Hd w) : Only WR w (hourR w h) := by
  obtain ⟨⟨c, c1, c8, hc⟩, -, -, -⟩ := hd
  unfold hourR
  rw [nC_of hc c8]
  refine itr_only (N := c) (fun i v hi _ => ?_) c (Nat.le_refl _)
  split
  · exact Only.rf
  · exact restW_only (by omega)
theorem swearsW_only (hd : Hd w) (hl : ∃ e, e ≤ 16 ∧ w 16 = nI e) (hk : k < 8) : Only (fun q => WO q ∨ WG q) w (swearsW w k) := by
  have a : Only (fun q => WO q ∨ WG q) w (logsW (upd (upd w 5 (-1)) 13 (w 13 + 1)) 3 (nI k) (w 5)) := ((Only.rf.up (p := 5) (Or.inl (by unfold WO; omega))).up (p := 13) (Or.inl (by unfold WO; omega))).tr ((logsW_only (by simp (disch := omega) only [pk_un]; exact hl)).mono (fun q h => Or.inr h))
  have b : Only (fun q => WO q ∨ WG q) w (logsW (swearsInW w k) 2 (nI k) (w 5)) := ((swearsInW_only hk).mono (fun q h => Or.inl h)).tr ((logsW_only (by unfold swearsInW; simp (disch := omega) only [pk_un]; exact hl)).mono (fun q h => Or.inr h))
  unfold swearsW
  split
  · exact Only.rf
  · split
    · exact a
    · split
      · exact b
      · split
        · exact a
        · exact b
theorem logsW_5 {a b c : Int32} (hl : ∃ e, e ≤ 16 ∧ w 16 = nI e) : logsW w a b c 5 = w 5 := logsW_only hl 5 (by unfold WG; omega)
theorem swearsW_lv (hl : ∃ e, e ≤ 16 ∧ w 16 = nI e) (hk : k < n) (hn : n ≤ 8) (h : w 5 = -1 ∨ ∃ c, c < n ∧ w 5 = nI c) : (swearsW w k 5 = -1 ∨ ∃ c, c < n ∧ swearsW w k 5 = nI c) ∧ ∃ e, e ≤ 16 ∧ swearsW w k 16 = nI e := by
  have l1 : ∃ e, e ≤ 16 ∧ (upd (upd w 5 (-1)) 13 (w 13 + 1)) 16 = nI e := by simp (disch := omega) only [pk_un]; exact hl
  have l2 : ∃ e, e ≤ 16 ∧ (swearsInW w k) 16 = nI e := by unfold swearsInW; simp (disch := omega) only [pk_un]; exact hl
  have a : (logsW (upd (upd w 5 (-1)) 13 (w 13 + 1)) 3 (nI k) (w 5) 5 = -1 ∨ ∃ c, c < n ∧ logsW (upd (upd w 5 (-1)) 13 (w 13 + 1)) 3 (nI k) (w 5) 5 = nI c) := by
    rw [logsW_5 l1, pk_un (by omega), pk_us]; exact Or.inl rfl
  have b : (logsW (swearsInW w k) 2 (nI k) (w 5) 5 = -1 ∨ ∃ c, c < n ∧ logsW (swearsInW w k) 2 (nI k) (w 5) 5 = nI c) := by
    rw [logsW_5 l2]; unfold swearsInW; rw [pk_un (by omega), pk_un (by omega), pk_us]; exact Or.inr ⟨k, hk, rfl⟩
  unfold swearsW
  split
  · exact ⟨h, hl⟩
  · split
    · exact ⟨a, logsW_16 l1⟩
    · split
      · exact ⟨b, logsW_16 l2⟩
      · split
        · exact ⟨a, logsW_16 l1⟩
        · exact ⟨b, logsW_16 l2⟩
end REF3
