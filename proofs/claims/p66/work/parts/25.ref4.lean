/-! an hour keeps what it asks; the reference's hours -/
section REF4
variable {M : MS} {w : Wd} {k n : Nat}
theorem shiftW_only (hd : Hd w) (lv : Lv w) : Only (fun q => q = 6 ∨ q = 7 ∨ WO q ∨ WG q) w (shiftW w) := by
  have hd0 := hd
  obtain ⟨⟨c, c1, c8, hc⟩, -, ⟨n, n1, n12, hn⟩, hp⟩ := hd
  obtain ⟨hs, ⟨j, hj, h6⟩, hl⟩ := lv
  have eH := nH_of hn n12
  have eC := nC_of hc c8
  have hN : nextSh w < n := by unfold nextSh; rw [eH]; exact Nat.mod_lt _ (by omega)
  obtain ⟨p, hp1, hp2⟩ := hp (nextSh w) (by omega)
  have a : Only (fun q => q = 6 ∨ q = 7 ∨ WO q ∨ WG q) w (upd w 7 (w 7 - 1)) := Only.rf.up (by omega)
  have b : Only (fun q => q = 6 ∨ q = 7 ∨ WO q ∨ WG q) w (upd (upd (upd w 7 (w 7 - 1)) 6 (nI (nextSh w))) 7 (w (233 + 2 * nextSh w + 1))) := (a.up (by omega)).up (by omega)
  unfold shiftW
  split
  · rw [hp2, nI_clamp (by omega)]
    refine b.tr ((swearsW_only (Hd.only b (fun q h => by unfold WO WG at h; omega) hd0) (by simp (disch := omega) only [pk_un]; exact hl) (by omega)).mono (fun q h => Or.inr (Or.inr h)))
  · exact a
theorem shiftW_lv (hd : Hd w) (lv : Lv w) : Lv (shiftW w) := by
  have hd0 := hd
  have o := shiftW_only hd lv
  have e0 := o 0 (by unfold WO WG; omega)
  have e2 := o 2 (by unfold WO WG; omega)
  have eC' : nC (shiftW w) = nC w := by unfold nC; rw [e0]
  have eH' : nH (shiftW w) = nH w := by unfold nH; rw [e2]
  obtain ⟨⟨c, c1, c8, hc⟩, -, ⟨n, n1, n12, hn⟩, hp⟩ := hd
  obtain ⟨hs, ⟨j, hj, h6⟩, hl⟩ := lv
  have eH := nH_of hn n12
  have eC := nC_of hc c8
  have hN : nextSh w < n := by unfold nextSh; rw [eH]; exact Nat.mod_lt _ (by omega)
  obtain ⟨p, hp1, hp2⟩ := hp (nextSh w) (by omega)
  unfold Lv
  rw [eC', eH']
  unfold shiftW
  by_cases h : w 7 - 1 ≤ 0
  · rw [if_pos h, hp2, nI_clamp (by omega)]
    have z := swearsW_lv (w := upd (upd (upd w 7 (w 7 - 1)) 6 (nI (nextSh w))) 7 (w (233 + 2 * nextSh w + 1))) (k := p) (n := nC w) (by simp (disch := omega) only [pk_un]; exact hl) hp1 (by omega) (by simp (disch := omega) only [pk_un]; exact hs)
    refine ⟨z.1, ⟨nextSh w, by omega, ?_⟩, z.2⟩
    have hdv : Hd (upd (upd (upd w 7 (w 7 - 1)) 6 (nI (nextSh w))) 7 (w (233 + 2 * nextSh w + 1))) := Hd.only (w := w) (A := fun q => q = 6 ∨ q = 7) (((Only.rf.up (by omega)).up (by omega)).up (by omega)) (fun q h => by omega) hd0
    rw [swearsW_only hdv (by simp (disch := omega) only [pk_un]; exact hl) (by omega) 6 (by unfold WO WG; omega), pk_un (by omega), pk_us]
  · rw [if_neg h]
    simp (disch := omega) only [pk_un]
    exact ⟨hs, ⟨j, hj, h6⟩, hl⟩
theorem dawnE_only {c : Nat} (hl : ∃ e, e ≤ 16 ∧ w 16 = nI e) (hc : c < 8) : Only (fun q => WO q ∨ WG q) w (dawnE w c) := by
  have a : ∀ x y z, Only (fun q => WO q ∨ WG q) w (logsW w x y z) := fun x y z => (logsW_only hl).mono (fun q h => Or.inr h)
  have b : ∀ x y z, Only (fun q => WO q ∨ WG q) w (logsW (swearsInW w c) x y z) := fun x y z => ((swearsInW_only hc).mono (fun q h => Or.inl h)).tr ((logsW_only (by unfold swearsInW; simp (disch := omega) only [pk_un]; exact hl)).mono (fun q h => Or.inr h))
  unfold dawnE
  split
  · split
    · exact a _ _ _
    · exact b _ _ _
  · exact a _ _ _
theorem dawnE_lv {c : Nat} (hl : ∃ e, e ≤ 16 ∧ w 16 = nI e) (hc : c < n) (hn : n ≤ 8) (h : w 5 = -1 ∨ ∃ c, c < n ∧ w 5 = nI c) : (dawnE w c 5 = -1 ∨ ∃ c', c' < n ∧ dawnE w c 5 = nI c') ∧ ∃ e, e ≤ 16 ∧ dawnE w c 16 = nI e := by
  have l2 : ∃ e, e ≤ 16 ∧ (swearsInW w c) 16 = nI e := by unfold swearsInW; simp (disch := omega) only [pk_un]; exact hl
  unfold dawnE
  split
  · split
    · exact ⟨by rw [logsW_5 hl]; exact h, logsW_16 hl⟩
    · refine ⟨?_, logsW_16 l2⟩
      rw [logsW_5 l2]; unfold swearsInW; rw [pk_un (by omega), pk_un (by omega), pk_us]; exact Or.inr ⟨c, hc, rfl⟩
  · exact ⟨by rw [logsW_5 hl]; exact h, logsW_16 hl⟩
theorem dawnR_only (hd : Hd w) : Only WR w (itr (fun k v => restW v k (w 4)) (nC w) w) := by
  obtain ⟨⟨c, c1, c8, hc⟩, -, -, -⟩ := hd
  rw [nC_of hc c8]
  exact itr_only (N := c) (fun i v hi _ => restW_only (by omega)) c (Nat.le_refl _)
theorem dawn_cat (hd : Hd w) (lv : Lv w) : (w (233 + 2 * (w 6).toNatClampNeg)).toNatClampNeg < nC w ∧ nC w ≤ 8 := by
  obtain ⟨⟨c, c1, c8, hc⟩, -, ⟨n, n1, n12, hn⟩, hp⟩ := hd
  obtain ⟨hs, ⟨j, hj, h6⟩, hl⟩ := lv
  have eH := nH_of hn n12
  have eC := nC_of hc c8
  obtain ⟨p, hp1, hp2⟩ := hp j hj
  rw [h6, nI_clamp (by omega), hp2, nI_clamp (by omega)]
  exact ⟨hp1, by omega⟩
theorem dawnW_only (hd : Hd w) (lv : Lv w) : Only (fun q => WR q ∨ WO q ∨ WG q) w (dawnW w) := by
  have h8 := dawn_cat hd lv
  have o := dawnR_only hd
  unfold dawnW
  refine (o.mono (fun q h => Or.inl h)).tr ((dawnE_only ?_ (by omega)).mono (fun q h => Or.inr h))
  rw [o 16 (by unfold WR; omega)]
  exact lv.2.2
theorem dawnW_lv (hd : Hd w) (lv : Lv w) : Lv (dawnW w) := by
  have o := dawnW_only hd lv
  have e0 := o 0 (by unfold WR WO WG; omega)
  have e2 := o 2 (by unfold WR WO WG; omega)
  have e6 := o 6 (by unfold WR WO WG; omega)
  have eC' : nC (dawnW w) = nC w := by unfold nC; rw [e0]
  have eH' : nH (dawnW w) = nH w := by unfold nH; rw [e2]
  have h8 := dawn_cat hd lv
  have r := dawnR_only hd
  unfold Lv
  rw [eC', eH', e6]
  have z := dawnE_lv (w := itr (fun k v => restW v k (w 4)) (nC w) w) (n := nC w) (by rw [r 16 (by unfold WR; omega)]; exact lv.2.2) h8.1 h8.2 (by rw [r 5 (by unfold WR; omega)]; exact lv.1)
  exact ⟨z.1, lv.2.1, z.2⟩
/-- the four stations of an hour -/
theorem hourE_hd (hd : Hd w) : Hd (hourE w) := Hd.only (hourE_only hd) (fun q h => by unfold WE at h; omega) hd
theorem hourE_lv (hd : Hd w) (lv : Lv w) : Lv (hourE w) := Lv.only (hourE_only hd) (fun q h => by unfold WE at h; omega) lv
theorem hourB_hd (hd : Hd w) : Hd (hourB w) := Hd.only (hourB_only hd) (fun q h => by unfold WE at h; omega) hd
theorem hourB_lv (hd : Hd w) (lv : Lv w) : Lv (hourB w) := Lv.only (hourB_only hd) (fun q h => by unfold WE at h; omega) lv
theorem hourH_only (hd : Hd w) (lv : Lv w) : Only (fun q => WH q ∨ WG q ∨ WR q) w (hourH w) := by
  have o := huntsW_only hd lv
  have hd' : Hd (huntsW w).2 := Hd.only o (fun q h => by unfold WH WG at h; omega) hd
  exact (o.mono (fun q h => by rcases h with h | h <;> simp [h])).tr ((hourR_only hd').mono (fun q h => Or.inr (Or.inr h)))
theorem hourH_hd (hd : Hd w) (lv : Lv w) : Hd (hourH w) := Hd.only (hourH_only hd lv) (fun q h => by unfold WH WG WR at h; omega) hd
theorem hourH_lv (hd : Hd w) (lv : Lv w) : Lv (hourH w) := by
  have o := hourH_only hd lv
  have hd' : Hd (huntsW w).2 := Hd.only (huntsW_only hd lv) (fun q h => by unfold WH WG at h; omega) hd
  have e16 : hourH w 16 = (huntsW w).2 16 := hourR_only hd' 16 (by unfold WR; omega)
  unfold Lv nC nH
  rw [o 0 (by unfold WH WG WR; omega), o 2 (by unfold WH WG WR; omega), o 5 (by unfold WH WG WR; omega), o 6 (by unfold WH WG WR; omega), e16]
  exact ⟨lv.1, lv.2.1, huntsW_16 hd lv⟩
theorem shiftW_hd (hd : Hd w) (lv : Lv w) : Hd (shiftW w) := Hd.only (shiftW_only hd lv) (fun q h => by unfold WO WG at h; omega) hd
theorem hourD_only (hd : Hd w) (lv : Lv w) : Only (fun q => WR q ∨ WO q ∨ WG q) w (hourD w) := by
  unfold hourD
  split
  · exact dawnW_only hd lv
  · exact Only.rf
theorem hourD_hd (hd : Hd w) (lv : Lv w) : Hd (hourD w) := Hd.only (hourD_only hd lv) (fun q h => by unfold WR WO WG at h; omega) hd
theorem hourD_lv (hd : Hd w) (lv : Lv w) : Lv (hourD w) := by
  unfold hourD
  split
  · exact dawnW_lv hd lv
  · exact lv
theorem hourW_only (hd : Hd w) (lv : Lv w) : Only WN w (hourW w) := by
  have d1 := hourE_hd hd; have l1 := hourE_lv hd lv
  have d2 := hourB_hd d1; have l2 := hourB_lv d1 l1
  have d3 := hourH_hd d2 l2; have l3 := hourH_lv d2 l2
  have d4 := shiftW_hd d3 l3; have l4 := shiftW_lv d3 l3
  unfold hourW
  exact ((((hourE_only hd).mono (fun q h => by unfold WE at h; unfold WN; omega)).tr ((hourB_only d1).mono (fun q h => by unfold WE at h; unfold WN; omega))).tr ((hourH_only d2 l2).mono (fun q h => by unfold WH WG WR at h; unfold WN; omega))).tr ((shiftW_only d3 l3).mono (fun q h => by unfold WO WG at h; unfold WN; omega)) |>.tr ((hourD_only d4 l4).mono (fun q h => by unfold WR WO WG at h; unfold WN; omega))
theorem hourW_hd (hd : Hd w) (lv : Lv w) : Hd (hourW w) := Hd.only (hourW_only hd lv) (fun q h => by unfold WN at h; omega) hd
theorem hourW_lv (hd : Hd w) (lv : Lv w) : Lv (hourW w) := by
  have d1 := hourE_hd hd; have l1 := hourE_lv hd lv
  have d2 := hourB_hd d1; have l2 := hourB_lv d1 l1
  have d3 := hourH_hd d2 l2; have l3 := hourH_lv d2 l2
  exact hourD_lv (shiftW_hd d3 l3) (shiftW_lv d3 l3)
theorem r_hour (hd : Hd w) (lv : Lv w) : fX11_hourPasses (mw M w) = some (mw M (hourW w)) := by
  have d1 := hourE_hd hd; have l1 := hourE_lv hd lv
  have d2 := hourB_hd d1; have l2 := hourB_lv d1 l1
  have d3 := hourH_hd d2 l2; have l3 := hourH_lv d2 l2
  have d4 := shiftW_hd d3 l3; have l4 := shiftW_lv d3 l3
  have F : ∀ r, r ≤ 8 → r < FU := fun r h => by rw [FU_eq]; omega
  have z : (0 : Int32) = nI 0 := nI_0.symm
  have a1 : fX11_hourPasses (mw M w) = fX11_hourPasses_33 (mw M (hourE w)) := by
    obtain ⟨-, ⟨n, n1, n6, hn⟩, -, -⟩ := hd
    unfold fX11_hourPasses fX11_hourPasses_0 fX11_hourPasses_10
    rw [gi3, gi3, mw_w, tn3, mw_up, z, r_hp12 (w0 := upd w 3 (w 3 + 1)) n6 n 0 FU (upd w 3 (w 3 + 1)) (by omega) (F n (by omega)) (by rw [pk_un (by omega)]; exact hn) rfl]
    unfold hourE
    rw [nS_of hn n6]
  have a2 : fX11_hourPasses_33 (mw M (hourE w)) = fX11_hourPasses_68 (mw M (hourB (hourE w))) := by
    obtain ⟨-, ⟨n, n1, n6, hn⟩, -, -⟩ := d1
    unfold fX11_hourPasses_33
    by_cases h24 : hourE w 3 - hourE w 3 / 24 * 24 = 0
    · have e : hourB (hourE w) = itr (fun k v => breedsW v k) n (hourE w) := by unfold hourB; rw [if_pos h24, nS_of hn n6]
      rw [e, z]
      exact r_hp35 n6 h24 n 0 FU _ (by omega) (F n (by omega)) hn rfl rfl
    · have e : hourB (hourE w) = hourE w := by unfold hourB; rw [if_neg h24]
      rw [e, show FU = 2999 + 1 from rfl, fX11_hourPasses_35]
      dsimp only
      rw [gi1, tn1, mw_w, hn, z, if_neg (nI_ge (show 0 < n by omega) (by omega)), fX11_hourPasses_45, gi3, tn3, mw_w, ← z, if_neg h24]
  have a3 : fX11_hourPasses_68 (mw M (hourB (hourE w))) = fX11_hourPasses_102 (mw M (hourH (hourB (hourE w)))) := by
    have o := huntsW_only d2 l2
    obtain ⟨⟨c, c1, c8, hc⟩, ⟨n, n1, n6, hn⟩, -, -⟩ := d2
    unfold fX11_hourPasses_68
    have hs : hourB (hourE w) 5 = -1 ∨ ∃ c, c < 8 ∧ hourB (hourE w) 5 = nI c := by
      rcases l2.1 with h | ⟨q, q1, q2⟩
      · exact Or.inl h
      · rw [nC_of hc c8] at q1; exact Or.inr ⟨q, by omega, q2⟩
    rw [r_hunts hn n6 hs l2.2.2, Option.bind_some, fX11_hourPasses_72, z]
    have h0 : (huntsW (hourB (hourE w))).2 0 = nI c := (o 0 (by unfold WH WG; omega)).trans hc
    rw [r_hp75 (w0 := (huntsW (hourB (hourE w))).2) c8 c 0 FU (huntsW (hourB (hourE w))).2 (by omega) (F c (by omega)) h0 rfl]
    unfold hourH hourR
    rw [nC_of h0 c8]
  rw [a1, a2, a3]
  unfold fX11_hourPasses_102
  rw [r_shiftGoes d3 l3, Option.bind_some, fX11_hourPasses_106, gi3, tn3, mw_w]
  unfold hourW hourD
  split
  · rw [fX11_hourPasses_120, r_dawns d4 l4, Option.bind_some, fX11_hourPasses_124]
  · rfl
end REF4
