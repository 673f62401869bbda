/-! the law's hour, second half; the log left out of it -/
section LHOUR2
variable {C : LC} {w v : Wd} {h : Nat → Int32} {n k m g : Nat}
theorem l_changes {u : Wd} (hC : lC C) (h6 : ∃ j, j < C.1.2.2 ∧ v 6 = nI j) (hL : ∀ j, j < C.1.2.2 → v (233 + 2 * j) = nI (C.2.1 j) ∧ v (233 + 2 * j + 1) = nI (C.2.2 j)) (h2 : v 2 = nI C.1.2.2) (h5 : v 5 = -1 ∨ ∃ s, s < C.1.1 ∧ v 5 = nI s) (hh : LH C v h) (hu : u = upd (upd v 6 (nI (nextSh v))) 7 (v (233 + 2 * nextSh v + 1))) : fZ12_changes C (v, h) = some (swearsV u (v (233 + 2 * nextSh v)).toNatClampNeg, h) := by
  obtain ⟨j, hj, h6⟩ := h6
  have hh8 := hC.2.2.1.2
  have enx : nextSh v = (j + 1) % C.1.2.2 := by unfold nextSh; rw [h6, nI_clamp (by omega), nH_of h2 (by omega)]
  have hx : (j + 1) % C.1.2.2 < C.1.2.2 := Nat.mod_lt _ (by omega)
  rw [enx] at hu ⊢
  generalize hxe : (j + 1) % C.1.2.2 = x at hx hu ⊢
  obtain ⟨L1, L2⟩ := hL x hx
  obtain ⟨c1, c2⟩ := hC.2.2.2 x hx
  rw [L1, nI_clamp (by have := lC_c hC c1; omega)]
  have e0 : fZ12_changes C (v, h) = fZ12_changes_32 C (upd v 6 (nI x), h) := by
    rw [show fZ12_changes C (v, h) = fZ12_changes_0 C (v, h) from rfl, eZ12_changes_0, h6, ln2, ← nI_succ]
    by_cases d : j + 1 = C.1.2.2
    · rw [if_pos (by rw [d]), eZ12_changes_19, eZ12_changes_29]
      rw [show x = 0 by rw [← hxe, d, Nat.mod_self], nI_0]
    · rw [if_neg (fun z => d ((nI_eq (by omega) (by omega)).mp z)), eZ12_changes_23, eZ12_changes_29]
      rw [h6, ← nI_succ, show x = j + 1 by rw [← hxe, Nat.mod_eq_of_lt (by omega)]]
  have ex : (nI x).toNatClampNeg = x := nI_clamp (by omega)
  rw [e0, eZ12_changes_32]
  rw [pk_us, ln4, if_pos (nI_in hx (by omega)), ex, eZ12_changes_55]
  rw [pk_un (j := 6) (by omega), pk_us, ln2, if_pos (nI_in hx (by omega)), pk_un (j := 5) (by omega), pk_un (j := 5) (by omega), ex, ← L2, ← hu]
  have u5 : u 5 = v 5 := by rw [hu, pk_un (by omega), pk_un (by omega)]
  rcases h5 with h5 | ⟨s, hs, h5⟩
  · rw [if_pos h5, eZ12_changes_79]
    unfold swearsV
    rw [if_pos (by rw [u5, h5])]
  · rw [if_neg (by rw [h5]; exact nI_nem (by have := lC_c hC hs; omega))]
    refine l_changes80 hC c1 ⟨s, hs, by rw [u5, h5]⟩ (fun a b ha hb => ?_)
    rw [hu, pk_un (j := 65 + 12 * a + 8) (by omega), pk_un (j := 65 + 12 * a + 8) (by omega), pk_un (j := 65 + 12 * b + 8) (by omega), pk_un (j := 65 + 12 * b + 8) (by omega)]
    exact hh a b ha hb
theorem restm {c t m : Nat} (ht : v (65 + 12 * c + 9) = nI t) (ht9 : t ≤ 20) (hm9 : m ≤ 9) : restW v c (nI m) = upd v (65 + 12 * c + 9) (if nI m ≤ v (65 + 12 * c + 9) then v (65 + 12 * c + 9) - nI m else 0) := by
  unfold restW
  refine upd_c ?_
  rw [ht]
  by_cases d : m < t
  · rw [if_pos (by rw [pk_sub (by omega)]; exact nI_lt (a := 0) (by omega) (by omega)), if_pos (nI_le (by omega) (by omega))]
  · by_cases e : m = t
    · subst e
      rw [if_pos (Int32.le_refl _), pk_sub (Nat.le_refl _), Nat.sub_self]
      rfl
    · rw [if_neg (nI_ge (by omega) (by omega)), if_neg (fun q => by
        have := pk_sneg (a := t) (b := m) (by omega) (by omega)
        rw [Int32.lt_iff_toInt_lt] at q this
        omega)]
theorem l_hp283 {w0 : Wd} {m : Nat} (hn : lNum C 1 = n) (hn4 : n ≤ 4) (hm9 : m ≤ 9) : ∀ r i f (v : Wd), n = i + r → r < f → Ti n v → v 4 = nI m → v = itr (fun k v => restW v k (nI m)) i w0 → fZ12_hour_283 C f (v, h) i = fZ12_hour_333 C (itr (fun k v => restW v k (nI m)) n w0, h) := by
  intro r
  induction r with
  | zero =>
    intro i f v hi hf hT h4 hv
    obtain ⟨f, rfl⟩ : ∃ g, f = g + 1 := ⟨f - 1, by omega⟩
    obtain rfl : n = i := by omega
    rw [eZ12_hour_283]
    rw [hn, if_pos rfl, hv]
  | succ r ih =>
    intro i f v hi hf hT h4 hv
    obtain ⟨f, rfl⟩ : ∃ g, f = g + 1 := ⟨f - 1, by omega⟩
    have hi1 : i < n := by omega
    obtain ⟨t, t9, ht⟩ := hT i hi1
    rw [eZ12_hour_283]
    rw [hn, if_neg (by omega), eZ12_hour_292, hn, if_pos hi1, eZ12_hour_298]
    rw [h4]
    have e : (if nI m ≤ v (65 + 12 * i + 9) then fZ12_hour_318 C (fZ12_hour_283 C f) (v, h) (i + 1) i i else fZ12_hour_314 C (fZ12_hour_283 C f) (v, h) (i + 1) i) = fZ12_hour_283 C f (restW v i (nI m), h) (i + 1) := by
      rw [restm ht t9 hm9]
      split
      · rw [eZ12_hour_318, eZ12_hour_327, eZ12_hour_330]
        rw [h4]
      · rw [eZ12_hour_314, eZ12_hour_327, eZ12_hour_330]
    refine e.trans (ih (i + 1) f _ (by omega) (by omega) (rest_ti hT ⟨m, hm9, rfl⟩) ?_ ?_)
    · unfold restW
      rw [pk_un (by omega), h4]
    · rw [hv]
      rfl
theorem l_hp260 {m : Nat} (hC : lC C) (h0 : v 0 = nI C.1.1) (hT : Ti C.1.1 v) (h4 : v 4 = nI m) (hm9 : m ≤ 9) (h6 : ∃ j, j < C.1.2.2 ∧ v 6 = nI j) (hL : ∀ j, j < C.1.2.2 → v (233 + 2 * j) = nI (C.2.1 j)) : fZ12_hour_260 C (v, h) = some (hourDV v, h) := by
  obtain ⟨j, hj, h6⟩ := h6
  have hh8 := hC.2.2.1.2
  have hc4 := hC.1.2
  rw [eZ12_hour_260]
  unfold hourDV
  by_cases c : v 3 - v 3 / 24 * 24 = 6
  · rw [if_pos c, if_pos c, eZ12_hour_273, eZ12_hour_282, l_hp283 (C := C) (h := h) (w0 := v) (n := C.1.1) rfl hc4 hm9 (C.1.1) 0 FU v (by omega) (by rw [FU_eq]; omega) hT h4 rfl, eZ12_hour_333]
    unfold dawnV
    rw [nC_of h0 (by omega), h4]
    have hk : ∀ q, (∀ k, k < C.1.1 → q ≠ 65 + 12 * k + 9) → itr (fun k v => restW v k (nI m)) C.1.1 v q = v q := fun q hq => itr_rest (P := fun _ => True) (fun k v => Or.inr rfl) _ _ hq
    generalize hu : itr (fun k v => restW v k (nI m)) C.1.1 v = u at hk
    have u6 : u 6 = nI j := by rw [hk 6 (fun k hk => by omega), h6]
    have e6 : (v (233 + 2 * (v 6).toNatClampNeg)).toNatClampNeg = C.2.1 j := by
      rw [h6, nI_clamp (by omega), hL j hj, nI_clamp (by have := lC_c hC (hC.2.2.2 j hj).1; omega)]
    rw [e6]
    unfold dawnEV
    by_cases c5 : u 5 = -1
    · rw [if_pos c5, if_pos c5, eZ12_hour_340]
      rw [u6, ln2, if_pos (nI_in hj (by omega)), nI_clamp (by omega)]
      by_cases c12 : 12 ≤ u (65 + 12 * C.2.1 j + 9)
      · rw [if_pos c12, if_pos c12, eZ12_hour_384]
      · rw [if_neg c12, if_neg c12, eZ12_hour_364]
        rw [u6, ln2, if_pos (nI_in hj (by omega)), nI_clamp (by omega), l_swears, Option.bind_some, eZ12_hour_384]
    · rw [if_neg c5, if_neg c5, eZ12_hour_384]
  · rw [if_neg c, if_neg c, eZ12_hour_272]
/-- the log apart, nothing differs -/
abbrev OL (w v : Wd) : Prop := Only WG w v
theorem OL.sy (o : OL w v) : OL v w := fun q hq => (o q hq).symm
theorem OL.up {p : Nat} {x : Int32} (o : OL w v) : OL (upd w p x) (upd v p x) := fun q hq => by
  unfold upd
  split
  · rfl
  · exact o q hq
theorem OL.rest {c : Nat} {y : Int32} (o : OL w v) (hc : c < 8) : OL (restW w c y) (restW v c y) := by
  unfold restW
  rw [o (65 + 12 * c + 9) (by unfold WG; omega)]
  exact o.up
theorem OL.itrs {f : Nat → Wd → Wd} (hf : ∀ k w v, k < n → OL w v → OL (f k w) (f k v)) (o : OL w v) : ∀ i, i ≤ n → OL (itr f i w) (itr f i v)
  | 0, _ => o
  | i + 1, h => hf i _ _ (by omega) (OL.itrs hf o i (by omega))
theorem OL.eC (o : OL w v) : nC v = nC w := by unfold nC; rw [o 0 (by unfold WG; omega)]
theorem OL.sw {c : Nat} (o : OL w v) (hc : c < 8) : OL (swearsInW w c) (swearsInW v c) := by
  unfold swearsInW
  rw [o 12 (by unfold WG; omega), o (65 + 12 * c + 11) (by unfold WG; omega)]
  exact o.up.up.up
theorem OL.hrR {hc : Int32} (o : OL w v) (h8 : nC w ≤ 8) : OL (hourR w hc) (hourR v hc) := by
  unfold hourR
  rw [o.eC]
  refine OL.itrs (fun k w v hk o => ?_) o _ (Nat.le_refl _)
  split
  · exact o
  · exact o.rest (by omega)
theorem e16_up {p : Nat} {x : Int32} (hp : p ≠ 16) (h : ∃ e, e ≤ 16 ∧ w 16 = nI e) : ∃ e, e ≤ 16 ∧ upd w p x 16 = nI e := by rw [pk_un (Ne.symm hp)]; exact h
theorem OL.swr {c : Nat} (o : OL w v) (hl : ∃ e, e ≤ 16 ∧ w 16 = nI e) (hc : c < 8) (h5 : w 5 = -1 ∨ ∃ s, s < 8 ∧ w 5 = nI s) : OL (swearsW w c) (swearsV v c) := by
  have e5 : v 5 = w 5 := o 5 (by unfold WG; omega)
  have e9 : v (65 + 12 * c + 9) = w (65 + 12 * c + 9) := o _ (by unfold WG; omega)
  have e8 : v (65 + 12 * c + 8) = w (65 + 12 * c + 8) := o _ (by unfold WG; omega)
  have e13 : v 13 = w 13 := o _ (by unfold WG; omega)
  unfold swearsW swearsV
  rw [e5, e9, e8, e13]
  have lg : ∀ {x y : Wd} {a b d : Int32}, OL x y → (∃ e, e ≤ 16 ∧ x 16 = nI e) → OL (logsW x a b d) y := fun o hl => (OL.sy (logsW_only hl)).tr o
  have l1 : ∃ e, e ≤ 16 ∧ (upd (upd w 5 (-1)) 13 (w 13 + 1)) 16 = nI e := e16_up (by omega) (e16_up (by omega) hl)
  have l2 : ∃ e, e ≤ 16 ∧ swearsInW w c 16 = nI e := by
    unfold swearsInW
    exact e16_up (by omega) (e16_up (by omega) (e16_up (by omega) hl))
  by_cases c5 : w 5 = -1
  · rw [if_pos c5, if_pos c5]
    exact o
  · rw [if_neg c5, if_neg c5]
    obtain ⟨s, hs, h5⟩ := h5.resolve_left c5
    have e8s : v (65 + 12 * (w 5).toNatClampNeg + 8) = w (65 + 12 * (w 5).toNatClampNeg + 8) := by rw [h5, nI_clamp (by omega)]; exact o _ (by unfold WG; omega)
    rw [e8s]
    by_cases c12 : 12 ≤ w (65 + 12 * c + 9)
    · rw [if_pos c12, if_pos c12]
      exact lg o.up.up l1
    · rw [if_neg c12, if_neg c12]
      by_cases ce : nI c = w 5
      · rw [if_pos ce, if_pos ce]
        exact lg (o.sw hc) l2
      · rw [if_neg ce, if_neg ce]
        by_cases cp : w (65 + 12 * c + 8) = w (65 + 12 * (w 5).toNatClampNeg + 8)
        · rw [if_pos cp, if_pos cp]
          exact lg o.up.up l1
        · rw [if_neg cp, if_neg cp]
          exact lg (o.sw hc) l2
theorem OL.shift (o : OL w v) (hd : Hd w) (lv : Lv w) : OL (shiftW w) (shiftV v) := by
  have e7 : v 7 = w 7 := o 7 (by unfold WG; omega)
  have en : nextSh v = nextSh w := by unfold nextSh nH; rw [o 6 (by unfold WG; omega), o 2 (by unfold WG; omega)]
  have ec : v (233 + 2 * nextSh w) = w (233 + 2 * nextSh w) := o _ (by unfold WG; omega)
  have eh : v (233 + 2 * nextSh w + 1) = w (233 + 2 * nextSh w + 1) := o _ (by unfold WG; omega)
  unfold shiftW shiftV
  rw [e7, en, ec, eh]
  by_cases c : w 7 - 1 ≤ 0
  · rw [if_pos c, if_pos c]
    have z := hd.sz
    have hx : nextSh w < nH w := by unfold nextSh; exact Nat.mod_lt _ z.2.2.1
    obtain ⟨k, hk, ek⟩ := hd.2.2.2 _ hx
    have h8 := z.1.2.1
    rw [ek, nI_clamp (by omega)]
    refine OL.swr o.up.up.up (e16_up (by omega) (e16_up (by omega) (e16_up (by omega) lv.2.2))) (by omega) ?_
    rw [pk_un (j := 5) (by omega), pk_un (j := 5) (by omega), pk_un (j := 5) (by omega)]
    exact Lv.s8 hd lv
  · rw [if_neg c, if_neg c]
    exact o.up
theorem OL.dawn (o : OL w v) (hd : Hd w) (lv : Lv w) : OL (hourD w) (hourDV v) := by
  have e3 : v 3 = w 3 := o 3 (by unfold WG; omega)
  have e4 : v 4 = w 4 := o 4 (by unfold WG; omega)
  have e6 : v 6 = w 6 := o 6 (by unfold WG; omega)
  unfold hourD hourDV
  rw [e3]
  by_cases c : w 3 - w 3 / 24 * 24 = 6
  · rw [if_pos c, if_pos c]
    unfold dawnW dawnV
    have h8 := hd.sz.1.2.1
    obtain ⟨c1, c2⟩ := dawn_cat hd lv
    have ec : v (233 + 2 * (w 6).toNatClampNeg) = w (233 + 2 * (w 6).toNatClampNeg) := o _ (by unfold WG; omega)
    rw [e4, e6, ec, o.eC]
    generalize hc : (w (233 + 2 * (w 6).toNatClampNeg)).toNatClampNeg = k at c1
    have oi := OL.itrs (n := nC w) (f := fun k v => restW v k (w 4)) (fun k a b hk o => o.rest (by omega)) o _ (Nat.le_refl _)
    have oo := dawnR_only (w := w) hd
    have hl : ∃ e, e ≤ 16 ∧ itr (fun k v => restW v k (w 4)) (nC w) w 16 = nI e := by
      rw [oo 16 (by unfold WR; omega)]
      exact lv.2.2
    generalize hx : itr (fun k v => restW v k (w 4)) (nC w) w = x at oi hl
    generalize hy : itr (fun k v => restW v k (w 4)) (nC w) v = y at oi
    have e5 : y 5 = x 5 := oi 5 (by unfold WG; omega)
    have e9 : y (65 + 12 * k + 9) = x (65 + 12 * k + 9) := oi _ (by unfold WG; omega)
    have l2 : ∃ e, e ≤ 16 ∧ swearsInW x k 16 = nI e := by
      unfold swearsInW
      exact e16_up (by omega) (e16_up (by omega) (e16_up (by omega) hl))
    unfold dawnE dawnEV
    rw [e5, e9]
    by_cases d : x 5 = -1
    · rw [if_pos d, if_pos d]
      by_cases f : 12 ≤ x (65 + 12 * k + 9)
      · rw [if_pos f, if_pos f]
        exact (OL.sy (logsW_only hl)).tr oi
      · rw [if_neg f, if_neg f]
        exact (OL.sy (logsW_only l2)).tr (oi.sw (by omega))
    · rw [if_neg d, if_neg d]
      exact (OL.sy (logsW_only hl)).tr oi
  · rw [if_neg c, if_neg c]
    exact o
end LHOUR2
