/-! the law's hour: what the plain granary's hour says, but for the log -/
section LHOUR
variable {C : LC} {w v : Wd} {h : Nat → Int32} {n k m g : Nat}
def huntsV (w : Wd) : Wd := if w 5 = -1 then w else if huntedW w = -1 then w else huntU w (w 5).toNatClampNeg (huntedW w).toNatClampNeg (huntX w (w 5).toNatClampNeg (huntedW w).toNatClampNeg)
def swearsV (w : Wd) (c : Nat) : Wd := if w 5 = -1 then w else if 12 ≤ w (65 + 12 * c + 9) then upd (upd w 5 (-1)) 13 (w 13 + 1)
  else if nI c = w 5 then swearsInW w c else if w (65 + 12 * c + 8) = w (65 + 12 * (w 5).toNatClampNeg + 8) then upd (upd w 5 (-1)) 13 (w 13 + 1) else swearsInW w c
def shiftV (w : Wd) : Wd := if w 7 - 1 ≤ 0 then swearsV (upd (upd (upd w 7 (w 7 - 1)) 6 (nI (nextSh w))) 7 (w (233 + 2 * nextSh w + 1))) (w (233 + 2 * nextSh w)).toNatClampNeg else upd w 7 (w 7 - 1)
def dawnEV (w : Wd) (c : Nat) : Wd := if w 5 = -1 then (if 12 ≤ w (65 + 12 * c + 9) then w else swearsInW w c) else w
def dawnV (w : Wd) : Wd := dawnEV (itr (fun k v => restW v k (w 4)) (nC w) w) (w (233 + 2 * (w 6).toNatClampNeg)).toNatClampNeg
def hourDV (w : Wd) : Wd := if w 3 - w 3 / 24 * 24 = 6 then dawnV w else w
/-- what the law's own granary keeps, beside the plain one's bounds -/
def LI (C : LC) (w : Wd) : Prop := (w 0 = nI C.1.1 ∧ w 1 = nI C.1.2.1 ∧ w 2 = nI C.1.2.2) ∧ (∀ j, j < C.1.2.2 → w (233 + 2 * j) = nI (C.2.1 j) ∧ w (233 + 2 * j + 1) = nI (C.2.2 j) ∧ 1 ≤ C.2.2 j) ∧ (∀ c, c < C.1.1 → ∃ t, t ≤ 20 ∧ w (65 + 12 * c + 9) = nI t) ∧ ∃ e, 1 ≤ e ∧ e ≤ 4 ∧ w 7 = nI e
def LH (C : LC) (w : Wd) (h : Nat → Int32) : Prop := ∀ c s, c < C.1.1 → s < C.1.1 → (h (4 + c) = h (4 + s) ↔ w (65 + 12 * c + 8) = w (65 + 12 * s + 8))
def Ti (n : Nat) (w : Wd) : Prop := ∀ c, c < n → ∃ t, t ≤ 20 ∧ w (65 + 12 * c + 9) = nI t
theorem ln3 : lNum C 3 = C.1.2.1 := rfl
theorem ln1 : lNum C 1 = C.1.1 := rfl
theorem ln2 : lNum C 2 = C.1.2.2 := rfl
theorem ln4 : lNum C 4 = C.1.2.2 := rfl
theorem l_hp20 {w0 : Wd} (hn : lNum C 3 = n) (hn4 : n ≤ 4) : ∀ r i f (v : Wd), n = i + r → r < f → v 1 = nI n → Fl n v → Bd n v → v = itr (fun k v => eatsW v k) i w0 → fZ12_hour_20 C f (v, h) i = fZ12_hour_47 C (itr (fun k v => eatsW v k) n w0, h) := by
  intro r
  induction r with
  | zero =>
    intro i f v hi hf h1 _ _ hv
    obtain ⟨f, rfl⟩ : ∃ g, f = g + 1 := ⟨f - 1, by omega⟩
    obtain rfl : n = i := by omega
    rw [eZ12_hour_20]
    rw [hn, if_pos rfl, hv]
  | succ r ih =>
    intro i f v hi hf h1 hF hB hv
    obtain ⟨f, rfl⟩ : ∃ g, f = g + 1 := ⟨f - 1, by omega⟩
    have hi1 : i < n := by omega
    have o := eatsW_only h1 (show n ≤ 6 by omega) hi1
    rw [eZ12_hour_20]
    rw [hn, if_neg (by omega), eZ12_hour_29, hn, if_pos hi1, eZ12_hour_35, l_eats hn hn4 h1 hF hB hi1, Option.bind_some, eZ12_hour_44]
    exact ih (i + 1) f _ (by omega) (by omega) ((o 1 (by unfold WE; omega)).trans h1) (hF.only o (fun q h => by unfold WE at h; omega)) (eats_bd h1 (by omega) hi1 hB) (by rw [hv]; rfl)
theorem brd (x : Int32) : (if 99 - x < x / 2 then 99 - x else x / 2) = if 99 - x ≤ x / 2 then 99 - x else x / 2 := by
  by_cases c : 99 - x < x / 2
  · rw [if_pos c, if_pos (Int32.le_of_lt c)]
  · rw [if_neg c]
    by_cases d : 99 - x ≤ x / 2
    · rw [if_pos d]
      exact Int32.le_antisymm (Int32.not_lt.mp c) d
    · rw [if_neg d]
theorem l_hp67 {w0 : Wd} (hn : lNum C 3 = n) (hn4 : n ≤ 4) : ∀ r i f (v : Wd), n = i + r → r < f → v = itr (fun k v => breedsW v k) i w0 → fZ12_hour_67 C f (v, h) i = fZ12_hour_142 C (itr (fun k v => breedsW v k) n w0, h) := by
  intro r
  induction r with
  | zero =>
    intro i f v hi hf hv
    obtain ⟨f, rfl⟩ : ∃ g, f = g + 1 := ⟨f - 1, by omega⟩
    obtain rfl : n = i := by omega
    rw [eZ12_hour_67]
    rw [hn, if_pos rfl, hv]
  | succ r ih =>
    intro i f v hi hf hv
    obtain ⟨f, rfl⟩ : ∃ g, f = g + 1 := ⟨f - 1, by omega⟩
    have hi1 : i < n := by omega
    rw [eZ12_hour_67]
    rw [hn, if_neg (by omega), eZ12_hour_76, hn, if_pos hi1, eZ12_hour_82]
    have e : ∀ s : Int32, fZ12_hour_118 C (fZ12_hour_67 C f) (v, h) (i + 1) i s = fZ12_hour_67 C f (upd (upd v (161 + 12 * i + 8) (v (161 + 12 * i + 8) + s)) 10 (v 10 + s), h) (i + 1) := fun s => by
      rw [eZ12_hour_118, eZ12_hour_129, eZ12_hour_139]
      rw [pk_un (j := 10) (by omega)]
    have e2 : (if 99 - v (161 + 12 * i + 8) ≤ v (161 + 12 * i + 8) / 2 then fZ12_hour_111 C (fZ12_hour_67 C f) (v, h) (i + 1) i else fZ12_hour_102 C (fZ12_hour_67 C f) (v, h) (i + 1) i) = fZ12_hour_67 C f (breedsW v i, h) (i + 1) := by
      unfold breedsW
      dsimp only
      rw [brd]
      by_cases c : 99 - v (161 + 12 * i + 8) ≤ v (161 + 12 * i + 8) / 2
      · rw [if_pos c, if_pos c, eZ12_hour_111, e]
      · rw [if_neg c, if_neg c, eZ12_hour_102, e]
    exact e2.trans (ih (i + 1) f _ (by omega) (by omega) (by rw [hv]; rfl))
def clr (h : Nat → Int32) (n : Nat) : Nat → Int32 := fun q => if q < n then 0 else h q
theorem clr_s (i : Nat) : upd (clr h i) i 0 = clr h (i + 1) := funext fun q => by
  unfold upd clr
  by_cases c : q = i
  · rw [if_pos c, if_pos (by omega)]
  · rw [if_neg c]
    by_cases d : q < i
    · rw [if_pos d, if_pos (by omega)]
    · rw [if_neg d, if_neg (by omega)]
theorem clr_0 : clr h 0 = h := funext fun q => if_neg (Nat.not_lt_zero q)
theorem l_hp152 (hn : lNum C 1 = n) : ∀ r i f, n = i + r → r < f → fZ12_hour_152 C f (v, clr h i) i = fZ12_hour_179 C (v, clr h n) := by
  intro r
  induction r with
  | zero =>
    intro i f hi hf
    obtain ⟨f, rfl⟩ : ∃ g, f = g + 1 := ⟨f - 1, by omega⟩
    obtain rfl : n = i := by omega
    rw [eZ12_hour_152]
    rw [hn, if_pos rfl]
  | succ r ih =>
    intro i f hi hf
    obtain ⟨f, rfl⟩ : ∃ g, f = g + 1 := ⟨f - 1, by omega⟩
    rw [eZ12_hour_152]
    rw [hn, if_neg (by omega), eZ12_hour_161, hn, if_pos (by omega), eZ12_hour_167, eZ12_hour_176]
    rw [clr_s]
    exact ih (i + 1) f (by omega) (by omega)
theorem zN_i {i : Nat} (hi : i < 2 ^ 31 - 1) : zN (nI i) = i + 1 := by
  unfold zN
  rw [if_neg (nI_nem (by omega)), nI_clamp (by omega)]
theorem l_h12 (hn : lNum C 3 = n) (hn4 : n ≤ 4) (hfl : Fl n v) (hbd : Bd n v) : ∀ r i f b, n = i + r → r < f → (b = -1 ∨ ∃ j, j < n ∧ b = nI j) → fZ12_hunts_12 C f (v, h) (zN b) i = fZ12_hunts_65 C (v, h) (zN (hntL v r i b)) := by
  intro r
  induction r with
  | zero =>
    intro i f b hi hf hb
    obtain ⟨f, rfl⟩ : ∃ g, f = g + 1 := ⟨f - 1, by omega⟩
    rw [eZ12_hunts_12]
    rw [hn, if_pos (by omega)]
    rfl
  | succ r ih =>
    intro i f b hi hf hb
    obtain ⟨f, rfl⟩ : ∃ g, f = g + 1 := ⟨f - 1, by omega⟩
    have hi1 : i < n := by omega
    obtain ⟨⟨m, hm9, hm⟩, -⟩ := hbd i hi1
    rw [eZ12_hunts_12]
    rw [hn, if_neg (by omega), eZ12_hunts_21, hn, if_pos hi1, eZ12_hunts_27, hntL]
    rcases hfl i hi1 with z | z
    · rw [if_pos z, eZ12_hunts_62, if_neg (fun y => absurd (y.1.symm.trans z) (by decide))]
      exact ih (i + 1) f b (by omega) (by omega) hb
    · rw [if_neg (by rw [z]; decide), eZ12_hunts_38]
      by_cases c0 : m = 0
      · rw [hm, c0, if_pos (show nI 0 ≤ (0 : Int32) by decide), eZ12_hunts_62, if_neg (fun y => y.2.1 rfl)]
        exact ih (i + 1) f b (by omega) (by omega) hb
      · rw [if_neg (show ¬ v (161 + 12 * i + 8) ≤ 0 by rw [hm]; exact nI_nle (by omega) (by omega)), eZ12_hunts_45]
        have n0 : ¬ v (161 + 12 * i + 8) = 0 := by rw [hm]; exact nI_ne0 (by omega) (by omega)
        rcases hb with hb | ⟨j, hj, hb⟩
        · rw [hb, show zN (-1) = 0 from rfl, if_pos rfl, eZ12_hunts_60, eZ12_hunts_62, if_pos ⟨z, n0, Or.inl rfl⟩]
          have := ih (i + 1) f (nI i) (by omega) (by omega) (Or.inr ⟨i, hi1, rfl⟩)
          rw [zN_i (by omega)] at this
          exact this
        · have hj3 : j + 1 - 1 < C.1.2.1 := by have : C.1.2.1 = n := hn; omega
          rw [hb, zN_i (by omega), if_neg (by omega), eZ12_hunts_49, if_pos ⟨by omega, hj3⟩]
          rw [Nat.add_sub_cancel, nI_clamp (by omega)]
          by_cases c : v (161 + 12 * i + 8) ≤ v (161 + 12 * j + 8)
          · rw [if_pos c, eZ12_hunts_62, if_neg (fun y => y.2.2.elim (fun y => nI_nem (show j < 2 ^ 31 by omega) y) (fun y => y c))]
            have := ih (i + 1) f (nI j) (by omega) (by omega) (Or.inr ⟨j, hj, rfl⟩)
            rw [zN_i (by omega)] at this
            exact this
          · rw [if_neg c, eZ12_hunts_60, eZ12_hunts_62, if_pos ⟨z, n0, Or.inr c⟩]
            have := ih (i + 1) f (nI i) (by omega) (by omega) (Or.inr ⟨i, hi1, rfl⟩)
            rw [zN_i (by omega)] at this
            exact this
theorem l_strength {c : Nat} : fZ11_strength C (v, h) c = some (strengthW v c, (v, h)) := by
  rw [show fZ11_strength C (v, h) c = fZ11_strength_0 C c (v, h) from rfl, eZ11_strength_0]
  unfold strengthW
  by_cases c0 : 0 < v (65 + 12 * c + 7) - v (65 + 12 * c + 9) / 4
  · rw [if_pos (Int32.le_of_lt c0), eZ11_strength_18, eZ11_strength_29, if_pos c0]
  · rw [if_neg c0]
    by_cases c1 : 0 ≤ v (65 + 12 * c + 7) - v (65 + 12 * c + 9) / 4
    · rw [if_pos c1, eZ11_strength_18, eZ11_strength_29]
      exact congrArg (fun z => some (z, (v, h))) (Int32.le_antisymm (Int32.not_lt.mp c0) c1)
    · rw [if_neg c1, eZ11_strength_14, eZ11_strength_29]
theorem hxle {c k : Nat} : huntX v c k = if v (161 + 12 * k + 8) ≤ strengthW v c then v (161 + 12 * k + 8) else strengthW v c := by
  unfold huntX
  by_cases c0 : v (161 + 12 * k + 8) < strengthW v c
  · rw [if_pos c0, if_pos (Int32.le_of_lt c0)]
  · rw [if_neg c0]
    by_cases c1 : v (161 + 12 * k + 8) ≤ strengthW v c
    · rw [if_pos c1]; exact (Int32.le_antisymm c1 (Int32.not_lt.mp c0)).symm
    · rw [if_neg c1]
theorem l_h105 {s i : Nat} {x : Int32} (hC : lC C) (h5 : v 5 = nI s) (hs : s < C.1.1) (hi : i < C.1.2.1) (ht : ∃ t, t ≤ 20 ∧ v (65 + 12 * s + 9) = nI t) : fZ12_hunts_105 C (v, h) (i + 1) x = some (huntU v s i x, upd h s 1) := by
  have hs4 : s < 4 := lC_c hC hs
  have hi4 : i < 4 := lC_s hC hi
  obtain ⟨t, ht9, ht⟩ := ht
  have g1 : ¬ i + 1 = 0 ∧ i + 1 - 1 < C.1.2.1 := ⟨by omega, by omega⟩
  have g2 : ¬ nI s = -1 ∧ (nI s).toNatClampNeg < C.1.1 := ⟨nI_nem (by omega), by rw [nI_clamp (by omega)]; exact hs⟩
  rw [eZ12_hunts_105, if_pos g1, Nat.add_sub_cancel, eZ12_hunts_116]
  rw [pk_un (j := 5) (by omega), h5, if_pos g2, nI_clamp (by omega), eZ12_hunts_129, eZ12_hunts_139]
  rw [pk_un (j := 5) (by omega), pk_un (j := 5) (by omega), pk_un (j := 5) (by omega), h5, if_pos g2, nI_clamp (by omega), pk_un (j := 65 + 12 * s + 9) (by omega), pk_un (j := 65 + 12 * s + 9) (by omega), pk_un (j := 65 + 12 * s + 9) (by omega), ht, pk_un (j := 65 + 12 * s + 10) (by omega), pk_un (j := 8) (by omega), pk_un (j := 8) (by omega)]
  unfold huntU
  rw [ht]
  by_cases c : 20 ≤ t
  · obtain rfl : t = 20 := by omega
    rw [if_pos (show (20 : Int32) ≤ nI 20 by decide), eZ12_hunts_164]
    rw [pk_un (j := 5) (by omega), pk_un (j := 5) (by omega), pk_un (j := 5) (by omega), h5, if_pos g2, nI_clamp (by omega), eZ12_hunts_172, if_neg (show ¬ nI 20 + 1 < (20 : Int32) by decide)]
    refine congrArg (fun z => some (z, upd h s 1)) ?_
    have e : (upd (upd (upd v (161 + 12 * i + 8) (v (161 + 12 * i + 8) - x)) (65 + 12 * s + 10) (v (65 + 12 * s + 10) + x)) 8 (v 8 + x)) (65 + 12 * s + 9) = 20 := by
      rw [pk_un (by omega), pk_un (by omega), pk_un (by omega), ht]
      rfl
    rw [← e, upd_self]
  · rw [if_neg (show ¬ (20 : Int32) ≤ nI t from nI_ge (b := 20) (by omega) (by omega)), eZ12_hunts_151]
    rw [pk_un (j := 5) (by omega), pk_un (j := 5) (by omega), pk_un (j := 5) (by omega), h5, if_pos g2, nI_clamp (by omega), eZ12_hunts_164]
    rw [pk_un (j := 5) (by omega), pk_un (j := 5) (by omega), pk_un (j := 5) (by omega), pk_un (j := 5) (by omega), h5, if_pos g2, nI_clamp (by omega), eZ12_hunts_172, pk_un (j := 65 + 12 * s + 9) (by omega), pk_un (j := 65 + 12 * s + 9) (by omega), pk_un (j := 65 + 12 * s + 9) (by omega), ht]
    refine congrArg (fun z => some (z, upd h s 1)) (upd_c ?_)
    rw [← nI_succ]
    by_cases d : t + 1 < 20
    · rw [if_pos (show nI (t + 1) < (20 : Int32) from nI_lt (b := 20) d (by omega))]
    · rw [if_neg (show ¬ nI (t + 1) < (20 : Int32) from nI_nlt (a := t + 1) (b := 20) (by omega) (by omega))]
      obtain rfl : t = 19 := by omega
      rfl
def hfl (w : Wd) (h : Nat → Int32) : Nat → Int32 := if w 5 = -1 then h else if huntedW w = -1 then h else upd h (w 5).toNatClampNeg 1
theorem l_hunts (hC : lC C) (h1 : v 1 = nI C.1.2.1) (hF : Fl C.1.2.1 v) (hbd : Bd C.1.2.1 v) (h5 : v 5 = -1 ∨ ∃ s, s < C.1.1 ∧ v 5 = nI s) (ht : Ti C.1.1 v) : fZ12_hunts C (v, h) = some (huntsV v, hfl v h) := by
  have hs4 : C.1.2.1 ≤ 4 := hC.2.1.2
  have e12 := l_h12 (C := C) (h := h) (v := v) (n := C.1.2.1) rfl hs4 hF hbd (C.1.2.1) 0 FU (-1) (by omega) (by rw [FU_eq]; omega) (Or.inl rfl)
  have eh : huntedW v = hntL v C.1.2.1 0 (-1) := by unfold huntedW; rw [nS_of h1 (by omega)]
  rw [show fZ12_hunts C (v, h) = fZ12_hunts_12 C FU (v, h) (zN (-1)) 0 from rfl, e12, ← eh, eZ12_hunts_65]
  unfold huntsV hfl
  rcases h5 with h5 | ⟨s, hs, h5⟩
  · rw [if_pos h5, if_pos h5, if_pos h5, eZ12_hunts_76]
  · have hs4' : s < 4 := lC_c hC hs
    have n5 : ¬ v 5 = -1 := by rw [h5]; exact nI_nem (by omega)
    rw [if_neg n5, if_neg n5, if_neg n5, eZ12_hunts_72]
    rcases huntedW_in (w := v) h1 (by omega) with e | ⟨i, hi, e, -, -⟩
    · rw [e, if_pos rfl, if_pos rfl, show zN (-1) = 0 from rfl, if_pos rfl, eZ12_hunts_76]
    · have g1 : ¬ i + 1 = 0 ∧ i + 1 - 1 < C.1.2.1 := ⟨by omega, by omega⟩
      have g2 : ¬ v 5 = -1 ∧ (v 5).toNatClampNeg < C.1.1 := ⟨n5, by rw [h5, nI_clamp (by omega)]; exact hs⟩
      rw [e, if_neg (nI_nem (by omega)), if_neg (nI_nem (by omega)), zN_i (by omega), if_neg (by omega), eZ12_hunts_77]
      rw [if_pos g2, l_strength, Option.bind_some, eZ12_hunts_84, if_pos g1]
      rw [Nat.add_sub_cancel, nI_clamp (show i < 2 ^ 31 by omega), hxle]
      have e5 : (v 5).toNatClampNeg = s := by rw [h5, nI_clamp (by omega)]
      by_cases c : v (161 + 12 * i + 8) ≤ strengthW v (v 5).toNatClampNeg
      · rw [if_pos c, if_pos c, eZ12_hunts_101, if_pos g1]
        rw [Nat.add_sub_cancel, l_h105 hC h5 hs hi (ht s hs), e5]
      · rw [if_neg c, if_neg c, eZ12_hunts_91]
        rw [if_pos g2, l_strength, Option.bind_some, eZ12_hunts_98, l_h105 hC h5 hs hi (ht s hs), e5]
theorem rest1 {c t : Nat} (ht : v (65 + 12 * c + 9) = nI t) (ht9 : t ≤ 20) : restW v c 1 = if v (65 + 12 * c + 9) ≤ 0 then v else upd v (65 + 12 * c + 9) (v (65 + 12 * c + 9) - 1) := by
  unfold restW
  by_cases c0 : t = 0
  · subst c0
    rw [ht, if_pos (show nI 0 ≤ (0 : Int32) by decide), if_neg (show ¬ 0 < nI 0 - (1 : Int32) by decide), show (0 : Int32) = nI 0 from rfl, ← ht, upd_self]
  · rw [ht, if_neg (nI_nle (by omega) (by omega))]
    refine upd_c ?_
    rw [nI_d1 (by omega)]
    by_cases c1 : t = 1
    · subst c1; rfl
    · rw [if_pos (show (0 : Int32) < nI (t - 1) from nI_lt (a := 0) (by omega) (by omega))]
theorem rest_ti {c : Nat} {y : Int32} (hT : Ti n v) (hy : ∃ z, z ≤ 9 ∧ y = nI z) : Ti n (restW v c y) := fun j hj => by
  obtain ⟨t, t9, ht⟩ := hT j hj
  obtain ⟨z, z9, rfl⟩ := hy
  unfold restW
  by_cases e : j = c
  · subst e
    rw [pk_us, ht]
    by_cases d : z < t
    · rw [if_pos (by rw [pk_sub (by omega)]; exact nI_lt (a := 0) (by omega) (by omega)), pk_sub (by omega)]
      exact ⟨t - z, by omega, rfl⟩
    · refine ⟨0, by omega, ?_⟩
      split
      · rename_i c1
        by_cases e2 : z = t
        · subst e2; rw [pk_sub (Nat.le_refl _), Nat.sub_self]
        · exact absurd c1 (fun q => by
            have := pk_sneg (a := t) (b := z) (by omega) (by omega)
            rw [Int32.lt_iff_toInt_lt] at q this
            omega)
      · rfl
  · exact ⟨t, t9, by rw [pk_un (by omega), ht]⟩
theorem l_hp193 {w0 : Wd} {hc : Int32} (hn : lNum C 1 = n) (hn4 : n ≤ 4) (hh : ∀ i, i < n → (h i = 0 ↔ ¬ nI i = hc)) : ∀ r i f (v : Wd), n = i + r → r < f → Ti n v → v = itr (fun k v => if nI k = hc then v else restW v k 1) i w0 → fZ12_hour_193 C f (v, h) i = fZ12_hour_239 C (itr (fun k v => if nI k = hc then v else restW v k 1) n w0, h) := by
  intro r
  induction r with
  | zero =>
    intro i f v hi hf hT hv
    obtain ⟨f, rfl⟩ : ∃ g, f = g + 1 := ⟨f - 1, by omega⟩
    obtain rfl : n = i := by omega
    rw [eZ12_hour_193]
    rw [hn, if_pos rfl, hv]
  | succ r ih =>
    intro i f v hi hf hT hv
    obtain ⟨f, rfl⟩ : ∃ g, f = g + 1 := ⟨f - 1, by omega⟩
    have hi1 : i < n := by omega
    obtain ⟨t, t9, ht⟩ := hT i hi1
    rw [eZ12_hour_193]
    rw [hn, if_neg (by omega), eZ12_hour_202, hn, if_pos hi1, eZ12_hour_208]
    by_cases c : nI i = hc
    · rw [if_neg (fun z => (hh i hi1).mp z c), eZ12_hour_236]
      refine ih (i + 1) f v (by omega) (by omega) hT ?_
      rw [hv]
      show itr _ i w0 = if nI i = hc then itr _ i w0 else _
      rw [if_pos c]
    · rw [if_pos ((hh i hi1).mpr c), eZ12_hour_219]
      have e : (if v (65 + 12 * i + 9) ≤ 0 then fZ12_hour_236 C (fZ12_hour_193 C f) (v, h) (i + 1) else fZ12_hour_226 C (fZ12_hour_193 C f) (v, h) (i + 1) i) = fZ12_hour_193 C f (restW v i 1, h) (i + 1) := by
        rw [rest1 ht t9]
        split
        · rw [eZ12_hour_236]
        · rw [eZ12_hour_226, eZ12_hour_236]
      refine e.trans (ih (i + 1) f _ (by omega) (by omega) (rest_ti hT ⟨1, by omega, rfl⟩) ?_)
      rw [hv]
      show _ = if nI i = hc then itr _ i w0 else restW (itr _ i w0) i 1
      rw [if_neg c]
theorem l_swears {c : Nat} : fZ12_swearsIn C (v, h) c = some (swearsInW v c, h) := by
  rw [show fZ12_swearsIn C (v, h) c = fZ12_swearsIn_0 C c (v, h) from rfl, eZ12_swearsIn_0, eZ12_swearsIn_5, eZ12_swearsIn_15, eZ12_swearsIn_25]
  unfold swearsInW
  rw [pk_un (j := 65 + 12 * c + 11) (by omega), pk_un (j := 12) (by omega), pk_un (j := 12) (by omega), upd2 (by omega)]
theorem l_changes80 {c : Nat} (hC : lC C) (hc : c < C.1.1) (h5 : ∃ s, s < C.1.1 ∧ v 5 = nI s) (hh : LH C v h) : fZ12_changes_80 C (v, h) c = some (swearsV v c, h) := by
  obtain ⟨s, hs, h5⟩ := h5
  have hs4 := lC_c hC hs
  have hc4 := lC_c hC hc
  have n5 : ¬ v 5 = -1 := by rw [h5]; exact nI_nem (by omega)
  have e5 : (v 5).toNatClampNeg = s := by rw [h5, nI_clamp (by omega)]
  have g2 : ¬ v 5 = -1 ∧ (v 5).toNatClampNeg < C.1.1 := ⟨n5, by rw [e5]; exact hs⟩
  have e119 : fZ12_changes_119 C (v, h) = some (upd (upd v 5 (-1)) 13 (v 13 + 1), h) := by
    rw [eZ12_changes_119, eZ12_changes_124, eZ12_changes_134]
    rw [pk_un (j := 13) (by omega)]
  have e111 : fZ12_changes_111 C (v, h) c = some (swearsInW v c, h) := by rw [eZ12_changes_111, l_swears, Option.bind_some, eZ12_changes_116, eZ12_changes_134]
  unfold swearsV
  rw [eZ12_changes_80, if_neg n5]
  by_cases c12 : 12 ≤ v (65 + 12 * c + 9)
  · rw [if_pos c12, if_pos c12, e119]
  · rw [if_neg c12, if_neg c12, eZ12_changes_89]
    rw [if_pos g2, e5]
    by_cases ec : c = s
    · rw [if_pos ec, if_pos (by rw [h5, ec]), e111]
    · rw [if_neg ec, if_neg (fun z => ec ((nI_eq (by omega) (by omega)).mp (z.trans h5))), eZ12_changes_97]
      rw [if_pos g2, e5]
      by_cases ep : h (4 + c) = h (4 + s)
      · rw [if_pos ep, if_pos ((hh c s hc hs).mp ep), e119]
      · rw [if_neg ep, if_neg (fun z => ep ((hh c s hc hs).mpr z)), e111]
end LHOUR
