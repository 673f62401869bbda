/-! the reference's methods of an hour say the plain words -/
theorem bq0 : bq (some 0) = some 0 := rfl
theorem bq1 : bq (some 1) = some 1 := rfl
theorem FU_eq : FU = 3000 := rfl
section REF1
variable {M : MS} {w : Wd} {k n : Nat}
theorem r_strength (hk : k < 8) : fX11_strength (mw M w) (nI k) = some (strengthW w k) := by
  simp only [fX11_strength_15, fX11_strength_8, fX11_strength_0, fX11_strength, rc7 hk, rc9 hk, Option.bind_some, strengthW]
theorem r_isAble (hk : k < 8) : fX11_isAble (mw M w) (nI k) = some (if 12 ≤ w (65 + 12 * k + 9) then 0 else 1) := by
  simp only [fX11_isAble_17, fX11_isAble_16, fX11_isAble_12, fX11_isAble_7, fX11_isAble_0, fX11_isAble, rc9 hk, Option.bind_some]
  split <;> rfl
theorem r_isPawRight (hk : k < 8) {s : Nat} (hs : w 5 = nI s) (hs8 : s < 8) : fX11_isPawRight (mw M w) (nI k) = some (if nI k = nI s then 1 else if w (65 + 12 * k + 8) = w (65 + 12 * s + 8) then 0 else 1) := by
  simp only [fX11_isPawRight_37, fX11_isPawRight_32, fX11_isPawRight_36, fX11_isPawRight_29, fX11_isPawRight_17, fX11_isPawRight_10, fX11_isPawRight_0, fX11_isPawRight, rc8 hk, Option.bind_some, gi5, tn5, mw_w, hs, rc8 hs8]
  split
  · rfl
  · split <;> rfl
theorem r_rests (hk : k < 8) {y : Int32} : fX11_rests (mw M w) (nI k) y = some (mw M (restW w k y)) := by
  simp only [fX11_rests_20, fX11_rests_12, fX11_rests_0, fX11_rests, rc9 hk, Option.bind_some, pc9 hk, restW]
theorem r_swearsIn (hk : k < 8) : fX11_swearsIn (mw M w) (nI k) = some (mw M (swearsInW w k)) := by
  simp (disch := omega) only [fX11_swearsIn_34, fX11_swearsIn_29, fX11_swearsIn_18, fX11_swearsIn_7, fX11_swearsIn_0, fX11_swearsIn, gi5, gi12, tn5, tn12, mw_w, mw_up, va_s, up_up, rc11 hk, pc11 hk, Option.bind_some, pk_un, swearsInW]
theorem r_isOpenSack (hk : k < 6) : fX11_isOpenSack (mw M w) (nI k) = some (if w (161 + 12 * k + 9) = 1 then 1 else 0) := by
  simp only [fX11_isOpenSack_16, fX11_isOpenSack_15, fX11_isOpenSack_11, fX11_isOpenSack_7, fX11_isOpenSack_0, fX11_isOpenSack, rs9 hk, Option.bind_some]
  split <;> rfl
theorem r_starve (hk : k < 6) {x : Int32} : fX11_starve (mw M w) (nI k) x = some (mw M (starveW w k x)) := by
  simp (disch := omega) only [fX11_starve_27, fX11_starve_16, fX11_starve_11, fX11_starve_0, fX11_starve, rs8 hk, ps8 hk, gi11, tn11, mw_w, mw_up, va_s, up_up, Option.bind_some, pk_un, starveW]
theorem r_breeds (hk : k < 6) : fX11_breeds (mw M w) (nI k) = some (mw M (breedsW w k)) := by
  simp (disch := omega) only [fX11_breeds_50, fX11_breeds_39, fX11_breeds_34, fX11_breeds_18, fX11_breeds_7, fX11_breeds_0, fX11_breeds, rs8 hk, ps8 hk, gi10, tn10, mw_w, mw_up, va_s, up_up, Option.bind_some, pk_un, breedsW]
theorem r_moves (hk : k < 6) {j : Nat} (hj : j < 6) (hne : k ≠ j) : fX11_moves (mw M w) (nI k) (nI j) = some (mw M (movesW w k j)) := by
  simp (disch := omega) only [fX11_moves_57, fX11_moves_51, fX11_moves_42, fX11_moves_37, fX11_moves_30, fX11_moves_22, fX11_moves_18, fX11_moves_11, fX11_moves_0, fX11_moves, rs8 hk, ps8 hk, rs8 hj, ps8 hj, mw_w, mw_up, va_s, up_up, Option.bind_some, pk_un, pk_us, r_starve hj, movesW]
  split <;> rfl
theorem mod_ne {n k j : Nat} (hk : k < n) (h1 : 1 ≤ j) (hj : j < n) : (k + j) % n < n ∧ (k + j) % n ≠ k := by
  refine ⟨Nat.mod_lt _ (by omega), ?_⟩
  by_cases h : k + j < n
  · rw [Nat.mod_eq_of_lt h]; omega
  · rw [Nat.mod_eq_sub_mod (by omega), Nat.mod_eq_of_lt (by omega)]; omega
theorem nxtL_in (hk : k < n) : ∀ r j, 1 ≤ j → n = j + r → nxtL w n k r j = -1 ∨ ∃ i, i < n ∧ i ≠ k ∧ nxtL w n k r j = nI i ∧ w (161 + 12 * i + 9) = 1 := by
  intro r
  induction r with
  | zero => intro j _ _; exact Or.inl rfl
  | succ r ih =>
    intro j hj hn
    unfold nxtL
    split
    · obtain ⟨h1, h2⟩ := mod_ne hk hj (by omega)
      exact Or.inr ⟨_, h1, h2, rfl, by assumption⟩
    · exact ih (j + 1) (by omega) (by omega)
theorem r_nextOpen_l (hw : w 1 = nI n) (hn : n ≤ 6) (hk : k < n) : ∀ r j f, n = j + r → r < f → fX11_nextOpen_2 f (mw M w) (nI k) (nI j) = some (nxtL w n k r j) := by
  intro r
  induction r with
  | zero =>
    intro j f hj hf
    obtain ⟨f, rfl⟩ : ∃ g, f = g + 1 := ⟨f - 1, by omega⟩
    obtain rfl : n = j := by omega
    simp only [fX11_nextOpen_2, gi1, tn1, mw_w, hw, if_pos (nI_le (Nat.le_refl n) (by omega)), fX11_nextOpen_46, nxtL]
  | succ r ih =>
    intro j f hj hf
    obtain ⟨f, rfl⟩ : ∃ g, f = g + 1 := ⟨f - 1, by omega⟩
    have e1 : nI k + nI j - (nI k + nI j) / nI n * nI n = nI ((k + j) % n) := by rw [nI_add, pk_rem (by omega) (by omega) (by omega)]
    have h6 : (k + j) % n < 6 := Nat.lt_of_lt_of_le (Nat.mod_lt _ (by omega)) hn
    simp only [fX11_nextOpen_2, gi1, tn1, mw_w, hw, if_neg (nI_ge (show j < n by omega) (by omega)), fX11_nextOpen_12, if_pos (nI_ne0 (show 0 < n by omega) (by omega)), e1, r_isOpenSack h6, Option.bind_some, fX11_nextOpen_26, fX11_nextOpen_29, fX11_nextOpen_40, nI_1, nxtL]
    by_cases h : w (161 + 12 * ((k + j) % n) + 9) = 1
    · rw [if_pos h, if_pos h, if_neg (by decide)]
    · rw [if_neg h, if_neg h, if_pos rfl]
      exact ih (j + 1) f (by omega) (by omega)
theorem r_nextOpen (hw : w 1 = nI n) (hn : n ≤ 6) (hk : k < n) : fX11_nextOpen (mw M w) (nI k) = some (nextW w k) := by
  have e : nS w = n := by unfold nS; rw [hw, nI_clamp (by omega)]
  unfold fX11_nextOpen fX11_nextOpen_0 nextW
  rw [e]
  exact r_nextOpen_l hw hn hk (n - 1) 1 FU (by omega) (by rw [FU_eq]; omega)
theorem nextW_in (hw : w 1 = nI n) (hn : n ≤ 6) (hk : k < n) : nextW w k = -1 ∨ ∃ i, i < n ∧ i ≠ k ∧ nextW w k = nI i ∧ w (161 + 12 * i + 9) = 1 := by
  have e : nS w = n := by unfold nS; rw [hw, nI_clamp (by omega)]
  unfold nextW
  rw [e]
  exact nxtL_in hk (n - 1) 1 (Nat.le_refl _) (by omega)
theorem nI_nem {i : Nat} (h : i < 2 ^ 31) : ¬ nI i = -1 := by
  intro q
  have := congrArg Int32.toInt q
  rw [nI_toInt h] at this
  have e : (-1 : Int32).toInt = -1 := by decide
  omega
theorem r_tail (hw : w 1 = nI n) (hn : n ≤ 6) (hk : k < n) {m : Int32} : fX11_eats_63 (mw M w) (nI k) m = some (mw M (if m = 0 then w else if w (161 + 12 * k + 7) ≤ 0 then (if w (161 + 12 * k + 9) = 1 then tailW w k m (nextW w k) else tailW w k m (-1)) else w)) := by
  have hk6 : k < 6 := by omega
  simp only [fX11_eats_63, fX11_eats_77, fX11_eats_67, rs7 hk6, Option.bind_some, fX11_eats_74, fX11_eats_78, r_isOpenSack hk6, fX11_eats_83, fX11_eats_86, r_nextOpen hw hn hk, fX11_eats_91, fX11_eats_94, fX11_eats_95, fX11_eats_113, r_starve hk6, fX11_eats_123, fX11_eats_103, fX11_eats_110]
  by_cases h1 : m = 0
  · rw [if_pos h1, if_pos h1]
  rw [if_neg h1, if_neg h1]
  by_cases h2 : w (161 + 12 * k + 7) ≤ 0
  · rw [if_pos h2, if_pos h2]
    by_cases h3 : w (161 + 12 * k + 9) = 1
    · rw [if_pos h3, if_pos h3, if_neg (by decide)]
      rcases nextW_in hw hn hk with h4 | ⟨i, i1, i2, i3, -⟩
      · rw [h4, if_pos rfl]; rfl
      · rw [i3, if_neg (nI_nem (by omega)), r_moves hk6 (by omega) (Ne.symm i2)]
        simp only [Option.bind_some, tailW, if_neg (nI_nem (show i < 2 ^ 31 by omega)), nI_clamp (show i < 2 ^ 31 by omega)]
    · rw [if_neg h3, if_neg h3, if_pos rfl, if_pos trivial]; rfl
  · rw [if_neg h2, if_neg h2]
theorem r_eats (hw : w 1 = nI n) (hn : n ≤ 6) (hk : k < n) : fX11_eats (mw M w) (nI k) = some (mw M (eatsW w k)) := by
  have hk6 : k < 6 := by omega
  simp (disch := omega) only [fX11_eats, fX11_eats_0, fX11_eats_7, fX11_eats_16, fX11_eats_31, fX11_eats_36, fX11_eats_47, fX11_eats_52, rs8 hk6, rs7 hk6, rs10 hk6, ps7 hk6, ps10 hk6, Option.bind_some, gi9, tn9, mw_w, mw_up, va_s, up_up, pk_un]
  have h := r_tail (M := M) (w := eatW w k (if w (161 + 12 * k + 7) < w (161 + 12 * k + 8) then w (161 + 12 * k + 7) else w (161 + 12 * k + 8))) (n := n) (k := k) (m := w (161 + 12 * k + 8)) (by unfold eatW; simp (disch := omega) only [pk_un]; exact hw) hn hk
  simp only [eatsW]
  exact h
end REF1
