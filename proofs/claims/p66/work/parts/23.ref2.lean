/-! the reference's log, hunt, shifts, dawn, hour -/
section REF2
variable {M : MS} {w : Wd} {k n : Nat}
theorem wd_ext {v w : Wd} (h : ∀ q, v q = w q) : v = w := funext h
theorem r_logs_in {K : MS → Int32 → Int32 → Int32 → Int32 → Option MS} {k b : Nat} {kd c x : Int32} (hk : k + 1 ≤ 15) (hb : 17 + 3 * (k + 2) ≤ b) (hb2 : b ≤ 65) :
    fX11_logs_39 K (mw M (shf w (17 + 3 * (k + 2)) b)) kd c x (nI (k + 1)) = K (mw M (shf w (17 + 3 * (k + 1)) b)) kd c x (nI k) := by
  have i1 : ∀ i : Nat, (17 + 3 * nI (k + 1) - 3 + nI i : Int32) = nI (17 + 3 * k + i) := fun i => by
    rw [show (17 + 3 * nI (k + 1) : Int32) = nI (17 + 3 * (k + 1)) from nI_b 17 3 (k + 1), show nI (17 + 3 * (k + 1)) - 3 = nI (17 + 3 * (k + 1) - 3) from pk_sub (b := 3) (by omega), nI_add]
    exact congrArg nI (by omega)
  have i2 : ∀ i : Nat, (17 + 3 * nI (k + 1) + nI i : Int32) = nI (17 + 3 * (k + 1) + i) := fun i => nI_a 17 3 (k + 1) i
  have hfu : FU = 2996 + 1 + 1 + 1 + 1 := rfl
  have step : ∀ (i f : Nat) (v : Wd), i < 3 → fX11_logs_42 K (f + 1) (mw M v) kd c x (nI (k + 1)) (nI i) = fX11_logs_42 K f (mw M (upd v (17 + 3 * (k + 1) + i) (v (17 + 3 * k + i)))) kd c x (nI (k + 1)) (nI (i + 1)) := fun i f v hi => by
    rw [fX11_logs_42]
    dsimp only
    rw [if_neg (show ¬ (3 : Int32) ≤ nI i from nI_ge (b := 3) hi (by omega))]
    unfold fX11_logs_48 fX11_logs_80
    rw [i1, i2, if_pos (nI_in (by omega) (by decide)), if_pos (nI_in (by omega) (by decide)), nI_clamp (by omega), nI_clamp (by omega), mw_w, mw_up, nI_1]
  have s0 := step 0 (2996 + 1 + 1 + 1) (shf w (17 + 3 * (k + 2)) b) (by omega)
  unfold fX11_logs_39
  rw [hfu]
  rw [show (0 : Int32) = nI 0 from nI_0.symm, s0, step 1 _ _ (by omega), step 2 _ _ (by omega), fX11_logs_42]
  dsimp only
  rw [if_pos (show (3 : Int32) ≤ nI (2 + 1) from nI_le (a := 3) (Nat.le_refl _) (by omega)), fX11_logs_86, pk_m1]
  congr 2
  refine wd_ext fun q => ?_
  by_cases q1 : q = 17 + 3 * (k + 1) + 2
  · subst q1
    rw [pk_us, pk_un (by omega), pk_un (by omega)]
    unfold shf
    rw [if_neg (by omega), if_pos (by omega)]
    exact congrArg w (by omega)
  rw [pk_un q1]
  by_cases q2 : q = 17 + 3 * (k + 1) + 1
  · subst q2
    rw [pk_us, pk_un (by omega)]
    unfold shf
    rw [if_neg (by omega), if_pos (by omega)]
    exact congrArg w (by omega)
  rw [pk_un q2]
  by_cases q3 : q = 17 + 3 * (k + 1) + 0
  · subst q3
    rw [pk_us]
    unfold shf
    rw [if_neg (by omega), if_pos (by omega)]
    exact congrArg w (by omega)
  rw [pk_un q3]
  unfold shf
  by_cases q4 : 17 + 3 * (k + 2) ≤ q ∧ q < b
  · rw [if_pos q4, if_pos (by omega)]
  · rw [if_neg q4, if_neg (by omega)]
theorem r_logs_l {b : Nat} {kd c x : Int32} (hb2 : b ≤ 65) : ∀ k f, k < f → k ≤ 15 → 17 + 3 * (k + 1) ≤ b → fX11_logs_34 f (mw M (shf w (17 + 3 * (k + 1)) b)) kd c x (nI k) = fX11_logs_92 (mw M (shf w 20 b)) kd c x := by
  intro k
  induction k with
  | zero =>
    intro f hf _ _
    obtain ⟨f, rfl⟩ : ∃ g, f = g + 1 := ⟨f - 1, by omega⟩
    rw [fX11_logs_34]
    dsimp only
    rw [if_pos (show nI 0 ≤ (0 : Int32) from nI_le (b := 0) (Nat.le_refl _) (by omega))]
  | succ k ih =>
    intro f hf hk hb
    obtain ⟨f, rfl⟩ : ∃ g, f = g + 1 := ⟨f - 1, by omega⟩
    rw [fX11_logs_34]
    dsimp only
    rw [if_neg (nI_nle (by omega) (by omega)), r_logs_in hk hb hb2]
    exact ih f (by omega) (by omega) (by omega)
theorem r_logs_23 {kd c x : Int32} {m : Nat} (hm1 : 1 ≤ m) (hm : m ≤ 16) (h : w 16 = nI m) : fX11_logs_23 (mw M w) kd c x = some (mw M (upd (upd (upd (shf w 20 (17 + 3 * m)) 17 kd) 18 c) 19 x)) := by
  obtain ⟨p, rfl⟩ : ∃ p, m = p + 1 := ⟨m - 1, by omega⟩
  have e : mw M w = mw M (shf w (17 + 3 * (p + 1)) (17 + 3 * (p + 1))) := congrArg _ (wd_ext fun q => by unfold shf; rw [if_neg (by omega)])
  unfold fX11_logs_23
  rw [gi16, mw_w, tn16, h, nI_pred, e, r_logs_l (by omega) p FU (by rw [FU_eq]; omega) (by omega) (Nat.le_refl _)]
  simp only [fX11_logs_92, fX11_logs_100, fX11_logs_108, fX11_logs_116, gi17, gi18, gi19, tn17, tn18, tn19, mw_w, mw_up, va_s, up_up]
theorem r_logs {kd c x : Int32} (h : ∃ e, e ≤ 16 ∧ w 16 = nI e) : fX11_logs (mw M w) kd c x = some (mw M (logsW w kd c x)) := by
  obtain ⟨m, hm, hm1, e⟩ := logM_lt h
  have e1 : (upd w 16 (logM w)) 16 = nI m := by rw [pk_us, e]
  have h1 := r_logs_23 (M := M) (kd := kd) (c := c) (x := x) hm1 hm e1
  unfold logsW
  rw [e, nI_clamp (by omega), ← e, ← h1]
  unfold fX11_logs fX11_logs_0
  rw [gi16, mw_w, tn16]
  unfold logM
  by_cases q : 16 ≤ w 16
  · rw [if_pos q, if_pos q]
    exact congrArg (fun z => fX11_logs_23 (mw M z) kd c x) (wd_ext fun p => by unfold upd; split <;> simp_all)
  · rw [if_neg q, if_neg q]
    simp only [fX11_logs_12, gi16, mw_w, tn16, mw_up]
theorem hntL_in : ∀ r i b, n = i + r → (b = -1 ∨ ∃ j, j < n ∧ b = nI j ∧ w (161 + 12 * j + 9) = 1 ∧ ¬ w (161 + 12 * j + 8) = 0) → (hntL w r i b = -1 ∨ ∃ j, j < n ∧ hntL w r i b = nI j ∧ w (161 + 12 * j + 9) = 1 ∧ ¬ w (161 + 12 * j + 8) = 0) := by
  intro r
  induction r with
  | zero => intro i b _ h; exact h
  | succ r ih =>
    intro i b hn h
    unfold hntL
    refine ih (i + 1) _ (by omega) ?_
    split
    · rename_i z
      exact Or.inr ⟨i, by omega, rfl, z.1, z.2.1⟩
    · exact h
theorem r_hunted_l (hw : w 1 = nI n) (hn : n ≤ 6) : ∀ r i f b, n = i + r → r < f → (b = -1 ∨ ∃ j, j < n ∧ b = nI j) → fX11_hunted_4 f (mw M w) b (nI i) = some (hntL w r i b) := by
  intro r
  induction r with
  | zero =>
    intro i f b hi hf _
    obtain ⟨f, rfl⟩ : ∃ g, f = g + 1 := ⟨f - 1, by omega⟩
    obtain rfl : n = i := by omega
    simp only [fX11_hunted_4, gi1, tn1, mw_w, hw, if_pos (nI_le (Nat.le_refl n) (by omega)), fX11_hunted_65, hntL]
  | succ r ih =>
    intro i f b hi hf hb
    obtain ⟨f, rfl⟩ : ∃ g, f = g + 1 := ⟨f - 1, by omega⟩
    have hi6 : i < 6 := by omega
    rw [fX11_hunted_4]
    dsimp only
    rw [gi1, tn1, mw_w, hw, if_neg (nI_ge (show i < n by omega) (by omega)), hntL]
    simp only [fX11_hunted_14, r_isOpenSack hi6, Option.bind_some, fX11_hunted_19, fX11_hunted_59, fX11_hunted_22, rs8 hi6, fX11_hunted_29, fX11_hunted_32, fX11_hunted_35, fX11_hunted_57, fX11_hunted_40, nI_1]
    by_cases h1 : w (161 + 12 * i + 9) = 1
    · rw [if_pos h1, if_neg (by decide)]
      by_cases h2 : w (161 + 12 * i + 8) = 0
      · rw [if_pos h2, if_neg (by simp [h2])]
        exact ih (i + 1) f b (by omega) (by omega) hb
      · rw [if_neg h2]
        rcases hb with h3 | ⟨j, j1, rfl⟩
        · rw [if_pos h3, if_pos ⟨h1, h2, Or.inl h3⟩]
          exact ih (i + 1) f _ (by omega) (by omega) (Or.inr ⟨i, by omega, rfl⟩)
        · rw [if_neg (nI_nem (by omega)), fX11_hunted_47, rs8 (show j < 6 by omega), Option.bind_some, fX11_hunted_54, nI_clamp (by omega)]
          by_cases h4 : w (161 + 12 * i + 8) ≤ w (161 + 12 * j + 8)
          · rw [if_pos h4, if_neg (fun z => z.2.2.elim (nI_nem (by omega)) (fun z => z h4)), fX11_hunted_59, nI_1]
            exact ih (i + 1) f _ (by omega) (by omega) (Or.inr ⟨j, j1, rfl⟩)
          · rw [if_neg h4, if_pos ⟨h1, h2, Or.inr h4⟩, fX11_hunted_57, fX11_hunted_59, nI_1]
            exact ih (i + 1) f _ (by omega) (by omega) (Or.inr ⟨i, by omega, rfl⟩)
    · rw [if_neg h1, if_pos rfl, if_neg (fun z => h1 z.1)]
      exact ih (i + 1) f b (by omega) (by omega) hb
theorem nS_of (hw : w 1 = nI n) (hn : n ≤ 6) : nS w = n := by unfold nS; rw [hw, nI_clamp (by omega)]
theorem nC_of (hw : w 0 = nI n) (hn : n ≤ 8) : nC w = n := by unfold nC; rw [hw, nI_clamp (by omega)]
theorem nH_of (hw : w 2 = nI n) (hn : n ≤ 12) : nH w = n := by unfold nH; rw [hw, nI_clamp (by omega)]
theorem r_hunted (hw : w 1 = nI n) (hn : n ≤ 6) : fX11_hunted (mw M w) = some (huntedW w) := by
  unfold fX11_hunted fX11_hunted_0 huntedW
  rw [nS_of hw hn]
  exact r_hunted_l hw hn n 0 FU (-1) (by omega) (by rw [FU_eq]; omega) (Or.inl rfl)
theorem huntedW_in (hw : w 1 = nI n) (hn : n ≤ 6) : huntedW w = -1 ∨ ∃ j, j < n ∧ huntedW w = nI j ∧ w (161 + 12 * j + 9) = 1 ∧ ¬ w (161 + 12 * j + 8) = 0 := by
  unfold huntedW
  rw [nS_of hw hn]
  exact hntL_in n 0 (-1) (by omega) (Or.inl rfl)
theorem r_hunts (hw : w 1 = nI n) (hn : n ≤ 6) (hs : w 5 = -1 ∨ ∃ c, c < 8 ∧ w 5 = nI c) (hl : ∃ e, e ≤ 16 ∧ w 16 = nI e) : fX11_hunts (mw M w) = some ((huntsW w).1, mw M (huntsW w).2) := by
  unfold fX11_hunts fX11_hunts_0 huntsW
  rw [gi5, mw_w, tn5, r_hunted hw hn, Option.bind_some, fX11_hunts_11]
  rcases hs with h | ⟨c, hc, h⟩
  · rw [if_pos h, if_pos h]; rfl
  rw [h, if_neg (nI_nem (by omega)), if_neg (nI_nem (by omega)), fX11_hunts_17]
  rcases huntedW_in hw hn with h2 | ⟨j, j1, h2, -, -⟩
  · rw [if_pos h2, if_pos h2]; rfl
  have hj : j < 6 := by omega
  rw [h2, if_neg (nI_nem (by omega)), if_neg (nI_nem (by omega)), nI_clamp (by omega), nI_clamp (by omega)]
  simp (disch := omega) only [fX11_hunts_24, r_strength hc, Option.bind_some, fX11_hunts_29, rs8 hj, fX11_hunts_36, fX11_hunts_51, ps8 hj, fX11_hunts_56, rc10 hc, pc10 hc, fX11_hunts_67, fX11_hunts_72, gi8, tn8, mw_w, mw_up, va_s, up_up, fX11_hunts_83, rc9 hc, pc9 hc, fX11_hunts_96, fX11_hunts_104, pk_un]
  have e := r_logs (M := M) (w := huntU w c j (huntX w c j)) (kd := 1) (c := nI c) (x := huntX w c j) (by unfold huntU; simp (disch := omega) only [pk_un]; exact hl)
  exact (congrArg (fun z => z.bind fun q => fX11_hunts_111 q (nI c)) e).trans rfl
theorem r_swears (hk : k < 8) (hs : w 5 = -1 ∨ ∃ c, c < 8 ∧ w 5 = nI c) (hl : ∃ e, e ≤ 16 ∧ w 16 = nI e) : fX11_swears (mw M w) (nI k) = some (mw M (swearsW w k)) := by
  unfold fX11_swears fX11_swears_0 swearsW
  rw [gi5, mw_w, tn5]
  rcases hs with h | ⟨s, hs, h⟩
  · rw [if_pos h, if_pos h]; rfl
  rw [h, if_neg (nI_nem (by omega)), if_neg (nI_nem (by omega)), fX11_swears_13, r_isAble hk, Option.bind_some, fX11_swears_18, nI_clamp (by omega)]
  have no : fX11_swears_42 (mw M w) (nI k) (nI s) = some (mw M (logsW (upd (upd w 5 (-1)) 13 (w 13 + 1)) 3 (nI k) (nI s))) := by
    have e := r_logs (M := M) (w := upd (upd w 5 (-1)) 13 (w 13 + 1)) (kd := 3) (c := nI k) (x := nI s) (by simp (disch := omega) only [pk_un]; exact hl)
    simp (disch := omega) only [fX11_swears_42, gi5, tn5, mw_w, mw_up, va_s, up_up, fX11_swears_49, gi13, tn13, fX11_swears_60, pk_un, e, Option.bind_some, fX11_swears_67]
  have yes : fX11_swears_29 (mw M w) (nI k) (nI s) = some (mw M (logsW (swearsInW w k) 2 (nI k) (nI s))) := by
    have e := r_logs (M := M) (w := swearsInW w k) (kd := 2) (c := nI k) (x := nI s) (by unfold swearsInW; simp (disch := omega) only [pk_un]; exact hl)
    simp only [fX11_swears_29, r_swearsIn hk, Option.bind_some, fX11_swears_34, e, fX11_swears_41]
  by_cases h1 : 12 ≤ w (65 + 12 * k + 9)
  · rw [if_pos h1, if_pos h1, if_pos rfl]; exact no
  rw [if_neg h1, if_neg h1, if_neg (by decide), fX11_swears_21, r_isPawRight hk h hs, Option.bind_some, fX11_swears_26]
  by_cases h2 : nI k = nI s
  · rw [if_pos h2, if_pos h2, if_neg (by decide)]; exact yes
  rw [if_neg h2, if_neg h2]
  by_cases h3 : w (65 + 12 * k + 8) = w (65 + 12 * s + 8)
  · rw [if_pos h3, if_pos h3, if_pos rfl]; exact no
  · rw [if_neg h3, if_neg h3, if_neg (by decide)]; exact yes
/-- what an hour asks of its numbers -/
def Hd (w : Wd) : Prop := (∃ n, 1 ≤ n ∧ n ≤ 8 ∧ w 0 = nI n) ∧ (∃ n, 1 ≤ n ∧ n ≤ 6 ∧ w 1 = nI n) ∧ (∃ n, 1 ≤ n ∧ n ≤ 12 ∧ w 2 = nI n) ∧ (∀ j, j < nH w → ∃ c, c < nC w ∧ w (233 + 2 * j) = nI c)
def Lv (w : Wd) : Prop := (w 5 = -1 ∨ ∃ c, c < nC w ∧ w 5 = nI c) ∧ (∃ j, j < nH w ∧ w 6 = nI j) ∧ (∃ e, e ≤ 16 ∧ w 16 = nI e)
theorem r_shiftGoes (hd : Hd w) (lv : Lv w) : fX11_shiftGoes (mw M w) = some (mw M (shiftW w)) := by
  obtain ⟨⟨c, c1, c8, hc⟩, -, ⟨n, n1, n12, hn⟩, hp⟩ := hd
  obtain ⟨hs, ⟨j, hj, h6⟩, hl⟩ := lv
  have eH := nH_of hn n12
  have eC := nC_of hc c8
  have eN : nextSh w = (j + 1) % n := by unfold nextSh; rw [h6, eH, nI_clamp (by omega)]
  have hN : nextSh w < n := by rw [eN]; exact Nat.mod_lt _ (by omega)
  obtain ⟨p, hp1, hp2⟩ := hp (nextSh w) (by omega)
  unfold fX11_shiftGoes fX11_shiftGoes_0 shiftW
  rw [gi7, gi7, mw_w, tn7, mw_up, fX11_shiftGoes_11, gi7, mw_w, tn7, pk_us]
  by_cases h : w 7 - 1 ≤ 0
  · rw [if_pos h, if_pos h, hp2, nI_clamp (by omega)]
    have e1 : (nI j + 1 - (nI j + 1) / nI n * nI n : Int32) = nI (nextSh w) := by rw [eN, nI_1, pk_rem (by omega) (by omega) (by omega)]
    have e := r_swears (M := M) (w := upd (upd (upd w 7 (w 7 - 1)) 6 (nI (nextSh w))) 7 (w (233 + 2 * nextSh w + 1))) (k := p) (by omega) (by simp (disch := omega) only [pk_un]; exact hs.imp id (fun ⟨q, q1, q2⟩ => ⟨q, by omega, q2⟩)) (by simp (disch := omega) only [pk_un]; exact hl)
    simp (disch := omega) only [fX11_shiftGoes_22, gi6, gi2, tn6, tn2, mw_w, pk_un, h6, hn, if_pos (nI_ne0 (show 0 < n by omega) (by omega)), e1, mw_up, va_s, up_up, fX11_shiftGoes_45, pk_us, r_shiftHours (show nextSh w < 12 by omega), Option.bind_some, fX11_shiftGoes_62, gi7, tn7, fX11_shiftGoes_63, r_shiftCat (show nextSh w < 12 by omega), fX11_shiftGoes_75, hp2, e, fX11_shiftGoes_78]
  · rw [if_neg h, if_neg h]; rfl
theorem r_dawns_l {y : Int32} (hn : n ≤ 8) : ∀ r i f (v : Wd), n = i + r → r < f → v 0 = nI n → v 4 = y → (∀ q, q < 8 → (itr (fun k v => restW v k y) n w) q = w q) → v = itr (fun k v => restW v k y) i w → fX11_dawns_2 f (mw M v) (nI i) = fX11_dawns_29 (mw M (itr (fun k v => restW v k y) n w)) := by
  intro r
  induction r with
  | zero =>
    intro i f v hi hf h0 h4 hq hv
    obtain ⟨f, rfl⟩ : ∃ g, f = g + 1 := ⟨f - 1, by omega⟩
    obtain rfl : n = i := by omega
    rw [fX11_dawns_2]
    dsimp only
    rw [gi0, tn0, mw_w, h0, if_pos (nI_le (Nat.le_refl n) (by omega)), hv]
  | succ r ih =>
    intro i f v hi hf h0 h4 hq hv
    obtain ⟨f, rfl⟩ : ∃ g, f = g + 1 := ⟨f - 1, by omega⟩
    rw [fX11_dawns_2]
    dsimp only
    rw [gi0, tn0, mw_w, h0, if_neg (nI_ge (show i < n by omega) (by omega)), fX11_dawns_12, gi4, mw_w, tn4, r_rests (by omega), Option.bind_some, fX11_dawns_23, nI_1, h4]
    refine ih (i + 1) f _ (by omega) (by omega) ?_ ?_ hq (by rw [hv]; rfl)
    · unfold restW; rw [pk_un (by omega)]; exact h0
    · unfold restW; rw [pk_un (by omega)]; exact h4
theorem itr_rest {y : Int32} {P : Nat → Prop} {g : Nat → Wd → Wd} (hg : ∀ k v, g k v = v ∨ g k v = restW v k y) : ∀ n q, (∀ k, k < n → q ≠ (65 + 12 * k + 9)) → itr g n w q = w q
  | 0, _, _ => rfl
  | n + 1, q, h => by
    have e := itr_rest (P := P) hg n q (fun k hk => h k (by omega))
    rcases hg n (itr g n w) with z | z
    · rw [itr, z]; exact e
    · rw [itr, z, restW, pk_un (h n (by omega))]; exact e
theorem r_dawns_t {v : Wd} {j c : Nat} (h6 : v 6 = nI j) (hj : j < 12) (hc : v (233 + 2 * j) = nI c) (hc8 : c < 8) (hl : ∃ e, e ≤ 16 ∧ v 16 = nI e) : fX11_dawns_29 (mw M v) = some (mw M (dawnE v c)) := by
  unfold dawnE
  have a := r_logs (M := M) (w := v) (kd := 4) (c := -1) (x := v 3) hl
  have b := r_logs (M := M) (w := swearsInW v c) (kd := 4) (c := nI c) (x := v 3) (by unfold swearsInW; simp (disch := omega) only [pk_un]; exact hl)
  have e3 : swearsInW v c 3 = v 3 := by unfold swearsInW; simp (disch := omega) only [pk_un]
  simp only [fX11_dawns_29, gi6, mw_w, tn6, h6, r_shiftCat hj, Option.bind_some, hc, fX11_dawns_40, gi5, tn5, fX11_dawns_51, r_isAble hc8, fX11_dawns_56, fX11_dawns_63, fX11_dawns_59, fX11_dawns_64, fX11_dawns_69, r_swearsIn hc8, fX11_dawns_74, fX11_dawns_84, fX11_dawns_80, fX11_dawns_85, gi3, tn3, fX11_dawns_94, a, b, e3]
  by_cases h1 : v 5 = -1
  · rw [if_pos h1, if_pos h1]
    by_cases h2 : 12 ≤ v (65 + 12 * c + 9)
    · rw [if_pos h2, if_pos h2]; simp
    · rw [if_neg h2, if_neg h2, if_neg (by decide), if_neg (by decide), if_neg (by decide)]
  · rw [if_neg h1, if_neg h1]; simp
end REF2
