/-! names of cats and sacks, both sides -/
section NAMES
variable {S : CS} {M : MS} {n p s t : Nat} {K : Nat → Nat}
def fnd (g : Nat → Int32) : Nat → Nat → Int32
  | 0, _ => -1
  | r + 1, i => if g i = 0 then fnd g r (i + 1) else nI i
theorem fnd_in {g : Nat → Int32} : ∀ r i, fnd g r i = -1 ∨ ∃ j, i ≤ j ∧ j < i + r ∧ fnd g r i = nI j
  | 0, i => Or.inl rfl
  | r + 1, i => by
    unfold fnd
    split
    · rcases fnd_in (g := g) r (i + 1) with h | ⟨j, h1, h2, h3⟩
      · exact Or.inl h
      · exact Or.inr ⟨j, by omega, by omega, h3⟩
    · exact Or.inr ⟨i, by omega, by omega, rfl⟩
theorem c_catNamed_l {nc : Nat} (h5 : S.1 t 5 = nI nc) (h8 : nc ≤ 8) {g : Nat → Int32} (hg : ∀ i, i < nc → fX8_isWord S (S.2 (t + 1 + 8 + i)) = some (g i)) : ∀ r i f, nc = i + r → r < f → fX2_catNamed_2 t f S (nI i) = some (fnd g r i) := by
  intro r
  induction r with
  | zero =>
    intro i f hi hf
    obtain ⟨f, rfl⟩ : ∃ g, f = g + 1 := ⟨f - 1, by omega⟩
    rw [fX2_catNamed_2]
    dsimp only
    rw [h5, if_pos (nI_le (by omega) (by omega))]
    rfl
  | succ r ih =>
    intro i f hi hf
    obtain ⟨f, rfl⟩ : ∃ g, f = g + 1 := ⟨f - 1, by omega⟩
    rw [fX2_catNamed_2]
    dsimp only
    rw [h5, if_neg (nI_ge (show i < nc by omega) (by omega)), fX2_catNamed_10, gi_m (show i < 8 by omega) (by omega), nI_c (by omega), hg i (by omega), Option.bind_some, fX2_catNamed_23, fnd]
    by_cases q : g i = 0
    · rw [if_pos q, if_pos q, fX2_catNamed_28, nI_1, ih (i + 1) f (by omega) (by omega)]
    · rw [if_neg q, if_neg q, fX2_catNamed_26]
theorem c_sackNamed_l {nc : Nat} (h5 : S.1 t 6 = nI nc) (h8 : nc ≤ 6) {g : Nat → Int32} (hg : ∀ i, i < nc → fX8_isWord S (S.2 (t + 2 + 15 + i)) = some (g i)) : ∀ r i f, nc = i + r → r < f → fX2_sackNamed_2 t f S (nI i) = some (fnd g r i) := by
  intro r
  induction r with
  | zero =>
    intro i f hi hf
    obtain ⟨f, rfl⟩ : ∃ g, f = g + 1 := ⟨f - 1, by omega⟩
    rw [fX2_sackNamed_2]
    dsimp only
    rw [h5, if_pos (nI_le (by omega) (by omega))]
    rfl
  | succ r ih =>
    intro i f hi hf
    obtain ⟨f, rfl⟩ : ∃ g, f = g + 1 := ⟨f - 1, by omega⟩
    rw [fX2_sackNamed_2]
    dsimp only
    rw [h5, if_neg (nI_ge (show i < nc by omega) (by omega)), fX2_sackNamed_10, gi_m (show i < 6 by omega) (by omega), nI_c (by omega), hg i (by omega), Option.bind_some, fX2_sackNamed_23, fnd]
    by_cases q : g i = 0
    · rw [if_pos q, if_pos q, fX2_sackNamed_28, nI_1, ih (i + 1) f (by omega) (by omega)]
    · rw [if_neg q, if_neg q, fX2_sackNamed_26]
theorem c_catNamed {nc : Nat} {b : Nat → Int32} {y : Nat → Int32} (sy : SY n s (S.1 1) (S.1 2) y b) (h5 : S.1 t 5 = nI nc) (h8 : nc ≤ 8) (hl : ∀ i, i < nc → (S.2 (t + (9 + i))).length ≤ 6) : fX2_catNamed S t = some (fnd (fun i => wq b (KM b) n s (S.2 (t + (9 + i)))) nc 0) := by
  unfold fX2_catNamed fX2_catNamed_0
  rw [← nI_0]
  exact c_catNamed_l h5 h8 (fun i hi => by rw [show t + 1 + 8 + i = t + (9 + i) by omega]; exact sy.cw (by have := hl i hi; omega)) nc 0 FU (by omega) (by rw [FU_eq]; omega)
theorem c_sackNamed {nc : Nat} {b : Nat → Int32} {y : Nat → Int32} (sy : SY n s (S.1 1) (S.1 2) y b) (h5 : S.1 t 6 = nI nc) (h8 : nc ≤ 6) (hl : ∀ i, i < nc → (S.2 (t + (17 + i))).length ≤ 6) : fX2_sackNamed S t = some (fnd (fun i => wq b (KM b) n s (S.2 (t + (17 + i)))) nc 0) := by
  unfold fX2_sackNamed fX2_sackNamed_0
  rw [← nI_0]
  exact c_sackNamed_l h5 h8 (fun i hi => by rw [show t + 2 + 15 + i = t + (17 + i) by omega]; exact sy.cw (by have := hl i hi; omega)) nc 0 FU (by omega) (by rw [FU_eq]; omega)
theorem r_isNameAt_l {a L : Nat} (h14 : M.1 14 = nI (s + L)) (h15 : M.1 15 = nI s) (hs : s + L ≤ 600) (ha : a + 1 + L ≤ 257) : ∀ r i f, L = i + r → r < f → fX11_isNameAt_24 f M (nI a) (nI i) = some (if ∀ j, j < L → i ≤ j → M.2 0 (a + 1 + j) = M.2 8 (s + j) then 1 else 0) := by
  intro r
  induction r with
  | zero =>
    intro i f hi hf
    obtain ⟨f, rfl⟩ : ∃ g, f = g + 1 := ⟨f - 1, by omega⟩
    rw [fX11_isNameAt_24]
    dsimp only
    rw [h14, h15, pk_sub (by omega), if_pos (nI_le (by omega) (by omega)), if_pos (fun j h1 h2 => by omega)]
    rfl
  | succ r ih =>
    intro i f hi hf
    obtain ⟨f, rfl⟩ : ∃ g, f = g + 1 := ⟨f - 1, by omega⟩
    rw [fX11_isNameAt_24]
    dsimp only
    rw [h14, h15, pk_sub (by omega), show s + L - s = L by omega, if_neg (nI_ge (show i < L by omega) (by omega)), fX11_isNameAt_37, h15, nI_add, nI_1, nI_add, gi_m (show a + 1 + i < 257 by omega) (by omega), gi_m (show s + i < 600 by omega) (by omega), nI_c (by omega), nI_c (by omega)]
    by_cases q : M.2 0 (a + 1 + i) = M.2 8 (s + i)
    · rw [if_pos q, fX11_isNameAt_63, nI_1, ih (i + 1) f (by omega) (by omega)]
      congr 1
      simp only [all_from (P := fun j => M.2 0 (a + 1 + j) = M.2 8 (s + j)) (show i < L by omega), q, true_and]
    · rw [if_neg q, fX11_isNameAt_61, if_neg (fun z => q (z i (by omega) (Nat.le_refl _)))]
theorem r_isNameAt {a : Nat} {bs : List Int32} (ar : AtR M.1 (M.2 8) K n s) (hn : n ≤ 600) (k1 : tkK K n s = 1) (l6 : tkD K n s - s ≤ 6) (ha : a + 12 ≤ 257) (hN : NmOk bs (M.2 0) a) : fX11_isNameAt M (nI a) = some (wq (M.2 8) K n s bs) := by
  obtain ⟨h9, h14, h15, h16, h17⟩ := ar
  obtain ⟨f1, f2, f3, f4, f5, f6, f7⟩ := tk_run k1 (Or.inl rfl)
  obtain ⟨b1, b6, bl, bj⟩ := hN
  unfold fX11_isNameAt fX11_isNameAt_0 wq
  rw [Int32.add_zero, gi_m (show a < 257 by omega) (by omega), nI_c (by omega), bl, h14, h15, pk_sub (by omega)]
  by_cases le : tkD K n s - s = bs.length
  · rw [if_pos (congrArg nI le.symm), fX11_isNameAt_22, ← nI_0, r_isNameAt_l (s := s) (L := tkD K n s - s) (by rw [h14, show s + (tkD K n s - s) = tkD K n s by omega]) h15 (by omega) (by omega) (tkD K n s - s) 0 FU (by omega) (by rw [FU_eq]; omega)]
    have : (∀ j, j < tkD K n s - s → 0 ≤ j → M.2 0 (a + 1 + j) = M.2 8 (s + j)) ↔ (tkK K n s = 1 ∧ tkD K n s - s = bs.length ∧ ∀ i, i < bs.length → M.2 8 (s + i) = bs.getD i 0) :=
      ⟨fun z => ⟨k1, le, fun i hi => by rw [(bj i hi).1]; exact (z i (by omega) (by omega)).symm⟩, fun z j hj _ => by rw [← (bj j (by omega)).1]; exact (z.2.2 j (by omega)).symm⟩
    simp only [this]
    exact bq_s (by split; exact Or.inr rfl; exact Or.inl rfl)
  · rw [if_neg (fun z => le ((nI_eq (by omega) (by omega)).mp z).symm), if_neg (fun z => le z.2.1)]; rfl
theorem r_nameHere_l {a m nc : Nat} (hm : m < 257) (h5 : M.2 0 m = nI nc) (h8 : nc ≤ 8) (ha : a + 12 * 8 ≤ 257 ∨ a + 12 * nc ≤ 257) {g : Nat → Int32} (hg : ∀ i, i < nc → fX11_isNameAt M (nI (a + 12 * i)) = some (g i)) : ∀ r i f, nc = i + r → r < f → fX11_nameHere_2 f M (nI a) (nI m) (nI i) = some (fnd g r i) := by
  intro r
  induction r with
  | zero =>
    intro i f hi hf
    obtain ⟨f, rfl⟩ : ∃ g, f = g + 1 := ⟨f - 1, by omega⟩
    rw [fX11_nameHere_2]
    dsimp only
    rw [gi_m hm (by omega), nI_c (by omega), h5, if_pos (nI_le (by omega) (by omega))]
    rfl
  | succ r ih =>
    intro i f hi hf
    obtain ⟨f, rfl⟩ : ∃ g, f = g + 1 := ⟨f - 1, by omega⟩
    rw [fX11_nameHere_2]
    dsimp only
    rw [gi_m hm (by omega), nI_c (by omega), h5, if_neg (nI_ge (show i < nc by omega) (by omega)), fX11_nameHere_12, show nI a + 12 * nI i = nI (a + 12 * i) from nI_b a 12 i, hg i (by omega), Option.bind_some, fX11_nameHere_22, fnd]
    by_cases q : g i = 0
    · rw [if_pos q, if_pos q, fX11_nameHere_27, nI_1, ih (i + 1) f (by omega) (by omega)]
    · rw [if_neg q, if_neg q, fX11_nameHere_25]
theorem r_nameHere {a m nc : Nat} {F : Nat → List Int32} (ar : AtR M.1 (M.2 8) K n s) (hn : n ≤ 600) (k1 : tkK K n s = 1) (l6 : tkD K n s - s ≤ 6) (hm : m < 257) (h5 : M.2 0 m = nI nc) (h8 : nc ≤ 8) (ha : a + 12 * nc ≤ 257) (hN : ∀ i, i < nc → NmOk (F i) (M.2 0) (a + 12 * i)) : fX11_nameHere M (nI a) (nI m) = some (fnd (fun i => wq (M.2 8) K n s (F i)) nc 0) := by
  unfold fX11_nameHere fX11_nameHere_0
  rw [← nI_0]
  exact r_nameHere_l hm h5 h8 (Or.inr ha) (fun i hi => r_isNameAt ar hn k1 l6 (by omega) (hN i hi)) nc 0 FU (by omega) (by rw [FU_eq]; omega)
/-! a granary's cells, read and made -/
def Cls (S : CS) (t nc ns nh : Nat) (w : Wd) : Prop := ∀ o f q, o < 35 → ¬ (4 ≤ o ∧ o < 8) → cm nc ns nh o f = q → q ≠ 999 → S.1 (t + o) f = w q
theorem EvRel.cong {E E' : Nat → Nat → Int32} {w : Wd} (h : ∀ o f, o < 4 → E o f = E' o f) (e : EvRel E w) : EvRel E' w := by
  obtain ⟨nx, c, h1, h2, h3, h4, h5, h6⟩ := e
  refine ⟨nx, c, h1, h2, by rw [← h 0 4 (by omega)]; exact h3, by rw [← h 0 3 (by omega)]; exact h4, h5, fun k hk => ?_⟩
  rw [← h 1 _ (by omega), ← h 2 _ (by omega), ← h 3 _ (by omega)]
  exact h6 k hk
theorem GR.cls {w : Wd} (g : GR S t w) : Cls S t (nC w) (nS w) (nH w) w := fun o f q ho h4 hq hn => g.rd ho h4 hq hn
theorem GR.ev {w : Wd} (g : GR S t w) : EvRel (fun o f => S.1 (t + (4 + o)) f) w := by
  obtain ⟨⟨E, e, r⟩, -⟩ := g
  refine r.cong fun o f ho => ?_
  have := cw_self_iff.mp e (4 + o) f (by omega)
  unfold gv at this
  rw [if_pos (by omega), show 4 + o - 4 = o by omega] at this
  exact this
theorem GR.mk {w : Wd} (c : Cls S t (nC w) (nS w) (nH w) w) (e : EvRel (fun o f => S.1 (t + (4 + o)) f) w) (n1 : ∀ i, i < nC w → NmOk (S.2 (t + (9 + i))) w (65 + 12 * i + 0)) (n2 : ∀ i, i < nS w → NmOk (S.2 (t + (17 + i))) w (161 + 12 * i + 0)) : GR S t w := by
  refine ⟨⟨fun o f => S.1 (t + (4 + o)) f, cw_self_iff.mpr fun o f ho => ?_, e⟩, n1, n2⟩
  unfold gv
  by_cases h4 : 4 ≤ o ∧ o < 8
  · rw [if_pos h4]
    show S.1 (t + (4 + (o - 4))) f = S.1 (t + o) f
    rw [show 4 + (o - 4) = o by omega]
  · rw [if_neg h4]
    by_cases q : cm (nC w) (nS w) (nH w) o f = 999
    · rw [if_pos q]
    · rw [if_neg q, c o f _ ho h4 rfl q]
end NAMES
