/-! what both parsers see at a token -/
section WORDS
theorem skp_cong {K K' : Nat → Nat} {n p : Nat} (h : ∀ j, j < n → K j = K' j) (hp : p ≤ n) : skp K n p = skp K' n p := runF_cong (n := n) (fun j hj => by rw [h j hj]) _ _ (by omega)
theorem tkE_cong {K K' : Nat → Nat} {n s : Nat} (h : ∀ j, j < n → K j = K' j) (hs : s < n) : tkE K n s = tkE K' n s := by
  unfold tkE
  rw [h s hs, runF_cong (n := n) (P := fun j => K j == K' s) (P' := fun j => K' j == K' s) (fun j hj => by rw [h j hj]) _ _ (by omega)]
theorem tkD_cong {K K' : Nat → Nat} {n s : Nat} (h : ∀ j, j < n → K j = K' j) : tkD K n s = tkD K' n s := by
  unfold tkD
  by_cases q : s < n
  · rw [if_pos q, if_pos q, tkE_cong h q]
  · rw [if_neg q, if_neg q]
theorem tkK_cong {K K' : Nat → Nat} {n s : Nat} (h : ∀ j, j < n → K j = K' j) : tkK K n s = tkK K' n s := by
  unfold tkK
  by_cases q : s < n
  · rw [if_pos q, if_pos q, tkE_cong h q, h s q]
  · rw [if_neg q, if_neg q]
variable {K : Nat → Nat} {n s : Nat}
theorem tk_run {k : Nat} (h : tkK K n s = k) (hk : k = 1 ∨ k = 2) : s < n ∧ K s = k ∧ (k = 1 → tkD K n s - s ≤ 8) ∧ (k = 2 → tkD K n s - s ≤ 4) ∧ s < tkD K n s ∧ tkD K n s ≤ n ∧ ∀ j, s ≤ j → j < tkD K n s → K j = k := by
  unfold tkK at h
  by_cases q : s < n
  · rw [if_pos q] at h
    have hD : tkD K n s = tkE K n s := by unfold tkD; rw [if_pos q]
    rw [hD]
    have e1 := tkE_gt (k := K) (n := n) (s := s)
    have e2 := tkE_le (k := K) q
    by_cases g : (K s = 1 ∧ 8 < tkE K n s - s) ∨ (K s = 2 ∧ 4 < tkE K n s - s)
    · rw [if_pos g] at h; omega
    · rw [if_neg g] at h
      refine ⟨q, h, by omega, by omega, by omega, e2, fun j h1 h2 => ?_⟩
      by_cases e : j = s
      · subst e; exact h
      · unfold tkE at h2
        rw [if_pos (by omega), h] at h2
        have := runF_in (P := fun j => K j == k) _ _ j (show s + 1 ≤ j by omega) h2
        exact beq_iff_eq.mp this
  · rw [if_neg q] at h; omega
theorem tkD_ge : s ≤ tkD K n s := by
  unfold tkD
  split
  · have := tkE_gt (k := K) (n := n) (s := s); omega
  · exact Nat.le_refl _
theorem tkD_le (h : s ≤ n) : tkD K n s ≤ n := by
  unfold tkD
  split
  · exact tkE_le (by assumption)
  · exact h
theorem tkD_gt (h : s < n) : s + 1 ≤ tkD K n s := by
  unfold tkD
  rw [if_pos h]
  exact tkE_gt
theorem tkK_lt (h : ∀ j, K j < 6) : tkK K n s < 6 := by
  unfold tkK
  have := h s
  repeat' split
  all_goals omega
/-- the word of a token, 1 or 0 -/
def wq (b : Nat → Int32) (K : Nat → Nat) (n s : Nat) (l : List Int32) : Int32 := if tkK K n s = 1 ∧ tkD K n s - s = l.length ∧ ∀ i, i < l.length → b (s + i) = l.getD i 0 then 1 else 0
theorem wq_01 {b : Nat → Int32} {l : List Int32} : wq b K n s l = 0 ∨ wq b K n s l = 1 := by
  unfold wq
  split
  · exact Or.inr rfl
  · exact Or.inl rfl
theorem wq_cong {b c : Nat → Int32} {l : List Int32} (h : tkK K n s = 1 → ∀ j, s ≤ j → j < tkD K n s → c j = b j) : wq c K n s l = wq b K n s l := by
  unfold wq
  by_cases k1 : tkK K n s = 1
  · by_cases le : tkD K n s - s = l.length
    · have : (∀ i, i < l.length → c (s + i) = l.getD i 0) ↔ ∀ i, i < l.length → b (s + i) = l.getD i 0 := by
        constructor
        · intro a i hi; rw [← h k1 (s + i) (by omega) (by omega)]; exact a i hi
        · intro a i hi; rw [h k1 (s + i) (by omega) (by omega)]; exact a i hi
      simp only [this]
    · rw [if_neg (fun z => le z.2.1), if_neg (fun z => le z.2.1)]
  · rw [if_neg (fun z => k1 z.1), if_neg (fun z => k1 z.1)]
def AtC (x : Nat → Int32) (K : Nat → Nat) (n s : Nat) : Prop := x 2 = nI n ∧ x 3 = nI (tkD K n s) ∧ x 4 = nI (tkK K n s) ∧ x 5 = nI s
def AtR (y b : Nat → Int32) (K : Nat → Nat) (n s : Nat) : Prop := y 9 = nI n ∧ y 14 = nI (tkD K n s) ∧ y 15 = nI s ∧ y 16 = tkV b K n s ∧ y 17 = nI (if tkK K n s = 5 then 4 else tkK K n s)
theorem all_from {P : Nat → Prop} {i m : Nat} (h : i < m) : (∀ j, j < m → i ≤ j → P j) ↔ P i ∧ ∀ j, j < m → i + 1 ≤ j → P j := by
  constructor
  · intro a; exact ⟨a i h (Nat.le_refl _), fun j h1 h2 => a j h1 (by omega)⟩
  · rintro ⟨a, b⟩ j h1 h2
    by_cases e : j = i
    · subst e; exact a
    · exact b j h1 (by omega)
theorem nI_ol {l : List Int32} : Int32.ofNat l.length = nI l.length := rfl
theorem c_word_l {S : CS} {l : List Int32} (h5 : S.1 1 5 = nI s) (hs : s + l.length ≤ 600) : ∀ r i f, l.length = i + r → r < f → fX8_isWord_23 l f S (nI i) = some (if ∀ j, j < l.length → i ≤ j → S.1 2 (s + j) = l.getD j 0 then 1 else 0) := by
  intro r
  induction r with
  | zero =>
    intro i f hi hf
    obtain ⟨f, rfl⟩ : ∃ g, f = g + 1 := ⟨f - 1, by omega⟩
    rw [fX8_isWord_23]
    dsimp only
    rw [nI_ol, if_pos (nI_le (by omega) (by omega)), if_pos (fun j h1 h2 => by omega)]
    rfl
  | succ r ih =>
    intro i f hi hf
    obtain ⟨f, rfl⟩ : ∃ g, f = g + 1 := ⟨f - 1, by omega⟩
    rw [fX8_isWord_23]
    dsimp only
    rw [nI_ol, if_neg (nI_ge (show i < l.length by omega) (by omega)), fX8_isWord_31, h5, nI_add, gi_m (show s + i < 600 by omega) (by omega), gi_m (show i < l.length by omega) (by omega), nI_c (by omega), nI_c (by omega)]
    by_cases q : S.1 2 (s + i) = l.getD i 0
    · rw [if_pos q, fX8_isWord_52, nI_1, ih (i + 1) f (by omega) (by omega)]
      congr 1
      simp only [all_from (P := fun j => S.1 2 (s + j) = l.getD j 0) (show i < l.length by omega), q, true_and]
    · rw [if_neg q, fX8_isWord_50, if_neg (fun z => q (z i (by omega) (Nat.le_refl _)))]
theorem c_isWord {S : CS} {l : List Int32} (a : AtC (S.1 1) K n s) (hn : n ≤ 600) (hK : ∀ j, K j < 6) (hl : l.length ≤ 8) : fX8_isWord S l = some (wq (S.1 2) K n s l) := by
  obtain ⟨h2, h3, h4, h5⟩ := a
  have kl := tkK_lt (n := n) (s := s) hK
  unfold fX8_isWord fX8_isWord_0 wq
  rw [h4]
  by_cases k1 : tkK K n s = 1
  · obtain ⟨f1, f2, f3, f4, f5, f6, f7⟩ := tk_run k1 (Or.inl rfl)
    rw [if_pos (show nI (tkK K n s) = (1 : Int32) by rw [k1]; rfl), fX8_isWord_8, fX8_tokenLength, fX8_tokenLength_0, h3, h5, pk_sub (by omega), Option.bind_some, fX8_isWord_12, nI_ol]
    by_cases le : tkD K n s - s = l.length
    · rw [if_pos (congrArg nI le), fX8_isWord_21, ← nI_0, c_word_l h5 (by omega) l.length 0 FU (by omega) (by rw [FU_eq]; omega)]
      have : (∀ j, j < l.length → 0 ≤ j → S.1 2 (s + j) = l.getD j 0) ↔ (tkK K n s = 1 ∧ tkD K n s - s = l.length ∧ ∀ i, i < l.length → S.1 2 (s + i) = l.getD i 0) := ⟨fun z => ⟨k1, le, fun i hi => z i hi (by omega)⟩, fun z j hj _ => z.2.2 j hj⟩
      simp only [this]
      exact bq_s (by split; exact Or.inr rfl; exact Or.inl rfl)
    · rw [if_neg (fun z => le ((nI_eq (by omega) (by omega)).mp z)), if_neg (fun z => le z.2.1)]; rfl
  · rw [if_neg (show ¬ nI (tkK K n s) = (1 : Int32) from fun z => k1 ((nI_eq (b := 1) (by omega) (by omega)).mp z)), if_neg (fun z => k1 z.1)]; rfl
theorem r_word_l {M : MS} {l : List Int32} (h15 : M.1 15 = nI s) (hs : s + l.length ≤ 600) : ∀ r i f, l.length = i + r → r < f → fX11_isWord_28 l f M (nI i) = some (if ∀ j, j < l.length → i ≤ j → M.2 8 (s + j) = l.getD j 0 then 1 else 0) := by
  intro r
  induction r with
  | zero =>
    intro i f hi hf
    obtain ⟨f, rfl⟩ : ∃ g, f = g + 1 := ⟨f - 1, by omega⟩
    rw [fX11_isWord_28]
    dsimp only
    rw [nI_ol, if_pos (nI_le (by omega) (by omega)), if_pos (fun j h1 h2 => by omega)]
    rfl
  | succ r ih =>
    intro i f hi hf
    obtain ⟨f, rfl⟩ : ∃ g, f = g + 1 := ⟨f - 1, by omega⟩
    rw [fX11_isWord_28]
    dsimp only
    rw [nI_ol, if_neg (nI_ge (show i < l.length by omega) (by omega)), fX11_isWord_36, h15, nI_add, gi_m (show s + i < 600 by omega) (by omega), gi_m (show i < l.length by omega) (by omega), nI_c (by omega), nI_c (by omega)]
    by_cases q : M.2 8 (s + i) = l.getD i 0
    · rw [if_pos q, fX11_isWord_57, nI_1, ih (i + 1) f (by omega) (by omega)]
      congr 1
      simp only [all_from (P := fun j => M.2 8 (s + j) = l.getD j 0) (show i < l.length by omega), q, true_and]
    · rw [if_neg q, fX11_isWord_55, if_neg (fun z => q (z i (by omega) (Nat.le_refl _)))]
theorem kk5 (h : tkK K n s < 6) {a : Nat} (ha : a = 1 ∨ a = 2 ∨ a = 3) : (nI (if tkK K n s = 5 then 4 else tkK K n s) = nI a) ↔ tkK K n s = a := by
  rw [nI_eq (by split <;> omega) (by omega)]
  split <;> omega
theorem r_isWord {M : MS} {l : List Int32} (a : AtR M.1 (M.2 8) K n s) (hn : n ≤ 600) (hK : ∀ j, K j < 6) (hl : l.length ≤ 8) : fX11_isWord M l = some (wq (M.2 8) K n s l) := by
  obtain ⟨h9, h14, h15, h16, h17⟩ := a
  have kl := tkK_lt (n := n) (s := s) hK
  unfold fX11_isWord fX11_isWord_0 wq
  rw [h17]
  by_cases k1 : tkK K n s = 1
  · obtain ⟨f1, f2, f3, f4, f5, f6, f7⟩ := tk_run k1 (Or.inl rfl)
    rw [if_pos (show nI (if tkK K n s = 5 then 4 else tkK K n s) = (1 : Int32) from (kk5 kl (a := 1) (by omega)).mpr k1), fX11_isWord_8, h14, h15, pk_sub (by omega), nI_ol]
    by_cases le : tkD K n s - s = l.length
    · rw [if_pos (congrArg nI le), fX11_isWord_26, ← nI_0, r_word_l h15 (by omega) l.length 0 FU (by omega) (by rw [FU_eq]; omega)]
      have : (∀ j, j < l.length → 0 ≤ j → M.2 8 (s + j) = l.getD j 0) ↔ (tkK K n s = 1 ∧ tkD K n s - s = l.length ∧ ∀ i, i < l.length → M.2 8 (s + i) = l.getD i 0) := ⟨fun z => ⟨k1, le, fun i hi => z i hi (by omega)⟩, fun z j hj _ => z.2.2 j hj⟩
      simp only [this]
      exact bq_s (by split; exact Or.inr rfl; exact Or.inl rfl)
    · rw [if_neg (fun z => le ((nI_eq (by omega) (by omega)).mp z)), if_neg (fun z => le z.2.1)]; rfl
  · rw [if_neg (show ¬ nI (if tkK K n s = 5 then 4 else tkK K n s) = (1 : Int32) from fun z => k1 ((kk5 kl (a := 1) (by omega)).mp z)), if_neg (fun z => k1 z.1)]; rfl
end WORDS
