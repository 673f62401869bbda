/-! the law's mice eat one by one: what the plain granary says at once -/
section LEATS
variable {C : LC} {w v : Wd} {h : Nat → Int32} {n k m g : Nat}
theorem upd2 {f : Wd} {a b : Nat} {x y : Int32} (hab : a ≠ b) : upd (upd f a x) b y = upd (upd f b y) a x := funext fun q => by
  unfold upd
  by_cases h1 : q = a <;> by_cases h2 : q = b <;> simp_all
theorem upd_c {f : Wd} {a : Nat} {x y : Int32} (e : x = y) : upd f a x = upd f a y := by rw [e]
theorem i32_succ (x : Int32) (i : Nat) : x + nI i + 1 = x + nI (i + 1) := by rw [Int32.add_assoc, nI_succ]
theorem nI_d1 {a : Nat} (h : 1 ≤ a) : nI a - 1 = nI (a - 1) := pk_sub (b := 1) h
theorem eat_0 (w : Wd) (k : Nat) : eatW w k (nI 0) = w := by
  unfold eatW
  rw [nI_0, Int32.sub_zero, Int32.add_zero, Int32.add_zero, upd_self, upd_self, upd_self]
theorem eat_s7 {i : Nat} (hg : w (161 + 12 * k + 7) = nI g) (hi : i ≤ g) : eatW w k (nI i) (161 + 12 * k + 7) = nI (g - i) := by
  unfold eatW
  rw [pk_un (by omega), pk_un (by omega), pk_us, hg, pk_sub hi]
theorem eat_s8 {e : Int32} : eatW w k e (161 + 12 * k + 8) = w (161 + 12 * k + 8) := by
  unfold eatW
  rw [pk_un (by omega), pk_un (by omega), pk_un (by omega)]
theorem eat_un {e : Int32} {q : Nat} (h7 : q ≠ 161 + 12 * k + 7) (h10 : q ≠ 161 + 12 * k + 10) (h9 : q ≠ 9) : eatW w k e q = w q := by
  unfold eatW
  rw [pk_un h9, pk_un h10, pk_un h7]
theorem eat_step {i : Nat} (hg : w (161 + 12 * k + 7) = nI g) (hi : i < g) : eatW (eatW w k (nI i)) k 1 = eatW w k (nI (i + 1)) := by
  have e7 := eat_s7 (w := w) (k := k) hg (Nat.le_of_lt hi)
  have e10 : eatW w k (nI i) (161 + 12 * k + 10) = w (161 + 12 * k + 10) + nI i := by
    unfold eatW
    rw [pk_un (by omega), pk_us]
  have e9 : eatW w k (nI i) 9 = w 9 + nI i := by
    unfold eatW
    rw [pk_us]
  have l : eatW (eatW w k (nI i)) k 1 = upd (upd (upd (eatW w k (nI i)) (161 + 12 * k + 7) (nI (g - i) - 1)) (161 + 12 * k + 10) (w (161 + 12 * k + 10) + nI i + 1)) 9 (w 9 + nI i + 1) := by
    show upd (upd (upd (eatW w k (nI i)) (161 + 12 * k + 7) (eatW w k (nI i) (161 + 12 * k + 7) - 1)) (161 + 12 * k + 10) (eatW w k (nI i) (161 + 12 * k + 10) + 1)) 9 (eatW w k (nI i) 9 + 1) = _
    rw [e7, e10, e9]
  rw [l, i32_succ, i32_succ, nI_d1 (by omega)]
  have r : eatW w k (nI (i + 1)) = upd (upd (upd w (161 + 12 * k + 7) (nI (g - (i + 1)))) (161 + 12 * k + 10) (w (161 + 12 * k + 10) + nI (i + 1))) 9 (w 9 + nI (i + 1)) := by
    unfold eatW
    rw [hg, pk_sub (show i + 1 ≤ g by omega)]
  rw [r]
  funext q
  unfold upd
  by_cases h9 : q = 9
  · rw [if_pos h9, if_pos h9]
  · rw [if_neg h9, if_neg h9]
    by_cases h10 : q = 161 + 12 * k + 10
    · rw [if_pos h10, if_pos h10]
    · rw [if_neg h10, if_neg h10]
      by_cases h7 : q = 161 + 12 * k + 7
      · rw [if_pos h7, if_pos h7, Nat.sub_sub]
      · rw [if_neg h7, if_neg h7, eat_un h7 h10 h9]
theorem le_2 (hm : w (161 + 12 * k + 8) = nI m) (hm9 : m ≤ 99) (hg : w (161 + 12 * k + 7) = nI g) (hg9 : g ≤ 9999) : ∀ r i f, min m g = i + r → r < f → fZ12_eats_2 C k f (eatW w k (nI i), h) (nI i) = fZ12_eats_53 C k (eatW w k (nI (min m g)), h) := by
  intro r
  induction r with
  | zero =>
    intro i f hi hf
    obtain ⟨f, rfl⟩ : ∃ g, f = g + 1 := ⟨f - 1, by omega⟩
    rw [eZ12_eats_2]
    rw [eat_s8, hm]
    by_cases c : m ≤ i
    · rw [if_pos (nI_le c (by omega)), hi, Nat.add_zero]
    · rw [if_neg (nI_ge (show i < m by omega) (by omega)), eZ12_eats_10, eat_s7 hg (by omega), show g - i = 0 by omega, if_pos (by decide), hi, Nat.add_zero]
  | succ r ih =>
    intro i f hi hf
    obtain ⟨f, rfl⟩ : ∃ g, f = g + 1 := ⟨f - 1, by omega⟩
    rw [eZ12_eats_2]
    rw [eat_s8, hm, if_neg (nI_ge (show i < m by omega) (by omega)), eZ12_eats_10, eat_s7 hg (by omega), if_neg (nI_nle (by omega) (by omega)), eZ12_eats_17, eZ12_eats_27, eZ12_eats_37, eZ12_eats_47]
    rw [show nI i + 1 = nI (i + 1) from (nI_succ i).symm]
    have e := eat_step (w := w) (k := k) (i := i) hg (by omega)
    rw [pk_un (j := 161 + 12 * k + 10) (by omega), pk_un (j := 9) (by omega), pk_un (j := 9) (by omega)]
    refine Eq.trans ?_ (ih (i + 1) f (by omega) (by omega))
    exact congrArg (fun z => fZ12_eats_2 C k f (z, h) (nI (i + 1))) e
def zN (x : Int32) : Nat := if x = -1 then 0 else x.toNatClampNeg + 1
theorem le_72 (hn : lNum C 3 = n) (hn4 : n ≤ 4) (hf : Fl n v) (ho : v (161 + 12 * k + 9) = 1) (hk : k < n) : ∀ r j f, n = j + r → r + 1 < f → 1 ≤ j → fZ12_eats_72 C k f (v, h) 0 (nI j) = fZ12_eats_165 C k (v, h) (zN (nxtL v n k r j)) := by
  intro r
  induction r with
  | zero =>
    intro j f hj hf' h1
    obtain ⟨f, rfl⟩ : ∃ g, f = g + 1 := ⟨f - 1, by omega⟩
    rw [eZ12_eats_72]
    rw [hn, if_pos (nI_le (show n ≤ j by omega) (by omega))]
    rfl
  | succ r ih =>
    intro j f hj hf' h1
    obtain ⟨f, rfl⟩ : ∃ g, f = g + 1 := ⟨f - 1, by omega⟩
    have e1 : nI k + nI j - (nI k + nI j) / nI n * nI n = nI ((k + j) % n) := by rw [nI_add, pk_rem (by omega) (by omega) (by omega)]
    have hq : (k + j) % n < n := Nat.mod_lt _ (by omega)
    rw [eZ12_eats_72]
    rw [hn, if_neg (nI_ge (show j < n by omega) (by omega)), eZ12_eats_85]
    rw [ho, if_neg (by decide), eZ12_eats_92, if_pos rfl, eZ12_eats_96, hn, if_pos (nI_ne0 (show 0 < n by omega) (by omega)), e1, if_pos (nI_in hq (by omega)), nI_clamp (by omega), nxtL]
    rcases hf _ hq with z | z
    · rw [if_pos z, if_neg (by rw [z]; decide), eZ12_eats_159, ← nI_succ]
      exact ih (j + 1) f (by omega) (by omega) (by omega)
    · rw [if_neg (by rw [z]; decide), if_pos z, eZ12_eats_130, hn, if_pos (nI_ne0 (show 0 < n by omega) (by omega)), e1, if_pos (nI_in hq (by omega)), nI_clamp (by omega), eZ12_eats_159, ← nI_succ]
      have ez : zN (nI ((k + j) % n)) = (k + j) % n + 1 := by
        unfold zN
        rw [if_neg (nI_nem (by omega)), nI_clamp (by omega)]
      obtain ⟨f, rfl⟩ : ∃ g, f = g + 1 := ⟨f - 1, by omega⟩
      rw [ez, eZ12_eats_72]
      rw [hn]
      by_cases c : n ≤ j + 1
      · rw [if_pos (nI_le c (by omega))]
      · rw [if_neg (nI_ge (show j + 1 < n by omega) (by omega)), eZ12_eats_85]
        rw [ho, if_neg (by decide), eZ12_eats_92, if_neg (by omega)]
/-- t mice have gone from sack k to sack i -/
def mvW (v : Wd) (k i a b t : Nat) : Wd := upd (upd (upd v (161 + 12 * i + 8) (nI (min 99 (b + t)))) 11 (v 11 + nI (b + t - 99))) (161 + 12 * k + 8) (nI (a - t))
theorem le_202 {i a b : Nat} (hki : k ≠ i) (hi : i < C.1.2.1) (ha : v (161 + 12 * k + 8) = nI a) (hb : v (161 + 12 * i + 8) = nI b) (ha9 : a ≤ 99) (hb9 : b ≤ 99) : ∀ r t f, a = t + r → r < f → fZ12_eats_202 C k f (mvW v k i a b t, h) (i + 1) = some (mvW v k i a b a, h) := by
  intro r
  induction r with
  | zero =>
    intro t f ht hf
    obtain ⟨f, rfl⟩ : ∃ g, f = g + 1 := ⟨f - 1, by omega⟩
    rw [eZ12_eats_202]
    have e8 : mvW v k i a b t (161 + 12 * k + 8) = nI (a - t) := by unfold mvW; rw [pk_us]
    rw [e8, show a - t = 0 by omega, if_pos (by decide), eZ12_eats_254, show a = t by omega]
  | succ r ih =>
    intro t f ht hf
    obtain ⟨f, rfl⟩ : ∃ g, f = g + 1 := ⟨f - 1, by omega⟩
    have e8 : mvW v k i a b t (161 + 12 * k + 8) = nI (a - t) := by unfold mvW; rw [pk_us]
    have ei : mvW v k i a b t (161 + 12 * i + 8) = nI (min 99 (b + t)) := by unfold mvW; rw [pk_un (by omega), pk_un (by omega), pk_us]
    have e11 : mvW v k i a b t 11 = v 11 + nI (b + t - 99) := by unfold mvW; rw [pk_un (by omega), pk_us]
    have g1 : ¬ i + 1 = 0 ∧ i + 1 - 1 < C.1.2.1 := ⟨by omega, by omega⟩
    rw [eZ12_eats_202]
    rw [e8, if_neg (nI_nle (show 0 < a - t by omega) (by omega)), eZ12_eats_209, if_pos g1]
    rw [Nat.add_sub_cancel, ei]
    by_cases c : 99 ≤ b + t
    · rw [if_pos (show (99 : Int32) ≤ nI (min 99 (b + t)) from nI_le (a := 99) (by omega) (by omega)), eZ12_eats_231, eZ12_eats_241, eZ12_eats_251]
      rw [pk_un (j := 161 + 12 * k + 8) (by omega), e8, e11, nI_d1 (by omega), i32_succ]
      refine Eq.trans (congrArg (fun z => fZ12_eats_202 C k f (z, h) (i + 1)) ?_) (ih (t + 1) f (by omega) (by omega))
      unfold mvW
      funext q
      unfold upd
      by_cases h8 : q = 161 + 12 * k + 8
      · simp only [if_pos h8, Nat.sub_sub]
      · simp only [if_neg h8]
        by_cases h11 : q = 11
        · simp only [if_pos h11]
          rw [show b + t - 99 + 1 = b + (t + 1) - 99 by omega]
        · simp only [if_neg h11]
          rw [show min 99 (b + t) = min 99 (b + (t + 1)) by omega]
    · rw [if_neg (show ¬ (99 : Int32) ≤ nI (min 99 (b + t)) from nI_ge (b := 99) (by omega) (by omega)), eZ12_eats_218, if_pos g1, eZ12_eats_228, eZ12_eats_241, eZ12_eats_251]
      rw [Nat.add_sub_cancel, ei, pk_un (j := 161 + 12 * k + 8) (by omega), e8, nI_d1 (by omega), nI_1]
      refine Eq.trans (congrArg (fun z => fZ12_eats_202 C k f (z, h) (i + 1)) ?_) (ih (t + 1) f (by omega) (by omega))
      unfold mvW
      funext q
      unfold upd
      by_cases h8 : q = 161 + 12 * k + 8
      · simp only [if_pos h8, Nat.sub_sub]
      · simp only [if_neg h8]
        by_cases hq : q = 161 + 12 * i + 8
        · simp only [if_pos hq, if_neg (show ¬ q = 11 by omega)]
          rw [show min 99 (b + t) + 1 = min 99 (b + (t + 1)) by omega]
        · simp only [if_neg hq]
          rw [show b + t - 99 = b + (t + 1) - 99 by omega]
theorem mv_0 {i a b : Nat} (ha : v (161 + 12 * k + 8) = nI a) (hb : v (161 + 12 * i + 8) = nI b) (hb9 : b ≤ 99) : mvW v k i a b 0 = v := by
  unfold mvW
  rw [show min 99 (b + 0) = b by omega, show b + 0 - 99 = 0 by omega, nI_0, Int32.add_zero, Nat.sub_zero, ← hb, upd_self, upd_self, ← ha, upd_self]
theorem mv_a {i a b : Nat} (hki : k ≠ i) (ha : v (161 + 12 * k + 8) = nI a) (hb : v (161 + 12 * i + 8) = nI b) (ha9 : a ≤ 99) (hb9 : b ≤ 99) : mvW v k i a b a = movesW v k i := by
  unfold mvW movesW
  rw [ha, hb, nI_add, Nat.sub_self, nI_0]
  dsimp only
  by_cases c : b + a ≤ 99
  · rw [if_pos (show nI (b + a) ≤ (99 : Int32) from nI_le (b := 99) c (by omega)), show min 99 (b + a) = b + a by omega, show b + a - 99 = 0 by omega, nI_0, Int32.add_zero, upd2 (f := v) (a := 161 + 12 * i + 8) (b := 11) (by omega), upd_self]
  · rw [if_neg (show ¬ nI (b + a) ≤ (99 : Int32) from nI_ge (a := 99) (show 99 < b + a by omega) (by omega))]
    unfold starveW
    rw [pk_un (j := 161 + 12 * i + 8) (by omega), pk_us, show (99 : Int32) = nI 99 from rfl, pk_sub (show 99 ≤ b + a by omega), pk_sub (show b + a - 99 ≤ b + a by omega), pk_un (j := 11) (by omega), pk_un (j := 11) (by omega), show b + a - (b + a - 99) = 99 by omega, show min 99 (b + a) = 99 by omega]
    funext q
    unfold upd
    by_cases h8 : q = 161 + 12 * k + 8
    · rw [if_pos h8, if_neg (by omega), if_neg (by omega), if_pos h8]
    · rw [if_neg h8]
      by_cases h11 : q = 11
      · rw [if_pos h11, if_pos h11]
      · rw [if_neg h11, if_neg h11]
        by_cases hq : q = 161 + 12 * i + 8
        · rw [if_pos hq, if_pos hq]
        · rw [if_neg hq, if_neg hq, if_neg h8, if_neg hq]
theorem le_169 {a : Nat} (ha : v (161 + 12 * k + 8) = nI a) (ha9 : a ≤ 99) : fZ12_eats_169 C k (v, h) = some (starveW v k ((nI a + 1) / 2), h) := by
  have e2 : nI a - nI a / 2 = (nI a + 1) / 2 := by
    rw [show (2 : Int32) = nI 2 from rfl, pk_div (by omega) (by omega) (by omega), pk_sub (by omega), ← nI_succ, pk_div (by omega) (by omega) (by omega)]
    exact congrArg nI (by omega)
  rw [eZ12_eats_169, eZ12_eats_191, eZ12_eats_201]
  rw [ha, e2, pk_un (j := 11) (by omega)]
  unfold starveW
  rw [ha]
/-- the law's meal is the plain granary's -/
theorem l_eats (hn : lNum C 3 = n) (hn4 : n ≤ 4) (hw : w 1 = nI n) (hfl : Fl n w) (hbd : Bd n w) (hk : k < n) : fZ12_eats C (w, h) k = some (eatsW w k, h) := by
  obtain ⟨⟨m, hm9, hm⟩, ⟨g, hg9, hg⟩⟩ := hbd k hk
  have hn3 : C.1.2.1 = n := hn
  have l2 := le_2 (C := C) (h := h) hm hm9 hg hg9 (min m g) 0 FU (by omega) (by rw [FU_eq]; omega)
  rw [eat_0] at l2
  rw [show fZ12_eats C (w, h) k = fZ12_eats_2 C k FU (w, h) (nI 0) from rfl, l2]
  have emin : (if w (161 + 12 * k + 7) < w (161 + 12 * k + 8) then w (161 + 12 * k + 7) else w (161 + 12 * k + 8)) = nI (min m g) := by
    rw [hm, hg]
    by_cases c : g < m
    · rw [if_pos (nI_lt c (by omega)), show min m g = g by omega]
    · rw [if_neg (nI_nlt (by omega) (by omega)), show min m g = m by omega]
  unfold eatsW
  dsimp only
  rw [emin]
  generalize hv : eatW w k (nI (min m g)) = v
  have v8 : v (161 + 12 * k + 8) = nI m := by rw [← hv, eat_s8, hm]
  have v9 : ∀ j, j < n → v (161 + 12 * j + 9) = w (161 + 12 * j + 9) := fun j hj => by rw [← hv]; exact eat_un (by omega) (by omega) (by omega)
  have v8j : ∀ j, j < n → v (161 + 12 * j + 8) = w (161 + 12 * j + 8) := fun j hj => by rw [← hv]; exact eat_un (by omega) (by omega) (by omega)
  have v1 : v 1 = nI n := by rw [← hv, ← hw]; exact eat_un (by omega) (by omega) (by omega)
  have vfl : Fl n v := fun j hj => by rw [v9 j hj]; exact hfl j hj
  rw [eZ12_eats_53]
  rw [v8, hm]
  by_cases c0 : nI m = 0
  · rw [if_pos c0, if_pos c0, eZ12_eats_67]
  · rw [if_neg c0, if_neg c0, eZ12_eats_60]
    by_cases c7 : v (161 + 12 * k + 7) ≤ 0
    · rw [if_pos c7, if_pos c7, eZ12_eats_68]
      rcases vfl k hk with z | z
      · rw [if_neg (by rw [z]; decide), show tailW v k (nI m) (-1) = starveW v k ((nI m + 1) / 2) from if_pos rfl]
        rw [show (FU : Nat) = 2999 + 1 from rfl, eZ12_eats_72]
        have e165 : fZ12_eats_165 C k (v, h) 0 = some (starveW v k ((nI m + 1) / 2), h) := by rw [eZ12_eats_165, if_pos rfl]; exact le_169 v8 hm9
        by_cases c1 : nI (lNum C 3) ≤ 1
        · rw [if_pos c1]; exact e165
        · rw [if_neg c1, eZ12_eats_85]
          rw [if_pos z]; exact e165
      · rw [if_pos z]
        have l72 := le_72 (C := C) (h := h) hn hn4 vfl z hk (n - 1) 1 FU (by omega) (by rw [FU_eq]; omega) (by omega)
        rw [show (1 : Int32) = nI 1 from rfl, l72]
        have eN : nextW v k = nxtL v n k (n - 1) 1 := by unfold nextW; rw [nS_of v1 (by omega)]
        rw [eN]
        rcases nxtL_in (w := v) hk (n - 1) 1 (by omega) (by omega) with e | ⟨i, i1, i2, i3, i4⟩
        · rw [e, eZ12_eats_165, show zN (-1) = 0 from rfl, if_pos rfl, le_169 v8 hm9]
          exact congrArg (fun z => some (z, h)) (if_pos rfl).symm
        · obtain ⟨⟨b, hb9, hb⟩, -⟩ := hbd i i1
          have vb : v (161 + 12 * i + 8) = nI b := by rw [v8j i i1, hb]
          have ez : zN (nI i) = i + 1 := by
            unfold zN
            rw [if_neg (nI_nem (by omega)), nI_clamp (by omega)]
          rw [i3, ez, eZ12_eats_165, if_neg (by omega)]
          have l202 := le_202 (C := C) (h := h) (v := v) (k := k) (i := i) (Ne.symm i2) (by omega) v8 vb hm9 hb9 m 0 FU (by omega) (by rw [FU_eq]; omega)
          rw [mv_0 v8 vb hb9] at l202
          rw [l202, mv_a (Ne.symm i2) v8 vb hm9 hb9]
          unfold tailW
          rw [if_neg (nI_nem (by omega)), nI_clamp (by omega)]
    · rw [if_neg c7, if_neg c7, eZ12_eats_67]
end LEATS
