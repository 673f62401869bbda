/-! a new name and a choice, both sides -/
section NEWN
variable {S : CS} {M : MS} {n p s nc ns nh : Nat} {w : Wd}
def spW (w : Wd) (a s L : Nat) (b : Nat → Int32) (i : Nat) : Wd := fun q => if a + 1 ≤ q ∧ q < a + 1 + i then (if q - (a + 1) < L then b (s + (q - (a + 1))) else 0) else w q
theorem spW_0 {a L : Nat} {b : Nat → Int32} : spW w a s L b 0 = w := funext fun q => if_neg (by omega)
theorem spW_s {a L i : Nat} {b : Nat → Int32} : upd (spW w a s L b i) (a + 1 + i) (if i < L then b (s + i) else 0) = spW w a s L b (i + 1) := funext fun q => by
  by_cases e : q = a + 1 + i
  · subst e
    rw [pk_us]
    unfold spW
    rw [if_pos (show a + 1 ≤ a + 1 + i ∧ a + 1 + i < a + 1 + (i + 1) by omega), show a + 1 + i - (a + 1) = i by omega]
  · rw [pk_un e]
    unfold spW
    by_cases h : a + 1 ≤ q ∧ q < a + 1 + i
    · rw [if_pos h, if_pos (show a + 1 ≤ q ∧ q < a + 1 + (i + 1) by omega)]
    · rw [if_neg h, if_neg (show ¬ (a + 1 ≤ q ∧ q < a + 1 + (i + 1)) by omega)]
theorem r_newName_l {a L : Nat} (h14 : M.1 14 = nI (s + L)) (h15 : M.1 15 = nI s) (hs : s + L ≤ 600) (ha : a + 7 ≤ 257) : ∀ r i f, 6 = i + r → r < f → fX11_takesNewName_40 f (mw M (spW w a s L (M.2 8) i)) (nI a) (nI i) = fX11_takesNewName_94 (mw M (spW w a s L (M.2 8) 6)) := by
  intro r
  induction r with
  | zero =>
    intro i f hi hf
    obtain ⟨f, rfl⟩ : ∃ g, f = g + 1 := ⟨f - 1, by omega⟩
    rw [fX11_takesNewName_40]
    dsimp only
    rw [if_pos (show (6 : Int32) ≤ nI i from nI_le (a := 6) (by omega) (by omega)), show i = 6 by omega]
  | succ r ih =>
    intro i f hi hf
    obtain ⟨f, rfl⟩ : ∃ g, f = g + 1 := ⟨f - 1, by omega⟩
    have h8 : (mw M (spW w a s L (M.2 8) i)).2 8 = M.2 8 := mw_n (by decide)
    have e14 : (mw M (spW w a s L (M.2 8) i)).1 14 = nI (s + L) := h14
    have e15 : (mw M (spW w a s L (M.2 8) i)).1 15 = nI s := h15
    have hu : ∀ v, v = (if i < L then M.2 8 (s + i) else 0) → fX11_takesNewName_87 (fX11_takesNewName_40 f) (mw M (spW w a s L (M.2 8) i)) (nI a) (nI i) v (nI (a + 1 + i)) = fX11_takesNewName_94 (mw M (spW w a s L (M.2 8) 6)) := fun v hv => by
      rw [fX11_takesNewName_87, gi_m (show a + 1 + i < 257 by omega) (by omega), nI_c (by omega), mw_w, mw_up, hv, spW_s, fX11_takesNewName_88, nI_1, ih (i + 1) f (by omega) (by omega)]
    rw [fX11_takesNewName_40]
    dsimp only
    rw [if_neg (show ¬ (6 : Int32) ≤ nI i from nI_ge (b := 6) (by omega) (by omega)), fX11_takesNewName_47, e14, e15, pk_sub (by omega), show s + L - s = L by omega, nI_1, nI_add]
    by_cases q : i < L
    · rw [if_neg (nI_ge q (by omega)), fX11_takesNewName_71, e15, nI_add, gi_m (show s + i < 600 by omega) (by omega), nI_c (by omega), h8]
      exact hu _ (by rw [if_pos q])
    · rw [if_pos (nI_le (by omega) (by omega)), fX11_takesNewName_86]
      exact hu _ (by rw [if_neg q])
theorem s_new {a m cnt : Nat} {v : Int32} (h : PS n p (S.1 1) (S.1 2) M.1 (M.2 8)) (es : s = skp (KM (M.2 8)) n p) (hm : m < 257) (hc : M.2 0 m = nI cnt) (ha : a + 12 * cnt + 7 ≤ 257) (hv : AtR M.1 (M.2 8) (KM (M.2 8)) n s → tkK (KM (M.2 8)) n s = 1 → tkD (KM (M.2 8)) n s - s ≤ 6 → fX11_nameHere M (nI a) (nI m) = some v) : ∃ x', (fX8_takeName S = some (0, tx S x') ∧ ∃ y', fX11_takesNewName M (nI a) (nI m) = some (0, rx M y') ∧ Er x' y' ∧ FrR M.1 y') ∨ (fX8_takeName S = some (1, tx S x') ∧ SY n s x' (S.1 2) M.1 (M.2 8) ∧ tkK (KM (M.2 8)) n s = 1 ∧ tkD (KM (M.2 8)) n s - s ≤ 6 ∧ (v ≠ -1 → ∃ x2 y2, fX8_fail (tx S x') 3 = some (0, tx S x2) ∧ fX11_takesNewName M (nI a) (nI m) = some (0, rx M y2) ∧ Er x2 y2 ∧ FrR M.1 y2) ∧ (v = -1 → ∃ y2 p', fX11_takesNewName M (nI a) (nI m) = some (1, (y2, va_up (va_up M.2 0 (spW (M.2 0) (a + 12 * cnt) s (tkD (KM (M.2 8)) n s - s) (M.2 8) 6)) 19 (upd (M.2 19) 3 (nI (tkD (KM (M.2 8)) n s - s))))) ∧ PS n p' x' (S.1 2) y2 (M.2 8) ∧ p ≤ p' ∧ FrR M.1 y2)) := by
  obtain ⟨x', ⟨c1, r1, sy, k1, l6⟩ | ⟨c1, y', r1, er, fr⟩⟩ := s_name h
  · rw [← es] at sy k1 l6
    have open1 : fX11_takesNewName M (nI a) (nI m) = bz (fX11_takesNewName_15 M (nI a) (nI m) v) := by
      unfold fX11_takesNewName fX11_takesNewName_0
      rw [r1, Option.bind_some]
      dsimp only
      rw [fX11_takesNewName_4, if_neg one0, fX11_takesNewName_9, hv sy.2.2.2.1 k1 l6, Option.bind_some]
    refine ⟨x', Or.inr ⟨c1, sy, k1, l6, fun e => ?_, fun e => ?_⟩⟩
    · obtain ⟨x2, y2, f1, f2, er, fr⟩ := s_fail (S := S) (k := 3) sy
      refine ⟨x2, y2, f1, ?_, er, fr⟩
      rw [open1, fX11_takesNewName_15, if_neg e, fX11_takesNewName_19, f2, Option.bind_some]
      rfl
    · obtain ⟨t, hs, ⟨c2, c3, c4, c5⟩, ⟨r9, r14, r15, r16, r17⟩, ee⟩ := sy
      obtain ⟨f1, f2, f3, f4, f5, f6, f7⟩ := tk_run k1 (Or.inl rfl)
      have h600 := t.1
      have lp := r_newName_l (M := M) (w := M.2 0) (a := a + 12 * cnt) (s := s) (L := tkD (KM (M.2 8)) n s - s) (by rw [r14, show s + (tkD (KM (M.2 8)) n s - s) = tkD (KM (M.2 8)) n s by omega]) r15 (by omega) (by omega) 6 0 FU (by omega) (by rw [FU_eq]; omega)
      rw [spW_0, mw_self, nI_0] at lp
      obtain ⟨W, eW⟩ : ∃ W : Wd, W = spW (M.2 0) (a + 12 * cnt) s (tkD (KM (M.2 8)) n s - s) (M.2 8) 6 := ⟨_, rfl⟩
      rw [← eW] at lp ⊢
      have sy2 : SY n s x' (S.1 2) (M.1, va_up (va_up M.2 0 W) 19 (upd (M.2 19) 3 (nI (tkD (KM (M.2 8)) n s - s)))).1 ((M.1, va_up (va_up M.2 0 W) 19 (upd (M.2 19) 3 (nI (tkD (KM (M.2 8)) n s - s)))).2 8) := by
        dsimp only
        rw [vne (by omega), vne (by omega)]
        exact ⟨t, hs, ⟨c2, c3, c4, c5⟩, ⟨r9, r14, r15, r16, r17⟩, ee⟩
      obtain ⟨y2, n1, n2, n3, n4⟩ := s_nxt sy2
      dsimp only at n2
      rw [vne (by omega), vne (by omega)] at n2
      refine ⟨y2, _, ?_, n2, by rw [es]; exact np_ge, n3⟩
      rw [open1, fX11_takesNewName_15, if_pos e, fX11_takesNewName_25, gi_m hm (by omega), nI_c (by omega), hc, show nI a + 12 * nI cnt = nI (a + 12 * cnt) from nI_b a 12 cnt, lp, fX11_takesNewName_94, gj3, tn3]
      have e19 : (mw M W).2 19 = M.2 19 := mw_n (by decide)
      have e1 : (mw M W).1 = M.1 := rfl
      have e2 : (mw M W).2 = va_up M.2 0 W := rfl
      rw [e19, e1, e2, r14, r15, pk_sub (by omega), fX11_takesNewName_109, n1, Option.bind_some, fX11_takesNewName_113]
      rfl
  · refine ⟨x', Or.inl ⟨c1, y', ?_, er, fr⟩⟩
    unfold fX11_takesNewName fX11_takesNewName_0
    rw [r1, Option.bind_some]
    rfl
theorem kd1 {c : Int32} (h : kdB c = 1) : ∃ m, 97 ≤ m ∧ m ≤ 122 ∧ c = nI m := by
  refine rg_nat (a := 97) (b := 122) (by omega) (by omega) ?_
  have e97 : (97 : Int32).toInt = 97 := by decide
  have e122 : (122 : Int32).toInt = 122 := by decide
  unfold kdB at h
  by_cases q : c < 97
  · rw [if_pos q] at h
    exfalso
    repeat' split at h
    all_goals omega
  · rw [if_neg q] at h
    by_cases g : 122 < c
    · rw [if_pos g] at h
      exfalso
      repeat' split at h
      all_goals omega
    · exact ⟨q, lt_le.mp g⟩
def bsW (b : Nat → Int32) (s L : Nat) : List Int32 := (List.range L).map fun j => b (s + j)
theorem bsW_len {b : Nat → Int32} {L : Nat} : (bsW b s L).length = L := by simp [bsW]
theorem bsW_get {b : Nat → Int32} {L j : Nat} (h : j < L) : (bsW b s L).getD j 0 = b (s + j) := by simp [bsW, h]
/-- the class's word at a name's token -/
theorem c_nameTo {x b y : Nat → Int32} {q : Nat} (sy : SY n s (S.1 1) (S.1 2) y b) (k1 : tkK (KM b) n s = 1) (l6 : tkD (KM b) n s - s ≤ 6) : ∃ Z : Nat → Nat → Int32, fX8_nameTo S q = some (Z, va_up S.2 q (bsW b s (tkD (KM b) n s - s))) ∧ ∀ j, j ≠ 3 → j ≠ 4 → Z j = S.1 j := by
  obtain ⟨t, hs, ⟨c2, c3, c4, c5⟩, -, -⟩ := sy
  obtain ⟨f1, f2, f3, f4, f5, f6, f7⟩ := tk_run k1 (Or.inl rfl)
  have h600 := t.1
  have eb := tok_eq t (k1 := Or.inl k1)
  have ew : wordOf S = bsW b s (tkD (KM b) n s - s) := by
    unfold wordOf bsW
    rw [c3, c5, pk_sub (by omega), nI_c (by omega), nI_c (by omega)]
    refine List.map_congr_left fun j hj => ?_
    exact eb (s + j) (by omega) (by have := List.mem_range.mp hj; omega)
  have eg : wordG S := by
    unfold wordG
    rw [c3, c5, nI_c (by omega), nI_c (by omega)]
    refine ⟨?_, nI_lt (by omega) (by omega), by omega, by omega, fun j h1 h2 => ?_⟩
    · rw [← nI_0]; exact nI_nlt (by omega) (by omega)
    · rw [eb (s + j) (by omega) (by omega)]
      obtain ⟨m, m1, m2, em⟩ := kd1 (f7 (s + j) (by omega) (by omega))
      exact ⟨⟨m, by omega⟩, em⟩
  refine ⟨(wordS S).1, ?_, fun j j3 j4 => ?_⟩
  · unfold fX8_nameTo fX8_word
    rw [if_pos eg, Option.bind_some, ew]
    rfl
  · unfold wordS
    dsimp only
    rw [vne j4, vne j3]
theorem nm_new {b : Nat → Int32} {L a : Nat} {W : Wd} (h1 : 1 ≤ L) (h6 : L ≤ 6) (hk : ∀ j, s ≤ j → j < s + L → kdB (b j) = 1) (hW : ∀ j, j < 6 → W (a + 1 + j) = if j < L then b (s + j) else 0) (h0 : W a = nI L) : NmOk (bsW b s L) W a := by
  refine ⟨by rw [bsW_len]; exact h1, by rw [bsW_len]; exact h6, by rw [bsW_len]; exact h0, fun j hj => ?_⟩
  rw [bsW_len] at hj
  rw [bsW_get hj, hW j (by omega), if_pos hj]
  exact ⟨rfl, kd1 (hk (s + j) (by omega) (by omega))⟩
theorem r_one {c : Int32} (h : c = 0 ∨ c = 1) : fX11_one M c = some c := by
  unfold fX11_one fX11_one_0
  rcases h with h | h
  · rw [if_pos h, h]; rfl
  · rw [if_neg (by rw [h]; decide), h]; rfl
theorem s_choice {x c : Nat → Int32} {k : Nat} {kk q1 q2 : Int32} (ek : kk = nI k) (hk : k < 4) (h01 : q1 = 0 ∨ q1 = 1) (hq : ¬ (q1 = 0 ∧ q2 = 0)) (sy : SY n s x c M.1 (M.2 8)) : ∃ y2, fX11_takesChoice M kk q1 q2 = some (1, (y2, va_up M.2 19 (upd (M.2 19) k q1))) ∧ PS n (tkD (KM (M.2 8)) n s) x c y2 (M.2 8) ∧ FrR M.1 y2 := by
  subst ek
  have sy2 : SY n s x c (M.1, va_up M.2 19 (upd (M.2 19) k q1)).1 ((M.1, va_up M.2 19 (upd (M.2 19) k q1)).2 8) := by
    dsimp only
    rw [vne (by omega)]; exact sy
  obtain ⟨y2, n1, n2, n3, n4⟩ := s_nxt sy2
  dsimp only at n2
  rw [vne (by omega)] at n2
  have go : fX11_takesChoice_14 M (nI k) q1 = some (1, (y2, va_up M.2 19 (upd (M.2 19) k q1))) := by
    rw [fX11_takesChoice_14, r_one h01, Option.bind_some, fX11_takesChoice_23, gi_m hk (by omega), nI_c (by omega), fX11_takesChoice_24, n1, Option.bind_some, fX11_takesChoice_28]
    rfl
  refine ⟨y2, ?_, n2, n3⟩
  unfold fX11_takesChoice fX11_takesChoice_0
  by_cases z1 : q1 = 0
  · rw [if_pos z1, fX11_takesChoice_4, if_neg (fun z => hq ⟨z1, z⟩), go]; rfl
  · rw [if_neg z1, go]; rfl
theorem s_choice0 {kk q1 q2 : Int32} {y2 : Nat → Int32} (hq : q1 = 0 ∧ q2 = 0) (f : fX11_failsAt M 1 = some (0, rx M y2)) : fX11_takesChoice M kk q1 q2 = some (0, rx M y2) := by
  unfold fX11_takesChoice fX11_takesChoice_0
  rw [if_pos hq.1, fX11_takesChoice_4, if_pos hq.2, fX11_takesChoice_8, f, Option.bind_some]
  rfl
end NEWN
