/-! tokens: what both scanners find -/
def kdB (c : Int32) : Nat := if c < 97 then (if c < 48 then (if c = 59 then 3 else if c = 32 then 4 else if c = 10 then 4 else 5) else if 57 < c then (if c = 59 then 3 else if c = 32 then 4 else if c = 10 then 4 else 5) else 2)
  else if 122 < c then (if c < 48 then (if c = 59 then 3 else if c = 32 then 4 else if c = 10 then 4 else 5) else if 57 < c then (if c = 59 then 3 else if c = 32 then 4 else if c = 10 then 4 else 5) else 2) else 1
def runF (P : Nat → Bool) : Nat → Nat → Nat
  | 0, p => p
  | f + 1, p => if P p = true then runF P f (p + 1) else p
theorem runF_ge {P : Nat → Bool} : ∀ f p, p ≤ runF P f p
  | 0, p => Nat.le_refl p
  | f + 1, p => by
    unfold runF
    split
    · exact Nat.le_trans (by omega) (runF_ge f (p + 1))
    · exact Nat.le_refl p
theorem runF_le {P : Nat → Bool} : ∀ f p, runF P f p ≤ p + f
  | 0, p => Nat.le_refl p
  | f + 1, p => by
    unfold runF
    split
    · have := runF_le (P := P) f (p + 1); omega
    · omega
theorem runF_cong {P P' : Nat → Bool} {n : Nat} (h : ∀ j, j < n → P j = P' j) : ∀ f p, p + f ≤ n → runF P f p = runF P' f p
  | 0, p, _ => rfl
  | f + 1, p, hn => by
    unfold runF
    rw [h p (by omega), runF_cong h f (p + 1) (by omega)]
theorem runF_in {P : Nat → Bool} : ∀ f p j, p ≤ j → j < runF P f p → P j = true
  | 0, p, j, h1, h2 => absurd h2 (by unfold runF; omega)
  | f + 1, p, j, h1, h2 => by
    unfold runF at h2
    split at h2
    · by_cases e : j = p
      · subst e; assumption
      · exact runF_in f (p + 1) j (by omega) h2
    · omega
theorem runF_out {P : Nat → Bool} : ∀ f p, runF P f p < p + f → P (runF P f p) = false
  | 0, p, h => absurd h (by unfold runF; omega)
  | f + 1, p, h => by
    unfold runF at h ⊢
    split
    · rename_i q
      rw [if_pos q] at h
      exact runF_out f (p + 1) (by omega)
    · rename_i q
      exact Bool.eq_false_iff.mpr q
def skp (k : Nat → Nat) (n p : Nat) : Nat := runF (fun j => k j == 4) (n - p) p
def tkE (k : Nat → Nat) (n s : Nat) : Nat := if k s = 1 ∨ k s = 2 then runF (fun j => k j == k s) (n - (s + 1)) (s + 1) else s + 1
def tkD (k : Nat → Nat) (n s : Nat) : Nat := if s < n then tkE k n s else s
def tkK (k : Nat → Nat) (n s : Nat) : Nat := if s < n then (if (k s = 1 ∧ 8 < tkE k n s - s) ∨ (k s = 2 ∧ 4 < tkE k n s - s) then 5 else k s) else 0
theorem skp_ge {k : Nat → Nat} {n p : Nat} : p ≤ skp k n p := runF_ge _ _
theorem skp_le {k : Nat → Nat} {n p : Nat} (h : p ≤ n) : skp k n p ≤ n := by have := runF_le (P := fun j => k j == 4) (n - p) p; unfold skp; omega
theorem tkE_gt {k : Nat → Nat} {n s : Nat} : s + 1 ≤ tkE k n s := by
  unfold tkE
  split
  · exact runF_ge _ _
  · exact Nat.le_refl _
theorem tkE_le {k : Nat → Nat} {n s : Nat} (h : s < n) : tkE k n s ≤ n := by
  unfold tkE
  split
  · have := runF_le (P := fun j => k j == k s) (n - (s + 1)) (s + 1); omega
  · omega
section TOKC
variable {M : CS} {x : Nat → Int32} {n p s : Nat}
def tx (M : CS) (x : Nat → Int32) : CS := (va_up M.1 1 x, M.2)
theorem tx_1 : (tx M x).1 1 = x := by simp [tx, va_up]
theorem tx_b : (tx M x).1 2 = M.1 2 := by simp [tx, va_up]
theorem tx_o {q : Nat} (h : q ≠ 1) : (tx M x).1 q = M.1 q := by simp [tx, va_up, h]
theorem tx_2 : (tx M x).2 = M.2 := rfl
theorem tx_w {y : Nat → Int32} : va_up (tx M x).1 1 y = (tx M y).1 := by unfold tx; rw [up_up]
theorem tx_p : ((tx M x).1, M.2) = tx M x := rfl
theorem tx_self : tx M (M.1 1) = M := by unfold tx; rw [up_self]
theorem tx_tx {y : Nat → Int32} : tx (tx M x) y = tx M y := by unfold tx; rw [up_up]
theorem c_kindOf {c : Int32} : fX8_kindOf M c = some (nI (kdB c)) := by
  simp only [fX8_kindOf_53, fX8_kindOf_48, fX8_kindOf_52, fX8_kindOf_42, fX8_kindOf_36, fX8_kindOf_34, fX8_kindOf_28, fX8_kindOf_26, fX8_kindOf_20, fX8_kindOf_14, fX8_kindOf_12, fX8_kindOf_6, fX8_kindOf_0, fX8_kindOf, kdB]
  repeat' split
  all_goals rfl
theorem upd_at {f : Nat → Int32} {k : Nat} {v : Int32} (h : f k = v) : upd f k v = f := by rw [← h]; exact upd_self
theorem upd_upd {f : Nat → Int32} {k : Nat} {v w : Int32} : upd (upd f k v) k w = upd f k w := funext fun j => by unfold upd; split <;> rfl
theorem kdB_lt {c : Int32} : kdB c < 6 := by
  unfold kdB
  repeat' split
  all_goals omega
theorem kdB_q4 {c : Int32} (z : nI (kdB c) = (4 : Int32)) : kdB c = 4 := (nI_eq (b := 4) (by have := kdB_lt (c := c); omega) (by omega)).mp z
theorem c_skip (hn : n ≤ 600) : ∀ r p f (x : Nat → Int32), n = p + r → r < f → x 2 = nI n → x 3 = nI p → fX8_advance_0 f (tx M x) = fX8_advance_40 (tx M (upd x 3 (nI (runF (fun j => kdB (M.1 2 j) == 4) r p)))) := by
  intro r
  induction r with
  | zero =>
    intro p f x hp hf h2 h3
    obtain ⟨f, rfl⟩ : ∃ g, f = g + 1 := ⟨f - 1, by omega⟩
    rw [fX8_advance_0]
    dsimp only
    rw [tx_1, h2, h3, if_pos (nI_le (by omega) (by omega)), runF, upd_at h3]
  | succ r ih =>
    intro p f x hp hf h2 h3
    obtain ⟨f, rfl⟩ : ∃ g, f = g + 1 := ⟨f - 1, by omega⟩
    rw [fX8_advance_0]
    dsimp only
    rw [tx_1, h2, h3, if_neg (nI_ge (show p < n by omega) (by omega)), fX8_advance_11, tx_1, h3, gi_m (show p < 600 by omega) (by omega), tx_b, nI_c (by omega), c_kindOf, Option.bind_some, fX8_advance_23, runF]
    by_cases q : kdB (M.1 2 p) = 4
    · rw [if_pos (show nI (kdB (M.1 2 p)) = 4 from congrArg nI q), if_pos (by simp [q]), fX8_advance_27, tx_1, tx_w, tx_2, tx_p, fX8_advance_37, h3, nI_1, ih (p + 1) f _ (by omega) (by omega) (by rw [pk_un (by omega)]; exact h2) pk_us, upd_upd]
    · rw [if_neg (show ¬ nI (kdB (M.1 2 p)) = (4 : Int32) from fun z => q (kdB_q4 z)), if_neg (by simp [q]), upd_at h3]
theorem kdB_eq {c : Int32} {k : Nat} (hk : k < 100) : nI (kdB c) = nI k ↔ kdB c = k := nI_eq (by have := kdB_lt (c := c); omega) (by omega)
theorem c_run (hn : n ≤ 600) {K : Nat} (hK : K < 6) : ∀ r p f (x : Nat → Int32), n = p + r → r < f → x 2 = nI n → x 3 = nI p → x 4 = nI K → fX8_advance_114 f (tx M x) 1 = fX8_advance_161 (tx M (upd x 3 (nI (runF (fun j => kdB (M.1 2 j) == K) r p)))) := by
  intro r
  induction r with
  | zero =>
    intro p f x hp hf h2 h3 h4
    obtain ⟨f, rfl⟩ : ∃ g, f = g + 1 := ⟨f - 1, by omega⟩
    rw [fX8_advance_114]
    dsimp only
    rw [if_neg (by decide), fX8_advance_118, tx_1, h2, h3, if_pos (nI_le (by omega) (by omega)), runF, upd_at h3]
  | succ r ih =>
    intro p f x hp hf h2 h3 h4
    obtain ⟨f, rfl⟩ : ∃ g, f = g + 1 := ⟨f - 1, by omega⟩
    rw [fX8_advance_114]
    dsimp only
    rw [if_neg (by decide), fX8_advance_118, tx_1, h2, h3, if_neg (nI_ge (show p < n by omega) (by omega)), fX8_advance_129, tx_1, h3, gi_m (show p < 600 by omega) (by omega), tx_b, nI_c (by omega), c_kindOf, Option.bind_some, fX8_advance_141, tx_1, h4, runF]
    by_cases q : kdB (M.1 2 p) = K
    · rw [if_pos (congrArg nI q), if_pos (by simp [q]), fX8_advance_148, tx_1, tx_w, tx_2, tx_p, fX8_advance_158, h3, nI_1, ih (p + 1) f _ (by omega) (by omega) (by rw [pk_un (by omega)]; exact h2) pk_us (by rw [pk_un (by omega)]; exact h4), upd_upd]
    · rw [if_neg (fun z => q ((kdB_eq (by omega)).mp z)), if_neg (by simp [q]), upd_at h3]
def tkx (x : Nat → Int32) (s e k : Nat) : Nat → Int32 := upd (upd (upd x 5 (nI s)) 4 (nI k)) 3 (nI e)
theorem c_161 {K e : Nat} (hs : s < e) (he : e ≤ 600) (hK : K < 6) (h3 : x 3 = nI e) (h4 : x 4 = nI K) (h5 : x 5 = nI s) : fX8_advance_161 (tx M x) = some (1, tx M (upd x 4 (nI (if (K = 1 ∧ 8 < e - s) ∨ (K = 2 ∧ 4 < e - s) then 5 else K)))) := by
  have tl : fX8_tokenLength (tx M x) = some (nI (e - s)) := by
    unfold fX8_tokenLength fX8_tokenLength_0
    rw [tx_1, h3, h5, pk_sub (by omega)]
  have w5 : fX8_advance_194 (tx M x) = some (1, tx M (upd x 4 (nI 5))) := by
    rw [fX8_advance_194, tx_1, tx_w, tx_2, tx_p]; rfl
  have w0 : upd x 4 (nI K) = x := upd_at h4
  rw [fX8_advance_161, tx_1, h4]
  by_cases k1 : K = 1
  · subst k1
    rw [if_pos (show nI 1 = 1 from rfl), fX8_advance_169, tl, Option.bind_some, fX8_advance_173]
    by_cases q : 8 < e - s
    · rw [if_pos (show (8 : Int32) < nI (e - s) from nI_lt (a := 8) q (by omega)), w5, if_pos (Or.inl ⟨rfl, q⟩)]
    · rw [if_neg (show ¬ (8 : Int32) < nI (e - s) from nI_nlt (a := 8) (by omega) (by omega)), fX8_advance_178, tx_1, h4, if_neg (by decide), if_neg (by omega), w0]; rfl
  · rw [if_neg (show ¬ nI K = (1 : Int32) from fun z => k1 ((nI_eq (b := 1) (by omega) (by omega)).mp z)), fX8_advance_178, tx_1, h4]
    by_cases k2 : K = 2
    · subst k2
      rw [if_pos (show nI 2 = 2 from rfl), fX8_advance_186, tl, Option.bind_some, fX8_advance_190]
      by_cases q : 4 < e - s
      · rw [if_neg (show ¬ nI (e - s) ≤ (4 : Int32) from nI_ge (a := 4) q (by omega)), w5, if_pos (Or.inr ⟨rfl, q⟩)]
      · rw [if_pos (show nI (e - s) ≤ (4 : Int32) from nI_le (b := 4) (by omega) (by omega)), if_neg (by omega), w0]; rfl
    · rw [if_neg (show ¬ nI K = (2 : Int32) from fun z => k2 ((nI_eq (b := 2) (by omega) (by omega)).mp z)), if_neg (by omega), w0]; rfl
theorem c_advance (h2 : M.1 1 2 = nI n) (hn : n ≤ 600) (h3 : M.1 1 3 = nI p) (hp : p ≤ n) {k : Nat → Nat} (hk : k = fun j => kdB (M.1 2 j)) : fX8_advance M = some (if skp k n p < n then 1 else 0, tx M (tkx (M.1 1) (skp k n p) (tkD k n (skp k n p)) (tkK k n (skp k n p)))) := by
  have a : fX8_advance_0 FU M = fX8_advance_40 (tx M (upd (M.1 1) 3 (nI (skp k n p)))) := by
    have := c_skip (M := M) hn (n - p) p FU (M.1 1) (by omega) (by rw [FU_eq]; omega) h2 h3
    rw [tx_self] at this
    rw [this, hk]
    rfl
  have hs : skp k n p ≤ n := skp_le hp
  unfold fX8_advance
  rw [a]
  generalize skp k n p = s at *
  rw [fX8_advance_40, tx_1, tx_w, tx_2, tx_p, pk_us, fX8_advance_48, tx_1, pk_un (by omega), pk_us, pk_un (by omega), pk_un (by omega), h2]
  by_cases q : s < n
  · have r1 : ∀ c, some (1, c) = some ((1 : Int32), (c : CS)) := fun _ => rfl
    rw [if_pos (nI_lt q (by omega)), if_pos q, fX8_advance_66, tx_1, pk_un (by omega), pk_us, gi_m (show s < 600 by omega) (by omega), tx_b, nI_c (by omega), c_kindOf, Option.bind_some, fX8_advance_79, tx_1, tx_w, tx_2, tx_p, fX8_advance_82, tx_1, tx_w, tx_2, tx_p, pk_un (by omega), pk_un (by omega), pk_us, nI_1, fX8_advance_92, tx_1, pk_un (by omega), pk_us]
    have ek : k s = kdB (M.1 2 s) := by rw [hk]
    have lt := kdB_lt (c := M.1 2 s)
    have fin : ∀ (e : Nat) (y : Nat → Int32), e = tkE k n s → y 3 = nI e → y 4 = nI (k s) → y 5 = nI s → (∀ j, j ≠ 3 → j ≠ 4 → j ≠ 5 → y j = M.1 1 j) → bz (fX8_advance_161 (tx M y)) = some (1, tx M (tkx (M.1 1) s (tkD k n s) (tkK k n s))) := fun e y he y3 y4 y5 yo => by
      have e1 := tkE_gt (k := k) (n := n) (s := s)
      have e2 := tkE_le (k := k) q
      rw [c_161 (s := s) (e := e) (K := k s) (by omega) (by omega) (by omega) y3 y4 y5]
      have ey : upd y 4 (nI (if (k s = 1 ∧ 8 < e - s) ∨ (k s = 2 ∧ 4 < e - s) then 5 else k s)) = tkx (M.1 1) s (tkD k n s) (tkK k n s) := by
        refine funext fun j => ?_
        unfold tkx tkD tkK
        rw [if_pos q, if_pos q, ← he]
        by_cases j3 : j = 3
        · subst j3; rw [pk_un (by omega), pk_us, y3]
        · rw [pk_un (f := upd (upd (M.1 1) 5 (nI s)) 4 _) j3]
          by_cases j4 : j = 4
          · subst j4; rw [pk_us, pk_us]
          · rw [pk_un j4, pk_un j4]
            by_cases j5 : j = 5
            · subst j5; rw [pk_us, y5]
            · rw [pk_un j5, yo j j3 j4 j5]
      rw [ey]; rfl
    have run : ∀ K, k s = K → K = 1 ∨ K = 2 → bz (fX8_advance_114 FU (tx M (upd (upd (upd (upd (M.1 1) 3 (nI s)) 5 (nI s)) 4 (nI (kdB (M.1 2 s)))) 3 (nI (s + 1)))) 1) = some (1, tx M (tkx (M.1 1) s (tkD k n s) (tkK k n s))) := fun K hK h12 => by
      rw [c_run (M := M) (n := n) hn (K := K) (by omega) (n - (s + 1)) (s + 1) FU _ (by omega) (by rw [FU_eq]; omega) (by simp (disch := omega) only [pk_un]; exact h2) pk_us (by rw [pk_un (by omega), pk_us, ← ek, hK])]
      refine fin _ _ ?_ pk_us (by rw [pk_un (by omega), pk_un (by omega), pk_us, ek]) (by rw [pk_un (by omega), pk_un (by omega), pk_un (by omega), pk_us]) (fun j j3 j4 j5 => by rw [pk_un j3, pk_un j3, pk_un j4, pk_un j5, pk_un j3])
      unfold tkE
      rw [if_pos (by omega), hK, hk]
    by_cases k1 : k s = 1
    · rw [if_pos (by rw [← ek, k1]; rfl), fX8_advance_108, fX8_advance_113]
      exact run 1 k1 (Or.inl rfl)
    · rw [if_neg (show ¬ nI (kdB (M.1 2 s)) = (1 : Int32) from fun z => k1 (by rw [ek]; exact (kdB_eq (k := 1) (by omega)).mp z)), fX8_advance_100, tx_1, pk_un (by omega), pk_us]
      by_cases k2 : k s = 2
      · rw [if_pos (by rw [← ek, k2]; rfl), fX8_advance_108, fX8_advance_113]
        exact run 2 k2 (Or.inr rfl)
      · rw [if_neg (show ¬ nI (kdB (M.1 2 s)) = (2 : Int32) from fun z => k2 (by rw [ek]; exact (kdB_eq (k := 2) (by omega)).mp z)), fX8_advance_112, fX8_advance_113, show FU = 2999 + 1 from rfl, fX8_advance_114]
        dsimp only
        rw [if_pos rfl]
        refine fin (s + 1) _ ?_ pk_us (by rw [pk_un (by omega), pk_us, ek]) (by rw [pk_un (by omega), pk_un (by omega), pk_us]) (fun j j3 j4 j5 => by rw [pk_un j3, pk_un j4, pk_un j5, pk_un j3])
        unfold tkE
        rw [if_neg (by omega)]
  · obtain rfl : s = n := by omega
    rw [if_neg (nI_nlt (Nat.le_refl _) (by omega)), if_neg q, fX8_advance_59, tx_1, tx_w, tx_2, tx_p, fX8_advance_64]
    have ey : upd (upd (upd (M.1 1) 3 (nI s)) 5 (nI s)) 4 0 = tkx (M.1 1) s (tkD k s s) (tkK k s s) := by
      refine funext fun j => ?_
      unfold tkx tkD tkK
      rw [if_neg q, if_neg q]
      by_cases j3 : j = 3
      · subst j3; rw [pk_un (by omega), pk_un (by omega), pk_us, pk_us]
      · rw [pk_un (f := upd (upd (M.1 1) 5 (nI s)) 4 _) j3]
        by_cases j4 : j = 4
        · subst j4; rw [pk_us, pk_us, nI_0]
        · rw [pk_un j4, pk_un j4]
          by_cases j5 : j = 5
          · subst j5; rw [pk_us, pk_us]
          · rw [pk_un j5, pk_un j5, pk_un j3]
    rw [ey]; rfl
end TOKC
